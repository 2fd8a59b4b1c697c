theorem dL_law_742 : decode cL_law 742 = .ok (.aload_n 1, 1) := by decide +kernel
theorem dL_law_743 : decode cL_law 743 = .ok (.aload_n 0, 1) := by decide +kernel
theorem dL_law_744 : decode cL_law 744 = .ok (.iload_n 3, 1) := by decide +kernel
theorem dL_law_745 : decode cL_law 745 = .ok (.iconst 1, 1) := by decide +kernel
theorem dL_law_746 : decode cL_law 746 = .ok (.iadd, 1) := by decide +kernel
theorem dL_law_747 : decode cL_law 747 = .ok (.iaload, 1) := by decide +kernel
theorem dL_law_748 : decode cL_law 748 = .ok (.invokevirtual 81, 3) := by decide +kernel
theorem dL_law_751 : decode cL_law 751 = .ok (.aload_n 2, 1) := by decide +kernel
theorem dL_law_752 : decode cL_law 752 = .ok (.aload_n 0, 1) := by decide +kernel
theorem dL_law_753 : decode cL_law 753 = .ok (.iload_n 3, 1) := by decide +kernel
theorem dL_law_754 : decode cL_law 754 = .ok (.iconst 1, 1) := by decide +kernel
theorem dL_law_755 : decode cL_law 755 = .ok (.iadd, 1) := by decide +kernel
theorem dL_law_756 : decode cL_law 756 = .ok (.iaload, 1) := by decide +kernel
theorem dL_law_757 : decode cL_law 757 = .ok (.invokevirtual 84, 3) := by decide +kernel
theorem dL_law_760 : decode cL_law 760 = .ok (.if_icmp .eq 1236, 3) := by decide +kernel
set_option maxHeartbeats 4000000 in
set_option maxRecDepth 100000 in
theorem law_16 {p : Program} {l : Launch} {e : Env} {s : State} {m : MethodId} {below : List Frame} {meth : Method} {c : Code} {b : Nat} {xs : Nat → Int32} (hx : p.tables.exec = Jvm.exec) (hb : c.code = cL_law) (hr : meth.sig.returnType = ret) (hml : c.maxLocals = 4) (hown : s.vm.findClass RL = some m.cls) (hts : ∀ w ∈ fn_big, w.before #[Value.ref b] s = true) (hX : va_X b 6 xs s s.heap) (hbl : b < s.heap.size) (hlocks : meth.locks = false) {D : va_G} {K : Nat → ClassId} (hK : fn_KK D K s) {x0 m0 : Nat} {u v : Nat → Nat} {fw : Nat → Int32} (hfw : ∀ j, j < 4 → fw j = -1) {A : Nat → Prop} (hAe : (fun q : Nat => s.heap.size ≤ q) = A) : ∀ (H : Heap) (locs : List Loc) (ls : Array Slot), va_P D vwCl (fn_world K x0 m0 u v fw) H → va_D A (fn_world K x0 m0 u v fw) → va_S A s.heap H locs → lv_has ls 4 [(3, .int 0), (2, .ref m0), (1, .ref x0), (0, .ref b)] → W p l e room_1 s m #[Value.ref b] below meth c H locs 144 12710 (lw_Z below #[Value.ref b] s) (F0 m 742 ls []) := by
  intro H locs ls hP hD hS hl
  have hA : ∀ q : Nat, s.heap.size ≤ q → A q := fun q h => by rw [← hAe]; exact h
  have hbA : ¬ A b := by rw [← hAe]; exact Nat.not_le.mpr hbl
  refine lv_aload_n hx hb dL_law_742 rfl (lv_at hl 2 rfl) ?_
  refine lv_aload_n hx hb dL_law_743 rfl (lv_at hl 3 rfl) ?_
  refine lv_iload_n hx hb dL_law_744 rfl (lv_at hl 0 rfl) ?_
  refine lv_iconst (v := 1) hx hb dL_law_745 (by decide) ?_
  refine lv_iadd hx hb dL_law_746 ?_
  refine fn_top 1 (by decide) ?_
  refine va_sld hx hb hX hbl hbA hS (by unfold vp_in; decide) dL_law_747 ?_
  refine fn_top (xs 1) (congrArg xs (by decide)) ?_
  refine fn_goi (wc := [(x0, .inr (11, [.ref (u 0), .ref (u 10), .ref (u 17), .ref (u 25), .ref (u 26), .ref (u 27), .ref (u 28), .ref (u 29), .ref (u 34), .ref (u 39), .ref (u 43), .ref (u 51), .ref (u 55)])), ((u 10), .inr (7, [.int 0, .int 0, .int 0, .int 0, .int 0, .int 0, .int 0, .int 0, .int 0, .ref (u 11), .ref (u 12), .ref (u 13), .ref (u 14), .ref (u 15), .ref (u 16)]))]) (wr := [(m0, .inr (12, [.int 0, .ref (v 0), .ref (v 1), .ref (v 2), .ref (v 3), .ref (v 4), .int 0, .int 0, .int 0, .int 0, .int 0, .long 0, .int 0, .int 0, .int 0, .int (-1), .ref (v 5), .ref (v 6), .ref (v 7), .ref (v 8), .ref (v 9), .ref (v 10), .ref (v 11), .ref (v 12), .ref (v 13), .ref (v 14), .ref (v 15), .ref (v 16), .ref (v 17), .ref (v 18), .ref (v 19), .ref (v 20), .int 0, .int 0, .int 0, .int 0, .ref (v 21), .ref (v 22), .ref (v 23), .int 0, .int 0, .ref (v 24), .ref (v 25), .int 0, .int 0, .ref (v 26), .ref (v 27), .ref (v 28), .int 0, .int 0, .int 0])), ((v 0), .inl (K 0, 4, .inl fw)), ((v 1), .inl (K 0, 4, .inl (fun _ => 0))), ((v 2), .inl (K 3, 240, .inr (.inl (fun _ => 0)))), ((v 4), .inl (K 1, 1400, .inl (fun _ => 0))), ((v 5), .inl (K 0, 5, .inl (fun _ => 0))), ((v 6), .inl (K 0, 40, .inl (fun _ => 0))), ((v 7), .inl (K 0, 50, .inl (fun _ => 0))), ((v 8), .inl (K 0, 60, .inl (fun _ => 0))), ((v 9), .inl (K 0, 480, .inl (fun _ => 0))), ((v 10), .inl (K 0, 600, .inl (fun _ => 0))), ((v 11), .inl (K 2, 3, .inl (fun _ => 0)))]) hK hP hD hS hA [0, 11] [88, 89, 90, 91, 92, 93, 94, 95, 96, 97, 98, 99] rfl rfl (by decide) (fun hp => va_runV (C := RX11) (As := [.int (xs 1)]) (rest := []) ⟨hx, hb, hml, hown, hts⟩ (c_X11_reach (l := l) (D := D) (K := K) (x0 := (x0)) (p0 := ((xs 1))) (fx := ([.ref (u 0), .ref (u 10), .ref (u 17), .ref (u 25), .ref (u 26), .ref (u 27), .ref (u 28), .ref (u 29), .ref (u 34), .ref (u 39), .ref (u 43), .ref (u 51), .ref (u 55)])) (t0 := ((u 10))) (hx1 := rfl) (ft := ([.int 0, .int 0, .int 0, .int 0, .int 0, .int 0, .int 0, .int 0, .int 0, .ref (u 11), .ref (u 12), .ref (u 13), .ref (u 14), .ref (u 15), .ref (u 16)])) (ht0 := rfl) (ht3 := rfl) (ht4 := rfl) (ht5 := rfl) _) (cwV 1 hts (fn_ginV (fn_gin wd_759) wd_756 wd_757 wd_758 wd_1) rfl rfl rfl (by decide +kernel) ⟨Nat.le_of_ble_eq_true rfl, Nat.le_of_ble_eq_true rfl⟩) ⟨fn_blind, va_recv hK.1 hP (ci := 11) (q0 := 0) rfl rfl, hp⟩ rfl rfl hl.1 rfl (lv_room (Nat.le_of_ble_eq_true rfl)) dL_law_748 ⟨Nat.le_of_ble_eq_true rfl, Nat.le_of_ble_eq_true rfl⟩) (fun r2 u1 H locs hwu1 hP hD hS => ?_)
  have r2_e : r2 = (-2) := hwu1
  subst r2_e
  have hP : va_P D vwCl [(m0, .inr (12, [.int 0, .ref (v 0), .ref (v 1), .ref (v 2), .ref (v 3), .ref (v 4), .int 0, .int 0, .int 0, .int 0, .int 0, .long 0, .int 0, .int 0, .int 0, .int (-1), .ref (v 5), .ref (v 6), .ref (v 7), .ref (v 8), .ref (v 9), .ref (v 10), .ref (v 11), .ref (v 12), .ref (v 13), .ref (v 14), .ref (v 15), .ref (v 16), .ref (v 17), .ref (v 18), .ref (v 19), .ref (v 20), .int 0, .int 0, .int 0, .int 0, .ref (v 21), .ref (v 22), .ref (v 23), .int 0, .int 0, .ref (v 24), .ref (v 25), .int 0, .int 0, .ref (v 26), .ref (v 27), .ref (v 28), .int 0, .int 0, .int 0])), ((v 0), .inl (K 0, 4, .inl fw)), ((v 1), .inl (K 0, 4, .inl (fun _ => 0))), ((v 2), .inl (K 3, 240, .inr (.inl (fun _ => 0)))), ((v 4), .inl (K 1, 1400, .inl (fun _ => 0))), ((v 5), .inl (K 0, 5, .inl (fun _ => 0))), ((v 6), .inl (K 0, 40, .inl (fun _ => 0))), ((v 7), .inl (K 0, 50, .inl (fun _ => 0))), ((v 8), .inl (K 0, 60, .inl (fun _ => 0))), ((v 9), .inl (K 0, 480, .inl (fun _ => 0))), ((v 10), .inl (K 0, 600, .inl (fun _ => 0))), ((v 11), .inl (K 2, 3, .inl (fun _ => 0)))] H := hP
  have hD : va_D A [(m0, .inr (12, [.int 0, .ref (v 0), .ref (v 1), .ref (v 2), .ref (v 3), .ref (v 4), .int 0, .int 0, .int 0, .int 0, .int 0, .long 0, .int 0, .int 0, .int 0, .int (-1), .ref (v 5), .ref (v 6), .ref (v 7), .ref (v 8), .ref (v 9), .ref (v 10), .ref (v 11), .ref (v 12), .ref (v 13), .ref (v 14), .ref (v 15), .ref (v 16), .ref (v 17), .ref (v 18), .ref (v 19), .ref (v 20), .int 0, .int 0, .int 0, .int 0, .ref (v 21), .ref (v 22), .ref (v 23), .int 0, .int 0, .ref (v 24), .ref (v 25), .int 0, .int 0, .ref (v 26), .ref (v 27), .ref (v 28), .int 0, .int 0, .int 0])), ((v 0), .inl (K 0, 4, .inl fw)), ((v 1), .inl (K 0, 4, .inl (fun _ => 0))), ((v 2), .inl (K 3, 240, .inr (.inl (fun _ => 0)))), ((v 4), .inl (K 1, 1400, .inl (fun _ => 0))), ((v 5), .inl (K 0, 5, .inl (fun _ => 0))), ((v 6), .inl (K 0, 40, .inl (fun _ => 0))), ((v 7), .inl (K 0, 50, .inl (fun _ => 0))), ((v 8), .inl (K 0, 60, .inl (fun _ => 0))), ((v 9), .inl (K 0, 480, .inl (fun _ => 0))), ((v 10), .inl (K 0, 600, .inl (fun _ => 0))), ((v 11), .inl (K 2, 3, .inl (fun _ => 0)))] := hD
  refine lv_aload_n hx hb dL_law_751 rfl (lv_at hl 1 rfl) ?_
  refine lv_aload_n hx hb dL_law_752 rfl (lv_at hl 3 rfl) ?_
  refine lv_iload_n hx hb dL_law_753 rfl (lv_at hl 0 rfl) ?_
  refine lv_iconst (v := 1) hx hb dL_law_754 (by decide) ?_
  refine lv_iadd hx hb dL_law_755 ?_
  refine fn_top 1 (by decide) ?_
  refine va_sld hx hb hX hbl hbA hS (by unfold vp_in; decide) dL_law_756 ?_
  refine fn_top (xs 1) (congrArg xs (by decide)) ?_
  refine fn_goi (wc := [(m0, .inr (12, [.int 0, .ref (v 0), .ref (v 1), .ref (v 2), .ref (v 3), .ref (v 4), .int 0, .int 0, .int 0, .int 0, .int 0, .long 0, .int 0, .int 0, .int 0, .int (-1), .ref (v 5), .ref (v 6), .ref (v 7), .ref (v 8), .ref (v 9), .ref (v 10), .ref (v 11), .ref (v 12), .ref (v 13), .ref (v 14), .ref (v 15), .ref (v 16), .ref (v 17), .ref (v 18), .ref (v 19), .ref (v 20), .int 0, .int 0, .int 0, .int 0, .ref (v 21), .ref (v 22), .ref (v 23), .int 0, .int 0, .ref (v 24), .ref (v 25), .int 0, .int 0, .ref (v 26), .ref (v 27), .ref (v 28), .int 0, .int 0, .int 0])), ((v 5), .inl (K 0, 5, .inl (fun _ => 0))), ((v 6), .inl (K 0, 40, .inl (fun _ => 0)))]) (wr := []) hK hP hD hS hA [0, 5, 6] [] rfl rfl (by decide) (fun hp => va_runV (C := RX12) (As := [.int (xs 1)]) (rest := [.int (-2)]) ⟨hx, hb, hml, hown, hts⟩ (c_X12_reach (l := l) (D := D) (K := K) (m0 := (m0)) (p0 := ((xs 1))) (fm := ([.int 0, .ref (v 0), .ref (v 1), .ref (v 2), .ref (v 3), .ref (v 4), .int 0, .int 0, .int 0, .int 0, .int 0, .long 0, .int 0, .int 0, .int 0, .int (-1), .ref (v 5), .ref (v 6), .ref (v 7), .ref (v 8), .ref (v 9), .ref (v 10), .ref (v 11), .ref (v 12), .ref (v 13), .ref (v 14), .ref (v 15), .ref (v 16), .ref (v 17), .ref (v 18), .ref (v 19), .ref (v 20), .int 0, .int 0, .int 0, .int 0, .ref (v 21), .ref (v 22), .ref (v 23), .int 0, .int 0, .ref (v 24), .ref (v 25), .int 0, .int 0, .ref (v 26), .ref (v 27), .ref (v 28), .int 0, .int 0, .int 0])) (hmn := rfl) (al := ((v 5))) (hm16 := rfl) (ah := ((v 6))) (hm17 := rfl) (fl := (fun _ => 0)) (hfl := (fun _ => rfl)) (fh := (fun _ => 0)) (hfh := (fun _ => rfl)) _) (cwV 1 hts (fn_ginV (fn_gin wd_1628) wd_1625 wd_1626 wd_1627 wd_13) rfl rfl rfl (by decide +kernel) ⟨Nat.le_of_ble_eq_true rfl, Nat.le_of_ble_eq_true rfl⟩) ⟨fn_blind, va_recv hK.1 hP (ci := 12) (q0 := 0) rfl rfl, hp⟩ rfl rfl hl.1 rfl (lv_room (Nat.le_of_ble_eq_true rfl)) dL_law_757 ⟨Nat.le_of_ble_eq_true rfl, Nat.le_of_ble_eq_true rfl⟩) (fun r4 u3 H locs hwu3 hP hD hS => ?_)
  have r4_e : r4 = (-2) := hwu3
  subst r4_e
  have hP : va_P D vwCl [] H := hP
  have hD : va_D A [] := hD
  refine lv_icmp_eq (tgt := 1996) hx hb dL_law_760 (by decide) (fun _ => ?_) (fun h9 => absurd (by decide) h9)
  refine lv_iinc (v := 6) (lv' := [(3, .int 6), (2, .ref m0), (1, .ref x0), (0, .ref b)]) hx hb dL_law_1996 hl (k := 0) rfl (by decide) (by decide) rfl (fun ls hl => ?_)
  refine lv_goto (tgt := 18) hx hb dL_law_1999 (by decide) ?_
  refine lv_iload_n hx hb dL_law_18 rfl (lv_at hl 0 rfl) ?_
  refine lv_aload_n hx hb dL_law_19 rfl (lv_at hl 3 rfl) ?_
  refine fn_at 20 rfl ?_
  refine va_slen hx hb hX hbl hbA hS dL_law_20 ?_
  refine fn_top 6 (by decide) ?_
  refine lv_bipush (v := 6) hx hb dL_law_21 (by decide) ?_
  refine lv_isub hx hb dL_law_23 ?_
  refine fn_top 0 (by decide) ?_
  refine lv_icmp_gt (tgt := 2002) hx hb dL_law_24 (by decide) (fun _ => ?_) (fun h9 => absurd (by decide) h9)
  refine lv_iconst (v := 1) hx hb dL_law_2002 (by decide) ?_
  refine va_forget (fun q hq => by have h9 := hS.2.2 q hq; rw [← hAe] at h9; exact h9) ?_
  refine W.widen (k := 600000) (n := 7302250) (Nat.le_of_ble_eq_true rfl) (Nat.le_of_ble_eq_true rfl) ?_
  exact lw_ret hx hb hr hlocks dL_law_2003
theorem dL_law_765 : decode cL_law 765 = .ok (.aload_n 1, 1) := by decide +kernel
theorem dL_law_766 : decode cL_law 766 = .ok (.aload_n 0, 1) := by decide +kernel
theorem dL_law_767 : decode cL_law 767 = .ok (.iload_n 3, 1) := by decide +kernel
theorem dL_law_768 : decode cL_law 768 = .ok (.iconst 1, 1) := by decide +kernel
theorem dL_law_769 : decode cL_law 769 = .ok (.iadd, 1) := by decide +kernel
theorem dL_law_770 : decode cL_law 770 = .ok (.iaload, 1) := by decide +kernel
theorem dL_law_771 : decode cL_law 771 = .ok (.invokevirtual 85, 3) := by decide +kernel
theorem dL_law_774 : decode cL_law 774 = .ok (.aload_n 2, 1) := by decide +kernel
theorem dL_law_775 : decode cL_law 775 = .ok (.aload_n 0, 1) := by decide +kernel
theorem dL_law_776 : decode cL_law 776 = .ok (.iload_n 3, 1) := by decide +kernel
theorem dL_law_777 : decode cL_law 777 = .ok (.iconst 1, 1) := by decide +kernel
theorem dL_law_778 : decode cL_law 778 = .ok (.iadd, 1) := by decide +kernel
theorem dL_law_779 : decode cL_law 779 = .ok (.iaload, 1) := by decide +kernel
theorem dL_law_780 : decode cL_law 780 = .ok (.invokevirtual 88, 3) := by decide +kernel
theorem dL_law_783 : decode cL_law 783 = .ok (.if_icmp .eq 1213, 3) := by decide +kernel
set_option maxHeartbeats 4000000 in
set_option maxRecDepth 100000 in
theorem law_17 {p : Program} {l : Launch} {e : Env} {s : State} {m : MethodId} {below : List Frame} {meth : Method} {c : Code} {b : Nat} {xs : Nat → Int32} (hx : p.tables.exec = Jvm.exec) (hb : c.code = cL_law) (hr : meth.sig.returnType = ret) (hml : c.maxLocals = 4) (hown : s.vm.findClass RL = some m.cls) (hts : ∀ w ∈ fn_big, w.before #[Value.ref b] s = true) (hX : va_X b 6 xs s s.heap) (hbl : b < s.heap.size) (hlocks : meth.locks = false) {D : va_G} {K : Nat → ClassId} (hK : fn_KK D K s) {x0 m0 : Nat} {u v : Nat → Nat} {fw : Nat → Int32} (hfw : ∀ j, j < 4 → fw j = -1) {A : Nat → Prop} (hAe : (fun q : Nat => s.heap.size ≤ q) = A) : ∀ (H : Heap) (locs : List Loc) (ls : Array Slot), va_P D vwCl (fn_world K x0 m0 u v fw) H → va_D A (fn_world K x0 m0 u v fw) → va_S A s.heap H locs → lv_has ls 4 [(3, .int 0), (2, .ref m0), (1, .ref x0), (0, .ref b)] → W p l e room_1 s m #[Value.ref b] below meth c H locs 144 12710 (lw_Z below #[Value.ref b] s) (F0 m 765 ls []) := by
  intro H locs ls hP hD hS hl
  have hA : ∀ q : Nat, s.heap.size ≤ q → A q := fun q h => by rw [← hAe]; exact h
  have hbA : ¬ A b := by rw [← hAe]; exact Nat.not_le.mpr hbl
  refine lv_aload_n hx hb dL_law_765 rfl (lv_at hl 2 rfl) ?_
  refine lv_aload_n hx hb dL_law_766 rfl (lv_at hl 3 rfl) ?_
  refine lv_iload_n hx hb dL_law_767 rfl (lv_at hl 0 rfl) ?_
  refine lv_iconst (v := 1) hx hb dL_law_768 (by decide) ?_
  refine lv_iadd hx hb dL_law_769 ?_
  refine fn_top 1 (by decide) ?_
  refine va_sld hx hb hX hbl hbA hS (by unfold vp_in; decide) dL_law_770 ?_
  refine fn_top (xs 1) (congrArg xs (by decide)) ?_
  refine fn_goi (wc := [(x0, .inr (11, [.ref (u 0), .ref (u 10), .ref (u 17), .ref (u 25), .ref (u 26), .ref (u 27), .ref (u 28), .ref (u 29), .ref (u 34), .ref (u 39), .ref (u 43), .ref (u 51), .ref (u 55)])), ((u 10), .inr (7, [.int 0, .int 0, .int 0, .int 0, .int 0, .int 0, .int 0, .int 0, .int 0, .ref (u 11), .ref (u 12), .ref (u 13), .ref (u 14), .ref (u 15), .ref (u 16)]))]) (wr := [(m0, .inr (12, [.int 0, .ref (v 0), .ref (v 1), .ref (v 2), .ref (v 3), .ref (v 4), .int 0, .int 0, .int 0, .int 0, .int 0, .long 0, .int 0, .int 0, .int 0, .int (-1), .ref (v 5), .ref (v 6), .ref (v 7), .ref (v 8), .ref (v 9), .ref (v 10), .ref (v 11), .ref (v 12), .ref (v 13), .ref (v 14), .ref (v 15), .ref (v 16), .ref (v 17), .ref (v 18), .ref (v 19), .ref (v 20), .int 0, .int 0, .int 0, .int 0, .ref (v 21), .ref (v 22), .ref (v 23), .int 0, .int 0, .ref (v 24), .ref (v 25), .int 0, .int 0, .ref (v 26), .ref (v 27), .ref (v 28), .int 0, .int 0, .int 0])), ((v 0), .inl (K 0, 4, .inl fw)), ((v 1), .inl (K 0, 4, .inl (fun _ => 0))), ((v 2), .inl (K 3, 240, .inr (.inl (fun _ => 0)))), ((v 4), .inl (K 1, 1400, .inl (fun _ => 0))), ((v 5), .inl (K 0, 5, .inl (fun _ => 0))), ((v 6), .inl (K 0, 40, .inl (fun _ => 0))), ((v 7), .inl (K 0, 50, .inl (fun _ => 0))), ((v 8), .inl (K 0, 60, .inl (fun _ => 0))), ((v 9), .inl (K 0, 480, .inl (fun _ => 0))), ((v 10), .inl (K 0, 600, .inl (fun _ => 0))), ((v 11), .inl (K 2, 3, .inl (fun _ => 0)))]) hK hP hD hS hA [0, 11] [88, 89, 90, 91, 92, 93, 94, 95, 96, 97, 98, 99] rfl rfl (by decide) (fun hp => va_runV (C := RX11) (As := [.int (xs 1)]) (rest := []) ⟨hx, hb, hml, hown, hts⟩ (c_X11_upon (l := l) (D := D) (K := K) (x0 := (x0)) (p0 := ((xs 1))) (fx := ([.ref (u 0), .ref (u 10), .ref (u 17), .ref (u 25), .ref (u 26), .ref (u 27), .ref (u 28), .ref (u 29), .ref (u 34), .ref (u 39), .ref (u 43), .ref (u 51), .ref (u 55)])) (t0 := ((u 10))) (hx1 := rfl) (ft := ([.int 0, .int 0, .int 0, .int 0, .int 0, .int 0, .int 0, .int 0, .int 0, .ref (u 11), .ref (u 12), .ref (u 13), .ref (u 14), .ref (u 15), .ref (u 16)])) (ht0 := rfl) (ht3 := rfl) (ht4 := rfl) (ht5 := rfl) _) (cwV 1 hts (fn_ginV (fn_gin wd_771) wd_768 wd_769 wd_770 wd_1) rfl rfl rfl (by decide +kernel) ⟨Nat.le_of_ble_eq_true rfl, Nat.le_of_ble_eq_true rfl⟩) ⟨fn_blind, va_recv hK.1 hP (ci := 11) (q0 := 0) rfl rfl, hp⟩ rfl rfl hl.1 rfl (lv_room (Nat.le_of_ble_eq_true rfl)) dL_law_771 ⟨Nat.le_of_ble_eq_true rfl, Nat.le_of_ble_eq_true rfl⟩) (fun r2 u1 H locs hwu1 hP hD hS => ?_)
  have r2_e : r2 = (-2) := hwu1
  subst r2_e
  have hP : va_P D vwCl [(m0, .inr (12, [.int 0, .ref (v 0), .ref (v 1), .ref (v 2), .ref (v 3), .ref (v 4), .int 0, .int 0, .int 0, .int 0, .int 0, .long 0, .int 0, .int 0, .int 0, .int (-1), .ref (v 5), .ref (v 6), .ref (v 7), .ref (v 8), .ref (v 9), .ref (v 10), .ref (v 11), .ref (v 12), .ref (v 13), .ref (v 14), .ref (v 15), .ref (v 16), .ref (v 17), .ref (v 18), .ref (v 19), .ref (v 20), .int 0, .int 0, .int 0, .int 0, .ref (v 21), .ref (v 22), .ref (v 23), .int 0, .int 0, .ref (v 24), .ref (v 25), .int 0, .int 0, .ref (v 26), .ref (v 27), .ref (v 28), .int 0, .int 0, .int 0])), ((v 0), .inl (K 0, 4, .inl fw)), ((v 1), .inl (K 0, 4, .inl (fun _ => 0))), ((v 2), .inl (K 3, 240, .inr (.inl (fun _ => 0)))), ((v 4), .inl (K 1, 1400, .inl (fun _ => 0))), ((v 5), .inl (K 0, 5, .inl (fun _ => 0))), ((v 6), .inl (K 0, 40, .inl (fun _ => 0))), ((v 7), .inl (K 0, 50, .inl (fun _ => 0))), ((v 8), .inl (K 0, 60, .inl (fun _ => 0))), ((v 9), .inl (K 0, 480, .inl (fun _ => 0))), ((v 10), .inl (K 0, 600, .inl (fun _ => 0))), ((v 11), .inl (K 2, 3, .inl (fun _ => 0)))] H := hP
  have hD : va_D A [(m0, .inr (12, [.int 0, .ref (v 0), .ref (v 1), .ref (v 2), .ref (v 3), .ref (v 4), .int 0, .int 0, .int 0, .int 0, .int 0, .long 0, .int 0, .int 0, .int 0, .int (-1), .ref (v 5), .ref (v 6), .ref (v 7), .ref (v 8), .ref (v 9), .ref (v 10), .ref (v 11), .ref (v 12), .ref (v 13), .ref (v 14), .ref (v 15), .ref (v 16), .ref (v 17), .ref (v 18), .ref (v 19), .ref (v 20), .int 0, .int 0, .int 0, .int 0, .ref (v 21), .ref (v 22), .ref (v 23), .int 0, .int 0, .ref (v 24), .ref (v 25), .int 0, .int 0, .ref (v 26), .ref (v 27), .ref (v 28), .int 0, .int 0, .int 0])), ((v 0), .inl (K 0, 4, .inl fw)), ((v 1), .inl (K 0, 4, .inl (fun _ => 0))), ((v 2), .inl (K 3, 240, .inr (.inl (fun _ => 0)))), ((v 4), .inl (K 1, 1400, .inl (fun _ => 0))), ((v 5), .inl (K 0, 5, .inl (fun _ => 0))), ((v 6), .inl (K 0, 40, .inl (fun _ => 0))), ((v 7), .inl (K 0, 50, .inl (fun _ => 0))), ((v 8), .inl (K 0, 60, .inl (fun _ => 0))), ((v 9), .inl (K 0, 480, .inl (fun _ => 0))), ((v 10), .inl (K 0, 600, .inl (fun _ => 0))), ((v 11), .inl (K 2, 3, .inl (fun _ => 0)))] := hD
  refine lv_aload_n hx hb dL_law_774 rfl (lv_at hl 1 rfl) ?_
  refine lv_aload_n hx hb dL_law_775 rfl (lv_at hl 3 rfl) ?_
  refine lv_iload_n hx hb dL_law_776 rfl (lv_at hl 0 rfl) ?_
  refine lv_iconst (v := 1) hx hb dL_law_777 (by decide) ?_
  refine lv_iadd hx hb dL_law_778 ?_
  refine fn_top 1 (by decide) ?_
  refine va_sld hx hb hX hbl hbA hS (by unfold vp_in; decide) dL_law_779 ?_
  refine fn_top (xs 1) (congrArg xs (by decide)) ?_
  refine fn_goi (wc := [(m0, .inr (12, [.int 0, .ref (v 0), .ref (v 1), .ref (v 2), .ref (v 3), .ref (v 4), .int 0, .int 0, .int 0, .int 0, .int 0, .long 0, .int 0, .int 0, .int 0, .int (-1), .ref (v 5), .ref (v 6), .ref (v 7), .ref (v 8), .ref (v 9), .ref (v 10), .ref (v 11), .ref (v 12), .ref (v 13), .ref (v 14), .ref (v 15), .ref (v 16), .ref (v 17), .ref (v 18), .ref (v 19), .ref (v 20), .int 0, .int 0, .int 0, .int 0, .ref (v 21), .ref (v 22), .ref (v 23), .int 0, .int 0, .ref (v 24), .ref (v 25), .int 0, .int 0, .ref (v 26), .ref (v 27), .ref (v 28), .int 0, .int 0, .int 0])), ((v 5), .inl (K 0, 5, .inl (fun _ => 0))), ((v 6), .inl (K 0, 40, .inl (fun _ => 0)))]) (wr := []) hK hP hD hS hA [0, 5, 6] [] rfl rfl (by decide) (fun hp => va_runV (C := RX12) (As := [.int (xs 1)]) (rest := [.int (-2)]) ⟨hx, hb, hml, hown, hts⟩ (c_X12_upon (l := l) (D := D) (K := K) (m0 := (m0)) (p0 := ((xs 1))) (fm := ([.int 0, .ref (v 0), .ref (v 1), .ref (v 2), .ref (v 3), .ref (v 4), .int 0, .int 0, .int 0, .int 0, .int 0, .long 0, .int 0, .int 0, .int 0, .int (-1), .ref (v 5), .ref (v 6), .ref (v 7), .ref (v 8), .ref (v 9), .ref (v 10), .ref (v 11), .ref (v 12), .ref (v 13), .ref (v 14), .ref (v 15), .ref (v 16), .ref (v 17), .ref (v 18), .ref (v 19), .ref (v 20), .int 0, .int 0, .int 0, .int 0, .ref (v 21), .ref (v 22), .ref (v 23), .int 0, .int 0, .ref (v 24), .ref (v 25), .int 0, .int 0, .ref (v 26), .ref (v 27), .ref (v 28), .int 0, .int 0, .int 0])) (hmn := rfl) (al := ((v 5))) (hm16 := rfl) (ah := ((v 6))) (hm17 := rfl) (fl := (fun _ => 0)) (hfl := (fun _ => rfl)) (fh := (fun _ => 0)) (hfh := (fun _ => rfl)) _) (cwV 1 hts (fn_ginV (fn_gin wd_1640) wd_1637 wd_1638 wd_1639 wd_13) rfl rfl rfl (by decide +kernel) ⟨Nat.le_of_ble_eq_true rfl, Nat.le_of_ble_eq_true rfl⟩) ⟨fn_blind, va_recv hK.1 hP (ci := 12) (q0 := 0) rfl rfl, hp⟩ rfl rfl hl.1 rfl (lv_room (Nat.le_of_ble_eq_true rfl)) dL_law_780 ⟨Nat.le_of_ble_eq_true rfl, Nat.le_of_ble_eq_true rfl⟩) (fun r4 u3 H locs hwu3 hP hD hS => ?_)
  have r4_e : r4 = (-2) := hwu3
  subst r4_e
  have hP : va_P D vwCl [] H := hP
  have hD : va_D A [] := hD
  refine lv_icmp_eq (tgt := 1996) hx hb dL_law_783 (by decide) (fun _ => ?_) (fun h9 => absurd (by decide) h9)
  refine lv_iinc (v := 6) (lv' := [(3, .int 6), (2, .ref m0), (1, .ref x0), (0, .ref b)]) hx hb dL_law_1996 hl (k := 0) rfl (by decide) (by decide) rfl (fun ls hl => ?_)
  refine lv_goto (tgt := 18) hx hb dL_law_1999 (by decide) ?_
  refine lv_iload_n hx hb dL_law_18 rfl (lv_at hl 0 rfl) ?_
  refine lv_aload_n hx hb dL_law_19 rfl (lv_at hl 3 rfl) ?_
  refine fn_at 20 rfl ?_
  refine va_slen hx hb hX hbl hbA hS dL_law_20 ?_
  refine fn_top 6 (by decide) ?_
  refine lv_bipush (v := 6) hx hb dL_law_21 (by decide) ?_
  refine lv_isub hx hb dL_law_23 ?_
  refine fn_top 0 (by decide) ?_
  refine lv_icmp_gt (tgt := 2002) hx hb dL_law_24 (by decide) (fun _ => ?_) (fun h9 => absurd (by decide) h9)
  refine lv_iconst (v := 1) hx hb dL_law_2002 (by decide) ?_
  refine va_forget (fun q hq => by have h9 := hS.2.2 q hq; rw [← hAe] at h9; exact h9) ?_
  refine W.widen (k := 600000) (n := 7302250) (Nat.le_of_ble_eq_true rfl) (Nat.le_of_ble_eq_true rfl) ?_
  exact lw_ret hx hb hr hlocks dL_law_2003
theorem dL_law_788 : decode cL_law 788 = .ok (.aload_n 1, 1) := by decide +kernel
theorem dL_law_789 : decode cL_law 789 = .ok (.invokevirtual 89, 3) := by decide +kernel
theorem dL_law_792 : decode cL_law 792 = .ok (.aload_n 2, 1) := by decide +kernel
theorem dL_law_793 : decode cL_law 793 = .ok (.invokevirtual 92, 3) := by decide +kernel
theorem dL_law_796 : decode cL_law 796 = .ok (.if_icmp .eq 1200, 3) := by decide +kernel
set_option maxHeartbeats 4000000 in
set_option maxRecDepth 100000 in
theorem law_18 {p : Program} {l : Launch} {e : Env} {s : State} {m : MethodId} {below : List Frame} {meth : Method} {c : Code} {b : Nat} {xs : Nat → Int32} (hx : p.tables.exec = Jvm.exec) (hb : c.code = cL_law) (hr : meth.sig.returnType = ret) (hml : c.maxLocals = 4) (hown : s.vm.findClass RL = some m.cls) (hts : ∀ w ∈ fn_big, w.before #[Value.ref b] s = true) (hX : va_X b 6 xs s s.heap) (hbl : b < s.heap.size) (hlocks : meth.locks = false) {D : va_G} {K : Nat → ClassId} (hK : fn_KK D K s) {x0 m0 : Nat} {u v : Nat → Nat} {fw : Nat → Int32} (hfw : ∀ j, j < 4 → fw j = -1) {A : Nat → Prop} (hAe : (fun q : Nat => s.heap.size ≤ q) = A) : ∀ (H : Heap) (locs : List Loc) (ls : Array Slot), va_P D vwCl (fn_world K x0 m0 u v fw) H → va_D A (fn_world K x0 m0 u v fw) → va_S A s.heap H locs → lv_has ls 4 [(3, .int 0), (2, .ref m0), (1, .ref x0), (0, .ref b)] → W p l e room_1 s m #[Value.ref b] below meth c H locs 144 12710 (lw_Z below #[Value.ref b] s) (F0 m 788 ls []) := by
  intro H locs ls hP hD hS hl
  have hA : ∀ q : Nat, s.heap.size ≤ q → A q := fun q h => by rw [← hAe]; exact h
  have hbA : ¬ A b := by rw [← hAe]; exact Nat.not_le.mpr hbl
  refine lv_aload_n hx hb dL_law_788 rfl (lv_at hl 2 rfl) ?_
  refine fn_goi (wc := [(x0, .inr (11, [.ref (u 0), .ref (u 10), .ref (u 17), .ref (u 25), .ref (u 26), .ref (u 27), .ref (u 28), .ref (u 29), .ref (u 34), .ref (u 39), .ref (u 43), .ref (u 51), .ref (u 55)])), ((u 10), .inr (7, [.int 0, .int 0, .int 0, .int 0, .int 0, .int 0, .int 0, .int 0, .int 0, .ref (u 11), .ref (u 12), .ref (u 13), .ref (u 14), .ref (u 15), .ref (u 16)]))]) (wr := [(m0, .inr (12, [.int 0, .ref (v 0), .ref (v 1), .ref (v 2), .ref (v 3), .ref (v 4), .int 0, .int 0, .int 0, .int 0, .int 0, .long 0, .int 0, .int 0, .int 0, .int (-1), .ref (v 5), .ref (v 6), .ref (v 7), .ref (v 8), .ref (v 9), .ref (v 10), .ref (v 11), .ref (v 12), .ref (v 13), .ref (v 14), .ref (v 15), .ref (v 16), .ref (v 17), .ref (v 18), .ref (v 19), .ref (v 20), .int 0, .int 0, .int 0, .int 0, .ref (v 21), .ref (v 22), .ref (v 23), .int 0, .int 0, .ref (v 24), .ref (v 25), .int 0, .int 0, .ref (v 26), .ref (v 27), .ref (v 28), .int 0, .int 0, .int 0])), ((v 0), .inl (K 0, 4, .inl fw)), ((v 1), .inl (K 0, 4, .inl (fun _ => 0))), ((v 2), .inl (K 3, 240, .inr (.inl (fun _ => 0)))), ((v 4), .inl (K 1, 1400, .inl (fun _ => 0))), ((v 5), .inl (K 0, 5, .inl (fun _ => 0))), ((v 6), .inl (K 0, 40, .inl (fun _ => 0))), ((v 7), .inl (K 0, 50, .inl (fun _ => 0))), ((v 8), .inl (K 0, 60, .inl (fun _ => 0))), ((v 9), .inl (K 0, 480, .inl (fun _ => 0))), ((v 10), .inl (K 0, 600, .inl (fun _ => 0))), ((v 11), .inl (K 2, 3, .inl (fun _ => 0)))]) hK hP hD hS hA [0, 11] [88, 89, 90, 91, 92, 93, 94, 95, 96, 97, 98, 99] rfl rfl (by decide) (fun hp => va_runV (C := RX11) (As := []) (rest := []) ⟨hx, hb, hml, hown, hts⟩ (c_X11_rings (l := l) (D := D) (K := K) (x0 := (x0)) (fx := ([.ref (u 0), .ref (u 10), .ref (u 17), .ref (u 25), .ref (u 26), .ref (u 27), .ref (u 28), .ref (u 29), .ref (u 34), .ref (u 39), .ref (u 43), .ref (u 51), .ref (u 55)])) (t0 := ((u 10))) (hx1 := rfl) (ft := ([.int 0, .int 0, .int 0, .int 0, .int 0, .int 0, .int 0, .int 0, .int 0, .ref (u 11), .ref (u 12), .ref (u 13), .ref (u 14), .ref (u 15), .ref (u 16)])) (ht0 := rfl) (ht3 := rfl) (ht4 := rfl) (ht5 := rfl) _) (cwV 0 hts (fn_ginV (fn_gin wd_775) wd_772 wd_773 wd_774 wd_1) rfl rfl rfl (by decide +kernel) ⟨Nat.le_of_ble_eq_true rfl, Nat.le_of_ble_eq_true rfl⟩) ⟨fn_blind, va_recv hK.1 hP (ci := 11) (q0 := 0) rfl rfl, hp⟩ rfl rfl hl.1 rfl (lv_room (Nat.le_of_ble_eq_true rfl)) dL_law_789 ⟨Nat.le_of_ble_eq_true rfl, Nat.le_of_ble_eq_true rfl⟩) (fun r2 u1 H locs hwu1 hP hD hS => ?_)
  have r2_e : r2 = (-2) := hwu1
  subst r2_e
  have hP : va_P D vwCl [(m0, .inr (12, [.int 0, .ref (v 0), .ref (v 1), .ref (v 2), .ref (v 3), .ref (v 4), .int 0, .int 0, .int 0, .int 0, .int 0, .long 0, .int 0, .int 0, .int 0, .int (-1), .ref (v 5), .ref (v 6), .ref (v 7), .ref (v 8), .ref (v 9), .ref (v 10), .ref (v 11), .ref (v 12), .ref (v 13), .ref (v 14), .ref (v 15), .ref (v 16), .ref (v 17), .ref (v 18), .ref (v 19), .ref (v 20), .int 0, .int 0, .int 0, .int 0, .ref (v 21), .ref (v 22), .ref (v 23), .int 0, .int 0, .ref (v 24), .ref (v 25), .int 0, .int 0, .ref (v 26), .ref (v 27), .ref (v 28), .int 0, .int 0, .int 0])), ((v 0), .inl (K 0, 4, .inl fw)), ((v 1), .inl (K 0, 4, .inl (fun _ => 0))), ((v 2), .inl (K 3, 240, .inr (.inl (fun _ => 0)))), ((v 4), .inl (K 1, 1400, .inl (fun _ => 0))), ((v 5), .inl (K 0, 5, .inl (fun _ => 0))), ((v 6), .inl (K 0, 40, .inl (fun _ => 0))), ((v 7), .inl (K 0, 50, .inl (fun _ => 0))), ((v 8), .inl (K 0, 60, .inl (fun _ => 0))), ((v 9), .inl (K 0, 480, .inl (fun _ => 0))), ((v 10), .inl (K 0, 600, .inl (fun _ => 0))), ((v 11), .inl (K 2, 3, .inl (fun _ => 0)))] H := hP
  have hD : va_D A [(m0, .inr (12, [.int 0, .ref (v 0), .ref (v 1), .ref (v 2), .ref (v 3), .ref (v 4), .int 0, .int 0, .int 0, .int 0, .int 0, .long 0, .int 0, .int 0, .int 0, .int (-1), .ref (v 5), .ref (v 6), .ref (v 7), .ref (v 8), .ref (v 9), .ref (v 10), .ref (v 11), .ref (v 12), .ref (v 13), .ref (v 14), .ref (v 15), .ref (v 16), .ref (v 17), .ref (v 18), .ref (v 19), .ref (v 20), .int 0, .int 0, .int 0, .int 0, .ref (v 21), .ref (v 22), .ref (v 23), .int 0, .int 0, .ref (v 24), .ref (v 25), .int 0, .int 0, .ref (v 26), .ref (v 27), .ref (v 28), .int 0, .int 0, .int 0])), ((v 0), .inl (K 0, 4, .inl fw)), ((v 1), .inl (K 0, 4, .inl (fun _ => 0))), ((v 2), .inl (K 3, 240, .inr (.inl (fun _ => 0)))), ((v 4), .inl (K 1, 1400, .inl (fun _ => 0))), ((v 5), .inl (K 0, 5, .inl (fun _ => 0))), ((v 6), .inl (K 0, 40, .inl (fun _ => 0))), ((v 7), .inl (K 0, 50, .inl (fun _ => 0))), ((v 8), .inl (K 0, 60, .inl (fun _ => 0))), ((v 9), .inl (K 0, 480, .inl (fun _ => 0))), ((v 10), .inl (K 0, 600, .inl (fun _ => 0))), ((v 11), .inl (K 2, 3, .inl (fun _ => 0)))] := hD
  refine lv_aload_n hx hb dL_law_792 rfl (lv_at hl 1 rfl) ?_
  refine fn_goi (wc := [(m0, .inr (12, [.int 0, .ref (v 0), .ref (v 1), .ref (v 2), .ref (v 3), .ref (v 4), .int 0, .int 0, .int 0, .int 0, .int 0, .long 0, .int 0, .int 0, .int 0, .int (-1), .ref (v 5), .ref (v 6), .ref (v 7), .ref (v 8), .ref (v 9), .ref (v 10), .ref (v 11), .ref (v 12), .ref (v 13), .ref (v 14), .ref (v 15), .ref (v 16), .ref (v 17), .ref (v 18), .ref (v 19), .ref (v 20), .int 0, .int 0, .int 0, .int 0, .ref (v 21), .ref (v 22), .ref (v 23), .int 0, .int 0, .ref (v 24), .ref (v 25), .int 0, .int 0, .ref (v 26), .ref (v 27), .ref (v 28), .int 0, .int 0, .int 0])), ((v 5), .inl (K 0, 5, .inl (fun _ => 0))), ((v 6), .inl (K 0, 40, .inl (fun _ => 0)))]) (wr := []) hK hP hD hS hA [0, 5, 6] [] rfl rfl (by decide) (fun hp => va_runV (C := RX12) (As := []) (rest := [.int (-2)]) ⟨hx, hb, hml, hown, hts⟩ (c_X12_rings (l := l) (D := D) (K := K) (m0 := (m0)) (fm := ([.int 0, .ref (v 0), .ref (v 1), .ref (v 2), .ref (v 3), .ref (v 4), .int 0, .int 0, .int 0, .int 0, .int 0, .long 0, .int 0, .int 0, .int 0, .int (-1), .ref (v 5), .ref (v 6), .ref (v 7), .ref (v 8), .ref (v 9), .ref (v 10), .ref (v 11), .ref (v 12), .ref (v 13), .ref (v 14), .ref (v 15), .ref (v 16), .ref (v 17), .ref (v 18), .ref (v 19), .ref (v 20), .int 0, .int 0, .int 0, .int 0, .ref (v 21), .ref (v 22), .ref (v 23), .int 0, .int 0, .ref (v 24), .ref (v 25), .int 0, .int 0, .ref (v 26), .ref (v 27), .ref (v 28), .int 0, .int 0, .int 0])) (hmn := rfl) (al := ((v 5))) (hm16 := rfl) (ah := ((v 6))) (hm17 := rfl) (fl := (fun _ => 0)) (hfl := (fun _ => rfl)) (fh := (fun _ => 0)) (hfh := (fun _ => rfl)) _) (cwV 0 hts (fn_ginV (fn_gin wd_1648) wd_1645 wd_1646 wd_1647 wd_13) rfl rfl rfl (by decide +kernel) ⟨Nat.le_of_ble_eq_true rfl, Nat.le_of_ble_eq_true rfl⟩) ⟨fn_blind, va_recv hK.1 hP (ci := 12) (q0 := 0) rfl rfl, hp⟩ rfl rfl hl.1 rfl (lv_room (Nat.le_of_ble_eq_true rfl)) dL_law_793 ⟨Nat.le_of_ble_eq_true rfl, Nat.le_of_ble_eq_true rfl⟩) (fun r4 u3 H locs hwu3 hP hD hS => ?_)
  have r4_e : r4 = (-2) := hwu3
  subst r4_e
  have hP : va_P D vwCl [] H := hP
  have hD : va_D A [] := hD
  refine lv_icmp_eq (tgt := 1996) hx hb dL_law_796 (by decide) (fun _ => ?_) (fun h9 => absurd (by decide) h9)
  refine lv_iinc (v := 6) (lv' := [(3, .int 6), (2, .ref m0), (1, .ref x0), (0, .ref b)]) hx hb dL_law_1996 hl (k := 0) rfl (by decide) (by decide) rfl (fun ls hl => ?_)
  refine lv_goto (tgt := 18) hx hb dL_law_1999 (by decide) ?_
  refine lv_iload_n hx hb dL_law_18 rfl (lv_at hl 0 rfl) ?_
  refine lv_aload_n hx hb dL_law_19 rfl (lv_at hl 3 rfl) ?_
  refine va_slen hx hb hX hbl hbA hS dL_law_20 ?_
  refine fn_top 6 (by decide) ?_
  refine lv_bipush (v := 6) hx hb dL_law_21 (by decide) ?_
  refine lv_isub hx hb dL_law_23 ?_
  refine fn_top 0 (by decide) ?_
  refine lv_icmp_gt (tgt := 2002) hx hb dL_law_24 (by decide) (fun _ => ?_) (fun h9 => absurd (by decide) h9)
  refine lv_iconst (v := 1) hx hb dL_law_2002 (by decide) ?_
  refine va_forget (fun q hq => by have h9 := hS.2.2 q hq; rw [← hAe] at h9; exact h9) ?_
  refine W.widen (k := 600000) (n := 7302250) (Nat.le_of_ble_eq_true rfl) (Nat.le_of_ble_eq_true rfl) ?_
  exact lw_ret hx hb hr hlocks dL_law_2003
theorem dL_law_801 : decode cL_law 801 = .ok (.aload_n 1, 1) := by decide +kernel
theorem dL_law_802 : decode cL_law 802 = .ok (.aload_n 0, 1) := by decide +kernel
theorem dL_law_803 : decode cL_law 803 = .ok (.iload_n 3, 1) := by decide +kernel
theorem dL_law_804 : decode cL_law 804 = .ok (.iconst 1, 1) := by decide +kernel
theorem dL_law_805 : decode cL_law 805 = .ok (.iadd, 1) := by decide +kernel
theorem dL_law_806 : decode cL_law 806 = .ok (.iaload, 1) := by decide +kernel
theorem dL_law_807 : decode cL_law 807 = .ok (.invokevirtual 93, 3) := by decide +kernel
theorem dL_law_810 : decode cL_law 810 = .ok (.aload_n 2, 1) := by decide +kernel
theorem dL_law_811 : decode cL_law 811 = .ok (.aload_n 0, 1) := by decide +kernel
theorem dL_law_812 : decode cL_law 812 = .ok (.iload_n 3, 1) := by decide +kernel
theorem dL_law_813 : decode cL_law 813 = .ok (.iconst 1, 1) := by decide +kernel
theorem dL_law_814 : decode cL_law 814 = .ok (.iadd, 1) := by decide +kernel
theorem dL_law_815 : decode cL_law 815 = .ok (.iaload, 1) := by decide +kernel
theorem dL_law_816 : decode cL_law 816 = .ok (.invokevirtual 96, 3) := by decide +kernel
theorem dL_law_819 : decode cL_law 819 = .ok (.if_icmp .eq 1177, 3) := by decide +kernel
set_option maxHeartbeats 4000000 in
set_option maxRecDepth 100000 in
theorem law_19 {p : Program} {l : Launch} {e : Env} {s : State} {m : MethodId} {below : List Frame} {meth : Method} {c : Code} {b : Nat} {xs : Nat → Int32} (hx : p.tables.exec = Jvm.exec) (hb : c.code = cL_law) (hr : meth.sig.returnType = ret) (hml : c.maxLocals = 4) (hown : s.vm.findClass RL = some m.cls) (hts : ∀ w ∈ fn_big, w.before #[Value.ref b] s = true) (hX : va_X b 6 xs s s.heap) (hbl : b < s.heap.size) (hlocks : meth.locks = false) {D : va_G} {K : Nat → ClassId} (hK : fn_KK D K s) {x0 m0 : Nat} {u v : Nat → Nat} {fw : Nat → Int32} (hfw : ∀ j, j < 4 → fw j = -1) {A : Nat → Prop} (hAe : (fun q : Nat => s.heap.size ≤ q) = A) : ∀ (H : Heap) (locs : List Loc) (ls : Array Slot), va_P D vwCl (fn_world K x0 m0 u v fw) H → va_D A (fn_world K x0 m0 u v fw) → va_S A s.heap H locs → lv_has ls 4 [(3, .int 0), (2, .ref m0), (1, .ref x0), (0, .ref b)] → W p l e room_1 s m #[Value.ref b] below meth c H locs 144 12710 (lw_Z below #[Value.ref b] s) (F0 m 801 ls []) := by
  intro H locs ls hP hD hS hl
  have hA : ∀ q : Nat, s.heap.size ≤ q → A q := fun q h => by rw [← hAe]; exact h
  have hbA : ¬ A b := by rw [← hAe]; exact Nat.not_le.mpr hbl
  refine lv_aload_n hx hb dL_law_801 rfl (lv_at hl 2 rfl) ?_
  refine lv_aload_n hx hb dL_law_802 rfl (lv_at hl 3 rfl) ?_
  refine lv_iload_n hx hb dL_law_803 rfl (lv_at hl 0 rfl) ?_
  refine lv_iconst (v := 1) hx hb dL_law_804 (by decide) ?_
  refine lv_iadd hx hb dL_law_805 ?_
  refine fn_top 1 (by decide) ?_
  refine va_sld hx hb hX hbl hbA hS (by unfold vp_in; decide) dL_law_806 ?_
  refine fn_top (xs 1) (congrArg xs (by decide)) ?_
  refine fn_goi (wc := [(x0, .inr (11, [.ref (u 0), .ref (u 10), .ref (u 17), .ref (u 25), .ref (u 26), .ref (u 27), .ref (u 28), .ref (u 29), .ref (u 34), .ref (u 39), .ref (u 43), .ref (u 51), .ref (u 55)])), ((u 10), .inr (7, [.int 0, .int 0, .int 0, .int 0, .int 0, .int 0, .int 0, .int 0, .int 0, .ref (u 11), .ref (u 12), .ref (u 13), .ref (u 14), .ref (u 15), .ref (u 16)]))]) (wr := [(m0, .inr (12, [.int 0, .ref (v 0), .ref (v 1), .ref (v 2), .ref (v 3), .ref (v 4), .int 0, .int 0, .int 0, .int 0, .int 0, .long 0, .int 0, .int 0, .int 0, .int (-1), .ref (v 5), .ref (v 6), .ref (v 7), .ref (v 8), .ref (v 9), .ref (v 10), .ref (v 11), .ref (v 12), .ref (v 13), .ref (v 14), .ref (v 15), .ref (v 16), .ref (v 17), .ref (v 18), .ref (v 19), .ref (v 20), .int 0, .int 0, .int 0, .int 0, .ref (v 21), .ref (v 22), .ref (v 23), .int 0, .int 0, .ref (v 24), .ref (v 25), .int 0, .int 0, .ref (v 26), .ref (v 27), .ref (v 28), .int 0, .int 0, .int 0])), ((v 0), .inl (K 0, 4, .inl fw)), ((v 1), .inl (K 0, 4, .inl (fun _ => 0))), ((v 2), .inl (K 3, 240, .inr (.inl (fun _ => 0)))), ((v 4), .inl (K 1, 1400, .inl (fun _ => 0))), ((v 5), .inl (K 0, 5, .inl (fun _ => 0))), ((v 6), .inl (K 0, 40, .inl (fun _ => 0))), ((v 7), .inl (K 0, 50, .inl (fun _ => 0))), ((v 8), .inl (K 0, 60, .inl (fun _ => 0))), ((v 9), .inl (K 0, 480, .inl (fun _ => 0))), ((v 10), .inl (K 0, 600, .inl (fun _ => 0))), ((v 11), .inl (K 2, 3, .inl (fun _ => 0)))]) hK hP hD hS hA [0, 11] [88, 89, 90, 91, 92, 93, 94, 95, 96, 97, 98, 99] rfl rfl (by decide) (fun hp => va_runV (C := RX11) (As := [.int (xs 1)]) (rest := []) ⟨hx, hb, hml, hown, hts⟩ (c_X11_round (l := l) (D := D) (K := K) (x0 := (x0)) (p0 := ((xs 1))) (fx := ([.ref (u 0), .ref (u 10), .ref (u 17), .ref (u 25), .ref (u 26), .ref (u 27), .ref (u 28), .ref (u 29), .ref (u 34), .ref (u 39), .ref (u 43), .ref (u 51), .ref (u 55)])) (t0 := ((u 10))) (hx1 := rfl) (ft := ([.int 0, .int 0, .int 0, .int 0, .int 0, .int 0, .int 0, .int 0, .int 0, .ref (u 11), .ref (u 12), .ref (u 13), .ref (u 14), .ref (u 15), .ref (u 16)])) (ht0 := rfl) (ht3 := rfl) (ht4 := rfl) (ht5 := rfl) _) (cwV 1 hts (fn_ginV (fn_gin wd_779) wd_776 wd_777 wd_778 wd_1) rfl rfl rfl (by decide +kernel) ⟨Nat.le_of_ble_eq_true rfl, Nat.le_of_ble_eq_true rfl⟩) ⟨fn_blind, va_recv hK.1 hP (ci := 11) (q0 := 0) rfl rfl, hp⟩ rfl rfl hl.1 rfl (lv_room (Nat.le_of_ble_eq_true rfl)) dL_law_807 ⟨Nat.le_of_ble_eq_true rfl, Nat.le_of_ble_eq_true rfl⟩) (fun r2 u1 H locs hwu1 hP hD hS => ?_)
  have r2_e : r2 = (-2) := hwu1
  subst r2_e
  have hP : va_P D vwCl [(m0, .inr (12, [.int 0, .ref (v 0), .ref (v 1), .ref (v 2), .ref (v 3), .ref (v 4), .int 0, .int 0, .int 0, .int 0, .int 0, .long 0, .int 0, .int 0, .int 0, .int (-1), .ref (v 5), .ref (v 6), .ref (v 7), .ref (v 8), .ref (v 9), .ref (v 10), .ref (v 11), .ref (v 12), .ref (v 13), .ref (v 14), .ref (v 15), .ref (v 16), .ref (v 17), .ref (v 18), .ref (v 19), .ref (v 20), .int 0, .int 0, .int 0, .int 0, .ref (v 21), .ref (v 22), .ref (v 23), .int 0, .int 0, .ref (v 24), .ref (v 25), .int 0, .int 0, .ref (v 26), .ref (v 27), .ref (v 28), .int 0, .int 0, .int 0])), ((v 0), .inl (K 0, 4, .inl fw)), ((v 1), .inl (K 0, 4, .inl (fun _ => 0))), ((v 2), .inl (K 3, 240, .inr (.inl (fun _ => 0)))), ((v 4), .inl (K 1, 1400, .inl (fun _ => 0))), ((v 5), .inl (K 0, 5, .inl (fun _ => 0))), ((v 6), .inl (K 0, 40, .inl (fun _ => 0))), ((v 7), .inl (K 0, 50, .inl (fun _ => 0))), ((v 8), .inl (K 0, 60, .inl (fun _ => 0))), ((v 9), .inl (K 0, 480, .inl (fun _ => 0))), ((v 10), .inl (K 0, 600, .inl (fun _ => 0))), ((v 11), .inl (K 2, 3, .inl (fun _ => 0)))] H := hP
  have hD : va_D A [(m0, .inr (12, [.int 0, .ref (v 0), .ref (v 1), .ref (v 2), .ref (v 3), .ref (v 4), .int 0, .int 0, .int 0, .int 0, .int 0, .long 0, .int 0, .int 0, .int 0, .int (-1), .ref (v 5), .ref (v 6), .ref (v 7), .ref (v 8), .ref (v 9), .ref (v 10), .ref (v 11), .ref (v 12), .ref (v 13), .ref (v 14), .ref (v 15), .ref (v 16), .ref (v 17), .ref (v 18), .ref (v 19), .ref (v 20), .int 0, .int 0, .int 0, .int 0, .ref (v 21), .ref (v 22), .ref (v 23), .int 0, .int 0, .ref (v 24), .ref (v 25), .int 0, .int 0, .ref (v 26), .ref (v 27), .ref (v 28), .int 0, .int 0, .int 0])), ((v 0), .inl (K 0, 4, .inl fw)), ((v 1), .inl (K 0, 4, .inl (fun _ => 0))), ((v 2), .inl (K 3, 240, .inr (.inl (fun _ => 0)))), ((v 4), .inl (K 1, 1400, .inl (fun _ => 0))), ((v 5), .inl (K 0, 5, .inl (fun _ => 0))), ((v 6), .inl (K 0, 40, .inl (fun _ => 0))), ((v 7), .inl (K 0, 50, .inl (fun _ => 0))), ((v 8), .inl (K 0, 60, .inl (fun _ => 0))), ((v 9), .inl (K 0, 480, .inl (fun _ => 0))), ((v 10), .inl (K 0, 600, .inl (fun _ => 0))), ((v 11), .inl (K 2, 3, .inl (fun _ => 0)))] := hD
  refine lv_aload_n hx hb dL_law_810 rfl (lv_at hl 1 rfl) ?_
  refine lv_aload_n hx hb dL_law_811 rfl (lv_at hl 3 rfl) ?_
  refine lv_iload_n hx hb dL_law_812 rfl (lv_at hl 0 rfl) ?_
  refine lv_iconst (v := 1) hx hb dL_law_813 (by decide) ?_
  refine lv_iadd hx hb dL_law_814 ?_
  refine fn_top 1 (by decide) ?_
  refine va_sld hx hb hX hbl hbA hS (by unfold vp_in; decide) dL_law_815 ?_
  refine fn_top (xs 1) (congrArg xs (by decide)) ?_
  refine fn_goi (wc := [(m0, .inr (12, [.int 0, .ref (v 0), .ref (v 1), .ref (v 2), .ref (v 3), .ref (v 4), .int 0, .int 0, .int 0, .int 0, .int 0, .long 0, .int 0, .int 0, .int 0, .int (-1), .ref (v 5), .ref (v 6), .ref (v 7), .ref (v 8), .ref (v 9), .ref (v 10), .ref (v 11), .ref (v 12), .ref (v 13), .ref (v 14), .ref (v 15), .ref (v 16), .ref (v 17), .ref (v 18), .ref (v 19), .ref (v 20), .int 0, .int 0, .int 0, .int 0, .ref (v 21), .ref (v 22), .ref (v 23), .int 0, .int 0, .ref (v 24), .ref (v 25), .int 0, .int 0, .ref (v 26), .ref (v 27), .ref (v 28), .int 0, .int 0, .int 0])), ((v 5), .inl (K 0, 5, .inl (fun _ => 0))), ((v 6), .inl (K 0, 40, .inl (fun _ => 0)))]) (wr := []) hK hP hD hS hA [0, 5, 6] [] rfl rfl (by decide) (fun hp => va_runV (C := RX12) (As := [.int (xs 1)]) (rest := [.int (-2)]) ⟨hx, hb, hml, hown, hts⟩ (c_X12_round (l := l) (D := D) (K := K) (m0 := (m0)) (p0 := ((xs 1))) (fm := ([.int 0, .ref (v 0), .ref (v 1), .ref (v 2), .ref (v 3), .ref (v 4), .int 0, .int 0, .int 0, .int 0, .int 0, .long 0, .int 0, .int 0, .int 0, .int (-1), .ref (v 5), .ref (v 6), .ref (v 7), .ref (v 8), .ref (v 9), .ref (v 10), .ref (v 11), .ref (v 12), .ref (v 13), .ref (v 14), .ref (v 15), .ref (v 16), .ref (v 17), .ref (v 18), .ref (v 19), .ref (v 20), .int 0, .int 0, .int 0, .int 0, .ref (v 21), .ref (v 22), .ref (v 23), .int 0, .int 0, .ref (v 24), .ref (v 25), .int 0, .int 0, .ref (v 26), .ref (v 27), .ref (v 28), .int 0, .int 0, .int 0])) (hmn := rfl) (al := ((v 5))) (hm16 := rfl) (ah := ((v 6))) (hm17 := rfl) (fl := (fun _ => 0)) (hfl := (fun _ => rfl)) (fh := (fun _ => 0)) (hfh := (fun _ => rfl)) _) (cwV 1 hts (fn_ginV (fn_gin wd_1652) wd_1649 wd_1650 wd_1651 wd_13) rfl rfl rfl (by decide +kernel) ⟨Nat.le_of_ble_eq_true rfl, Nat.le_of_ble_eq_true rfl⟩) ⟨fn_blind, va_recv hK.1 hP (ci := 12) (q0 := 0) rfl rfl, hp⟩ rfl rfl hl.1 rfl (lv_room (Nat.le_of_ble_eq_true rfl)) dL_law_816 ⟨Nat.le_of_ble_eq_true rfl, Nat.le_of_ble_eq_true rfl⟩) (fun r4 u3 H locs hwu3 hP hD hS => ?_)
  have r4_e : r4 = (-2) := hwu3
  subst r4_e
  have hP : va_P D vwCl [] H := hP
  have hD : va_D A [] := hD
  refine lv_icmp_eq (tgt := 1996) hx hb dL_law_819 (by decide) (fun _ => ?_) (fun h9 => absurd (by decide) h9)
  refine lv_iinc (v := 6) (lv' := [(3, .int 6), (2, .ref m0), (1, .ref x0), (0, .ref b)]) hx hb dL_law_1996 hl (k := 0) rfl (by decide) (by decide) rfl (fun ls hl => ?_)
  refine lv_goto (tgt := 18) hx hb dL_law_1999 (by decide) ?_
  refine lv_iload_n hx hb dL_law_18 rfl (lv_at hl 0 rfl) ?_
  refine lv_aload_n hx hb dL_law_19 rfl (lv_at hl 3 rfl) ?_
  refine fn_at 20 rfl ?_
  refine va_slen hx hb hX hbl hbA hS dL_law_20 ?_
  refine fn_top 6 (by decide) ?_
  refine lv_bipush (v := 6) hx hb dL_law_21 (by decide) ?_
  refine lv_isub hx hb dL_law_23 ?_
  refine fn_top 0 (by decide) ?_
  refine lv_icmp_gt (tgt := 2002) hx hb dL_law_24 (by decide) (fun _ => ?_) (fun h9 => absurd (by decide) h9)
  refine lv_iconst (v := 1) hx hb dL_law_2002 (by decide) ?_
  refine va_forget (fun q hq => by have h9 := hS.2.2 q hq; rw [← hAe] at h9; exact h9) ?_
  refine W.widen (k := 600000) (n := 7302250) (Nat.le_of_ble_eq_true rfl) (Nat.le_of_ble_eq_true rfl) ?_
  exact lw_ret hx hb hr hlocks dL_law_2003
theorem dL_law_824 : decode cL_law 824 = .ok (.aload_n 1, 1) := by decide +kernel
theorem dL_law_825 : decode cL_law 825 = .ok (.aload_n 0, 1) := by decide +kernel
theorem dL_law_826 : decode cL_law 826 = .ok (.iload_n 3, 1) := by decide +kernel
theorem dL_law_827 : decode cL_law 827 = .ok (.iconst 1, 1) := by decide +kernel
theorem dL_law_828 : decode cL_law 828 = .ok (.iadd, 1) := by decide +kernel
theorem dL_law_829 : decode cL_law 829 = .ok (.iaload, 1) := by decide +kernel
theorem dL_law_830 : decode cL_law 830 = .ok (.invokevirtual 97, 3) := by decide +kernel
theorem dL_law_833 : decode cL_law 833 = .ok (.aload_n 2, 1) := by decide +kernel
theorem dL_law_834 : decode cL_law 834 = .ok (.aload_n 0, 1) := by decide +kernel
theorem dL_law_835 : decode cL_law 835 = .ok (.iload_n 3, 1) := by decide +kernel
theorem dL_law_836 : decode cL_law 836 = .ok (.iconst 1, 1) := by decide +kernel
theorem dL_law_837 : decode cL_law 837 = .ok (.iadd, 1) := by decide +kernel
theorem dL_law_838 : decode cL_law 838 = .ok (.iaload, 1) := by decide +kernel
theorem dL_law_839 : decode cL_law 839 = .ok (.invokevirtual 100, 3) := by decide +kernel
theorem dL_law_842 : decode cL_law 842 = .ok (.if_icmp .eq 1154, 3) := by decide +kernel
set_option maxHeartbeats 4000000 in
set_option maxRecDepth 100000 in
theorem law_20 {p : Program} {l : Launch} {e : Env} {s : State} {m : MethodId} {below : List Frame} {meth : Method} {c : Code} {b : Nat} {xs : Nat → Int32} (hx : p.tables.exec = Jvm.exec) (hb : c.code = cL_law) (hr : meth.sig.returnType = ret) (hml : c.maxLocals = 4) (hown : s.vm.findClass RL = some m.cls) (hts : ∀ w ∈ fn_big, w.before #[Value.ref b] s = true) (hX : va_X b 6 xs s s.heap) (hbl : b < s.heap.size) (hlocks : meth.locks = false) {D : va_G} {K : Nat → ClassId} (hK : fn_KK D K s) {x0 m0 : Nat} {u v : Nat → Nat} {fw : Nat → Int32} (hfw : ∀ j, j < 4 → fw j = -1) {A : Nat → Prop} (hAe : (fun q : Nat => s.heap.size ≤ q) = A) : ∀ (H : Heap) (locs : List Loc) (ls : Array Slot), va_P D vwCl (fn_world K x0 m0 u v fw) H → va_D A (fn_world K x0 m0 u v fw) → va_S A s.heap H locs → lv_has ls 4 [(3, .int 0), (2, .ref m0), (1, .ref x0), (0, .ref b)] → W p l e room_1 s m #[Value.ref b] below meth c H locs 144 12710 (lw_Z below #[Value.ref b] s) (F0 m 824 ls []) := by
  intro H locs ls hP hD hS hl
  have hA : ∀ q : Nat, s.heap.size ≤ q → A q := fun q h => by rw [← hAe]; exact h
  have hbA : ¬ A b := by rw [← hAe]; exact Nat.not_le.mpr hbl
  refine lv_aload_n hx hb dL_law_824 rfl (lv_at hl 2 rfl) ?_
  refine lv_aload_n hx hb dL_law_825 rfl (lv_at hl 3 rfl) ?_
  refine lv_iload_n hx hb dL_law_826 rfl (lv_at hl 0 rfl) ?_
  refine lv_iconst (v := 1) hx hb dL_law_827 (by decide) ?_
  refine lv_iadd hx hb dL_law_828 ?_
  refine fn_top 1 (by decide) ?_
  refine va_sld hx hb hX hbl hbA hS (by unfold vp_in; decide) dL_law_829 ?_
  refine fn_top (xs 1) (congrArg xs (by decide)) ?_
  refine fn_goi (wc := [(x0, .inr (11, [.ref (u 0), .ref (u 10), .ref (u 17), .ref (u 25), .ref (u 26), .ref (u 27), .ref (u 28), .ref (u 29), .ref (u 34), .ref (u 39), .ref (u 43), .ref (u 51), .ref (u 55)])), ((u 10), .inr (7, [.int 0, .int 0, .int 0, .int 0, .int 0, .int 0, .int 0, .int 0, .int 0, .ref (u 11), .ref (u 12), .ref (u 13), .ref (u 14), .ref (u 15), .ref (u 16)]))]) (wr := [(m0, .inr (12, [.int 0, .ref (v 0), .ref (v 1), .ref (v 2), .ref (v 3), .ref (v 4), .int 0, .int 0, .int 0, .int 0, .int 0, .long 0, .int 0, .int 0, .int 0, .int (-1), .ref (v 5), .ref (v 6), .ref (v 7), .ref (v 8), .ref (v 9), .ref (v 10), .ref (v 11), .ref (v 12), .ref (v 13), .ref (v 14), .ref (v 15), .ref (v 16), .ref (v 17), .ref (v 18), .ref (v 19), .ref (v 20), .int 0, .int 0, .int 0, .int 0, .ref (v 21), .ref (v 22), .ref (v 23), .int 0, .int 0, .ref (v 24), .ref (v 25), .int 0, .int 0, .ref (v 26), .ref (v 27), .ref (v 28), .int 0, .int 0, .int 0])), ((v 0), .inl (K 0, 4, .inl fw)), ((v 1), .inl (K 0, 4, .inl (fun _ => 0))), ((v 2), .inl (K 3, 240, .inr (.inl (fun _ => 0)))), ((v 4), .inl (K 1, 1400, .inl (fun _ => 0))), ((v 5), .inl (K 0, 5, .inl (fun _ => 0))), ((v 6), .inl (K 0, 40, .inl (fun _ => 0))), ((v 7), .inl (K 0, 50, .inl (fun _ => 0))), ((v 8), .inl (K 0, 60, .inl (fun _ => 0))), ((v 9), .inl (K 0, 480, .inl (fun _ => 0))), ((v 10), .inl (K 0, 600, .inl (fun _ => 0))), ((v 11), .inl (K 2, 3, .inl (fun _ => 0)))]) hK hP hD hS hA [0, 11] [88, 89, 90, 91, 92, 93, 94, 95, 96, 97, 98, 99] rfl rfl (by decide) (fun hp => va_runV (C := RX11) (As := [.int (xs 1)]) (rest := []) ⟨hx, hb, hml, hown, hts⟩ (c_X11_ring (l := l) (D := D) (K := K) (x0 := (x0)) (p0 := ((xs 1))) (fx := ([.ref (u 0), .ref (u 10), .ref (u 17), .ref (u 25), .ref (u 26), .ref (u 27), .ref (u 28), .ref (u 29), .ref (u 34), .ref (u 39), .ref (u 43), .ref (u 51), .ref (u 55)])) (t0 := ((u 10))) (hx1 := rfl) (ft := ([.int 0, .int 0, .int 0, .int 0, .int 0, .int 0, .int 0, .int 0, .int 0, .ref (u 11), .ref (u 12), .ref (u 13), .ref (u 14), .ref (u 15), .ref (u 16)])) (ht0 := rfl) (ht3 := rfl) (ht4 := rfl) (ht5 := rfl) _) (cwV 1 hts (fn_ginV (fn_gin wd_784) wd_781 wd_782 wd_783 wd_1) rfl rfl rfl (by decide +kernel) ⟨Nat.le_of_ble_eq_true rfl, Nat.le_of_ble_eq_true rfl⟩) ⟨fn_blind, va_recv hK.1 hP (ci := 11) (q0 := 0) rfl rfl, hp⟩ rfl rfl hl.1 rfl (lv_room (Nat.le_of_ble_eq_true rfl)) dL_law_830 ⟨Nat.le_of_ble_eq_true rfl, Nat.le_of_ble_eq_true rfl⟩) (fun r2 u1 H locs hwu1 hP hD hS => ?_)
  have r2_e : r2 = (-2) := hwu1
  subst r2_e
  have hP : va_P D vwCl [(m0, .inr (12, [.int 0, .ref (v 0), .ref (v 1), .ref (v 2), .ref (v 3), .ref (v 4), .int 0, .int 0, .int 0, .int 0, .int 0, .long 0, .int 0, .int 0, .int 0, .int (-1), .ref (v 5), .ref (v 6), .ref (v 7), .ref (v 8), .ref (v 9), .ref (v 10), .ref (v 11), .ref (v 12), .ref (v 13), .ref (v 14), .ref (v 15), .ref (v 16), .ref (v 17), .ref (v 18), .ref (v 19), .ref (v 20), .int 0, .int 0, .int 0, .int 0, .ref (v 21), .ref (v 22), .ref (v 23), .int 0, .int 0, .ref (v 24), .ref (v 25), .int 0, .int 0, .ref (v 26), .ref (v 27), .ref (v 28), .int 0, .int 0, .int 0])), ((v 0), .inl (K 0, 4, .inl fw)), ((v 1), .inl (K 0, 4, .inl (fun _ => 0))), ((v 2), .inl (K 3, 240, .inr (.inl (fun _ => 0)))), ((v 4), .inl (K 1, 1400, .inl (fun _ => 0))), ((v 5), .inl (K 0, 5, .inl (fun _ => 0))), ((v 6), .inl (K 0, 40, .inl (fun _ => 0))), ((v 7), .inl (K 0, 50, .inl (fun _ => 0))), ((v 8), .inl (K 0, 60, .inl (fun _ => 0))), ((v 9), .inl (K 0, 480, .inl (fun _ => 0))), ((v 10), .inl (K 0, 600, .inl (fun _ => 0))), ((v 11), .inl (K 2, 3, .inl (fun _ => 0)))] H := hP
  have hD : va_D A [(m0, .inr (12, [.int 0, .ref (v 0), .ref (v 1), .ref (v 2), .ref (v 3), .ref (v 4), .int 0, .int 0, .int 0, .int 0, .int 0, .long 0, .int 0, .int 0, .int 0, .int (-1), .ref (v 5), .ref (v 6), .ref (v 7), .ref (v 8), .ref (v 9), .ref (v 10), .ref (v 11), .ref (v 12), .ref (v 13), .ref (v 14), .ref (v 15), .ref (v 16), .ref (v 17), .ref (v 18), .ref (v 19), .ref (v 20), .int 0, .int 0, .int 0, .int 0, .ref (v 21), .ref (v 22), .ref (v 23), .int 0, .int 0, .ref (v 24), .ref (v 25), .int 0, .int 0, .ref (v 26), .ref (v 27), .ref (v 28), .int 0, .int 0, .int 0])), ((v 0), .inl (K 0, 4, .inl fw)), ((v 1), .inl (K 0, 4, .inl (fun _ => 0))), ((v 2), .inl (K 3, 240, .inr (.inl (fun _ => 0)))), ((v 4), .inl (K 1, 1400, .inl (fun _ => 0))), ((v 5), .inl (K 0, 5, .inl (fun _ => 0))), ((v 6), .inl (K 0, 40, .inl (fun _ => 0))), ((v 7), .inl (K 0, 50, .inl (fun _ => 0))), ((v 8), .inl (K 0, 60, .inl (fun _ => 0))), ((v 9), .inl (K 0, 480, .inl (fun _ => 0))), ((v 10), .inl (K 0, 600, .inl (fun _ => 0))), ((v 11), .inl (K 2, 3, .inl (fun _ => 0)))] := hD
  refine lv_aload_n hx hb dL_law_833 rfl (lv_at hl 1 rfl) ?_
  refine lv_aload_n hx hb dL_law_834 rfl (lv_at hl 3 rfl) ?_
  refine lv_iload_n hx hb dL_law_835 rfl (lv_at hl 0 rfl) ?_
  refine lv_iconst (v := 1) hx hb dL_law_836 (by decide) ?_
  refine lv_iadd hx hb dL_law_837 ?_
  refine fn_top 1 (by decide) ?_
  refine va_sld hx hb hX hbl hbA hS (by unfold vp_in; decide) dL_law_838 ?_
  refine fn_top (xs 1) (congrArg xs (by decide)) ?_
  refine fn_goi (wc := [(m0, .inr (12, [.int 0, .ref (v 0), .ref (v 1), .ref (v 2), .ref (v 3), .ref (v 4), .int 0, .int 0, .int 0, .int 0, .int 0, .long 0, .int 0, .int 0, .int 0, .int (-1), .ref (v 5), .ref (v 6), .ref (v 7), .ref (v 8), .ref (v 9), .ref (v 10), .ref (v 11), .ref (v 12), .ref (v 13), .ref (v 14), .ref (v 15), .ref (v 16), .ref (v 17), .ref (v 18), .ref (v 19), .ref (v 20), .int 0, .int 0, .int 0, .int 0, .ref (v 21), .ref (v 22), .ref (v 23), .int 0, .int 0, .ref (v 24), .ref (v 25), .int 0, .int 0, .ref (v 26), .ref (v 27), .ref (v 28), .int 0, .int 0, .int 0])), ((v 5), .inl (K 0, 5, .inl (fun _ => 0))), ((v 6), .inl (K 0, 40, .inl (fun _ => 0)))]) (wr := []) hK hP hD hS hA [0, 5, 6] [] rfl rfl (by decide) (fun hp => va_runV (C := RX12) (As := [.int (xs 1)]) (rest := [.int (-2)]) ⟨hx, hb, hml, hown, hts⟩ (c_X12_ring (l := l) (D := D) (K := K) (m0 := (m0)) (p0 := ((xs 1))) (fm := ([.int 0, .ref (v 0), .ref (v 1), .ref (v 2), .ref (v 3), .ref (v 4), .int 0, .int 0, .int 0, .int 0, .int 0, .long 0, .int 0, .int 0, .int 0, .int (-1), .ref (v 5), .ref (v 6), .ref (v 7), .ref (v 8), .ref (v 9), .ref (v 10), .ref (v 11), .ref (v 12), .ref (v 13), .ref (v 14), .ref (v 15), .ref (v 16), .ref (v 17), .ref (v 18), .ref (v 19), .ref (v 20), .int 0, .int 0, .int 0, .int 0, .ref (v 21), .ref (v 22), .ref (v 23), .int 0, .int 0, .ref (v 24), .ref (v 25), .int 0, .int 0, .ref (v 26), .ref (v 27), .ref (v 28), .int 0, .int 0, .int 0])) (hmn := rfl) (al := ((v 5))) (hm16 := rfl) (ah := ((v 6))) (hm17 := rfl) (fl := (fun _ => 0)) (hfl := (fun _ => rfl)) (fh := (fun _ => 0)) (hfh := (fun _ => rfl)) _) (cwV 1 hts (fn_ginV (fn_gin wd_1656) wd_1653 wd_1654 wd_1655 wd_13) rfl rfl rfl (by decide +kernel) ⟨Nat.le_of_ble_eq_true rfl, Nat.le_of_ble_eq_true rfl⟩) ⟨fn_blind, va_recv hK.1 hP (ci := 12) (q0 := 0) rfl rfl, hp⟩ rfl rfl hl.1 rfl (lv_room (Nat.le_of_ble_eq_true rfl)) dL_law_839 ⟨Nat.le_of_ble_eq_true rfl, Nat.le_of_ble_eq_true rfl⟩) (fun r4 u3 H locs hwu3 hP hD hS => ?_)
  have r4_e : r4 = (-2) := hwu3
  subst r4_e
  have hP : va_P D vwCl [] H := hP
  have hD : va_D A [] := hD
  refine lv_icmp_eq (tgt := 1996) hx hb dL_law_842 (by decide) (fun _ => ?_) (fun h9 => absurd (by decide) h9)
  refine lv_iinc (v := 6) (lv' := [(3, .int 6), (2, .ref m0), (1, .ref x0), (0, .ref b)]) hx hb dL_law_1996 hl (k := 0) rfl (by decide) (by decide) rfl (fun ls hl => ?_)
  refine lv_goto (tgt := 18) hx hb dL_law_1999 (by decide) ?_
  refine lv_iload_n hx hb dL_law_18 rfl (lv_at hl 0 rfl) ?_
  refine lv_aload_n hx hb dL_law_19 rfl (lv_at hl 3 rfl) ?_
  refine fn_at 20 rfl ?_
  refine va_slen hx hb hX hbl hbA hS dL_law_20 ?_
  refine fn_top 6 (by decide) ?_
  refine lv_bipush (v := 6) hx hb dL_law_21 (by decide) ?_
  refine lv_isub hx hb dL_law_23 ?_
  refine fn_top 0 (by decide) ?_
  refine lv_icmp_gt (tgt := 2002) hx hb dL_law_24 (by decide) (fun _ => ?_) (fun h9 => absurd (by decide) h9)
  refine lv_iconst (v := 1) hx hb dL_law_2002 (by decide) ?_
  refine va_forget (fun q hq => by have h9 := hS.2.2 q hq; rw [← hAe] at h9; exact h9) ?_
  refine W.widen (k := 600000) (n := 7302250) (Nat.le_of_ble_eq_true rfl) (Nat.le_of_ble_eq_true rfl) ?_
  exact lw_ret hx hb hr hlocks dL_law_2003
theorem dL_law_847 : decode cL_law 847 = .ok (.aload_n 1, 1) := by decide +kernel
theorem dL_law_848 : decode cL_law 848 = .ok (.aload_n 0, 1) := by decide +kernel
theorem dL_law_849 : decode cL_law 849 = .ok (.iload_n 3, 1) := by decide +kernel
theorem dL_law_850 : decode cL_law 850 = .ok (.iconst 1, 1) := by decide +kernel
theorem dL_law_851 : decode cL_law 851 = .ok (.iadd, 1) := by decide +kernel
theorem dL_law_852 : decode cL_law 852 = .ok (.iaload, 1) := by decide +kernel
theorem dL_law_853 : decode cL_law 853 = .ok (.invokevirtual 101, 3) := by decide +kernel
theorem dL_law_856 : decode cL_law 856 = .ok (.aload_n 2, 1) := by decide +kernel
theorem dL_law_857 : decode cL_law 857 = .ok (.aload_n 0, 1) := by decide +kernel
theorem dL_law_858 : decode cL_law 858 = .ok (.iload_n 3, 1) := by decide +kernel
theorem dL_law_859 : decode cL_law 859 = .ok (.iconst 1, 1) := by decide +kernel
theorem dL_law_860 : decode cL_law 860 = .ok (.iadd, 1) := by decide +kernel
theorem dL_law_861 : decode cL_law 861 = .ok (.iaload, 1) := by decide +kernel
theorem dL_law_862 : decode cL_law 862 = .ok (.invokevirtual 104, 3) := by decide +kernel
theorem dL_law_865 : decode cL_law 865 = .ok (.if_icmp .eq 1131, 3) := by decide +kernel
set_option maxHeartbeats 4000000 in
set_option maxRecDepth 100000 in
theorem law_21 {p : Program} {l : Launch} {e : Env} {s : State} {m : MethodId} {below : List Frame} {meth : Method} {c : Code} {b : Nat} {xs : Nat → Int32} (hx : p.tables.exec = Jvm.exec) (hb : c.code = cL_law) (hr : meth.sig.returnType = ret) (hml : c.maxLocals = 4) (hown : s.vm.findClass RL = some m.cls) (hts : ∀ w ∈ fn_big, w.before #[Value.ref b] s = true) (hX : va_X b 6 xs s s.heap) (hbl : b < s.heap.size) (hlocks : meth.locks = false) {D : va_G} {K : Nat → ClassId} (hK : fn_KK D K s) {x0 m0 : Nat} {u v : Nat → Nat} {fw : Nat → Int32} (hfw : ∀ j, j < 4 → fw j = -1) {A : Nat → Prop} (hAe : (fun q : Nat => s.heap.size ≤ q) = A) : ∀ (H : Heap) (locs : List Loc) (ls : Array Slot), va_P D vwCl (fn_world K x0 m0 u v fw) H → va_D A (fn_world K x0 m0 u v fw) → va_S A s.heap H locs → lv_has ls 4 [(3, .int 0), (2, .ref m0), (1, .ref x0), (0, .ref b)] → W p l e room_1 s m #[Value.ref b] below meth c H locs 144 12710 (lw_Z below #[Value.ref b] s) (F0 m 847 ls []) := by
  intro H locs ls hP hD hS hl
  have hA : ∀ q : Nat, s.heap.size ≤ q → A q := fun q h => by rw [← hAe]; exact h
  have hbA : ¬ A b := by rw [← hAe]; exact Nat.not_le.mpr hbl
  refine lv_aload_n hx hb dL_law_847 rfl (lv_at hl 2 rfl) ?_
  refine lv_aload_n hx hb dL_law_848 rfl (lv_at hl 3 rfl) ?_
  refine lv_iload_n hx hb dL_law_849 rfl (lv_at hl 0 rfl) ?_
  refine lv_iconst (v := 1) hx hb dL_law_850 (by decide) ?_
  refine lv_iadd hx hb dL_law_851 ?_
  refine fn_top 1 (by decide) ?_
  refine va_sld hx hb hX hbl hbA hS (by unfold vp_in; decide) dL_law_852 ?_
  refine fn_top (xs 1) (congrArg xs (by decide)) ?_
  refine fn_goi (wc := [(x0, .inr (11, [.ref (u 0), .ref (u 10), .ref (u 17), .ref (u 25), .ref (u 26), .ref (u 27), .ref (u 28), .ref (u 29), .ref (u 34), .ref (u 39), .ref (u 43), .ref (u 51), .ref (u 55)])), ((u 10), .inr (7, [.int 0, .int 0, .int 0, .int 0, .int 0, .int 0, .int 0, .int 0, .int 0, .ref (u 11), .ref (u 12), .ref (u 13), .ref (u 14), .ref (u 15), .ref (u 16)]))]) (wr := [(m0, .inr (12, [.int 0, .ref (v 0), .ref (v 1), .ref (v 2), .ref (v 3), .ref (v 4), .int 0, .int 0, .int 0, .int 0, .int 0, .long 0, .int 0, .int 0, .int 0, .int (-1), .ref (v 5), .ref (v 6), .ref (v 7), .ref (v 8), .ref (v 9), .ref (v 10), .ref (v 11), .ref (v 12), .ref (v 13), .ref (v 14), .ref (v 15), .ref (v 16), .ref (v 17), .ref (v 18), .ref (v 19), .ref (v 20), .int 0, .int 0, .int 0, .int 0, .ref (v 21), .ref (v 22), .ref (v 23), .int 0, .int 0, .ref (v 24), .ref (v 25), .int 0, .int 0, .ref (v 26), .ref (v 27), .ref (v 28), .int 0, .int 0, .int 0])), ((v 0), .inl (K 0, 4, .inl fw)), ((v 1), .inl (K 0, 4, .inl (fun _ => 0))), ((v 2), .inl (K 3, 240, .inr (.inl (fun _ => 0)))), ((v 4), .inl (K 1, 1400, .inl (fun _ => 0))), ((v 5), .inl (K 0, 5, .inl (fun _ => 0))), ((v 6), .inl (K 0, 40, .inl (fun _ => 0))), ((v 7), .inl (K 0, 50, .inl (fun _ => 0))), ((v 8), .inl (K 0, 60, .inl (fun _ => 0))), ((v 9), .inl (K 0, 480, .inl (fun _ => 0))), ((v 10), .inl (K 0, 600, .inl (fun _ => 0))), ((v 11), .inl (K 2, 3, .inl (fun _ => 0)))]) hK hP hD hS hA [0, 11] [88, 89, 90, 91, 92, 93, 94, 95, 96, 97, 98, 99] rfl rfl (by decide) (fun hp => va_runV (C := RX11) (As := [.int (xs 1)]) (rest := []) ⟨hx, hb, hml, hown, hts⟩ (c_X11_way (l := l) (D := D) (K := K) (x0 := (x0)) (p0 := ((xs 1))) (fx := ([.ref (u 0), .ref (u 10), .ref (u 17), .ref (u 25), .ref (u 26), .ref (u 27), .ref (u 28), .ref (u 29), .ref (u 34), .ref (u 39), .ref (u 43), .ref (u 51), .ref (u 55)])) (t0 := ((u 10))) (hx1 := rfl) (ft := ([.int 0, .int 0, .int 0, .int 0, .int 0, .int 0, .int 0, .int 0, .int 0, .ref (u 11), .ref (u 12), .ref (u 13), .ref (u 14), .ref (u 15), .ref (u 16)])) (ht0 := rfl) (ht3 := rfl) (ht4 := rfl) (ht5 := rfl) _) (cwV 1 hts (fn_ginV (fn_gin wd_789) wd_786 wd_787 wd_788 wd_1) rfl rfl rfl (by decide +kernel) ⟨Nat.le_of_ble_eq_true rfl, Nat.le_of_ble_eq_true rfl⟩) ⟨fn_blind, va_recv hK.1 hP (ci := 11) (q0 := 0) rfl rfl, hp⟩ rfl rfl hl.1 rfl (lv_room (Nat.le_of_ble_eq_true rfl)) dL_law_853 ⟨Nat.le_of_ble_eq_true rfl, Nat.le_of_ble_eq_true rfl⟩) (fun r2 u1 H locs hwu1 hP hD hS => ?_)
  have r2_e : r2 = (-2) := hwu1
  subst r2_e
  have hP : va_P D vwCl [(m0, .inr (12, [.int 0, .ref (v 0), .ref (v 1), .ref (v 2), .ref (v 3), .ref (v 4), .int 0, .int 0, .int 0, .int 0, .int 0, .long 0, .int 0, .int 0, .int 0, .int (-1), .ref (v 5), .ref (v 6), .ref (v 7), .ref (v 8), .ref (v 9), .ref (v 10), .ref (v 11), .ref (v 12), .ref (v 13), .ref (v 14), .ref (v 15), .ref (v 16), .ref (v 17), .ref (v 18), .ref (v 19), .ref (v 20), .int 0, .int 0, .int 0, .int 0, .ref (v 21), .ref (v 22), .ref (v 23), .int 0, .int 0, .ref (v 24), .ref (v 25), .int 0, .int 0, .ref (v 26), .ref (v 27), .ref (v 28), .int 0, .int 0, .int 0])), ((v 0), .inl (K 0, 4, .inl fw)), ((v 1), .inl (K 0, 4, .inl (fun _ => 0))), ((v 2), .inl (K 3, 240, .inr (.inl (fun _ => 0)))), ((v 4), .inl (K 1, 1400, .inl (fun _ => 0))), ((v 5), .inl (K 0, 5, .inl (fun _ => 0))), ((v 6), .inl (K 0, 40, .inl (fun _ => 0))), ((v 7), .inl (K 0, 50, .inl (fun _ => 0))), ((v 8), .inl (K 0, 60, .inl (fun _ => 0))), ((v 9), .inl (K 0, 480, .inl (fun _ => 0))), ((v 10), .inl (K 0, 600, .inl (fun _ => 0))), ((v 11), .inl (K 2, 3, .inl (fun _ => 0)))] H := hP
  have hD : va_D A [(m0, .inr (12, [.int 0, .ref (v 0), .ref (v 1), .ref (v 2), .ref (v 3), .ref (v 4), .int 0, .int 0, .int 0, .int 0, .int 0, .long 0, .int 0, .int 0, .int 0, .int (-1), .ref (v 5), .ref (v 6), .ref (v 7), .ref (v 8), .ref (v 9), .ref (v 10), .ref (v 11), .ref (v 12), .ref (v 13), .ref (v 14), .ref (v 15), .ref (v 16), .ref (v 17), .ref (v 18), .ref (v 19), .ref (v 20), .int 0, .int 0, .int 0, .int 0, .ref (v 21), .ref (v 22), .ref (v 23), .int 0, .int 0, .ref (v 24), .ref (v 25), .int 0, .int 0, .ref (v 26), .ref (v 27), .ref (v 28), .int 0, .int 0, .int 0])), ((v 0), .inl (K 0, 4, .inl fw)), ((v 1), .inl (K 0, 4, .inl (fun _ => 0))), ((v 2), .inl (K 3, 240, .inr (.inl (fun _ => 0)))), ((v 4), .inl (K 1, 1400, .inl (fun _ => 0))), ((v 5), .inl (K 0, 5, .inl (fun _ => 0))), ((v 6), .inl (K 0, 40, .inl (fun _ => 0))), ((v 7), .inl (K 0, 50, .inl (fun _ => 0))), ((v 8), .inl (K 0, 60, .inl (fun _ => 0))), ((v 9), .inl (K 0, 480, .inl (fun _ => 0))), ((v 10), .inl (K 0, 600, .inl (fun _ => 0))), ((v 11), .inl (K 2, 3, .inl (fun _ => 0)))] := hD
  refine lv_aload_n hx hb dL_law_856 rfl (lv_at hl 1 rfl) ?_
  refine lv_aload_n hx hb dL_law_857 rfl (lv_at hl 3 rfl) ?_
  refine lv_iload_n hx hb dL_law_858 rfl (lv_at hl 0 rfl) ?_
  refine lv_iconst (v := 1) hx hb dL_law_859 (by decide) ?_
  refine lv_iadd hx hb dL_law_860 ?_
  refine fn_top 1 (by decide) ?_
  refine va_sld hx hb hX hbl hbA hS (by unfold vp_in; decide) dL_law_861 ?_
  refine fn_top (xs 1) (congrArg xs (by decide)) ?_
  refine fn_goi (wc := [(m0, .inr (12, [.int 0, .ref (v 0), .ref (v 1), .ref (v 2), .ref (v 3), .ref (v 4), .int 0, .int 0, .int 0, .int 0, .int 0, .long 0, .int 0, .int 0, .int 0, .int (-1), .ref (v 5), .ref (v 6), .ref (v 7), .ref (v 8), .ref (v 9), .ref (v 10), .ref (v 11), .ref (v 12), .ref (v 13), .ref (v 14), .ref (v 15), .ref (v 16), .ref (v 17), .ref (v 18), .ref (v 19), .ref (v 20), .int 0, .int 0, .int 0, .int 0, .ref (v 21), .ref (v 22), .ref (v 23), .int 0, .int 0, .ref (v 24), .ref (v 25), .int 0, .int 0, .ref (v 26), .ref (v 27), .ref (v 28), .int 0, .int 0, .int 0])), ((v 5), .inl (K 0, 5, .inl (fun _ => 0))), ((v 6), .inl (K 0, 40, .inl (fun _ => 0)))]) (wr := []) hK hP hD hS hA [0, 5, 6] [] rfl rfl (by decide) (fun hp => va_runV (C := RX12) (As := [.int (xs 1)]) (rest := [.int (-2)]) ⟨hx, hb, hml, hown, hts⟩ (c_X12_way (l := l) (D := D) (K := K) (m0 := (m0)) (p0 := ((xs 1))) (fm := ([.int 0, .ref (v 0), .ref (v 1), .ref (v 2), .ref (v 3), .ref (v 4), .int 0, .int 0, .int 0, .int 0, .int 0, .long 0, .int 0, .int 0, .int 0, .int (-1), .ref (v 5), .ref (v 6), .ref (v 7), .ref (v 8), .ref (v 9), .ref (v 10), .ref (v 11), .ref (v 12), .ref (v 13), .ref (v 14), .ref (v 15), .ref (v 16), .ref (v 17), .ref (v 18), .ref (v 19), .ref (v 20), .int 0, .int 0, .int 0, .int 0, .ref (v 21), .ref (v 22), .ref (v 23), .int 0, .int 0, .ref (v 24), .ref (v 25), .int 0, .int 0, .ref (v 26), .ref (v 27), .ref (v 28), .int 0, .int 0, .int 0])) (hmn := rfl) (al := ((v 5))) (hm16 := rfl) (ah := ((v 6))) (hm17 := rfl) (fl := (fun _ => 0)) (hfl := (fun _ => rfl)) (fh := (fun _ => 0)) (hfh := (fun _ => rfl)) _) (cwV 1 hts (fn_ginV (fn_gin wd_1660) wd_1657 wd_1658 wd_1659 wd_13) rfl rfl rfl (by decide +kernel) ⟨Nat.le_of_ble_eq_true rfl, Nat.le_of_ble_eq_true rfl⟩) ⟨fn_blind, va_recv hK.1 hP (ci := 12) (q0 := 0) rfl rfl, hp⟩ rfl rfl hl.1 rfl (lv_room (Nat.le_of_ble_eq_true rfl)) dL_law_862 ⟨Nat.le_of_ble_eq_true rfl, Nat.le_of_ble_eq_true rfl⟩) (fun r4 u3 H locs hwu3 hP hD hS => ?_)
  have r4_e : r4 = (-2) := hwu3
  subst r4_e
  have hP : va_P D vwCl [] H := hP
  have hD : va_D A [] := hD
  refine lv_icmp_eq (tgt := 1996) hx hb dL_law_865 (by decide) (fun _ => ?_) (fun h9 => absurd (by decide) h9)
  refine lv_iinc (v := 6) (lv' := [(3, .int 6), (2, .ref m0), (1, .ref x0), (0, .ref b)]) hx hb dL_law_1996 hl (k := 0) rfl (by decide) (by decide) rfl (fun ls hl => ?_)
  refine lv_goto (tgt := 18) hx hb dL_law_1999 (by decide) ?_
  refine lv_iload_n hx hb dL_law_18 rfl (lv_at hl 0 rfl) ?_
  refine lv_aload_n hx hb dL_law_19 rfl (lv_at hl 3 rfl) ?_
  refine fn_at 20 rfl ?_
  refine va_slen hx hb hX hbl hbA hS dL_law_20 ?_
  refine fn_top 6 (by decide) ?_
  refine lv_bipush (v := 6) hx hb dL_law_21 (by decide) ?_
  refine lv_isub hx hb dL_law_23 ?_
  refine fn_top 0 (by decide) ?_
  refine lv_icmp_gt (tgt := 2002) hx hb dL_law_24 (by decide) (fun _ => ?_) (fun h9 => absurd (by decide) h9)
  refine lv_iconst (v := 1) hx hb dL_law_2002 (by decide) ?_
  refine va_forget (fun q hq => by have h9 := hS.2.2 q hq; rw [← hAe] at h9; exact h9) ?_
  refine W.widen (k := 600000) (n := 7302250) (Nat.le_of_ble_eq_true rfl) (Nat.le_of_ble_eq_true rfl) ?_
  exact lw_ret hx hb hr hlocks dL_law_2003
theorem dL_law_870 : decode cL_law 870 = .ok (.aload_n 1, 1) := by decide +kernel
theorem dL_law_871 : decode cL_law 871 = .ok (.aload_n 0, 1) := by decide +kernel
theorem dL_law_872 : decode cL_law 872 = .ok (.iload_n 3, 1) := by decide +kernel
theorem dL_law_873 : decode cL_law 873 = .ok (.iconst 1, 1) := by decide +kernel
theorem dL_law_874 : decode cL_law 874 = .ok (.iadd, 1) := by decide +kernel
theorem dL_law_875 : decode cL_law 875 = .ok (.iaload, 1) := by decide +kernel
theorem dL_law_876 : decode cL_law 876 = .ok (.aload_n 0, 1) := by decide +kernel
theorem dL_law_877 : decode cL_law 877 = .ok (.iload_n 3, 1) := by decide +kernel
theorem dL_law_878 : decode cL_law 878 = .ok (.iconst 2, 1) := by decide +kernel
theorem dL_law_879 : decode cL_law 879 = .ok (.iadd, 1) := by decide +kernel
theorem dL_law_880 : decode cL_law 880 = .ok (.iaload, 1) := by decide +kernel
theorem dL_law_881 : decode cL_law 881 = .ok (.invokevirtual 105, 3) := by decide +kernel
theorem dL_law_884 : decode cL_law 884 = .ok (.aload_n 2, 1) := by decide +kernel
theorem dL_law_885 : decode cL_law 885 = .ok (.aload_n 0, 1) := by decide +kernel
theorem dL_law_886 : decode cL_law 886 = .ok (.iload_n 3, 1) := by decide +kernel
theorem dL_law_887 : decode cL_law 887 = .ok (.iconst 1, 1) := by decide +kernel
theorem dL_law_888 : decode cL_law 888 = .ok (.iadd, 1) := by decide +kernel
theorem dL_law_889 : decode cL_law 889 = .ok (.iaload, 1) := by decide +kernel
theorem dL_law_890 : decode cL_law 890 = .ok (.aload_n 0, 1) := by decide +kernel
theorem dL_law_891 : decode cL_law 891 = .ok (.iload_n 3, 1) := by decide +kernel
theorem dL_law_892 : decode cL_law 892 = .ok (.iconst 2, 1) := by decide +kernel
theorem dL_law_893 : decode cL_law 893 = .ok (.iadd, 1) := by decide +kernel
theorem dL_law_894 : decode cL_law 894 = .ok (.iaload, 1) := by decide +kernel
theorem dL_law_895 : decode cL_law 895 = .ok (.invokevirtual 108, 3) := by decide +kernel
theorem dL_law_898 : decode cL_law 898 = .ok (.if_icmp .eq 1098, 3) := by decide +kernel
set_option maxHeartbeats 4000000 in
set_option maxRecDepth 100000 in
theorem law_22 {p : Program} {l : Launch} {e : Env} {s : State} {m : MethodId} {below : List Frame} {meth : Method} {c : Code} {b : Nat} {xs : Nat → Int32} (hx : p.tables.exec = Jvm.exec) (hb : c.code = cL_law) (hr : meth.sig.returnType = ret) (hml : c.maxLocals = 4) (hown : s.vm.findClass RL = some m.cls) (hts : ∀ w ∈ fn_big, w.before #[Value.ref b] s = true) (hX : va_X b 6 xs s s.heap) (hbl : b < s.heap.size) (hlocks : meth.locks = false) {D : va_G} {K : Nat → ClassId} (hK : fn_KK D K s) {x0 m0 : Nat} {u v : Nat → Nat} {fw : Nat → Int32} (hfw : ∀ j, j < 4 → fw j = -1) {A : Nat → Prop} (hAe : (fun q : Nat => s.heap.size ≤ q) = A) : ∀ (H : Heap) (locs : List Loc) (ls : Array Slot), va_P D vwCl (fn_world K x0 m0 u v fw) H → va_D A (fn_world K x0 m0 u v fw) → va_S A s.heap H locs → lv_has ls 4 [(3, .int 0), (2, .ref m0), (1, .ref x0), (0, .ref b)] → W p l e room_1 s m #[Value.ref b] below meth c H locs 144 12710 (lw_Z below #[Value.ref b] s) (F0 m 870 ls []) := by
  intro H locs ls hP hD hS hl
  have hA : ∀ q : Nat, s.heap.size ≤ q → A q := fun q h => by rw [← hAe]; exact h
  have hbA : ¬ A b := by rw [← hAe]; exact Nat.not_le.mpr hbl
  refine lv_aload_n hx hb dL_law_870 rfl (lv_at hl 2 rfl) ?_
  refine lv_aload_n hx hb dL_law_871 rfl (lv_at hl 3 rfl) ?_
  refine lv_iload_n hx hb dL_law_872 rfl (lv_at hl 0 rfl) ?_
  refine lv_iconst (v := 1) hx hb dL_law_873 (by decide) ?_
  refine lv_iadd hx hb dL_law_874 ?_
  refine fn_top 1 (by decide) ?_
  refine va_sld hx hb hX hbl hbA hS (by unfold vp_in; decide) dL_law_875 ?_
  refine fn_top (xs 1) (congrArg xs (by decide)) ?_
  refine lv_aload_n hx hb dL_law_876 rfl (lv_at hl 3 rfl) ?_
  refine lv_iload_n hx hb dL_law_877 rfl (lv_at hl 0 rfl) ?_
  refine lv_iconst (v := 2) hx hb dL_law_878 (by decide) ?_
  refine lv_iadd hx hb dL_law_879 ?_
  refine fn_top 2 (by decide) ?_
  refine va_sld hx hb hX hbl hbA hS (by unfold vp_in; decide) dL_law_880 ?_
  refine fn_top (xs 2) (congrArg xs (by decide)) ?_
  refine fn_goi (wc := [(x0, .inr (11, [.ref (u 0), .ref (u 10), .ref (u 17), .ref (u 25), .ref (u 26), .ref (u 27), .ref (u 28), .ref (u 29), .ref (u 34), .ref (u 39), .ref (u 43), .ref (u 51), .ref (u 55)])), ((u 10), .inr (7, [.int 0, .int 0, .int 0, .int 0, .int 0, .int 0, .int 0, .int 0, .int 0, .ref (u 11), .ref (u 12), .ref (u 13), .ref (u 14), .ref (u 15), .ref (u 16)]))]) (wr := [(m0, .inr (12, [.int 0, .ref (v 0), .ref (v 1), .ref (v 2), .ref (v 3), .ref (v 4), .int 0, .int 0, .int 0, .int 0, .int 0, .long 0, .int 0, .int 0, .int 0, .int (-1), .ref (v 5), .ref (v 6), .ref (v 7), .ref (v 8), .ref (v 9), .ref (v 10), .ref (v 11), .ref (v 12), .ref (v 13), .ref (v 14), .ref (v 15), .ref (v 16), .ref (v 17), .ref (v 18), .ref (v 19), .ref (v 20), .int 0, .int 0, .int 0, .int 0, .ref (v 21), .ref (v 22), .ref (v 23), .int 0, .int 0, .ref (v 24), .ref (v 25), .int 0, .int 0, .ref (v 26), .ref (v 27), .ref (v 28), .int 0, .int 0, .int 0])), ((v 0), .inl (K 0, 4, .inl fw)), ((v 1), .inl (K 0, 4, .inl (fun _ => 0))), ((v 2), .inl (K 3, 240, .inr (.inl (fun _ => 0)))), ((v 4), .inl (K 1, 1400, .inl (fun _ => 0))), ((v 5), .inl (K 0, 5, .inl (fun _ => 0))), ((v 6), .inl (K 0, 40, .inl (fun _ => 0))), ((v 7), .inl (K 0, 50, .inl (fun _ => 0))), ((v 8), .inl (K 0, 60, .inl (fun _ => 0))), ((v 9), .inl (K 0, 480, .inl (fun _ => 0))), ((v 10), .inl (K 0, 600, .inl (fun _ => 0))), ((v 11), .inl (K 2, 3, .inl (fun _ => 0)))]) hK hP hD hS hA [0, 11] [88, 89, 90, 91, 92, 93, 94, 95, 96, 97, 98, 99] rfl rfl (by decide) (fun hp => va_runV (C := RX11) (As := [.int (xs 1), .int (xs 2)]) (rest := []) ⟨hx, hb, hml, hown, hts⟩ (c_X11_step (l := l) (D := D) (K := K) (x0 := (x0)) (p0 := ((xs 1))) (p1 := ((xs 2))) (fx := ([.ref (u 0), .ref (u 10), .ref (u 17), .ref (u 25), .ref (u 26), .ref (u 27), .ref (u 28), .ref (u 29), .ref (u 34), .ref (u 39), .ref (u 43), .ref (u 51), .ref (u 55)])) (t0 := ((u 10))) (hx1 := rfl) (ft := ([.int 0, .int 0, .int 0, .int 0, .int 0, .int 0, .int 0, .int 0, .int 0, .ref (u 11), .ref (u 12), .ref (u 13), .ref (u 14), .ref (u 15), .ref (u 16)])) (ht0 := rfl) (ht3 := rfl) (ht4 := rfl) (ht5 := rfl) _) (cwV 2 hts (fn_ginV (fn_gin wd_797) wd_794 wd_795 wd_796 wd_1) rfl rfl rfl (by decide +kernel) ⟨Nat.le_of_ble_eq_true rfl, Nat.le_of_ble_eq_true rfl⟩) ⟨fn_blind, va_recv hK.1 hP (ci := 11) (q0 := 0) rfl rfl, hp⟩ rfl rfl hl.1 rfl (lv_room (Nat.le_of_ble_eq_true rfl)) dL_law_881 ⟨Nat.le_of_ble_eq_true rfl, Nat.le_of_ble_eq_true rfl⟩) (fun r2 u1 H locs hwu1 hP hD hS => ?_)
  have r2_e : r2 = (-2) := hwu1
  subst r2_e
  have hP : va_P D vwCl [(m0, .inr (12, [.int 0, .ref (v 0), .ref (v 1), .ref (v 2), .ref (v 3), .ref (v 4), .int 0, .int 0, .int 0, .int 0, .int 0, .long 0, .int 0, .int 0, .int 0, .int (-1), .ref (v 5), .ref (v 6), .ref (v 7), .ref (v 8), .ref (v 9), .ref (v 10), .ref (v 11), .ref (v 12), .ref (v 13), .ref (v 14), .ref (v 15), .ref (v 16), .ref (v 17), .ref (v 18), .ref (v 19), .ref (v 20), .int 0, .int 0, .int 0, .int 0, .ref (v 21), .ref (v 22), .ref (v 23), .int 0, .int 0, .ref (v 24), .ref (v 25), .int 0, .int 0, .ref (v 26), .ref (v 27), .ref (v 28), .int 0, .int 0, .int 0])), ((v 0), .inl (K 0, 4, .inl fw)), ((v 1), .inl (K 0, 4, .inl (fun _ => 0))), ((v 2), .inl (K 3, 240, .inr (.inl (fun _ => 0)))), ((v 4), .inl (K 1, 1400, .inl (fun _ => 0))), ((v 5), .inl (K 0, 5, .inl (fun _ => 0))), ((v 6), .inl (K 0, 40, .inl (fun _ => 0))), ((v 7), .inl (K 0, 50, .inl (fun _ => 0))), ((v 8), .inl (K 0, 60, .inl (fun _ => 0))), ((v 9), .inl (K 0, 480, .inl (fun _ => 0))), ((v 10), .inl (K 0, 600, .inl (fun _ => 0))), ((v 11), .inl (K 2, 3, .inl (fun _ => 0)))] H := hP
  have hD : va_D A [(m0, .inr (12, [.int 0, .ref (v 0), .ref (v 1), .ref (v 2), .ref (v 3), .ref (v 4), .int 0, .int 0, .int 0, .int 0, .int 0, .long 0, .int 0, .int 0, .int 0, .int (-1), .ref (v 5), .ref (v 6), .ref (v 7), .ref (v 8), .ref (v 9), .ref (v 10), .ref (v 11), .ref (v 12), .ref (v 13), .ref (v 14), .ref (v 15), .ref (v 16), .ref (v 17), .ref (v 18), .ref (v 19), .ref (v 20), .int 0, .int 0, .int 0, .int 0, .ref (v 21), .ref (v 22), .ref (v 23), .int 0, .int 0, .ref (v 24), .ref (v 25), .int 0, .int 0, .ref (v 26), .ref (v 27), .ref (v 28), .int 0, .int 0, .int 0])), ((v 0), .inl (K 0, 4, .inl fw)), ((v 1), .inl (K 0, 4, .inl (fun _ => 0))), ((v 2), .inl (K 3, 240, .inr (.inl (fun _ => 0)))), ((v 4), .inl (K 1, 1400, .inl (fun _ => 0))), ((v 5), .inl (K 0, 5, .inl (fun _ => 0))), ((v 6), .inl (K 0, 40, .inl (fun _ => 0))), ((v 7), .inl (K 0, 50, .inl (fun _ => 0))), ((v 8), .inl (K 0, 60, .inl (fun _ => 0))), ((v 9), .inl (K 0, 480, .inl (fun _ => 0))), ((v 10), .inl (K 0, 600, .inl (fun _ => 0))), ((v 11), .inl (K 2, 3, .inl (fun _ => 0)))] := hD
  refine lv_aload_n hx hb dL_law_884 rfl (lv_at hl 1 rfl) ?_
  refine lv_aload_n hx hb dL_law_885 rfl (lv_at hl 3 rfl) ?_
  refine lv_iload_n hx hb dL_law_886 rfl (lv_at hl 0 rfl) ?_
  refine lv_iconst (v := 1) hx hb dL_law_887 (by decide) ?_
  refine lv_iadd hx hb dL_law_888 ?_
  refine fn_top 1 (by decide) ?_
  refine va_sld hx hb hX hbl hbA hS (by unfold vp_in; decide) dL_law_889 ?_
  refine fn_top (xs 1) (congrArg xs (by decide)) ?_
  refine lv_aload_n hx hb dL_law_890 rfl (lv_at hl 3 rfl) ?_
  refine fn_at 891 rfl ?_
  refine lv_iload_n hx hb dL_law_891 rfl (lv_at hl 0 rfl) ?_
  refine lv_iconst (v := 2) hx hb dL_law_892 (by decide) ?_
  refine lv_iadd hx hb dL_law_893 ?_
  refine fn_top 2 (by decide) ?_
  refine va_sld hx hb hX hbl hbA hS (by unfold vp_in; decide) dL_law_894 ?_
  refine fn_top (xs 2) (congrArg xs (by decide)) ?_
  refine fn_goi (wc := [(m0, .inr (12, [.int 0, .ref (v 0), .ref (v 1), .ref (v 2), .ref (v 3), .ref (v 4), .int 0, .int 0, .int 0, .int 0, .int 0, .long 0, .int 0, .int 0, .int 0, .int (-1), .ref (v 5), .ref (v 6), .ref (v 7), .ref (v 8), .ref (v 9), .ref (v 10), .ref (v 11), .ref (v 12), .ref (v 13), .ref (v 14), .ref (v 15), .ref (v 16), .ref (v 17), .ref (v 18), .ref (v 19), .ref (v 20), .int 0, .int 0, .int 0, .int 0, .ref (v 21), .ref (v 22), .ref (v 23), .int 0, .int 0, .ref (v 24), .ref (v 25), .int 0, .int 0, .ref (v 26), .ref (v 27), .ref (v 28), .int 0, .int 0, .int 0])), ((v 5), .inl (K 0, 5, .inl (fun _ => 0))), ((v 6), .inl (K 0, 40, .inl (fun _ => 0)))]) (wr := []) hK hP hD hS hA [0, 5, 6] [] rfl rfl (by decide) (fun hp => va_runV (C := RX12) (As := [.int (xs 1), .int (xs 2)]) (rest := [.int (-2)]) ⟨hx, hb, hml, hown, hts⟩ (c_X12_step (l := l) (D := D) (K := K) (m0 := (m0)) (p0 := ((xs 1))) (p1 := ((xs 2))) (fm := ([.int 0, .ref (v 0), .ref (v 1), .ref (v 2), .ref (v 3), .ref (v 4), .int 0, .int 0, .int 0, .int 0, .int 0, .long 0, .int 0, .int 0, .int 0, .int (-1), .ref (v 5), .ref (v 6), .ref (v 7), .ref (v 8), .ref (v 9), .ref (v 10), .ref (v 11), .ref (v 12), .ref (v 13), .ref (v 14), .ref (v 15), .ref (v 16), .ref (v 17), .ref (v 18), .ref (v 19), .ref (v 20), .int 0, .int 0, .int 0, .int 0, .ref (v 21), .ref (v 22), .ref (v 23), .int 0, .int 0, .ref (v 24), .ref (v 25), .int 0, .int 0, .ref (v 26), .ref (v 27), .ref (v 28), .int 0, .int 0, .int 0])) (hmn := rfl) (al := ((v 5))) (hm16 := rfl) (ah := ((v 6))) (hm17 := rfl) (fl := (fun _ => 0)) (hfl := (fun _ => rfl)) (fh := (fun _ => 0)) (hfh := (fun _ => rfl)) _) (cwV 2 hts (fn_ginV (fn_gin wd_1668) wd_1665 wd_1666 wd_1667 wd_13) rfl rfl rfl (by decide +kernel) ⟨Nat.le_of_ble_eq_true rfl, Nat.le_of_ble_eq_true rfl⟩) ⟨fn_blind, va_recv hK.1 hP (ci := 12) (q0 := 0) rfl rfl, hp⟩ rfl rfl hl.1 rfl (lv_room (Nat.le_of_ble_eq_true rfl)) dL_law_895 ⟨Nat.le_of_ble_eq_true rfl, Nat.le_of_ble_eq_true rfl⟩) (fun r4 u3 H locs hwu3 hP hD hS => ?_)
  have r4_e : r4 = (-2) := hwu3
  subst r4_e
  have hP : va_P D vwCl [] H := hP
  have hD : va_D A [] := hD
  refine lv_icmp_eq (tgt := 1996) hx hb dL_law_898 (by decide) (fun _ => ?_) (fun h9 => absurd (by decide) h9)
  refine lv_iinc (v := 6) (lv' := [(3, .int 6), (2, .ref m0), (1, .ref x0), (0, .ref b)]) hx hb dL_law_1996 hl (k := 0) rfl (by decide) (by decide) rfl (fun ls hl => ?_)
  refine lv_goto (tgt := 18) hx hb dL_law_1999 (by decide) ?_
  refine lv_iload_n hx hb dL_law_18 rfl (lv_at hl 0 rfl) ?_
  refine lv_aload_n hx hb dL_law_19 rfl (lv_at hl 3 rfl) ?_
  refine va_slen hx hb hX hbl hbA hS dL_law_20 ?_
  refine fn_top 6 (by decide) ?_
  refine lv_bipush (v := 6) hx hb dL_law_21 (by decide) ?_
  refine lv_isub hx hb dL_law_23 ?_
  refine fn_top 0 (by decide) ?_
  refine lv_icmp_gt (tgt := 2002) hx hb dL_law_24 (by decide) (fun _ => ?_) (fun h9 => absurd (by decide) h9)
  refine lv_iconst (v := 1) hx hb dL_law_2002 (by decide) ?_
  refine va_forget (fun q hq => by have h9 := hS.2.2 q hq; rw [← hAe] at h9; exact h9) ?_
  refine W.widen (k := 600000) (n := 7302250) (Nat.le_of_ble_eq_true rfl) (Nat.le_of_ble_eq_true rfl) ?_
  exact lw_ret hx hb hr hlocks dL_law_2003
theorem dL_law_903 : decode cL_law 903 = .ok (.aload_n 1, 1) := by decide +kernel
theorem dL_law_904 : decode cL_law 904 = .ok (.aload_n 0, 1) := by decide +kernel
theorem dL_law_905 : decode cL_law 905 = .ok (.iload_n 3, 1) := by decide +kernel
theorem dL_law_906 : decode cL_law 906 = .ok (.iconst 1, 1) := by decide +kernel
theorem dL_law_907 : decode cL_law 907 = .ok (.iadd, 1) := by decide +kernel
theorem dL_law_908 : decode cL_law 908 = .ok (.iaload, 1) := by decide +kernel
theorem dL_law_909 : decode cL_law 909 = .ok (.invokevirtual 109, 3) := by decide +kernel
theorem dL_law_912 : decode cL_law 912 = .ok (.aload_n 2, 1) := by decide +kernel
theorem dL_law_913 : decode cL_law 913 = .ok (.aload_n 0, 1) := by decide +kernel
theorem dL_law_914 : decode cL_law 914 = .ok (.iload_n 3, 1) := by decide +kernel
theorem dL_law_915 : decode cL_law 915 = .ok (.iconst 1, 1) := by decide +kernel
theorem dL_law_916 : decode cL_law 916 = .ok (.iadd, 1) := by decide +kernel
theorem dL_law_917 : decode cL_law 917 = .ok (.iaload, 1) := by decide +kernel
theorem dL_law_918 : decode cL_law 918 = .ok (.invokevirtual 112, 3) := by decide +kernel
theorem dL_law_921 : decode cL_law 921 = .ok (.if_icmp .eq 1075, 3) := by decide +kernel
set_option maxHeartbeats 4000000 in
set_option maxRecDepth 100000 in
theorem law_23 {p : Program} {l : Launch} {e : Env} {s : State} {m : MethodId} {below : List Frame} {meth : Method} {c : Code} {b : Nat} {xs : Nat → Int32} (hx : p.tables.exec = Jvm.exec) (hb : c.code = cL_law) (hr : meth.sig.returnType = ret) (hml : c.maxLocals = 4) (hown : s.vm.findClass RL = some m.cls) (hts : ∀ w ∈ fn_big, w.before #[Value.ref b] s = true) (hX : va_X b 6 xs s s.heap) (hbl : b < s.heap.size) (hlocks : meth.locks = false) {D : va_G} {K : Nat → ClassId} (hK : fn_KK D K s) {x0 m0 : Nat} {u v : Nat → Nat} {fw : Nat → Int32} (hfw : ∀ j, j < 4 → fw j = -1) {A : Nat → Prop} (hAe : (fun q : Nat => s.heap.size ≤ q) = A) : ∀ (H : Heap) (locs : List Loc) (ls : Array Slot), va_P D vwCl (fn_world K x0 m0 u v fw) H → va_D A (fn_world K x0 m0 u v fw) → va_S A s.heap H locs → lv_has ls 4 [(3, .int 0), (2, .ref m0), (1, .ref x0), (0, .ref b)] → W p l e room_1 s m #[Value.ref b] below meth c H locs 144 12710 (lw_Z below #[Value.ref b] s) (F0 m 903 ls []) := by
  intro H locs ls hP hD hS hl
  have hA : ∀ q : Nat, s.heap.size ≤ q → A q := fun q h => by rw [← hAe]; exact h
  have hbA : ¬ A b := by rw [← hAe]; exact Nat.not_le.mpr hbl
  refine lv_aload_n hx hb dL_law_903 rfl (lv_at hl 2 rfl) ?_
  refine lv_aload_n hx hb dL_law_904 rfl (lv_at hl 3 rfl) ?_
  refine lv_iload_n hx hb dL_law_905 rfl (lv_at hl 0 rfl) ?_
  refine lv_iconst (v := 1) hx hb dL_law_906 (by decide) ?_
  refine lv_iadd hx hb dL_law_907 ?_
  refine fn_top 1 (by decide) ?_
  refine va_sld hx hb hX hbl hbA hS (by unfold vp_in; decide) dL_law_908 ?_
  refine fn_top (xs 1) (congrArg xs (by decide)) ?_
  refine fn_goi (wc := [(x0, .inr (11, [.ref (u 0), .ref (u 10), .ref (u 17), .ref (u 25), .ref (u 26), .ref (u 27), .ref (u 28), .ref (u 29), .ref (u 34), .ref (u 39), .ref (u 43), .ref (u 51), .ref (u 55)])), ((u 10), .inr (7, [.int 0, .int 0, .int 0, .int 0, .int 0, .int 0, .int 0, .int 0, .int 0, .ref (u 11), .ref (u 12), .ref (u 13), .ref (u 14), .ref (u 15), .ref (u 16)]))]) (wr := [(m0, .inr (12, [.int 0, .ref (v 0), .ref (v 1), .ref (v 2), .ref (v 3), .ref (v 4), .int 0, .int 0, .int 0, .int 0, .int 0, .long 0, .int 0, .int 0, .int 0, .int (-1), .ref (v 5), .ref (v 6), .ref (v 7), .ref (v 8), .ref (v 9), .ref (v 10), .ref (v 11), .ref (v 12), .ref (v 13), .ref (v 14), .ref (v 15), .ref (v 16), .ref (v 17), .ref (v 18), .ref (v 19), .ref (v 20), .int 0, .int 0, .int 0, .int 0, .ref (v 21), .ref (v 22), .ref (v 23), .int 0, .int 0, .ref (v 24), .ref (v 25), .int 0, .int 0, .ref (v 26), .ref (v 27), .ref (v 28), .int 0, .int 0, .int 0])), ((v 0), .inl (K 0, 4, .inl fw)), ((v 1), .inl (K 0, 4, .inl (fun _ => 0))), ((v 2), .inl (K 3, 240, .inr (.inl (fun _ => 0)))), ((v 4), .inl (K 1, 1400, .inl (fun _ => 0))), ((v 5), .inl (K 0, 5, .inl (fun _ => 0))), ((v 6), .inl (K 0, 40, .inl (fun _ => 0))), ((v 7), .inl (K 0, 50, .inl (fun _ => 0))), ((v 8), .inl (K 0, 60, .inl (fun _ => 0))), ((v 9), .inl (K 0, 480, .inl (fun _ => 0))), ((v 10), .inl (K 0, 600, .inl (fun _ => 0))), ((v 11), .inl (K 2, 3, .inl (fun _ => 0)))]) hK hP hD hS hA [0, 11] [88, 89, 90, 91, 92, 93, 94, 95, 96, 97, 98, 99] rfl rfl (by decide) (fun hp => va_runV (C := RX11) (As := [.int (xs 1)]) (rest := []) ⟨hx, hb, hml, hown, hts⟩ (c_X11_depth (l := l) (D := D) (K := K) (x0 := (x0)) (p0 := ((xs 1))) (fx := ([.ref (u 0), .ref (u 10), .ref (u 17), .ref (u 25), .ref (u 26), .ref (u 27), .ref (u 28), .ref (u 29), .ref (u 34), .ref (u 39), .ref (u 43), .ref (u 51), .ref (u 55)])) (t0 := ((u 10))) (hx1 := rfl) (ft := ([.int 0, .int 0, .int 0, .int 0, .int 0, .int 0, .int 0, .int 0, .int 0, .ref (u 11), .ref (u 12), .ref (u 13), .ref (u 14), .ref (u 15), .ref (u 16)])) (ht0 := rfl) (ht3 := rfl) (ht4 := rfl) (ht5 := rfl) _) (cwV 1 hts (fn_ginV (fn_gin wd_806) wd_803 wd_804 wd_805 wd_1) rfl rfl rfl (by decide +kernel) ⟨Nat.le_of_ble_eq_true rfl, Nat.le_of_ble_eq_true rfl⟩) ⟨fn_blind, va_recv hK.1 hP (ci := 11) (q0 := 0) rfl rfl, hp⟩ rfl rfl hl.1 rfl (lv_room (Nat.le_of_ble_eq_true rfl)) dL_law_909 ⟨Nat.le_of_ble_eq_true rfl, Nat.le_of_ble_eq_true rfl⟩) (fun r2 u1 H locs hwu1 hP hD hS => ?_)
  have r2_e : r2 = (-2) := hwu1
  subst r2_e
  have hP : va_P D vwCl [(m0, .inr (12, [.int 0, .ref (v 0), .ref (v 1), .ref (v 2), .ref (v 3), .ref (v 4), .int 0, .int 0, .int 0, .int 0, .int 0, .long 0, .int 0, .int 0, .int 0, .int (-1), .ref (v 5), .ref (v 6), .ref (v 7), .ref (v 8), .ref (v 9), .ref (v 10), .ref (v 11), .ref (v 12), .ref (v 13), .ref (v 14), .ref (v 15), .ref (v 16), .ref (v 17), .ref (v 18), .ref (v 19), .ref (v 20), .int 0, .int 0, .int 0, .int 0, .ref (v 21), .ref (v 22), .ref (v 23), .int 0, .int 0, .ref (v 24), .ref (v 25), .int 0, .int 0, .ref (v 26), .ref (v 27), .ref (v 28), .int 0, .int 0, .int 0])), ((v 0), .inl (K 0, 4, .inl fw)), ((v 1), .inl (K 0, 4, .inl (fun _ => 0))), ((v 2), .inl (K 3, 240, .inr (.inl (fun _ => 0)))), ((v 4), .inl (K 1, 1400, .inl (fun _ => 0))), ((v 5), .inl (K 0, 5, .inl (fun _ => 0))), ((v 6), .inl (K 0, 40, .inl (fun _ => 0))), ((v 7), .inl (K 0, 50, .inl (fun _ => 0))), ((v 8), .inl (K 0, 60, .inl (fun _ => 0))), ((v 9), .inl (K 0, 480, .inl (fun _ => 0))), ((v 10), .inl (K 0, 600, .inl (fun _ => 0))), ((v 11), .inl (K 2, 3, .inl (fun _ => 0)))] H := hP
  have hD : va_D A [(m0, .inr (12, [.int 0, .ref (v 0), .ref (v 1), .ref (v 2), .ref (v 3), .ref (v 4), .int 0, .int 0, .int 0, .int 0, .int 0, .long 0, .int 0, .int 0, .int 0, .int (-1), .ref (v 5), .ref (v 6), .ref (v 7), .ref (v 8), .ref (v 9), .ref (v 10), .ref (v 11), .ref (v 12), .ref (v 13), .ref (v 14), .ref (v 15), .ref (v 16), .ref (v 17), .ref (v 18), .ref (v 19), .ref (v 20), .int 0, .int 0, .int 0, .int 0, .ref (v 21), .ref (v 22), .ref (v 23), .int 0, .int 0, .ref (v 24), .ref (v 25), .int 0, .int 0, .ref (v 26), .ref (v 27), .ref (v 28), .int 0, .int 0, .int 0])), ((v 0), .inl (K 0, 4, .inl fw)), ((v 1), .inl (K 0, 4, .inl (fun _ => 0))), ((v 2), .inl (K 3, 240, .inr (.inl (fun _ => 0)))), ((v 4), .inl (K 1, 1400, .inl (fun _ => 0))), ((v 5), .inl (K 0, 5, .inl (fun _ => 0))), ((v 6), .inl (K 0, 40, .inl (fun _ => 0))), ((v 7), .inl (K 0, 50, .inl (fun _ => 0))), ((v 8), .inl (K 0, 60, .inl (fun _ => 0))), ((v 9), .inl (K 0, 480, .inl (fun _ => 0))), ((v 10), .inl (K 0, 600, .inl (fun _ => 0))), ((v 11), .inl (K 2, 3, .inl (fun _ => 0)))] := hD
  refine lv_aload_n hx hb dL_law_912 rfl (lv_at hl 1 rfl) ?_
  refine lv_aload_n hx hb dL_law_913 rfl (lv_at hl 3 rfl) ?_
  refine lv_iload_n hx hb dL_law_914 rfl (lv_at hl 0 rfl) ?_
  refine lv_iconst (v := 1) hx hb dL_law_915 (by decide) ?_
  refine lv_iadd hx hb dL_law_916 ?_
  refine fn_top 1 (by decide) ?_
  refine va_sld hx hb hX hbl hbA hS (by unfold vp_in; decide) dL_law_917 ?_
  refine fn_top (xs 1) (congrArg xs (by decide)) ?_
  refine fn_goi (wc := [(m0, .inr (12, [.int 0, .ref (v 0), .ref (v 1), .ref (v 2), .ref (v 3), .ref (v 4), .int 0, .int 0, .int 0, .int 0, .int 0, .long 0, .int 0, .int 0, .int 0, .int (-1), .ref (v 5), .ref (v 6), .ref (v 7), .ref (v 8), .ref (v 9), .ref (v 10), .ref (v 11), .ref (v 12), .ref (v 13), .ref (v 14), .ref (v 15), .ref (v 16), .ref (v 17), .ref (v 18), .ref (v 19), .ref (v 20), .int 0, .int 0, .int 0, .int 0, .ref (v 21), .ref (v 22), .ref (v 23), .int 0, .int 0, .ref (v 24), .ref (v 25), .int 0, .int 0, .ref (v 26), .ref (v 27), .ref (v 28), .int 0, .int 0, .int 0])), ((v 5), .inl (K 0, 5, .inl (fun _ => 0))), ((v 6), .inl (K 0, 40, .inl (fun _ => 0)))]) (wr := []) hK hP hD hS hA [0, 5, 6] [] rfl rfl (by decide) (fun hp => va_runV (C := RX12) (As := [.int (xs 1)]) (rest := [.int (-2)]) ⟨hx, hb, hml, hown, hts⟩ (c_X12_depth (l := l) (D := D) (K := K) (m0 := (m0)) (p0 := ((xs 1))) (fm := ([.int 0, .ref (v 0), .ref (v 1), .ref (v 2), .ref (v 3), .ref (v 4), .int 0, .int 0, .int 0, .int 0, .int 0, .long 0, .int 0, .int 0, .int 0, .int (-1), .ref (v 5), .ref (v 6), .ref (v 7), .ref (v 8), .ref (v 9), .ref (v 10), .ref (v 11), .ref (v 12), .ref (v 13), .ref (v 14), .ref (v 15), .ref (v 16), .ref (v 17), .ref (v 18), .ref (v 19), .ref (v 20), .int 0, .int 0, .int 0, .int 0, .ref (v 21), .ref (v 22), .ref (v 23), .int 0, .int 0, .ref (v 24), .ref (v 25), .int 0, .int 0, .ref (v 26), .ref (v 27), .ref (v 28), .int 0, .int 0, .int 0])) (hmn := rfl) (al := ((v 5))) (hm16 := rfl) (ah := ((v 6))) (hm17 := rfl) (fl := (fun _ => 0)) (hfl := (fun _ => rfl)) (fh := (fun _ => 0)) (hfh := (fun _ => rfl)) _) (cwV 1 hts (fn_ginV (fn_gin wd_1672) wd_1669 wd_1670 wd_1671 wd_13) rfl rfl rfl (by decide +kernel) ⟨Nat.le_of_ble_eq_true rfl, Nat.le_of_ble_eq_true rfl⟩) ⟨fn_blind, va_recv hK.1 hP (ci := 12) (q0 := 0) rfl rfl, hp⟩ rfl rfl hl.1 rfl (lv_room (Nat.le_of_ble_eq_true rfl)) dL_law_918 ⟨Nat.le_of_ble_eq_true rfl, Nat.le_of_ble_eq_true rfl⟩) (fun r4 u3 H locs hwu3 hP hD hS => ?_)
  have r4_e : r4 = (-2) := hwu3
  subst r4_e
  have hP : va_P D vwCl [] H := hP
  have hD : va_D A [] := hD
  refine lv_icmp_eq (tgt := 1996) hx hb dL_law_921 (by decide) (fun _ => ?_) (fun h9 => absurd (by decide) h9)
  refine lv_iinc (v := 6) (lv' := [(3, .int 6), (2, .ref m0), (1, .ref x0), (0, .ref b)]) hx hb dL_law_1996 hl (k := 0) rfl (by decide) (by decide) rfl (fun ls hl => ?_)
  refine lv_goto (tgt := 18) hx hb dL_law_1999 (by decide) ?_
  refine lv_iload_n hx hb dL_law_18 rfl (lv_at hl 0 rfl) ?_
  refine lv_aload_n hx hb dL_law_19 rfl (lv_at hl 3 rfl) ?_
  refine fn_at 20 rfl ?_
  refine va_slen hx hb hX hbl hbA hS dL_law_20 ?_
  refine fn_top 6 (by decide) ?_
  refine lv_bipush (v := 6) hx hb dL_law_21 (by decide) ?_
  refine lv_isub hx hb dL_law_23 ?_
  refine fn_top 0 (by decide) ?_
  refine lv_icmp_gt (tgt := 2002) hx hb dL_law_24 (by decide) (fun _ => ?_) (fun h9 => absurd (by decide) h9)
  refine lv_iconst (v := 1) hx hb dL_law_2002 (by decide) ?_
  refine va_forget (fun q hq => by have h9 := hS.2.2 q hq; rw [← hAe] at h9; exact h9) ?_
  refine W.widen (k := 600000) (n := 7302250) (Nat.le_of_ble_eq_true rfl) (Nat.le_of_ble_eq_true rfl) ?_
  exact lw_ret hx hb hr hlocks dL_law_2003
theorem dL_law_926 : decode cL_law 926 = .ok (.aload_n 1, 1) := by decide +kernel
theorem dL_law_927 : decode cL_law 927 = .ok (.invokevirtual 113, 3) := by decide +kernel
theorem dL_law_930 : decode cL_law 930 = .ok (.aload_n 2, 1) := by decide +kernel
theorem dL_law_931 : decode cL_law 931 = .ok (.invokevirtual 116, 3) := by decide +kernel
theorem dL_law_934 : decode cL_law 934 = .ok (.if_icmp .eq 1062, 3) := by decide +kernel
set_option maxHeartbeats 4000000 in
set_option maxRecDepth 100000 in
theorem law_24 {p : Program} {l : Launch} {e : Env} {s : State} {m : MethodId} {below : List Frame} {meth : Method} {c : Code} {b : Nat} {xs : Nat → Int32} (hx : p.tables.exec = Jvm.exec) (hb : c.code = cL_law) (hr : meth.sig.returnType = ret) (hml : c.maxLocals = 4) (hown : s.vm.findClass RL = some m.cls) (hts : ∀ w ∈ fn_big, w.before #[Value.ref b] s = true) (hX : va_X b 6 xs s s.heap) (hbl : b < s.heap.size) (hlocks : meth.locks = false) {D : va_G} {K : Nat → ClassId} (hK : fn_KK D K s) {x0 m0 : Nat} {u v : Nat → Nat} {fw : Nat → Int32} (hfw : ∀ j, j < 4 → fw j = -1) {A : Nat → Prop} (hAe : (fun q : Nat => s.heap.size ≤ q) = A) : ∀ (H : Heap) (locs : List Loc) (ls : Array Slot), va_P D vwCl (fn_world K x0 m0 u v fw) H → va_D A (fn_world K x0 m0 u v fw) → va_S A s.heap H locs → lv_has ls 4 [(3, .int 0), (2, .ref m0), (1, .ref x0), (0, .ref b)] → W p l e room_1 s m #[Value.ref b] below meth c H locs 144 12710 (lw_Z below #[Value.ref b] s) (F0 m 926 ls []) := by
  intro H locs ls hP hD hS hl
  have hA : ∀ q : Nat, s.heap.size ≤ q → A q := fun q h => by rw [← hAe]; exact h
  have hbA : ¬ A b := by rw [← hAe]; exact Nat.not_le.mpr hbl
  refine lv_aload_n hx hb dL_law_926 rfl (lv_at hl 2 rfl) ?_
  refine fn_goi (wc := [(x0, .inr (11, [.ref (u 0), .ref (u 10), .ref (u 17), .ref (u 25), .ref (u 26), .ref (u 27), .ref (u 28), .ref (u 29), .ref (u 34), .ref (u 39), .ref (u 43), .ref (u 51), .ref (u 55)])), ((u 10), .inr (7, [.int 0, .int 0, .int 0, .int 0, .int 0, .int 0, .int 0, .int 0, .int 0, .ref (u 11), .ref (u 12), .ref (u 13), .ref (u 14), .ref (u 15), .ref (u 16)]))]) (wr := [(m0, .inr (12, [.int 0, .ref (v 0), .ref (v 1), .ref (v 2), .ref (v 3), .ref (v 4), .int 0, .int 0, .int 0, .int 0, .int 0, .long 0, .int 0, .int 0, .int 0, .int (-1), .ref (v 5), .ref (v 6), .ref (v 7), .ref (v 8), .ref (v 9), .ref (v 10), .ref (v 11), .ref (v 12), .ref (v 13), .ref (v 14), .ref (v 15), .ref (v 16), .ref (v 17), .ref (v 18), .ref (v 19), .ref (v 20), .int 0, .int 0, .int 0, .int 0, .ref (v 21), .ref (v 22), .ref (v 23), .int 0, .int 0, .ref (v 24), .ref (v 25), .int 0, .int 0, .ref (v 26), .ref (v 27), .ref (v 28), .int 0, .int 0, .int 0])), ((v 0), .inl (K 0, 4, .inl fw)), ((v 1), .inl (K 0, 4, .inl (fun _ => 0))), ((v 2), .inl (K 3, 240, .inr (.inl (fun _ => 0)))), ((v 4), .inl (K 1, 1400, .inl (fun _ => 0))), ((v 5), .inl (K 0, 5, .inl (fun _ => 0))), ((v 6), .inl (K 0, 40, .inl (fun _ => 0))), ((v 7), .inl (K 0, 50, .inl (fun _ => 0))), ((v 8), .inl (K 0, 60, .inl (fun _ => 0))), ((v 9), .inl (K 0, 480, .inl (fun _ => 0))), ((v 10), .inl (K 0, 600, .inl (fun _ => 0))), ((v 11), .inl (K 2, 3, .inl (fun _ => 0)))]) hK hP hD hS hA [0, 11] [88, 89, 90, 91, 92, 93, 94, 95, 96, 97, 98, 99] rfl rfl (by decide) (fun hp => va_runV (C := RX11) (As := []) (rest := []) ⟨hx, hb, hml, hown, hts⟩ (c_X11_deepest (l := l) (D := D) (K := K) (x0 := (x0)) (fx := ([.ref (u 0), .ref (u 10), .ref (u 17), .ref (u 25), .ref (u 26), .ref (u 27), .ref (u 28), .ref (u 29), .ref (u 34), .ref (u 39), .ref (u 43), .ref (u 51), .ref (u 55)])) (t0 := ((u 10))) (hx1 := rfl) (ft := ([.int 0, .int 0, .int 0, .int 0, .int 0, .int 0, .int 0, .int 0, .int 0, .ref (u 11), .ref (u 12), .ref (u 13), .ref (u 14), .ref (u 15), .ref (u 16)])) (ht0 := rfl) (ht3 := rfl) (ht4 := rfl) (ht5 := rfl) _) (cwV 0 hts (fn_ginV (fn_gin wd_817) wd_814 wd_815 wd_816 wd_1) rfl rfl rfl (by decide +kernel) ⟨Nat.le_of_ble_eq_true rfl, Nat.le_of_ble_eq_true rfl⟩) ⟨fn_blind, va_recv hK.1 hP (ci := 11) (q0 := 0) rfl rfl, hp⟩ rfl rfl hl.1 rfl (lv_room (Nat.le_of_ble_eq_true rfl)) dL_law_927 ⟨Nat.le_of_ble_eq_true rfl, Nat.le_of_ble_eq_true rfl⟩) (fun r2 u1 H locs hwu1 hP hD hS => ?_)
  have r2_e : r2 = (-2) := hwu1
  subst r2_e
  have hP : va_P D vwCl [(m0, .inr (12, [.int 0, .ref (v 0), .ref (v 1), .ref (v 2), .ref (v 3), .ref (v 4), .int 0, .int 0, .int 0, .int 0, .int 0, .long 0, .int 0, .int 0, .int 0, .int (-1), .ref (v 5), .ref (v 6), .ref (v 7), .ref (v 8), .ref (v 9), .ref (v 10), .ref (v 11), .ref (v 12), .ref (v 13), .ref (v 14), .ref (v 15), .ref (v 16), .ref (v 17), .ref (v 18), .ref (v 19), .ref (v 20), .int 0, .int 0, .int 0, .int 0, .ref (v 21), .ref (v 22), .ref (v 23), .int 0, .int 0, .ref (v 24), .ref (v 25), .int 0, .int 0, .ref (v 26), .ref (v 27), .ref (v 28), .int 0, .int 0, .int 0])), ((v 0), .inl (K 0, 4, .inl fw)), ((v 1), .inl (K 0, 4, .inl (fun _ => 0))), ((v 2), .inl (K 3, 240, .inr (.inl (fun _ => 0)))), ((v 4), .inl (K 1, 1400, .inl (fun _ => 0))), ((v 5), .inl (K 0, 5, .inl (fun _ => 0))), ((v 6), .inl (K 0, 40, .inl (fun _ => 0))), ((v 7), .inl (K 0, 50, .inl (fun _ => 0))), ((v 8), .inl (K 0, 60, .inl (fun _ => 0))), ((v 9), .inl (K 0, 480, .inl (fun _ => 0))), ((v 10), .inl (K 0, 600, .inl (fun _ => 0))), ((v 11), .inl (K 2, 3, .inl (fun _ => 0)))] H := hP
  have hD : va_D A [(m0, .inr (12, [.int 0, .ref (v 0), .ref (v 1), .ref (v 2), .ref (v 3), .ref (v 4), .int 0, .int 0, .int 0, .int 0, .int 0, .long 0, .int 0, .int 0, .int 0, .int (-1), .ref (v 5), .ref (v 6), .ref (v 7), .ref (v 8), .ref (v 9), .ref (v 10), .ref (v 11), .ref (v 12), .ref (v 13), .ref (v 14), .ref (v 15), .ref (v 16), .ref (v 17), .ref (v 18), .ref (v 19), .ref (v 20), .int 0, .int 0, .int 0, .int 0, .ref (v 21), .ref (v 22), .ref (v 23), .int 0, .int 0, .ref (v 24), .ref (v 25), .int 0, .int 0, .ref (v 26), .ref (v 27), .ref (v 28), .int 0, .int 0, .int 0])), ((v 0), .inl (K 0, 4, .inl fw)), ((v 1), .inl (K 0, 4, .inl (fun _ => 0))), ((v 2), .inl (K 3, 240, .inr (.inl (fun _ => 0)))), ((v 4), .inl (K 1, 1400, .inl (fun _ => 0))), ((v 5), .inl (K 0, 5, .inl (fun _ => 0))), ((v 6), .inl (K 0, 40, .inl (fun _ => 0))), ((v 7), .inl (K 0, 50, .inl (fun _ => 0))), ((v 8), .inl (K 0, 60, .inl (fun _ => 0))), ((v 9), .inl (K 0, 480, .inl (fun _ => 0))), ((v 10), .inl (K 0, 600, .inl (fun _ => 0))), ((v 11), .inl (K 2, 3, .inl (fun _ => 0)))] := hD
  refine lv_aload_n hx hb dL_law_930 rfl (lv_at hl 1 rfl) ?_
  refine fn_goi (wc := [(m0, .inr (12, [.int 0, .ref (v 0), .ref (v 1), .ref (v 2), .ref (v 3), .ref (v 4), .int 0, .int 0, .int 0, .int 0, .int 0, .long 0, .int 0, .int 0, .int 0, .int (-1), .ref (v 5), .ref (v 6), .ref (v 7), .ref (v 8), .ref (v 9), .ref (v 10), .ref (v 11), .ref (v 12), .ref (v 13), .ref (v 14), .ref (v 15), .ref (v 16), .ref (v 17), .ref (v 18), .ref (v 19), .ref (v 20), .int 0, .int 0, .int 0, .int 0, .ref (v 21), .ref (v 22), .ref (v 23), .int 0, .int 0, .ref (v 24), .ref (v 25), .int 0, .int 0, .ref (v 26), .ref (v 27), .ref (v 28), .int 0, .int 0, .int 0])), ((v 5), .inl (K 0, 5, .inl (fun _ => 0))), ((v 6), .inl (K 0, 40, .inl (fun _ => 0)))]) (wr := []) hK hP hD hS hA [0, 5, 6] [] rfl rfl (by decide) (fun hp => va_runV (C := RX12) (As := []) (rest := [.int (-2)]) ⟨hx, hb, hml, hown, hts⟩ (c_X12_deepest (l := l) (D := D) (K := K) (m0 := (m0)) (fm := ([.int 0, .ref (v 0), .ref (v 1), .ref (v 2), .ref (v 3), .ref (v 4), .int 0, .int 0, .int 0, .int 0, .int 0, .long 0, .int 0, .int 0, .int 0, .int (-1), .ref (v 5), .ref (v 6), .ref (v 7), .ref (v 8), .ref (v 9), .ref (v 10), .ref (v 11), .ref (v 12), .ref (v 13), .ref (v 14), .ref (v 15), .ref (v 16), .ref (v 17), .ref (v 18), .ref (v 19), .ref (v 20), .int 0, .int 0, .int 0, .int 0, .ref (v 21), .ref (v 22), .ref (v 23), .int 0, .int 0, .ref (v 24), .ref (v 25), .int 0, .int 0, .ref (v 26), .ref (v 27), .ref (v 28), .int 0, .int 0, .int 0])) (hmn := rfl) (al := ((v 5))) (hm16 := rfl) (ah := ((v 6))) (hm17 := rfl) (fl := (fun _ => 0)) (hfl := (fun _ => rfl)) (fh := (fun _ => 0)) (hfh := (fun _ => rfl)) _) (cwV 0 hts (fn_ginV (fn_gin wd_1680) wd_1677 wd_1678 wd_1679 wd_13) rfl rfl rfl (by decide +kernel) ⟨Nat.le_of_ble_eq_true rfl, Nat.le_of_ble_eq_true rfl⟩) ⟨fn_blind, va_recv hK.1 hP (ci := 12) (q0 := 0) rfl rfl, hp⟩ rfl rfl hl.1 rfl (lv_room (Nat.le_of_ble_eq_true rfl)) dL_law_931 ⟨Nat.le_of_ble_eq_true rfl, Nat.le_of_ble_eq_true rfl⟩) (fun r4 u3 H locs hwu3 hP hD hS => ?_)
  have r4_e : r4 = (-2) := hwu3
  subst r4_e
  have hP : va_P D vwCl [] H := hP
  have hD : va_D A [] := hD
  refine lv_icmp_eq (tgt := 1996) hx hb dL_law_934 (by decide) (fun _ => ?_) (fun h9 => absurd (by decide) h9)
  refine lv_iinc (v := 6) (lv' := [(3, .int 6), (2, .ref m0), (1, .ref x0), (0, .ref b)]) hx hb dL_law_1996 hl (k := 0) rfl (by decide) (by decide) rfl (fun ls hl => ?_)
  refine lv_goto (tgt := 18) hx hb dL_law_1999 (by decide) ?_
  refine lv_iload_n hx hb dL_law_18 rfl (lv_at hl 0 rfl) ?_
  refine lv_aload_n hx hb dL_law_19 rfl (lv_at hl 3 rfl) ?_
  refine va_slen hx hb hX hbl hbA hS dL_law_20 ?_
  refine fn_top 6 (by decide) ?_
  refine lv_bipush (v := 6) hx hb dL_law_21 (by decide) ?_
  refine lv_isub hx hb dL_law_23 ?_
  refine fn_top 0 (by decide) ?_
  refine lv_icmp_gt (tgt := 2002) hx hb dL_law_24 (by decide) (fun _ => ?_) (fun h9 => absurd (by decide) h9)
  refine lv_iconst (v := 1) hx hb dL_law_2002 (by decide) ?_
  refine va_forget (fun q hq => by have h9 := hS.2.2 q hq; rw [← hAe] at h9; exact h9) ?_
  refine W.widen (k := 600000) (n := 7302250) (Nat.le_of_ble_eq_true rfl) (Nat.le_of_ble_eq_true rfl) ?_
  exact lw_ret hx hb hr hlocks dL_law_2003
theorem dL_law_939 : decode cL_law 939 = .ok (.aload_n 1, 1) := by decide +kernel
theorem dL_law_940 : decode cL_law 940 = .ok (.invokevirtual 117, 3) := by decide +kernel
theorem dL_law_943 : decode cL_law 943 = .ok (.aload_n 2, 1) := by decide +kernel
theorem dL_law_944 : decode cL_law 944 = .ok (.invokevirtual 120, 3) := by decide +kernel
theorem dL_law_947 : decode cL_law 947 = .ok (.if_icmp .eq 1049, 3) := by decide +kernel
set_option maxHeartbeats 4000000 in
set_option maxRecDepth 100000 in
theorem law_25 {p : Program} {l : Launch} {e : Env} {s : State} {m : MethodId} {below : List Frame} {meth : Method} {c : Code} {b : Nat} {xs : Nat → Int32} (hx : p.tables.exec = Jvm.exec) (hb : c.code = cL_law) (hr : meth.sig.returnType = ret) (hml : c.maxLocals = 4) (hown : s.vm.findClass RL = some m.cls) (hts : ∀ w ∈ fn_big, w.before #[Value.ref b] s = true) (hX : va_X b 6 xs s s.heap) (hbl : b < s.heap.size) (hlocks : meth.locks = false) {D : va_G} {K : Nat → ClassId} (hK : fn_KK D K s) {x0 m0 : Nat} {u v : Nat → Nat} {fw : Nat → Int32} (hfw : ∀ j, j < 4 → fw j = -1) {A : Nat → Prop} (hAe : (fun q : Nat => s.heap.size ≤ q) = A) : ∀ (H : Heap) (locs : List Loc) (ls : Array Slot), va_P D vwCl (fn_world K x0 m0 u v fw) H → va_D A (fn_world K x0 m0 u v fw) → va_S A s.heap H locs → lv_has ls 4 [(3, .int 0), (2, .ref m0), (1, .ref x0), (0, .ref b)] → W p l e room_1 s m #[Value.ref b] below meth c H locs 144 12710 (lw_Z below #[Value.ref b] s) (F0 m 939 ls []) := by
  intro H locs ls hP hD hS hl
  have hA : ∀ q : Nat, s.heap.size ≤ q → A q := fun q h => by rw [← hAe]; exact h
  have hbA : ¬ A b := by rw [← hAe]; exact Nat.not_le.mpr hbl
  refine lv_aload_n hx hb dL_law_939 rfl (lv_at hl 2 rfl) ?_
  refine fn_goi (wc := [(x0, .inr (11, [.ref (u 0), .ref (u 10), .ref (u 17), .ref (u 25), .ref (u 26), .ref (u 27), .ref (u 28), .ref (u 29), .ref (u 34), .ref (u 39), .ref (u 43), .ref (u 51), .ref (u 55)])), ((u 10), .inr (7, [.int 0, .int 0, .int 0, .int 0, .int 0, .int 0, .int 0, .int 0, .int 0, .ref (u 11), .ref (u 12), .ref (u 13), .ref (u 14), .ref (u 15), .ref (u 16)]))]) (wr := [(m0, .inr (12, [.int 0, .ref (v 0), .ref (v 1), .ref (v 2), .ref (v 3), .ref (v 4), .int 0, .int 0, .int 0, .int 0, .int 0, .long 0, .int 0, .int 0, .int 0, .int (-1), .ref (v 5), .ref (v 6), .ref (v 7), .ref (v 8), .ref (v 9), .ref (v 10), .ref (v 11), .ref (v 12), .ref (v 13), .ref (v 14), .ref (v 15), .ref (v 16), .ref (v 17), .ref (v 18), .ref (v 19), .ref (v 20), .int 0, .int 0, .int 0, .int 0, .ref (v 21), .ref (v 22), .ref (v 23), .int 0, .int 0, .ref (v 24), .ref (v 25), .int 0, .int 0, .ref (v 26), .ref (v 27), .ref (v 28), .int 0, .int 0, .int 0])), ((v 0), .inl (K 0, 4, .inl fw)), ((v 1), .inl (K 0, 4, .inl (fun _ => 0))), ((v 2), .inl (K 3, 240, .inr (.inl (fun _ => 0)))), ((v 4), .inl (K 1, 1400, .inl (fun _ => 0))), ((v 5), .inl (K 0, 5, .inl (fun _ => 0))), ((v 6), .inl (K 0, 40, .inl (fun _ => 0))), ((v 7), .inl (K 0, 50, .inl (fun _ => 0))), ((v 8), .inl (K 0, 60, .inl (fun _ => 0))), ((v 9), .inl (K 0, 480, .inl (fun _ => 0))), ((v 10), .inl (K 0, 600, .inl (fun _ => 0))), ((v 11), .inl (K 2, 3, .inl (fun _ => 0)))]) hK hP hD hS hA [0, 11] [88, 89, 90, 91, 92, 93, 94, 95, 96, 97, 98, 99] rfl rfl (by decide) (fun hp => va_runV (C := RX11) (As := []) (rest := []) ⟨hx, hb, hml, hown, hts⟩ (c_X11_grounded (l := l) (D := D) (K := K) (x0 := (x0)) (fx := ([.ref (u 0), .ref (u 10), .ref (u 17), .ref (u 25), .ref (u 26), .ref (u 27), .ref (u 28), .ref (u 29), .ref (u 34), .ref (u 39), .ref (u 43), .ref (u 51), .ref (u 55)])) (t0 := ((u 10))) (hx1 := rfl) (ft := ([.int 0, .int 0, .int 0, .int 0, .int 0, .int 0, .int 0, .int 0, .int 0, .ref (u 11), .ref (u 12), .ref (u 13), .ref (u 14), .ref (u 15), .ref (u 16)])) (ht0 := rfl) (ht3 := rfl) (ht4 := rfl) (ht5 := rfl) _) (cwV 0 hts (fn_ginV (fn_gin wd_821) wd_818 wd_819 wd_820 wd_1) rfl rfl rfl (by decide +kernel) ⟨Nat.le_of_ble_eq_true rfl, Nat.le_of_ble_eq_true rfl⟩) ⟨fn_blind, va_recv hK.1 hP (ci := 11) (q0 := 0) rfl rfl, hp⟩ rfl rfl hl.1 rfl (lv_room (Nat.le_of_ble_eq_true rfl)) dL_law_940 ⟨Nat.le_of_ble_eq_true rfl, Nat.le_of_ble_eq_true rfl⟩) (fun r2 u1 H locs hwu1 hP hD hS => ?_)
  have r2_e : r2 = (-2) := hwu1
  subst r2_e
  have hP : va_P D vwCl [(m0, .inr (12, [.int 0, .ref (v 0), .ref (v 1), .ref (v 2), .ref (v 3), .ref (v 4), .int 0, .int 0, .int 0, .int 0, .int 0, .long 0, .int 0, .int 0, .int 0, .int (-1), .ref (v 5), .ref (v 6), .ref (v 7), .ref (v 8), .ref (v 9), .ref (v 10), .ref (v 11), .ref (v 12), .ref (v 13), .ref (v 14), .ref (v 15), .ref (v 16), .ref (v 17), .ref (v 18), .ref (v 19), .ref (v 20), .int 0, .int 0, .int 0, .int 0, .ref (v 21), .ref (v 22), .ref (v 23), .int 0, .int 0, .ref (v 24), .ref (v 25), .int 0, .int 0, .ref (v 26), .ref (v 27), .ref (v 28), .int 0, .int 0, .int 0])), ((v 0), .inl (K 0, 4, .inl fw)), ((v 1), .inl (K 0, 4, .inl (fun _ => 0))), ((v 2), .inl (K 3, 240, .inr (.inl (fun _ => 0)))), ((v 4), .inl (K 1, 1400, .inl (fun _ => 0))), ((v 5), .inl (K 0, 5, .inl (fun _ => 0))), ((v 6), .inl (K 0, 40, .inl (fun _ => 0))), ((v 7), .inl (K 0, 50, .inl (fun _ => 0))), ((v 8), .inl (K 0, 60, .inl (fun _ => 0))), ((v 9), .inl (K 0, 480, .inl (fun _ => 0))), ((v 10), .inl (K 0, 600, .inl (fun _ => 0))), ((v 11), .inl (K 2, 3, .inl (fun _ => 0)))] H := hP
  have hD : va_D A [(m0, .inr (12, [.int 0, .ref (v 0), .ref (v 1), .ref (v 2), .ref (v 3), .ref (v 4), .int 0, .int 0, .int 0, .int 0, .int 0, .long 0, .int 0, .int 0, .int 0, .int (-1), .ref (v 5), .ref (v 6), .ref (v 7), .ref (v 8), .ref (v 9), .ref (v 10), .ref (v 11), .ref (v 12), .ref (v 13), .ref (v 14), .ref (v 15), .ref (v 16), .ref (v 17), .ref (v 18), .ref (v 19), .ref (v 20), .int 0, .int 0, .int 0, .int 0, .ref (v 21), .ref (v 22), .ref (v 23), .int 0, .int 0, .ref (v 24), .ref (v 25), .int 0, .int 0, .ref (v 26), .ref (v 27), .ref (v 28), .int 0, .int 0, .int 0])), ((v 0), .inl (K 0, 4, .inl fw)), ((v 1), .inl (K 0, 4, .inl (fun _ => 0))), ((v 2), .inl (K 3, 240, .inr (.inl (fun _ => 0)))), ((v 4), .inl (K 1, 1400, .inl (fun _ => 0))), ((v 5), .inl (K 0, 5, .inl (fun _ => 0))), ((v 6), .inl (K 0, 40, .inl (fun _ => 0))), ((v 7), .inl (K 0, 50, .inl (fun _ => 0))), ((v 8), .inl (K 0, 60, .inl (fun _ => 0))), ((v 9), .inl (K 0, 480, .inl (fun _ => 0))), ((v 10), .inl (K 0, 600, .inl (fun _ => 0))), ((v 11), .inl (K 2, 3, .inl (fun _ => 0)))] := hD
  refine lv_aload_n hx hb dL_law_943 rfl (lv_at hl 1 rfl) ?_
  refine fn_goi (wc := [(m0, .inr (12, [.int 0, .ref (v 0), .ref (v 1), .ref (v 2), .ref (v 3), .ref (v 4), .int 0, .int 0, .int 0, .int 0, .int 0, .long 0, .int 0, .int 0, .int 0, .int (-1), .ref (v 5), .ref (v 6), .ref (v 7), .ref (v 8), .ref (v 9), .ref (v 10), .ref (v 11), .ref (v 12), .ref (v 13), .ref (v 14), .ref (v 15), .ref (v 16), .ref (v 17), .ref (v 18), .ref (v 19), .ref (v 20), .int 0, .int 0, .int 0, .int 0, .ref (v 21), .ref (v 22), .ref (v 23), .int 0, .int 0, .ref (v 24), .ref (v 25), .int 0, .int 0, .ref (v 26), .ref (v 27), .ref (v 28), .int 0, .int 0, .int 0])), ((v 5), .inl (K 0, 5, .inl (fun _ => 0))), ((v 6), .inl (K 0, 40, .inl (fun _ => 0)))]) (wr := []) hK hP hD hS hA [0, 5, 6] [] rfl rfl (by decide) (fun hp => va_runV (C := RX12) (As := []) (rest := [.int (-2)]) ⟨hx, hb, hml, hown, hts⟩ (c_X12_grounded (l := l) (D := D) (K := K) (m0 := (m0)) (fm := ([.int 0, .ref (v 0), .ref (v 1), .ref (v 2), .ref (v 3), .ref (v 4), .int 0, .int 0, .int 0, .int 0, .int 0, .long 0, .int 0, .int 0, .int 0, .int (-1), .ref (v 5), .ref (v 6), .ref (v 7), .ref (v 8), .ref (v 9), .ref (v 10), .ref (v 11), .ref (v 12), .ref (v 13), .ref (v 14), .ref (v 15), .ref (v 16), .ref (v 17), .ref (v 18), .ref (v 19), .ref (v 20), .int 0, .int 0, .int 0, .int 0, .ref (v 21), .ref (v 22), .ref (v 23), .int 0, .int 0, .ref (v 24), .ref (v 25), .int 0, .int 0, .ref (v 26), .ref (v 27), .ref (v 28), .int 0, .int 0, .int 0])) (hmn := rfl) (al := ((v 5))) (hm16 := rfl) (ah := ((v 6))) (hm17 := rfl) (fl := (fun _ => 0)) (hfl := (fun _ => rfl)) (fh := (fun _ => 0)) (hfh := (fun _ => rfl)) _) (cwV 0 hts (fn_ginV (fn_gin wd_1684) wd_1681 wd_1682 wd_1683 wd_13) rfl rfl rfl (by decide +kernel) ⟨Nat.le_of_ble_eq_true rfl, Nat.le_of_ble_eq_true rfl⟩) ⟨fn_blind, va_recv hK.1 hP (ci := 12) (q0 := 0) rfl rfl, hp⟩ rfl rfl hl.1 rfl (lv_room (Nat.le_of_ble_eq_true rfl)) dL_law_944 ⟨Nat.le_of_ble_eq_true rfl, Nat.le_of_ble_eq_true rfl⟩) (fun r4 u3 H locs hwu3 hP hD hS => ?_)
  have r4_e : r4 = (-2) := hwu3
  subst r4_e
  have hP : va_P D vwCl [] H := hP
  have hD : va_D A [] := hD
  refine lv_icmp_eq (tgt := 1996) hx hb dL_law_947 (by decide) (fun _ => ?_) (fun h9 => absurd (by decide) h9)
  refine lv_iinc (v := 6) (lv' := [(3, .int 6), (2, .ref m0), (1, .ref x0), (0, .ref b)]) hx hb dL_law_1996 hl (k := 0) rfl (by decide) (by decide) rfl (fun ls hl => ?_)
  refine lv_goto (tgt := 18) hx hb dL_law_1999 (by decide) ?_
  refine lv_iload_n hx hb dL_law_18 rfl (lv_at hl 0 rfl) ?_
  refine lv_aload_n hx hb dL_law_19 rfl (lv_at hl 3 rfl) ?_
  refine va_slen hx hb hX hbl hbA hS dL_law_20 ?_
  refine fn_top 6 (by decide) ?_
  refine lv_bipush (v := 6) hx hb dL_law_21 (by decide) ?_
  refine lv_isub hx hb dL_law_23 ?_
  refine fn_top 0 (by decide) ?_
  refine lv_icmp_gt (tgt := 2002) hx hb dL_law_24 (by decide) (fun _ => ?_) (fun h9 => absurd (by decide) h9)
  refine lv_iconst (v := 1) hx hb dL_law_2002 (by decide) ?_
  refine va_forget (fun q hq => by have h9 := hS.2.2 q hq; rw [← hAe] at h9; exact h9) ?_
  refine W.widen (k := 600000) (n := 7302250) (Nat.le_of_ble_eq_true rfl) (Nat.le_of_ble_eq_true rfl) ?_
  exact lw_ret hx hb hr hlocks dL_law_2003
theorem dL_law_952 : decode cL_law 952 = .ok (.aload_n 1, 1) := by decide +kernel
theorem dL_law_953 : decode cL_law 953 = .ok (.aload_n 0, 1) := by decide +kernel
theorem dL_law_954 : decode cL_law 954 = .ok (.iload_n 3, 1) := by decide +kernel
theorem dL_law_955 : decode cL_law 955 = .ok (.iconst 1, 1) := by decide +kernel
theorem dL_law_956 : decode cL_law 956 = .ok (.iadd, 1) := by decide +kernel
theorem dL_law_957 : decode cL_law 957 = .ok (.iaload, 1) := by decide +kernel
theorem dL_law_958 : decode cL_law 958 = .ok (.invokevirtual 121, 3) := by decide +kernel
theorem dL_law_961 : decode cL_law 961 = .ok (.aload_n 2, 1) := by decide +kernel
theorem dL_law_962 : decode cL_law 962 = .ok (.aload_n 0, 1) := by decide +kernel
theorem dL_law_963 : decode cL_law 963 = .ok (.iload_n 3, 1) := by decide +kernel
theorem dL_law_964 : decode cL_law 964 = .ok (.iconst 1, 1) := by decide +kernel
theorem dL_law_965 : decode cL_law 965 = .ok (.iadd, 1) := by decide +kernel
theorem dL_law_966 : decode cL_law 966 = .ok (.iaload, 1) := by decide +kernel
theorem dL_law_967 : decode cL_law 967 = .ok (.invokevirtual 124, 3) := by decide +kernel
theorem dL_law_970 : decode cL_law 970 = .ok (.if_icmp .eq 1026, 3) := by decide +kernel
set_option maxHeartbeats 4000000 in
set_option maxRecDepth 100000 in
theorem law_26 {p : Program} {l : Launch} {e : Env} {s : State} {m : MethodId} {below : List Frame} {meth : Method} {c : Code} {b : Nat} {xs : Nat → Int32} (hx : p.tables.exec = Jvm.exec) (hb : c.code = cL_law) (hr : meth.sig.returnType = ret) (hml : c.maxLocals = 4) (hown : s.vm.findClass RL = some m.cls) (hts : ∀ w ∈ fn_big, w.before #[Value.ref b] s = true) (hX : va_X b 6 xs s s.heap) (hbl : b < s.heap.size) (hlocks : meth.locks = false) {D : va_G} {K : Nat → ClassId} (hK : fn_KK D K s) {x0 m0 : Nat} {u v : Nat → Nat} {fw : Nat → Int32} (hfw : ∀ j, j < 4 → fw j = -1) {A : Nat → Prop} (hAe : (fun q : Nat => s.heap.size ≤ q) = A) : ∀ (H : Heap) (locs : List Loc) (ls : Array Slot), va_P D vwCl (fn_world K x0 m0 u v fw) H → va_D A (fn_world K x0 m0 u v fw) → va_S A s.heap H locs → lv_has ls 4 [(3, .int 0), (2, .ref m0), (1, .ref x0), (0, .ref b)] → W p l e room_1 s m #[Value.ref b] below meth c H locs 144 12710 (lw_Z below #[Value.ref b] s) (F0 m 952 ls []) := by
  intro H locs ls hP hD hS hl
  have hA : ∀ q : Nat, s.heap.size ≤ q → A q := fun q h => by rw [← hAe]; exact h
  have hbA : ¬ A b := by rw [← hAe]; exact Nat.not_le.mpr hbl
  refine lv_aload_n hx hb dL_law_952 rfl (lv_at hl 2 rfl) ?_
  refine lv_aload_n hx hb dL_law_953 rfl (lv_at hl 3 rfl) ?_
  refine lv_iload_n hx hb dL_law_954 rfl (lv_at hl 0 rfl) ?_
  refine lv_iconst (v := 1) hx hb dL_law_955 (by decide) ?_
  refine lv_iadd hx hb dL_law_956 ?_
  refine fn_top 1 (by decide) ?_
  refine va_sld hx hb hX hbl hbA hS (by unfold vp_in; decide) dL_law_957 ?_
  refine fn_top (xs 1) (congrArg xs (by decide)) ?_
  refine fn_goi (wc := [(x0, .inr (11, [.ref (u 0), .ref (u 10), .ref (u 17), .ref (u 25), .ref (u 26), .ref (u 27), .ref (u 28), .ref (u 29), .ref (u 34), .ref (u 39), .ref (u 43), .ref (u 51), .ref (u 55)])), ((u 10), .inr (7, [.int 0, .int 0, .int 0, .int 0, .int 0, .int 0, .int 0, .int 0, .int 0, .ref (u 11), .ref (u 12), .ref (u 13), .ref (u 14), .ref (u 15), .ref (u 16)]))]) (wr := [(m0, .inr (12, [.int 0, .ref (v 0), .ref (v 1), .ref (v 2), .ref (v 3), .ref (v 4), .int 0, .int 0, .int 0, .int 0, .int 0, .long 0, .int 0, .int 0, .int 0, .int (-1), .ref (v 5), .ref (v 6), .ref (v 7), .ref (v 8), .ref (v 9), .ref (v 10), .ref (v 11), .ref (v 12), .ref (v 13), .ref (v 14), .ref (v 15), .ref (v 16), .ref (v 17), .ref (v 18), .ref (v 19), .ref (v 20), .int 0, .int 0, .int 0, .int 0, .ref (v 21), .ref (v 22), .ref (v 23), .int 0, .int 0, .ref (v 24), .ref (v 25), .int 0, .int 0, .ref (v 26), .ref (v 27), .ref (v 28), .int 0, .int 0, .int 0])), ((v 0), .inl (K 0, 4, .inl fw)), ((v 1), .inl (K 0, 4, .inl (fun _ => 0))), ((v 2), .inl (K 3, 240, .inr (.inl (fun _ => 0)))), ((v 4), .inl (K 1, 1400, .inl (fun _ => 0))), ((v 5), .inl (K 0, 5, .inl (fun _ => 0))), ((v 6), .inl (K 0, 40, .inl (fun _ => 0))), ((v 7), .inl (K 0, 50, .inl (fun _ => 0))), ((v 8), .inl (K 0, 60, .inl (fun _ => 0))), ((v 9), .inl (K 0, 480, .inl (fun _ => 0))), ((v 10), .inl (K 0, 600, .inl (fun _ => 0))), ((v 11), .inl (K 2, 3, .inl (fun _ => 0)))]) hK hP hD hS hA [0, 11] [88, 89, 90, 91, 92, 93, 94, 95, 96, 97, 98, 99] rfl rfl (by decide) (fun hp => va_runV (C := RX11) (As := [.int (xs 1)]) (rest := []) ⟨hx, hb, hml, hown, hts⟩ (c_X11_needs (l := l) (D := D) (K := K) (x0 := (x0)) (p0 := ((xs 1))) (fx := ([.ref (u 0), .ref (u 10), .ref (u 17), .ref (u 25), .ref (u 26), .ref (u 27), .ref (u 28), .ref (u 29), .ref (u 34), .ref (u 39), .ref (u 43), .ref (u 51), .ref (u 55)])) (t0 := ((u 10))) (hx1 := rfl) (ft := ([.int 0, .int 0, .int 0, .int 0, .int 0, .int 0, .int 0, .int 0, .int 0, .ref (u 11), .ref (u 12), .ref (u 13), .ref (u 14), .ref (u 15), .ref (u 16)])) (ht0 := rfl) (ht3 := rfl) (ht4 := rfl) (ht5 := rfl) _) (cwV 1 hts (fn_ginV (fn_gin wd_829) wd_826 wd_827 wd_828 wd_1) rfl rfl rfl (by decide +kernel) ⟨Nat.le_of_ble_eq_true rfl, Nat.le_of_ble_eq_true rfl⟩) ⟨fn_blind, va_recv hK.1 hP (ci := 11) (q0 := 0) rfl rfl, hp⟩ rfl rfl hl.1 rfl (lv_room (Nat.le_of_ble_eq_true rfl)) dL_law_958 ⟨Nat.le_of_ble_eq_true rfl, Nat.le_of_ble_eq_true rfl⟩) (fun r2 u1 H locs hwu1 hP hD hS => ?_)
  have r2_e : r2 = (-2) := hwu1
  subst r2_e
  have hP : va_P D vwCl [(m0, .inr (12, [.int 0, .ref (v 0), .ref (v 1), .ref (v 2), .ref (v 3), .ref (v 4), .int 0, .int 0, .int 0, .int 0, .int 0, .long 0, .int 0, .int 0, .int 0, .int (-1), .ref (v 5), .ref (v 6), .ref (v 7), .ref (v 8), .ref (v 9), .ref (v 10), .ref (v 11), .ref (v 12), .ref (v 13), .ref (v 14), .ref (v 15), .ref (v 16), .ref (v 17), .ref (v 18), .ref (v 19), .ref (v 20), .int 0, .int 0, .int 0, .int 0, .ref (v 21), .ref (v 22), .ref (v 23), .int 0, .int 0, .ref (v 24), .ref (v 25), .int 0, .int 0, .ref (v 26), .ref (v 27), .ref (v 28), .int 0, .int 0, .int 0])), ((v 0), .inl (K 0, 4, .inl fw)), ((v 1), .inl (K 0, 4, .inl (fun _ => 0))), ((v 2), .inl (K 3, 240, .inr (.inl (fun _ => 0)))), ((v 4), .inl (K 1, 1400, .inl (fun _ => 0))), ((v 5), .inl (K 0, 5, .inl (fun _ => 0))), ((v 6), .inl (K 0, 40, .inl (fun _ => 0))), ((v 7), .inl (K 0, 50, .inl (fun _ => 0))), ((v 8), .inl (K 0, 60, .inl (fun _ => 0))), ((v 9), .inl (K 0, 480, .inl (fun _ => 0))), ((v 10), .inl (K 0, 600, .inl (fun _ => 0))), ((v 11), .inl (K 2, 3, .inl (fun _ => 0)))] H := hP
  have hD : va_D A [(m0, .inr (12, [.int 0, .ref (v 0), .ref (v 1), .ref (v 2), .ref (v 3), .ref (v 4), .int 0, .int 0, .int 0, .int 0, .int 0, .long 0, .int 0, .int 0, .int 0, .int (-1), .ref (v 5), .ref (v 6), .ref (v 7), .ref (v 8), .ref (v 9), .ref (v 10), .ref (v 11), .ref (v 12), .ref (v 13), .ref (v 14), .ref (v 15), .ref (v 16), .ref (v 17), .ref (v 18), .ref (v 19), .ref (v 20), .int 0, .int 0, .int 0, .int 0, .ref (v 21), .ref (v 22), .ref (v 23), .int 0, .int 0, .ref (v 24), .ref (v 25), .int 0, .int 0, .ref (v 26), .ref (v 27), .ref (v 28), .int 0, .int 0, .int 0])), ((v 0), .inl (K 0, 4, .inl fw)), ((v 1), .inl (K 0, 4, .inl (fun _ => 0))), ((v 2), .inl (K 3, 240, .inr (.inl (fun _ => 0)))), ((v 4), .inl (K 1, 1400, .inl (fun _ => 0))), ((v 5), .inl (K 0, 5, .inl (fun _ => 0))), ((v 6), .inl (K 0, 40, .inl (fun _ => 0))), ((v 7), .inl (K 0, 50, .inl (fun _ => 0))), ((v 8), .inl (K 0, 60, .inl (fun _ => 0))), ((v 9), .inl (K 0, 480, .inl (fun _ => 0))), ((v 10), .inl (K 0, 600, .inl (fun _ => 0))), ((v 11), .inl (K 2, 3, .inl (fun _ => 0)))] := hD
  refine lv_aload_n hx hb dL_law_961 rfl (lv_at hl 1 rfl) ?_
  refine lv_aload_n hx hb dL_law_962 rfl (lv_at hl 3 rfl) ?_
  refine lv_iload_n hx hb dL_law_963 rfl (lv_at hl 0 rfl) ?_
  refine lv_iconst (v := 1) hx hb dL_law_964 (by decide) ?_
  refine lv_iadd hx hb dL_law_965 ?_
  refine fn_top 1 (by decide) ?_
  refine va_sld hx hb hX hbl hbA hS (by unfold vp_in; decide) dL_law_966 ?_
  refine fn_top (xs 1) (congrArg xs (by decide)) ?_
  refine fn_goi (wc := [(m0, .inr (12, [.int 0, .ref (v 0), .ref (v 1), .ref (v 2), .ref (v 3), .ref (v 4), .int 0, .int 0, .int 0, .int 0, .int 0, .long 0, .int 0, .int 0, .int 0, .int (-1), .ref (v 5), .ref (v 6), .ref (v 7), .ref (v 8), .ref (v 9), .ref (v 10), .ref (v 11), .ref (v 12), .ref (v 13), .ref (v 14), .ref (v 15), .ref (v 16), .ref (v 17), .ref (v 18), .ref (v 19), .ref (v 20), .int 0, .int 0, .int 0, .int 0, .ref (v 21), .ref (v 22), .ref (v 23), .int 0, .int 0, .ref (v 24), .ref (v 25), .int 0, .int 0, .ref (v 26), .ref (v 27), .ref (v 28), .int 0, .int 0, .int 0])), ((v 5), .inl (K 0, 5, .inl (fun _ => 0))), ((v 6), .inl (K 0, 40, .inl (fun _ => 0)))]) (wr := []) hK hP hD hS hA [0, 5, 6] [] rfl rfl (by decide) (fun hp => va_runV (C := RX12) (As := [.int (xs 1)]) (rest := [.int (-2)]) ⟨hx, hb, hml, hown, hts⟩ (c_X12_needs (l := l) (D := D) (K := K) (m0 := (m0)) (p0 := ((xs 1))) (fm := ([.int 0, .ref (v 0), .ref (v 1), .ref (v 2), .ref (v 3), .ref (v 4), .int 0, .int 0, .int 0, .int 0, .int 0, .long 0, .int 0, .int 0, .int 0, .int (-1), .ref (v 5), .ref (v 6), .ref (v 7), .ref (v 8), .ref (v 9), .ref (v 10), .ref (v 11), .ref (v 12), .ref (v 13), .ref (v 14), .ref (v 15), .ref (v 16), .ref (v 17), .ref (v 18), .ref (v 19), .ref (v 20), .int 0, .int 0, .int 0, .int 0, .ref (v 21), .ref (v 22), .ref (v 23), .int 0, .int 0, .ref (v 24), .ref (v 25), .int 0, .int 0, .ref (v 26), .ref (v 27), .ref (v 28), .int 0, .int 0, .int 0])) (hmn := rfl) (al := ((v 5))) (hm16 := rfl) (ah := ((v 6))) (hm17 := rfl) (fl := (fun _ => 0)) (hfl := (fun _ => rfl)) (fh := (fun _ => 0)) (hfh := (fun _ => rfl)) _) (cwV 1 hts (fn_ginV (fn_gin wd_1692) wd_1689 wd_1690 wd_1691 wd_13) rfl rfl rfl (by decide +kernel) ⟨Nat.le_of_ble_eq_true rfl, Nat.le_of_ble_eq_true rfl⟩) ⟨fn_blind, va_recv hK.1 hP (ci := 12) (q0 := 0) rfl rfl, hp⟩ rfl rfl hl.1 rfl (lv_room (Nat.le_of_ble_eq_true rfl)) dL_law_967 ⟨Nat.le_of_ble_eq_true rfl, Nat.le_of_ble_eq_true rfl⟩) (fun r4 u3 H locs hwu3 hP hD hS => ?_)
  have r4_e : r4 = (-2) := hwu3
  subst r4_e
  have hP : va_P D vwCl [] H := hP
  have hD : va_D A [] := hD
  refine lv_icmp_eq (tgt := 1996) hx hb dL_law_970 (by decide) (fun _ => ?_) (fun h9 => absurd (by decide) h9)
  refine lv_iinc (v := 6) (lv' := [(3, .int 6), (2, .ref m0), (1, .ref x0), (0, .ref b)]) hx hb dL_law_1996 hl (k := 0) rfl (by decide) (by decide) rfl (fun ls hl => ?_)
  refine lv_goto (tgt := 18) hx hb dL_law_1999 (by decide) ?_
  refine lv_iload_n hx hb dL_law_18 rfl (lv_at hl 0 rfl) ?_
  refine lv_aload_n hx hb dL_law_19 rfl (lv_at hl 3 rfl) ?_
  refine fn_at 20 rfl ?_
  refine va_slen hx hb hX hbl hbA hS dL_law_20 ?_
  refine fn_top 6 (by decide) ?_
  refine lv_bipush (v := 6) hx hb dL_law_21 (by decide) ?_
  refine lv_isub hx hb dL_law_23 ?_
  refine fn_top 0 (by decide) ?_
  refine lv_icmp_gt (tgt := 2002) hx hb dL_law_24 (by decide) (fun _ => ?_) (fun h9 => absurd (by decide) h9)
  refine lv_iconst (v := 1) hx hb dL_law_2002 (by decide) ?_
  refine va_forget (fun q hq => by have h9 := hS.2.2 q hq; rw [← hAe] at h9; exact h9) ?_
  refine W.widen (k := 600000) (n := 7302250) (Nat.le_of_ble_eq_true rfl) (Nat.le_of_ble_eq_true rfl) ?_
  exact lw_ret hx hb hr hlocks dL_law_2003
theorem dL_law_975 : decode cL_law 975 = .ok (.aload_n 1, 1) := by decide +kernel
theorem dL_law_976 : decode cL_law 976 = .ok (.aload_n 0, 1) := by decide +kernel
theorem dL_law_977 : decode cL_law 977 = .ok (.iload_n 3, 1) := by decide +kernel
theorem dL_law_978 : decode cL_law 978 = .ok (.iconst 1, 1) := by decide +kernel
theorem dL_law_979 : decode cL_law 979 = .ok (.iadd, 1) := by decide +kernel
theorem dL_law_980 : decode cL_law 980 = .ok (.iaload, 1) := by decide +kernel
theorem dL_law_981 : decode cL_law 981 = .ok (.invokevirtual 125, 3) := by decide +kernel
theorem dL_law_984 : decode cL_law 984 = .ok (.aload_n 2, 1) := by decide +kernel
theorem dL_law_985 : decode cL_law 985 = .ok (.aload_n 0, 1) := by decide +kernel
theorem dL_law_986 : decode cL_law 986 = .ok (.iload_n 3, 1) := by decide +kernel
theorem dL_law_987 : decode cL_law 987 = .ok (.iconst 1, 1) := by decide +kernel
theorem dL_law_988 : decode cL_law 988 = .ok (.iadd, 1) := by decide +kernel
theorem dL_law_989 : decode cL_law 989 = .ok (.iaload, 1) := by decide +kernel
theorem dL_law_990 : decode cL_law 990 = .ok (.invokevirtual 128, 3) := by decide +kernel
theorem dL_law_993 : decode cL_law 993 = .ok (.if_icmp .eq 1003, 3) := by decide +kernel
set_option maxHeartbeats 4000000 in
set_option maxRecDepth 100000 in
theorem law_27 {p : Program} {l : Launch} {e : Env} {s : State} {m : MethodId} {below : List Frame} {meth : Method} {c : Code} {b : Nat} {xs : Nat → Int32} (hx : p.tables.exec = Jvm.exec) (hb : c.code = cL_law) (hr : meth.sig.returnType = ret) (hml : c.maxLocals = 4) (hown : s.vm.findClass RL = some m.cls) (hts : ∀ w ∈ fn_big, w.before #[Value.ref b] s = true) (hX : va_X b 6 xs s s.heap) (hbl : b < s.heap.size) (hlocks : meth.locks = false) {D : va_G} {K : Nat → ClassId} (hK : fn_KK D K s) {x0 m0 : Nat} {u v : Nat → Nat} {fw : Nat → Int32} (hfw : ∀ j, j < 4 → fw j = -1) {A : Nat → Prop} (hAe : (fun q : Nat => s.heap.size ≤ q) = A) : ∀ (H : Heap) (locs : List Loc) (ls : Array Slot), va_P D vwCl (fn_world K x0 m0 u v fw) H → va_D A (fn_world K x0 m0 u v fw) → va_S A s.heap H locs → lv_has ls 4 [(3, .int 0), (2, .ref m0), (1, .ref x0), (0, .ref b)] → W p l e room_1 s m #[Value.ref b] below meth c H locs 144 12710 (lw_Z below #[Value.ref b] s) (F0 m 975 ls []) := by
  intro H locs ls hP hD hS hl
  have hA : ∀ q : Nat, s.heap.size ≤ q → A q := fun q h => by rw [← hAe]; exact h
  have hbA : ¬ A b := by rw [← hAe]; exact Nat.not_le.mpr hbl
  refine lv_aload_n hx hb dL_law_975 rfl (lv_at hl 2 rfl) ?_
  refine lv_aload_n hx hb dL_law_976 rfl (lv_at hl 3 rfl) ?_
  refine lv_iload_n hx hb dL_law_977 rfl (lv_at hl 0 rfl) ?_
  refine lv_iconst (v := 1) hx hb dL_law_978 (by decide) ?_
  refine lv_iadd hx hb dL_law_979 ?_
  refine fn_top 1 (by decide) ?_
  refine va_sld hx hb hX hbl hbA hS (by unfold vp_in; decide) dL_law_980 ?_
  refine fn_top (xs 1) (congrArg xs (by decide)) ?_
  refine fn_goi (wc := [(x0, .inr (11, [.ref (u 0), .ref (u 10), .ref (u 17), .ref (u 25), .ref (u 26), .ref (u 27), .ref (u 28), .ref (u 29), .ref (u 34), .ref (u 39), .ref (u 43), .ref (u 51), .ref (u 55)])), ((u 10), .inr (7, [.int 0, .int 0, .int 0, .int 0, .int 0, .int 0, .int 0, .int 0, .int 0, .ref (u 11), .ref (u 12), .ref (u 13), .ref (u 14), .ref (u 15), .ref (u 16)]))]) (wr := [(m0, .inr (12, [.int 0, .ref (v 0), .ref (v 1), .ref (v 2), .ref (v 3), .ref (v 4), .int 0, .int 0, .int 0, .int 0, .int 0, .long 0, .int 0, .int 0, .int 0, .int (-1), .ref (v 5), .ref (v 6), .ref (v 7), .ref (v 8), .ref (v 9), .ref (v 10), .ref (v 11), .ref (v 12), .ref (v 13), .ref (v 14), .ref (v 15), .ref (v 16), .ref (v 17), .ref (v 18), .ref (v 19), .ref (v 20), .int 0, .int 0, .int 0, .int 0, .ref (v 21), .ref (v 22), .ref (v 23), .int 0, .int 0, .ref (v 24), .ref (v 25), .int 0, .int 0, .ref (v 26), .ref (v 27), .ref (v 28), .int 0, .int 0, .int 0])), ((v 0), .inl (K 0, 4, .inl fw)), ((v 1), .inl (K 0, 4, .inl (fun _ => 0))), ((v 2), .inl (K 3, 240, .inr (.inl (fun _ => 0)))), ((v 4), .inl (K 1, 1400, .inl (fun _ => 0))), ((v 5), .inl (K 0, 5, .inl (fun _ => 0))), ((v 6), .inl (K 0, 40, .inl (fun _ => 0))), ((v 7), .inl (K 0, 50, .inl (fun _ => 0))), ((v 8), .inl (K 0, 60, .inl (fun _ => 0))), ((v 9), .inl (K 0, 480, .inl (fun _ => 0))), ((v 10), .inl (K 0, 600, .inl (fun _ => 0))), ((v 11), .inl (K 2, 3, .inl (fun _ => 0)))]) hK hP hD hS hA [0, 11] [88, 89, 90, 91, 92, 93, 94, 95, 96, 97, 98, 99] rfl rfl (by decide) (fun hp => va_runV (C := RX11) (As := [.int (xs 1)]) (rest := []) ⟨hx, hb, hml, hown, hts⟩ (c_X11_loss (l := l) (D := D) (K := K) (x0 := (x0)) (p0 := ((xs 1))) (fx := ([.ref (u 0), .ref (u 10), .ref (u 17), .ref (u 25), .ref (u 26), .ref (u 27), .ref (u 28), .ref (u 29), .ref (u 34), .ref (u 39), .ref (u 43), .ref (u 51), .ref (u 55)])) (t0 := ((u 10))) (hx1 := rfl) (ft := ([.int 0, .int 0, .int 0, .int 0, .int 0, .int 0, .int 0, .int 0, .int 0, .ref (u 11), .ref (u 12), .ref (u 13), .ref (u 14), .ref (u 15), .ref (u 16)])) (ht0 := rfl) (ht3 := rfl) (ht4 := rfl) (ht5 := rfl) _) (cwV 1 hts (fn_ginV (fn_gin wd_833) wd_830 wd_831 wd_832 wd_1) rfl rfl rfl (by decide +kernel) ⟨Nat.le_of_ble_eq_true rfl, Nat.le_of_ble_eq_true rfl⟩) ⟨fn_blind, va_recv hK.1 hP (ci := 11) (q0 := 0) rfl rfl, hp⟩ rfl rfl hl.1 rfl (lv_room (Nat.le_of_ble_eq_true rfl)) dL_law_981 ⟨Nat.le_of_ble_eq_true rfl, Nat.le_of_ble_eq_true rfl⟩) (fun r2 u1 H locs hwu1 hP hD hS => ?_)
  have r2_e : r2 = (-2) := hwu1
  subst r2_e
  have hP : va_P D vwCl [(m0, .inr (12, [.int 0, .ref (v 0), .ref (v 1), .ref (v 2), .ref (v 3), .ref (v 4), .int 0, .int 0, .int 0, .int 0, .int 0, .long 0, .int 0, .int 0, .int 0, .int (-1), .ref (v 5), .ref (v 6), .ref (v 7), .ref (v 8), .ref (v 9), .ref (v 10), .ref (v 11), .ref (v 12), .ref (v 13), .ref (v 14), .ref (v 15), .ref (v 16), .ref (v 17), .ref (v 18), .ref (v 19), .ref (v 20), .int 0, .int 0, .int 0, .int 0, .ref (v 21), .ref (v 22), .ref (v 23), .int 0, .int 0, .ref (v 24), .ref (v 25), .int 0, .int 0, .ref (v 26), .ref (v 27), .ref (v 28), .int 0, .int 0, .int 0])), ((v 0), .inl (K 0, 4, .inl fw)), ((v 1), .inl (K 0, 4, .inl (fun _ => 0))), ((v 2), .inl (K 3, 240, .inr (.inl (fun _ => 0)))), ((v 4), .inl (K 1, 1400, .inl (fun _ => 0))), ((v 5), .inl (K 0, 5, .inl (fun _ => 0))), ((v 6), .inl (K 0, 40, .inl (fun _ => 0))), ((v 7), .inl (K 0, 50, .inl (fun _ => 0))), ((v 8), .inl (K 0, 60, .inl (fun _ => 0))), ((v 9), .inl (K 0, 480, .inl (fun _ => 0))), ((v 10), .inl (K 0, 600, .inl (fun _ => 0))), ((v 11), .inl (K 2, 3, .inl (fun _ => 0)))] H := hP
  have hD : va_D A [(m0, .inr (12, [.int 0, .ref (v 0), .ref (v 1), .ref (v 2), .ref (v 3), .ref (v 4), .int 0, .int 0, .int 0, .int 0, .int 0, .long 0, .int 0, .int 0, .int 0, .int (-1), .ref (v 5), .ref (v 6), .ref (v 7), .ref (v 8), .ref (v 9), .ref (v 10), .ref (v 11), .ref (v 12), .ref (v 13), .ref (v 14), .ref (v 15), .ref (v 16), .ref (v 17), .ref (v 18), .ref (v 19), .ref (v 20), .int 0, .int 0, .int 0, .int 0, .ref (v 21), .ref (v 22), .ref (v 23), .int 0, .int 0, .ref (v 24), .ref (v 25), .int 0, .int 0, .ref (v 26), .ref (v 27), .ref (v 28), .int 0, .int 0, .int 0])), ((v 0), .inl (K 0, 4, .inl fw)), ((v 1), .inl (K 0, 4, .inl (fun _ => 0))), ((v 2), .inl (K 3, 240, .inr (.inl (fun _ => 0)))), ((v 4), .inl (K 1, 1400, .inl (fun _ => 0))), ((v 5), .inl (K 0, 5, .inl (fun _ => 0))), ((v 6), .inl (K 0, 40, .inl (fun _ => 0))), ((v 7), .inl (K 0, 50, .inl (fun _ => 0))), ((v 8), .inl (K 0, 60, .inl (fun _ => 0))), ((v 9), .inl (K 0, 480, .inl (fun _ => 0))), ((v 10), .inl (K 0, 600, .inl (fun _ => 0))), ((v 11), .inl (K 2, 3, .inl (fun _ => 0)))] := hD
  refine lv_aload_n hx hb dL_law_984 rfl (lv_at hl 1 rfl) ?_
  refine lv_aload_n hx hb dL_law_985 rfl (lv_at hl 3 rfl) ?_
  refine lv_iload_n hx hb dL_law_986 rfl (lv_at hl 0 rfl) ?_
  refine lv_iconst (v := 1) hx hb dL_law_987 (by decide) ?_
  refine lv_iadd hx hb dL_law_988 ?_
  refine fn_top 1 (by decide) ?_
  refine va_sld hx hb hX hbl hbA hS (by unfold vp_in; decide) dL_law_989 ?_
  refine fn_top (xs 1) (congrArg xs (by decide)) ?_
  refine fn_goi (wc := [(m0, .inr (12, [.int 0, .ref (v 0), .ref (v 1), .ref (v 2), .ref (v 3), .ref (v 4), .int 0, .int 0, .int 0, .int 0, .int 0, .long 0, .int 0, .int 0, .int 0, .int (-1), .ref (v 5), .ref (v 6), .ref (v 7), .ref (v 8), .ref (v 9), .ref (v 10), .ref (v 11), .ref (v 12), .ref (v 13), .ref (v 14), .ref (v 15), .ref (v 16), .ref (v 17), .ref (v 18), .ref (v 19), .ref (v 20), .int 0, .int 0, .int 0, .int 0, .ref (v 21), .ref (v 22), .ref (v 23), .int 0, .int 0, .ref (v 24), .ref (v 25), .int 0, .int 0, .ref (v 26), .ref (v 27), .ref (v 28), .int 0, .int 0, .int 0])), ((v 5), .inl (K 0, 5, .inl (fun _ => 0))), ((v 6), .inl (K 0, 40, .inl (fun _ => 0)))]) (wr := []) hK hP hD hS hA [0, 5, 6] [] rfl rfl (by decide) (fun hp => va_runV (C := RX12) (As := [.int (xs 1)]) (rest := [.int (-2)]) ⟨hx, hb, hml, hown, hts⟩ (c_X12_loss (l := l) (D := D) (K := K) (m0 := (m0)) (p0 := ((xs 1))) (fm := ([.int 0, .ref (v 0), .ref (v 1), .ref (v 2), .ref (v 3), .ref (v 4), .int 0, .int 0, .int 0, .int 0, .int 0, .long 0, .int 0, .int 0, .int 0, .int (-1), .ref (v 5), .ref (v 6), .ref (v 7), .ref (v 8), .ref (v 9), .ref (v 10), .ref (v 11), .ref (v 12), .ref (v 13), .ref (v 14), .ref (v 15), .ref (v 16), .ref (v 17), .ref (v 18), .ref (v 19), .ref (v 20), .int 0, .int 0, .int 0, .int 0, .ref (v 21), .ref (v 22), .ref (v 23), .int 0, .int 0, .ref (v 24), .ref (v 25), .int 0, .int 0, .ref (v 26), .ref (v 27), .ref (v 28), .int 0, .int 0, .int 0])) (hmn := rfl) (al := ((v 5))) (hm16 := rfl) (ah := ((v 6))) (hm17 := rfl) (fl := (fun _ => 0)) (hfl := (fun _ => rfl)) (fh := (fun _ => 0)) (hfh := (fun _ => rfl)) _) (cwV 1 hts (fn_ginV (fn_gin wd_1696) wd_1693 wd_1694 wd_1695 wd_13) rfl rfl rfl (by decide +kernel) ⟨Nat.le_of_ble_eq_true rfl, Nat.le_of_ble_eq_true rfl⟩) ⟨fn_blind, va_recv hK.1 hP (ci := 12) (q0 := 0) rfl rfl, hp⟩ rfl rfl hl.1 rfl (lv_room (Nat.le_of_ble_eq_true rfl)) dL_law_990 ⟨Nat.le_of_ble_eq_true rfl, Nat.le_of_ble_eq_true rfl⟩) (fun r4 u3 H locs hwu3 hP hD hS => ?_)
  have r4_e : r4 = (-2) := hwu3
  subst r4_e
  have hP : va_P D vwCl [] H := hP
  have hD : va_D A [] := hD
  refine lv_icmp_eq (tgt := 1996) hx hb dL_law_993 (by decide) (fun _ => ?_) (fun h9 => absurd (by decide) h9)
  refine lv_iinc (v := 6) (lv' := [(3, .int 6), (2, .ref m0), (1, .ref x0), (0, .ref b)]) hx hb dL_law_1996 hl (k := 0) rfl (by decide) (by decide) rfl (fun ls hl => ?_)
  refine lv_goto (tgt := 18) hx hb dL_law_1999 (by decide) ?_
  refine lv_iload_n hx hb dL_law_18 rfl (lv_at hl 0 rfl) ?_
  refine lv_aload_n hx hb dL_law_19 rfl (lv_at hl 3 rfl) ?_
  refine fn_at 20 rfl ?_
  refine va_slen hx hb hX hbl hbA hS dL_law_20 ?_
  refine fn_top 6 (by decide) ?_
  refine lv_bipush (v := 6) hx hb dL_law_21 (by decide) ?_
  refine lv_isub hx hb dL_law_23 ?_
  refine fn_top 0 (by decide) ?_
  refine lv_icmp_gt (tgt := 2002) hx hb dL_law_24 (by decide) (fun _ => ?_) (fun h9 => absurd (by decide) h9)
  refine lv_iconst (v := 1) hx hb dL_law_2002 (by decide) ?_
  refine va_forget (fun q hq => by have h9 := hS.2.2 q hq; rw [← hAe] at h9; exact h9) ?_
  refine W.widen (k := 600000) (n := 7302250) (Nat.le_of_ble_eq_true rfl) (Nat.le_of_ble_eq_true rfl) ?_
  exact lw_ret hx hb hr hlocks dL_law_2003
theorem dL_law_998 : decode cL_law 998 = .ok (.aload_n 1, 1) := by decide +kernel
theorem dL_law_999 : decode cL_law 999 = .ok (.invokevirtual 129, 3) := by decide +kernel
theorem dL_law_1002 : decode cL_law 1002 = .ok (.aload_n 2, 1) := by decide +kernel
theorem dL_law_1003 : decode cL_law 1003 = .ok (.invokevirtual 132, 3) := by decide +kernel
theorem dL_law_1006 : decode cL_law 1006 = .ok (.if_icmp .eq 990, 3) := by decide +kernel
set_option maxHeartbeats 4000000 in
set_option maxRecDepth 100000 in
theorem law_28 {p : Program} {l : Launch} {e : Env} {s : State} {m : MethodId} {below : List Frame} {meth : Method} {c : Code} {b : Nat} {xs : Nat → Int32} (hx : p.tables.exec = Jvm.exec) (hb : c.code = cL_law) (hr : meth.sig.returnType = ret) (hml : c.maxLocals = 4) (hown : s.vm.findClass RL = some m.cls) (hts : ∀ w ∈ fn_big, w.before #[Value.ref b] s = true) (hX : va_X b 6 xs s s.heap) (hbl : b < s.heap.size) (hlocks : meth.locks = false) {D : va_G} {K : Nat → ClassId} (hK : fn_KK D K s) {x0 m0 : Nat} {u v : Nat → Nat} {fw : Nat → Int32} (hfw : ∀ j, j < 4 → fw j = -1) {A : Nat → Prop} (hAe : (fun q : Nat => s.heap.size ≤ q) = A) : ∀ (H : Heap) (locs : List Loc) (ls : Array Slot), va_P D vwCl (fn_world K x0 m0 u v fw) H → va_D A (fn_world K x0 m0 u v fw) → va_S A s.heap H locs → lv_has ls 4 [(3, .int 0), (2, .ref m0), (1, .ref x0), (0, .ref b)] → W p l e room_1 s m #[Value.ref b] below meth c H locs 144 12710 (lw_Z below #[Value.ref b] s) (F0 m 998 ls []) := by
  intro H locs ls hP hD hS hl
  have hA : ∀ q : Nat, s.heap.size ≤ q → A q := fun q h => by rw [← hAe]; exact h
  have hbA : ¬ A b := by rw [← hAe]; exact Nat.not_le.mpr hbl
  refine lv_aload_n hx hb dL_law_998 rfl (lv_at hl 2 rfl) ?_
  refine fn_goi (wc := [(x0, .inr (11, [.ref (u 0), .ref (u 10), .ref (u 17), .ref (u 25), .ref (u 26), .ref (u 27), .ref (u 28), .ref (u 29), .ref (u 34), .ref (u 39), .ref (u 43), .ref (u 51), .ref (u 55)])), ((u 10), .inr (7, [.int 0, .int 0, .int 0, .int 0, .int 0, .int 0, .int 0, .int 0, .int 0, .ref (u 11), .ref (u 12), .ref (u 13), .ref (u 14), .ref (u 15), .ref (u 16)]))]) (wr := [(m0, .inr (12, [.int 0, .ref (v 0), .ref (v 1), .ref (v 2), .ref (v 3), .ref (v 4), .int 0, .int 0, .int 0, .int 0, .int 0, .long 0, .int 0, .int 0, .int 0, .int (-1), .ref (v 5), .ref (v 6), .ref (v 7), .ref (v 8), .ref (v 9), .ref (v 10), .ref (v 11), .ref (v 12), .ref (v 13), .ref (v 14), .ref (v 15), .ref (v 16), .ref (v 17), .ref (v 18), .ref (v 19), .ref (v 20), .int 0, .int 0, .int 0, .int 0, .ref (v 21), .ref (v 22), .ref (v 23), .int 0, .int 0, .ref (v 24), .ref (v 25), .int 0, .int 0, .ref (v 26), .ref (v 27), .ref (v 28), .int 0, .int 0, .int 0])), ((v 0), .inl (K 0, 4, .inl fw)), ((v 1), .inl (K 0, 4, .inl (fun _ => 0))), ((v 2), .inl (K 3, 240, .inr (.inl (fun _ => 0)))), ((v 4), .inl (K 1, 1400, .inl (fun _ => 0))), ((v 5), .inl (K 0, 5, .inl (fun _ => 0))), ((v 6), .inl (K 0, 40, .inl (fun _ => 0))), ((v 7), .inl (K 0, 50, .inl (fun _ => 0))), ((v 8), .inl (K 0, 60, .inl (fun _ => 0))), ((v 9), .inl (K 0, 480, .inl (fun _ => 0))), ((v 10), .inl (K 0, 600, .inl (fun _ => 0))), ((v 11), .inl (K 2, 3, .inl (fun _ => 0)))]) hK hP hD hS hA [0, 11] [88, 89, 90, 91, 92, 93, 94, 95, 96, 97, 98, 99] rfl rfl (by decide) (fun hp => va_runV (C := RX11) (As := []) (rest := []) ⟨hx, hb, hml, hown, hts⟩ (c_X11_key (l := l) (D := D) (K := K) (x0 := (x0)) (fx := ([.ref (u 0), .ref (u 10), .ref (u 17), .ref (u 25), .ref (u 26), .ref (u 27), .ref (u 28), .ref (u 29), .ref (u 34), .ref (u 39), .ref (u 43), .ref (u 51), .ref (u 55)])) (t0 := ((u 10))) (hx1 := rfl) (ft := ([.int 0, .int 0, .int 0, .int 0, .int 0, .int 0, .int 0, .int 0, .int 0, .ref (u 11), .ref (u 12), .ref (u 13), .ref (u 14), .ref (u 15), .ref (u 16)])) (ht0 := rfl) (ht3 := rfl) (ht4 := rfl) (ht5 := rfl) _) (cwV 0 hts (fn_ginV (fn_gin wd_848) wd_845 wd_846 wd_847 wd_1) rfl rfl rfl (by decide +kernel) ⟨Nat.le_of_ble_eq_true rfl, Nat.le_of_ble_eq_true rfl⟩) ⟨fn_blind, va_recv hK.1 hP (ci := 11) (q0 := 0) rfl rfl, hp⟩ rfl rfl hl.1 rfl (lv_room (Nat.le_of_ble_eq_true rfl)) dL_law_999 ⟨Nat.le_of_ble_eq_true rfl, Nat.le_of_ble_eq_true rfl⟩) (fun r2 u1 H locs hwu1 hP hD hS => ?_)
  have r2_e : r2 = (-2) := hwu1
  subst r2_e
  have hP : va_P D vwCl [(m0, .inr (12, [.int 0, .ref (v 0), .ref (v 1), .ref (v 2), .ref (v 3), .ref (v 4), .int 0, .int 0, .int 0, .int 0, .int 0, .long 0, .int 0, .int 0, .int 0, .int (-1), .ref (v 5), .ref (v 6), .ref (v 7), .ref (v 8), .ref (v 9), .ref (v 10), .ref (v 11), .ref (v 12), .ref (v 13), .ref (v 14), .ref (v 15), .ref (v 16), .ref (v 17), .ref (v 18), .ref (v 19), .ref (v 20), .int 0, .int 0, .int 0, .int 0, .ref (v 21), .ref (v 22), .ref (v 23), .int 0, .int 0, .ref (v 24), .ref (v 25), .int 0, .int 0, .ref (v 26), .ref (v 27), .ref (v 28), .int 0, .int 0, .int 0])), ((v 0), .inl (K 0, 4, .inl fw)), ((v 1), .inl (K 0, 4, .inl (fun _ => 0))), ((v 2), .inl (K 3, 240, .inr (.inl (fun _ => 0)))), ((v 4), .inl (K 1, 1400, .inl (fun _ => 0))), ((v 5), .inl (K 0, 5, .inl (fun _ => 0))), ((v 6), .inl (K 0, 40, .inl (fun _ => 0))), ((v 7), .inl (K 0, 50, .inl (fun _ => 0))), ((v 8), .inl (K 0, 60, .inl (fun _ => 0))), ((v 9), .inl (K 0, 480, .inl (fun _ => 0))), ((v 10), .inl (K 0, 600, .inl (fun _ => 0))), ((v 11), .inl (K 2, 3, .inl (fun _ => 0)))] H := hP
  have hD : va_D A [(m0, .inr (12, [.int 0, .ref (v 0), .ref (v 1), .ref (v 2), .ref (v 3), .ref (v 4), .int 0, .int 0, .int 0, .int 0, .int 0, .long 0, .int 0, .int 0, .int 0, .int (-1), .ref (v 5), .ref (v 6), .ref (v 7), .ref (v 8), .ref (v 9), .ref (v 10), .ref (v 11), .ref (v 12), .ref (v 13), .ref (v 14), .ref (v 15), .ref (v 16), .ref (v 17), .ref (v 18), .ref (v 19), .ref (v 20), .int 0, .int 0, .int 0, .int 0, .ref (v 21), .ref (v 22), .ref (v 23), .int 0, .int 0, .ref (v 24), .ref (v 25), .int 0, .int 0, .ref (v 26), .ref (v 27), .ref (v 28), .int 0, .int 0, .int 0])), ((v 0), .inl (K 0, 4, .inl fw)), ((v 1), .inl (K 0, 4, .inl (fun _ => 0))), ((v 2), .inl (K 3, 240, .inr (.inl (fun _ => 0)))), ((v 4), .inl (K 1, 1400, .inl (fun _ => 0))), ((v 5), .inl (K 0, 5, .inl (fun _ => 0))), ((v 6), .inl (K 0, 40, .inl (fun _ => 0))), ((v 7), .inl (K 0, 50, .inl (fun _ => 0))), ((v 8), .inl (K 0, 60, .inl (fun _ => 0))), ((v 9), .inl (K 0, 480, .inl (fun _ => 0))), ((v 10), .inl (K 0, 600, .inl (fun _ => 0))), ((v 11), .inl (K 2, 3, .inl (fun _ => 0)))] := hD
  refine lv_aload_n hx hb dL_law_1002 rfl (lv_at hl 1 rfl) ?_
  refine fn_goi (wc := [(m0, .inr (12, [.int 0, .ref (v 0), .ref (v 1), .ref (v 2), .ref (v 3), .ref (v 4), .int 0, .int 0, .int 0, .int 0, .int 0, .long 0, .int 0, .int 0, .int 0, .int (-1), .ref (v 5), .ref (v 6), .ref (v 7), .ref (v 8), .ref (v 9), .ref (v 10), .ref (v 11), .ref (v 12), .ref (v 13), .ref (v 14), .ref (v 15), .ref (v 16), .ref (v 17), .ref (v 18), .ref (v 19), .ref (v 20), .int 0, .int 0, .int 0, .int 0, .ref (v 21), .ref (v 22), .ref (v 23), .int 0, .int 0, .ref (v 24), .ref (v 25), .int 0, .int 0, .ref (v 26), .ref (v 27), .ref (v 28), .int 0, .int 0, .int 0])), ((v 5), .inl (K 0, 5, .inl (fun _ => 0))), ((v 6), .inl (K 0, 40, .inl (fun _ => 0)))]) (wr := []) hK hP hD hS hA [0, 5, 6] [] rfl rfl (by decide) (fun hp => va_runV (C := RX12) (As := []) (rest := [.int (-2)]) ⟨hx, hb, hml, hown, hts⟩ (c_X12_key (l := l) (D := D) (K := K) (m0 := (m0)) (fm := ([.int 0, .ref (v 0), .ref (v 1), .ref (v 2), .ref (v 3), .ref (v 4), .int 0, .int 0, .int 0, .int 0, .int 0, .long 0, .int 0, .int 0, .int 0, .int (-1), .ref (v 5), .ref (v 6), .ref (v 7), .ref (v 8), .ref (v 9), .ref (v 10), .ref (v 11), .ref (v 12), .ref (v 13), .ref (v 14), .ref (v 15), .ref (v 16), .ref (v 17), .ref (v 18), .ref (v 19), .ref (v 20), .int 0, .int 0, .int 0, .int 0, .ref (v 21), .ref (v 22), .ref (v 23), .int 0, .int 0, .ref (v 24), .ref (v 25), .int 0, .int 0, .ref (v 26), .ref (v 27), .ref (v 28), .int 0, .int 0, .int 0])) (hmn := rfl) (al := ((v 5))) (hm16 := rfl) (ah := ((v 6))) (hm17 := rfl) (fl := (fun _ => 0)) (hfl := (fun _ => rfl)) (fh := (fun _ => 0)) (hfh := (fun _ => rfl)) _) (cwV 0 hts (fn_ginV (fn_gin wd_1707) wd_1704 wd_1705 wd_1706 wd_13) rfl rfl rfl (by decide +kernel) ⟨Nat.le_of_ble_eq_true rfl, Nat.le_of_ble_eq_true rfl⟩) ⟨fn_blind, va_recv hK.1 hP (ci := 12) (q0 := 0) rfl rfl, hp⟩ rfl rfl hl.1 rfl (lv_room (Nat.le_of_ble_eq_true rfl)) dL_law_1003 ⟨Nat.le_of_ble_eq_true rfl, Nat.le_of_ble_eq_true rfl⟩) (fun r4 u3 H locs hwu3 hP hD hS => ?_)
  have r4_e : r4 = (-2) := hwu3
  subst r4_e
  have hP : va_P D vwCl [] H := hP
  have hD : va_D A [] := hD
  refine lv_icmp_eq (tgt := 1996) hx hb dL_law_1006 (by decide) (fun _ => ?_) (fun h9 => absurd (by decide) h9)
  refine lv_iinc (v := 6) (lv' := [(3, .int 6), (2, .ref m0), (1, .ref x0), (0, .ref b)]) hx hb dL_law_1996 hl (k := 0) rfl (by decide) (by decide) rfl (fun ls hl => ?_)
  refine lv_goto (tgt := 18) hx hb dL_law_1999 (by decide) ?_
  refine lv_iload_n hx hb dL_law_18 rfl (lv_at hl 0 rfl) ?_
  refine lv_aload_n hx hb dL_law_19 rfl (lv_at hl 3 rfl) ?_
  refine va_slen hx hb hX hbl hbA hS dL_law_20 ?_
  refine fn_top 6 (by decide) ?_
  refine lv_bipush (v := 6) hx hb dL_law_21 (by decide) ?_
  refine lv_isub hx hb dL_law_23 ?_
  refine fn_top 0 (by decide) ?_
  refine lv_icmp_gt (tgt := 2002) hx hb dL_law_24 (by decide) (fun _ => ?_) (fun h9 => absurd (by decide) h9)
  refine lv_iconst (v := 1) hx hb dL_law_2002 (by decide) ?_
  refine va_forget (fun q hq => by have h9 := hS.2.2 q hq; rw [← hAe] at h9; exact h9) ?_
  refine W.widen (k := 600000) (n := 7302250) (Nat.le_of_ble_eq_true rfl) (Nat.le_of_ble_eq_true rfl) ?_
  exact lw_ret hx hb hr hlocks dL_law_2003
theorem dL_law_1011 : decode cL_law 1011 = .ok (.aload_n 1, 1) := by decide +kernel
theorem dL_law_1012 : decode cL_law 1012 = .ok (.aload_n 0, 1) := by decide +kernel
theorem dL_law_1013 : decode cL_law 1013 = .ok (.iload_n 3, 1) := by decide +kernel
theorem dL_law_1014 : decode cL_law 1014 = .ok (.iconst 1, 1) := by decide +kernel
theorem dL_law_1015 : decode cL_law 1015 = .ok (.iadd, 1) := by decide +kernel
theorem dL_law_1016 : decode cL_law 1016 = .ok (.iaload, 1) := by decide +kernel
theorem dL_law_1017 : decode cL_law 1017 = .ok (.invokevirtual 133, 3) := by decide +kernel
theorem dL_law_1020 : decode cL_law 1020 = .ok (.aload_n 2, 1) := by decide +kernel
theorem dL_law_1021 : decode cL_law 1021 = .ok (.aload_n 0, 1) := by decide +kernel
theorem dL_law_1022 : decode cL_law 1022 = .ok (.iload_n 3, 1) := by decide +kernel
theorem dL_law_1023 : decode cL_law 1023 = .ok (.iconst 1, 1) := by decide +kernel
theorem dL_law_1024 : decode cL_law 1024 = .ok (.iadd, 1) := by decide +kernel
theorem dL_law_1025 : decode cL_law 1025 = .ok (.iaload, 1) := by decide +kernel
theorem dL_law_1026 : decode cL_law 1026 = .ok (.invokevirtual 136, 3) := by decide +kernel
theorem dL_law_1029 : decode cL_law 1029 = .ok (.if_icmp .eq 967, 3) := by decide +kernel
set_option maxHeartbeats 4000000 in
set_option maxRecDepth 100000 in
theorem law_29 {p : Program} {l : Launch} {e : Env} {s : State} {m : MethodId} {below : List Frame} {meth : Method} {c : Code} {b : Nat} {xs : Nat → Int32} (hx : p.tables.exec = Jvm.exec) (hb : c.code = cL_law) (hr : meth.sig.returnType = ret) (hml : c.maxLocals = 4) (hown : s.vm.findClass RL = some m.cls) (hts : ∀ w ∈ fn_big, w.before #[Value.ref b] s = true) (hX : va_X b 6 xs s s.heap) (hbl : b < s.heap.size) (hlocks : meth.locks = false) {D : va_G} {K : Nat → ClassId} (hK : fn_KK D K s) {x0 m0 : Nat} {u v : Nat → Nat} {fw : Nat → Int32} (hfw : ∀ j, j < 4 → fw j = -1) {A : Nat → Prop} (hAe : (fun q : Nat => s.heap.size ≤ q) = A) : ∀ (H : Heap) (locs : List Loc) (ls : Array Slot), va_P D vwCl (fn_world K x0 m0 u v fw) H → va_D A (fn_world K x0 m0 u v fw) → va_S A s.heap H locs → lv_has ls 4 [(3, .int 0), (2, .ref m0), (1, .ref x0), (0, .ref b)] → W p l e room_1 s m #[Value.ref b] below meth c H locs 144 12710 (lw_Z below #[Value.ref b] s) (F0 m 1011 ls []) := by
  intro H locs ls hP hD hS hl
  have hA : ∀ q : Nat, s.heap.size ≤ q → A q := fun q h => by rw [← hAe]; exact h
  have hbA : ¬ A b := by rw [← hAe]; exact Nat.not_le.mpr hbl
  refine lv_aload_n hx hb dL_law_1011 rfl (lv_at hl 2 rfl) ?_
  refine lv_aload_n hx hb dL_law_1012 rfl (lv_at hl 3 rfl) ?_
  refine lv_iload_n hx hb dL_law_1013 rfl (lv_at hl 0 rfl) ?_
  refine lv_iconst (v := 1) hx hb dL_law_1014 (by decide) ?_
  refine lv_iadd hx hb dL_law_1015 ?_
  refine fn_top 1 (by decide) ?_
  refine va_sld hx hb hX hbl hbA hS (by unfold vp_in; decide) dL_law_1016 ?_
  refine fn_top (xs 1) (congrArg xs (by decide)) ?_
  refine fn_goi (wc := [(x0, .inr (11, [.ref (u 0), .ref (u 10), .ref (u 17), .ref (u 25), .ref (u 26), .ref (u 27), .ref (u 28), .ref (u 29), .ref (u 34), .ref (u 39), .ref (u 43), .ref (u 51), .ref (u 55)])), ((u 10), .inr (7, [.int 0, .int 0, .int 0, .int 0, .int 0, .int 0, .int 0, .int 0, .int 0, .ref (u 11), .ref (u 12), .ref (u 13), .ref (u 14), .ref (u 15), .ref (u 16)]))]) (wr := [(m0, .inr (12, [.int 0, .ref (v 0), .ref (v 1), .ref (v 2), .ref (v 3), .ref (v 4), .int 0, .int 0, .int 0, .int 0, .int 0, .long 0, .int 0, .int 0, .int 0, .int (-1), .ref (v 5), .ref (v 6), .ref (v 7), .ref (v 8), .ref (v 9), .ref (v 10), .ref (v 11), .ref (v 12), .ref (v 13), .ref (v 14), .ref (v 15), .ref (v 16), .ref (v 17), .ref (v 18), .ref (v 19), .ref (v 20), .int 0, .int 0, .int 0, .int 0, .ref (v 21), .ref (v 22), .ref (v 23), .int 0, .int 0, .ref (v 24), .ref (v 25), .int 0, .int 0, .ref (v 26), .ref (v 27), .ref (v 28), .int 0, .int 0, .int 0])), ((v 0), .inl (K 0, 4, .inl fw)), ((v 1), .inl (K 0, 4, .inl (fun _ => 0))), ((v 2), .inl (K 3, 240, .inr (.inl (fun _ => 0)))), ((v 4), .inl (K 1, 1400, .inl (fun _ => 0))), ((v 5), .inl (K 0, 5, .inl (fun _ => 0))), ((v 6), .inl (K 0, 40, .inl (fun _ => 0))), ((v 7), .inl (K 0, 50, .inl (fun _ => 0))), ((v 8), .inl (K 0, 60, .inl (fun _ => 0))), ((v 9), .inl (K 0, 480, .inl (fun _ => 0))), ((v 10), .inl (K 0, 600, .inl (fun _ => 0))), ((v 11), .inl (K 2, 3, .inl (fun _ => 0)))]) hK hP hD hS hA [0, 11] [88, 89, 90, 91, 92, 93, 94, 95, 96, 97, 98, 99] rfl rfl (by decide) (fun hp => va_runV (C := RX11) (As := [.int (xs 1)]) (rest := []) ⟨hx, hb, hml, hown, hts⟩ (c_X11_cut (l := l) (D := D) (K := K) (x0 := (x0)) (p0 := ((xs 1))) (fx := ([.ref (u 0), .ref (u 10), .ref (u 17), .ref (u 25), .ref (u 26), .ref (u 27), .ref (u 28), .ref (u 29), .ref (u 34), .ref (u 39), .ref (u 43), .ref (u 51), .ref (u 55)])) (t0 := ((u 10))) (hx1 := rfl) (ft := ([.int 0, .int 0, .int 0, .int 0, .int 0, .int 0, .int 0, .int 0, .int 0, .ref (u 11), .ref (u 12), .ref (u 13), .ref (u 14), .ref (u 15), .ref (u 16)])) (ht0 := rfl) (ht3 := rfl) (ht4 := rfl) (ht5 := rfl) _) (cwV 1 hts (fn_ginV (fn_gin wd_852) wd_849 wd_850 wd_851 wd_1) rfl rfl rfl (by decide +kernel) ⟨Nat.le_of_ble_eq_true rfl, Nat.le_of_ble_eq_true rfl⟩) ⟨fn_blind, va_recv hK.1 hP (ci := 11) (q0 := 0) rfl rfl, hp⟩ rfl rfl hl.1 rfl (lv_room (Nat.le_of_ble_eq_true rfl)) dL_law_1017 ⟨Nat.le_of_ble_eq_true rfl, Nat.le_of_ble_eq_true rfl⟩) (fun r2 u1 H locs hwu1 hP hD hS => ?_)
  have r2_e : r2 = (-2) := hwu1
  subst r2_e
  have hP : va_P D vwCl [(m0, .inr (12, [.int 0, .ref (v 0), .ref (v 1), .ref (v 2), .ref (v 3), .ref (v 4), .int 0, .int 0, .int 0, .int 0, .int 0, .long 0, .int 0, .int 0, .int 0, .int (-1), .ref (v 5), .ref (v 6), .ref (v 7), .ref (v 8), .ref (v 9), .ref (v 10), .ref (v 11), .ref (v 12), .ref (v 13), .ref (v 14), .ref (v 15), .ref (v 16), .ref (v 17), .ref (v 18), .ref (v 19), .ref (v 20), .int 0, .int 0, .int 0, .int 0, .ref (v 21), .ref (v 22), .ref (v 23), .int 0, .int 0, .ref (v 24), .ref (v 25), .int 0, .int 0, .ref (v 26), .ref (v 27), .ref (v 28), .int 0, .int 0, .int 0])), ((v 0), .inl (K 0, 4, .inl fw)), ((v 1), .inl (K 0, 4, .inl (fun _ => 0))), ((v 2), .inl (K 3, 240, .inr (.inl (fun _ => 0)))), ((v 4), .inl (K 1, 1400, .inl (fun _ => 0))), ((v 5), .inl (K 0, 5, .inl (fun _ => 0))), ((v 6), .inl (K 0, 40, .inl (fun _ => 0))), ((v 7), .inl (K 0, 50, .inl (fun _ => 0))), ((v 8), .inl (K 0, 60, .inl (fun _ => 0))), ((v 9), .inl (K 0, 480, .inl (fun _ => 0))), ((v 10), .inl (K 0, 600, .inl (fun _ => 0))), ((v 11), .inl (K 2, 3, .inl (fun _ => 0)))] H := hP
  have hD : va_D A [(m0, .inr (12, [.int 0, .ref (v 0), .ref (v 1), .ref (v 2), .ref (v 3), .ref (v 4), .int 0, .int 0, .int 0, .int 0, .int 0, .long 0, .int 0, .int 0, .int 0, .int (-1), .ref (v 5), .ref (v 6), .ref (v 7), .ref (v 8), .ref (v 9), .ref (v 10), .ref (v 11), .ref (v 12), .ref (v 13), .ref (v 14), .ref (v 15), .ref (v 16), .ref (v 17), .ref (v 18), .ref (v 19), .ref (v 20), .int 0, .int 0, .int 0, .int 0, .ref (v 21), .ref (v 22), .ref (v 23), .int 0, .int 0, .ref (v 24), .ref (v 25), .int 0, .int 0, .ref (v 26), .ref (v 27), .ref (v 28), .int 0, .int 0, .int 0])), ((v 0), .inl (K 0, 4, .inl fw)), ((v 1), .inl (K 0, 4, .inl (fun _ => 0))), ((v 2), .inl (K 3, 240, .inr (.inl (fun _ => 0)))), ((v 4), .inl (K 1, 1400, .inl (fun _ => 0))), ((v 5), .inl (K 0, 5, .inl (fun _ => 0))), ((v 6), .inl (K 0, 40, .inl (fun _ => 0))), ((v 7), .inl (K 0, 50, .inl (fun _ => 0))), ((v 8), .inl (K 0, 60, .inl (fun _ => 0))), ((v 9), .inl (K 0, 480, .inl (fun _ => 0))), ((v 10), .inl (K 0, 600, .inl (fun _ => 0))), ((v 11), .inl (K 2, 3, .inl (fun _ => 0)))] := hD
  refine lv_aload_n hx hb dL_law_1020 rfl (lv_at hl 1 rfl) ?_
  refine lv_aload_n hx hb dL_law_1021 rfl (lv_at hl 3 rfl) ?_
  refine lv_iload_n hx hb dL_law_1022 rfl (lv_at hl 0 rfl) ?_
  refine lv_iconst (v := 1) hx hb dL_law_1023 (by decide) ?_
  refine lv_iadd hx hb dL_law_1024 ?_
  refine fn_top 1 (by decide) ?_
  refine va_sld hx hb hX hbl hbA hS (by unfold vp_in; decide) dL_law_1025 ?_
  refine fn_top (xs 1) (congrArg xs (by decide)) ?_
  refine fn_goi (wc := [(m0, .inr (12, [.int 0, .ref (v 0), .ref (v 1), .ref (v 2), .ref (v 3), .ref (v 4), .int 0, .int 0, .int 0, .int 0, .int 0, .long 0, .int 0, .int 0, .int 0, .int (-1), .ref (v 5), .ref (v 6), .ref (v 7), .ref (v 8), .ref (v 9), .ref (v 10), .ref (v 11), .ref (v 12), .ref (v 13), .ref (v 14), .ref (v 15), .ref (v 16), .ref (v 17), .ref (v 18), .ref (v 19), .ref (v 20), .int 0, .int 0, .int 0, .int 0, .ref (v 21), .ref (v 22), .ref (v 23), .int 0, .int 0, .ref (v 24), .ref (v 25), .int 0, .int 0, .ref (v 26), .ref (v 27), .ref (v 28), .int 0, .int 0, .int 0])), ((v 5), .inl (K 0, 5, .inl (fun _ => 0))), ((v 6), .inl (K 0, 40, .inl (fun _ => 0)))]) (wr := []) hK hP hD hS hA [0, 5, 6] [] rfl rfl (by decide) (fun hp => va_runV (C := RX12) (As := [.int (xs 1)]) (rest := [.int (-2)]) ⟨hx, hb, hml, hown, hts⟩ (c_X12_cut_ (l := l) (D := D) (K := K) (m0 := (m0)) (p0 := ((xs 1))) (fm := ([.int 0, .ref (v 0), .ref (v 1), .ref (v 2), .ref (v 3), .ref (v 4), .int 0, .int 0, .int 0, .int 0, .int 0, .long 0, .int 0, .int 0, .int 0, .int (-1), .ref (v 5), .ref (v 6), .ref (v 7), .ref (v 8), .ref (v 9), .ref (v 10), .ref (v 11), .ref (v 12), .ref (v 13), .ref (v 14), .ref (v 15), .ref (v 16), .ref (v 17), .ref (v 18), .ref (v 19), .ref (v 20), .int 0, .int 0, .int 0, .int 0, .ref (v 21), .ref (v 22), .ref (v 23), .int 0, .int 0, .ref (v 24), .ref (v 25), .int 0, .int 0, .ref (v 26), .ref (v 27), .ref (v 28), .int 0, .int 0, .int 0])) (hmn := rfl) (al := ((v 5))) (hm16 := rfl) (ah := ((v 6))) (hm17 := rfl) (fl := (fun _ => 0)) (hfl := (fun _ => rfl)) (fh := (fun _ => 0)) (hfh := (fun _ => rfl)) _) (cwV 1 hts (fn_ginV (fn_gin wd_1711) wd_1708 wd_1709 wd_1710 wd_13) rfl rfl rfl (by decide +kernel) ⟨Nat.le_of_ble_eq_true rfl, Nat.le_of_ble_eq_true rfl⟩) ⟨fn_blind, va_recv hK.1 hP (ci := 12) (q0 := 0) rfl rfl, hp⟩ rfl rfl hl.1 rfl (lv_room (Nat.le_of_ble_eq_true rfl)) dL_law_1026 ⟨Nat.le_of_ble_eq_true rfl, Nat.le_of_ble_eq_true rfl⟩) (fun r4 u3 H locs hwu3 hP hD hS => ?_)
  have r4_e : r4 = (-2) := hwu3
  subst r4_e
  have hP : va_P D vwCl [] H := hP
  have hD : va_D A [] := hD
  refine lv_icmp_eq (tgt := 1996) hx hb dL_law_1029 (by decide) (fun _ => ?_) (fun h9 => absurd (by decide) h9)
  refine lv_iinc (v := 6) (lv' := [(3, .int 6), (2, .ref m0), (1, .ref x0), (0, .ref b)]) hx hb dL_law_1996 hl (k := 0) rfl (by decide) (by decide) rfl (fun ls hl => ?_)
  refine lv_goto (tgt := 18) hx hb dL_law_1999 (by decide) ?_
  refine lv_iload_n hx hb dL_law_18 rfl (lv_at hl 0 rfl) ?_
  refine lv_aload_n hx hb dL_law_19 rfl (lv_at hl 3 rfl) ?_
  refine fn_at 20 rfl ?_
  refine va_slen hx hb hX hbl hbA hS dL_law_20 ?_
  refine fn_top 6 (by decide) ?_
  refine lv_bipush (v := 6) hx hb dL_law_21 (by decide) ?_
  refine lv_isub hx hb dL_law_23 ?_
  refine fn_top 0 (by decide) ?_
  refine lv_icmp_gt (tgt := 2002) hx hb dL_law_24 (by decide) (fun _ => ?_) (fun h9 => absurd (by decide) h9)
  refine lv_iconst (v := 1) hx hb dL_law_2002 (by decide) ?_
  refine va_forget (fun q hq => by have h9 := hS.2.2 q hq; rw [← hAe] at h9; exact h9) ?_
  refine W.widen (k := 600000) (n := 7302250) (Nat.le_of_ble_eq_true rfl) (Nat.le_of_ble_eq_true rfl) ?_
  exact lw_ret hx hb hr hlocks dL_law_2003
theorem dL_law_1034 : decode cL_law 1034 = .ok (.aload_n 1, 1) := by decide +kernel
theorem dL_law_1035 : decode cL_law 1035 = .ok (.aload_n 0, 1) := by decide +kernel
theorem dL_law_1036 : decode cL_law 1036 = .ok (.iload_n 3, 1) := by decide +kernel
theorem dL_law_1037 : decode cL_law 1037 = .ok (.iconst 1, 1) := by decide +kernel
theorem dL_law_1038 : decode cL_law 1038 = .ok (.iadd, 1) := by decide +kernel
theorem dL_law_1039 : decode cL_law 1039 = .ok (.iaload, 1) := by decide +kernel
theorem dL_law_1040 : decode cL_law 1040 = .ok (.invokevirtual 137, 3) := by decide +kernel
theorem dL_law_1043 : decode cL_law 1043 = .ok (.aload_n 2, 1) := by decide +kernel
theorem dL_law_1044 : decode cL_law 1044 = .ok (.aload_n 0, 1) := by decide +kernel
theorem dL_law_1045 : decode cL_law 1045 = .ok (.iload_n 3, 1) := by decide +kernel
theorem dL_law_1046 : decode cL_law 1046 = .ok (.iconst 1, 1) := by decide +kernel
theorem dL_law_1047 : decode cL_law 1047 = .ok (.iadd, 1) := by decide +kernel
theorem dL_law_1048 : decode cL_law 1048 = .ok (.iaload, 1) := by decide +kernel
theorem dL_law_1049 : decode cL_law 1049 = .ok (.invokevirtual 140, 3) := by decide +kernel
theorem dL_law_1052 : decode cL_law 1052 = .ok (.if_icmp .eq 944, 3) := by decide +kernel
set_option maxHeartbeats 4000000 in
set_option maxRecDepth 100000 in
theorem law_30 {p : Program} {l : Launch} {e : Env} {s : State} {m : MethodId} {below : List Frame} {meth : Method} {c : Code} {b : Nat} {xs : Nat → Int32} (hx : p.tables.exec = Jvm.exec) (hb : c.code = cL_law) (hr : meth.sig.returnType = ret) (hml : c.maxLocals = 4) (hown : s.vm.findClass RL = some m.cls) (hts : ∀ w ∈ fn_big, w.before #[Value.ref b] s = true) (hX : va_X b 6 xs s s.heap) (hbl : b < s.heap.size) (hlocks : meth.locks = false) {D : va_G} {K : Nat → ClassId} (hK : fn_KK D K s) {x0 m0 : Nat} {u v : Nat → Nat} {fw : Nat → Int32} (hfw : ∀ j, j < 4 → fw j = -1) {A : Nat → Prop} (hAe : (fun q : Nat => s.heap.size ≤ q) = A) : ∀ (H : Heap) (locs : List Loc) (ls : Array Slot), va_P D vwCl (fn_world K x0 m0 u v fw) H → va_D A (fn_world K x0 m0 u v fw) → va_S A s.heap H locs → lv_has ls 4 [(3, .int 0), (2, .ref m0), (1, .ref x0), (0, .ref b)] → W p l e room_1 s m #[Value.ref b] below meth c H locs 144 12710 (lw_Z below #[Value.ref b] s) (F0 m 1034 ls []) := by
  intro H locs ls hP hD hS hl
  have hA : ∀ q : Nat, s.heap.size ≤ q → A q := fun q h => by rw [← hAe]; exact h
  have hbA : ¬ A b := by rw [← hAe]; exact Nat.not_le.mpr hbl
  refine lv_aload_n hx hb dL_law_1034 rfl (lv_at hl 2 rfl) ?_
  refine lv_aload_n hx hb dL_law_1035 rfl (lv_at hl 3 rfl) ?_
  refine lv_iload_n hx hb dL_law_1036 rfl (lv_at hl 0 rfl) ?_
  refine lv_iconst (v := 1) hx hb dL_law_1037 (by decide) ?_
  refine lv_iadd hx hb dL_law_1038 ?_
  refine fn_top 1 (by decide) ?_
  refine va_sld hx hb hX hbl hbA hS (by unfold vp_in; decide) dL_law_1039 ?_
  refine fn_top (xs 1) (congrArg xs (by decide)) ?_
  refine fn_goi (wc := [(x0, .inr (11, [.ref (u 0), .ref (u 10), .ref (u 17), .ref (u 25), .ref (u 26), .ref (u 27), .ref (u 28), .ref (u 29), .ref (u 34), .ref (u 39), .ref (u 43), .ref (u 51), .ref (u 55)])), ((u 10), .inr (7, [.int 0, .int 0, .int 0, .int 0, .int 0, .int 0, .int 0, .int 0, .int 0, .ref (u 11), .ref (u 12), .ref (u 13), .ref (u 14), .ref (u 15), .ref (u 16)]))]) (wr := [(m0, .inr (12, [.int 0, .ref (v 0), .ref (v 1), .ref (v 2), .ref (v 3), .ref (v 4), .int 0, .int 0, .int 0, .int 0, .int 0, .long 0, .int 0, .int 0, .int 0, .int (-1), .ref (v 5), .ref (v 6), .ref (v 7), .ref (v 8), .ref (v 9), .ref (v 10), .ref (v 11), .ref (v 12), .ref (v 13), .ref (v 14), .ref (v 15), .ref (v 16), .ref (v 17), .ref (v 18), .ref (v 19), .ref (v 20), .int 0, .int 0, .int 0, .int 0, .ref (v 21), .ref (v 22), .ref (v 23), .int 0, .int 0, .ref (v 24), .ref (v 25), .int 0, .int 0, .ref (v 26), .ref (v 27), .ref (v 28), .int 0, .int 0, .int 0])), ((v 0), .inl (K 0, 4, .inl fw)), ((v 1), .inl (K 0, 4, .inl (fun _ => 0))), ((v 2), .inl (K 3, 240, .inr (.inl (fun _ => 0)))), ((v 4), .inl (K 1, 1400, .inl (fun _ => 0))), ((v 5), .inl (K 0, 5, .inl (fun _ => 0))), ((v 6), .inl (K 0, 40, .inl (fun _ => 0))), ((v 7), .inl (K 0, 50, .inl (fun _ => 0))), ((v 8), .inl (K 0, 60, .inl (fun _ => 0))), ((v 9), .inl (K 0, 480, .inl (fun _ => 0))), ((v 10), .inl (K 0, 600, .inl (fun _ => 0))), ((v 11), .inl (K 2, 3, .inl (fun _ => 0)))]) hK hP hD hS hA [0, 11] [88, 89, 90, 91, 92, 93, 94, 95, 96, 97, 98, 99] rfl rfl (by decide) (fun hp => va_runV (C := RX11) (As := [.int (xs 1)]) (rest := []) ⟨hx, hb, hml, hown, hts⟩ (c_X11_torn (l := l) (D := D) (K := K) (x0 := (x0)) (p0 := ((xs 1))) (fx := ([.ref (u 0), .ref (u 10), .ref (u 17), .ref (u 25), .ref (u 26), .ref (u 27), .ref (u 28), .ref (u 29), .ref (u 34), .ref (u 39), .ref (u 43), .ref (u 51), .ref (u 55)])) (t0 := ((u 10))) (hx1 := rfl) (ft := ([.int 0, .int 0, .int 0, .int 0, .int 0, .int 0, .int 0, .int 0, .int 0, .ref (u 11), .ref (u 12), .ref (u 13), .ref (u 14), .ref (u 15), .ref (u 16)])) (ht0 := rfl) (ht3 := rfl) (ht4 := rfl) (ht5 := rfl) _) (cwV 1 hts (fn_ginV (fn_gin wd_856) wd_863 wd_854 wd_855 wd_1) rfl rfl rfl (by decide +kernel) ⟨Nat.le_of_ble_eq_true rfl, Nat.le_of_ble_eq_true rfl⟩) ⟨fn_blind, va_recv hK.1 hP (ci := 11) (q0 := 0) rfl rfl, hp⟩ rfl rfl hl.1 rfl (lv_room (Nat.le_of_ble_eq_true rfl)) dL_law_1040 ⟨Nat.le_of_ble_eq_true rfl, Nat.le_of_ble_eq_true rfl⟩) (fun r2 u1 H locs hwu1 hP hD hS => ?_)
  have r2_e : r2 = (-2) := hwu1
  subst r2_e
  have hP : va_P D vwCl [(m0, .inr (12, [.int 0, .ref (v 0), .ref (v 1), .ref (v 2), .ref (v 3), .ref (v 4), .int 0, .int 0, .int 0, .int 0, .int 0, .long 0, .int 0, .int 0, .int 0, .int (-1), .ref (v 5), .ref (v 6), .ref (v 7), .ref (v 8), .ref (v 9), .ref (v 10), .ref (v 11), .ref (v 12), .ref (v 13), .ref (v 14), .ref (v 15), .ref (v 16), .ref (v 17), .ref (v 18), .ref (v 19), .ref (v 20), .int 0, .int 0, .int 0, .int 0, .ref (v 21), .ref (v 22), .ref (v 23), .int 0, .int 0, .ref (v 24), .ref (v 25), .int 0, .int 0, .ref (v 26), .ref (v 27), .ref (v 28), .int 0, .int 0, .int 0])), ((v 0), .inl (K 0, 4, .inl fw)), ((v 1), .inl (K 0, 4, .inl (fun _ => 0))), ((v 2), .inl (K 3, 240, .inr (.inl (fun _ => 0)))), ((v 4), .inl (K 1, 1400, .inl (fun _ => 0))), ((v 5), .inl (K 0, 5, .inl (fun _ => 0))), ((v 6), .inl (K 0, 40, .inl (fun _ => 0))), ((v 7), .inl (K 0, 50, .inl (fun _ => 0))), ((v 8), .inl (K 0, 60, .inl (fun _ => 0))), ((v 9), .inl (K 0, 480, .inl (fun _ => 0))), ((v 10), .inl (K 0, 600, .inl (fun _ => 0))), ((v 11), .inl (K 2, 3, .inl (fun _ => 0)))] H := hP
  have hD : va_D A [(m0, .inr (12, [.int 0, .ref (v 0), .ref (v 1), .ref (v 2), .ref (v 3), .ref (v 4), .int 0, .int 0, .int 0, .int 0, .int 0, .long 0, .int 0, .int 0, .int 0, .int (-1), .ref (v 5), .ref (v 6), .ref (v 7), .ref (v 8), .ref (v 9), .ref (v 10), .ref (v 11), .ref (v 12), .ref (v 13), .ref (v 14), .ref (v 15), .ref (v 16), .ref (v 17), .ref (v 18), .ref (v 19), .ref (v 20), .int 0, .int 0, .int 0, .int 0, .ref (v 21), .ref (v 22), .ref (v 23), .int 0, .int 0, .ref (v 24), .ref (v 25), .int 0, .int 0, .ref (v 26), .ref (v 27), .ref (v 28), .int 0, .int 0, .int 0])), ((v 0), .inl (K 0, 4, .inl fw)), ((v 1), .inl (K 0, 4, .inl (fun _ => 0))), ((v 2), .inl (K 3, 240, .inr (.inl (fun _ => 0)))), ((v 4), .inl (K 1, 1400, .inl (fun _ => 0))), ((v 5), .inl (K 0, 5, .inl (fun _ => 0))), ((v 6), .inl (K 0, 40, .inl (fun _ => 0))), ((v 7), .inl (K 0, 50, .inl (fun _ => 0))), ((v 8), .inl (K 0, 60, .inl (fun _ => 0))), ((v 9), .inl (K 0, 480, .inl (fun _ => 0))), ((v 10), .inl (K 0, 600, .inl (fun _ => 0))), ((v 11), .inl (K 2, 3, .inl (fun _ => 0)))] := hD
  refine lv_aload_n hx hb dL_law_1043 rfl (lv_at hl 1 rfl) ?_
  refine lv_aload_n hx hb dL_law_1044 rfl (lv_at hl 3 rfl) ?_
  refine lv_iload_n hx hb dL_law_1045 rfl (lv_at hl 0 rfl) ?_
  refine lv_iconst (v := 1) hx hb dL_law_1046 (by decide) ?_
  refine lv_iadd hx hb dL_law_1047 ?_
  refine fn_top 1 (by decide) ?_
  refine va_sld hx hb hX hbl hbA hS (by unfold vp_in; decide) dL_law_1048 ?_
  refine fn_top (xs 1) (congrArg xs (by decide)) ?_
  refine fn_goi (wc := [(m0, .inr (12, [.int 0, .ref (v 0), .ref (v 1), .ref (v 2), .ref (v 3), .ref (v 4), .int 0, .int 0, .int 0, .int 0, .int 0, .long 0, .int 0, .int 0, .int 0, .int (-1), .ref (v 5), .ref (v 6), .ref (v 7), .ref (v 8), .ref (v 9), .ref (v 10), .ref (v 11), .ref (v 12), .ref (v 13), .ref (v 14), .ref (v 15), .ref (v 16), .ref (v 17), .ref (v 18), .ref (v 19), .ref (v 20), .int 0, .int 0, .int 0, .int 0, .ref (v 21), .ref (v 22), .ref (v 23), .int 0, .int 0, .ref (v 24), .ref (v 25), .int 0, .int 0, .ref (v 26), .ref (v 27), .ref (v 28), .int 0, .int 0, .int 0])), ((v 5), .inl (K 0, 5, .inl (fun _ => 0))), ((v 6), .inl (K 0, 40, .inl (fun _ => 0)))]) (wr := []) hK hP hD hS hA [0, 5, 6] [] rfl rfl (by decide) (fun hp => va_runV (C := RX12) (As := [.int (xs 1)]) (rest := [.int (-2)]) ⟨hx, hb, hml, hown, hts⟩ (c_X12_torn (l := l) (D := D) (K := K) (m0 := (m0)) (p0 := ((xs 1))) (fm := ([.int 0, .ref (v 0), .ref (v 1), .ref (v 2), .ref (v 3), .ref (v 4), .int 0, .int 0, .int 0, .int 0, .int 0, .long 0, .int 0, .int 0, .int 0, .int (-1), .ref (v 5), .ref (v 6), .ref (v 7), .ref (v 8), .ref (v 9), .ref (v 10), .ref (v 11), .ref (v 12), .ref (v 13), .ref (v 14), .ref (v 15), .ref (v 16), .ref (v 17), .ref (v 18), .ref (v 19), .ref (v 20), .int 0, .int 0, .int 0, .int 0, .ref (v 21), .ref (v 22), .ref (v 23), .int 0, .int 0, .ref (v 24), .ref (v 25), .int 0, .int 0, .ref (v 26), .ref (v 27), .ref (v 28), .int 0, .int 0, .int 0])) (hmn := rfl) (al := ((v 5))) (hm16 := rfl) (ah := ((v 6))) (hm17 := rfl) (fl := (fun _ => 0)) (hfl := (fun _ => rfl)) (fh := (fun _ => 0)) (hfh := (fun _ => rfl)) _) (cwV 1 hts (fn_ginV (fn_gin wd_1723) wd_1720 wd_1721 wd_1722 wd_13) rfl rfl rfl (by decide +kernel) ⟨Nat.le_of_ble_eq_true rfl, Nat.le_of_ble_eq_true rfl⟩) ⟨fn_blind, va_recv hK.1 hP (ci := 12) (q0 := 0) rfl rfl, hp⟩ rfl rfl hl.1 rfl (lv_room (Nat.le_of_ble_eq_true rfl)) dL_law_1049 ⟨Nat.le_of_ble_eq_true rfl, Nat.le_of_ble_eq_true rfl⟩) (fun r4 u3 H locs hwu3 hP hD hS => ?_)
  have r4_e : r4 = (-2) := hwu3
  subst r4_e
  have hP : va_P D vwCl [] H := hP
  have hD : va_D A [] := hD
  refine lv_icmp_eq (tgt := 1996) hx hb dL_law_1052 (by decide) (fun _ => ?_) (fun h9 => absurd (by decide) h9)
  refine lv_iinc (v := 6) (lv' := [(3, .int 6), (2, .ref m0), (1, .ref x0), (0, .ref b)]) hx hb dL_law_1996 hl (k := 0) rfl (by decide) (by decide) rfl (fun ls hl => ?_)
  refine lv_goto (tgt := 18) hx hb dL_law_1999 (by decide) ?_
  refine lv_iload_n hx hb dL_law_18 rfl (lv_at hl 0 rfl) ?_
  refine lv_aload_n hx hb dL_law_19 rfl (lv_at hl 3 rfl) ?_
  refine fn_at 20 rfl ?_
  refine va_slen hx hb hX hbl hbA hS dL_law_20 ?_
  refine fn_top 6 (by decide) ?_
  refine lv_bipush (v := 6) hx hb dL_law_21 (by decide) ?_
  refine lv_isub hx hb dL_law_23 ?_
  refine fn_top 0 (by decide) ?_
  refine lv_icmp_gt (tgt := 2002) hx hb dL_law_24 (by decide) (fun _ => ?_) (fun h9 => absurd (by decide) h9)
  refine lv_iconst (v := 1) hx hb dL_law_2002 (by decide) ?_
  refine va_forget (fun q hq => by have h9 := hS.2.2 q hq; rw [← hAe] at h9; exact h9) ?_
  refine W.widen (k := 600000) (n := 7302250) (Nat.le_of_ble_eq_true rfl) (Nat.le_of_ble_eq_true rfl) ?_
  exact lw_ret hx hb hr hlocks dL_law_2003
theorem dL_law_1057 : decode cL_law 1057 = .ok (.aload_n 1, 1) := by decide +kernel
theorem dL_law_1058 : decode cL_law 1058 = .ok (.aload_n 0, 1) := by decide +kernel
theorem dL_law_1059 : decode cL_law 1059 = .ok (.iload_n 3, 1) := by decide +kernel
theorem dL_law_1060 : decode cL_law 1060 = .ok (.iconst 1, 1) := by decide +kernel
theorem dL_law_1061 : decode cL_law 1061 = .ok (.iadd, 1) := by decide +kernel
theorem dL_law_1062 : decode cL_law 1062 = .ok (.iaload, 1) := by decide +kernel
theorem dL_law_1063 : decode cL_law 1063 = .ok (.invokevirtual 141, 3) := by decide +kernel
theorem dL_law_1066 : decode cL_law 1066 = .ok (.aload_n 2, 1) := by decide +kernel
theorem dL_law_1067 : decode cL_law 1067 = .ok (.aload_n 0, 1) := by decide +kernel
theorem dL_law_1068 : decode cL_law 1068 = .ok (.iload_n 3, 1) := by decide +kernel
theorem dL_law_1069 : decode cL_law 1069 = .ok (.iconst 1, 1) := by decide +kernel
theorem dL_law_1070 : decode cL_law 1070 = .ok (.iadd, 1) := by decide +kernel
theorem dL_law_1071 : decode cL_law 1071 = .ok (.iaload, 1) := by decide +kernel
theorem dL_law_1072 : decode cL_law 1072 = .ok (.invokevirtual 144, 3) := by decide +kernel
theorem dL_law_1075 : decode cL_law 1075 = .ok (.if_icmp .eq 921, 3) := by decide +kernel
set_option maxHeartbeats 4000000 in
set_option maxRecDepth 100000 in
theorem law_31 {p : Program} {l : Launch} {e : Env} {s : State} {m : MethodId} {below : List Frame} {meth : Method} {c : Code} {b : Nat} {xs : Nat → Int32} (hx : p.tables.exec = Jvm.exec) (hb : c.code = cL_law) (hr : meth.sig.returnType = ret) (hml : c.maxLocals = 4) (hown : s.vm.findClass RL = some m.cls) (hts : ∀ w ∈ fn_big, w.before #[Value.ref b] s = true) (hX : va_X b 6 xs s s.heap) (hbl : b < s.heap.size) (hlocks : meth.locks = false) {D : va_G} {K : Nat → ClassId} (hK : fn_KK D K s) {x0 m0 : Nat} {u v : Nat → Nat} {fw : Nat → Int32} (hfw : ∀ j, j < 4 → fw j = -1) {A : Nat → Prop} (hAe : (fun q : Nat => s.heap.size ≤ q) = A) : ∀ (H : Heap) (locs : List Loc) (ls : Array Slot), va_P D vwCl (fn_world K x0 m0 u v fw) H → va_D A (fn_world K x0 m0 u v fw) → va_S A s.heap H locs → lv_has ls 4 [(3, .int 0), (2, .ref m0), (1, .ref x0), (0, .ref b)] → W p l e room_1 s m #[Value.ref b] below meth c H locs 144 12710 (lw_Z below #[Value.ref b] s) (F0 m 1057 ls []) := by
  intro H locs ls hP hD hS hl
  have hA : ∀ q : Nat, s.heap.size ≤ q → A q := fun q h => by rw [← hAe]; exact h
  have hbA : ¬ A b := by rw [← hAe]; exact Nat.not_le.mpr hbl
  refine lv_aload_n hx hb dL_law_1057 rfl (lv_at hl 2 rfl) ?_
  refine lv_aload_n hx hb dL_law_1058 rfl (lv_at hl 3 rfl) ?_
  refine lv_iload_n hx hb dL_law_1059 rfl (lv_at hl 0 rfl) ?_
  refine lv_iconst (v := 1) hx hb dL_law_1060 (by decide) ?_
  refine lv_iadd hx hb dL_law_1061 ?_
  refine fn_top 1 (by decide) ?_
  refine va_sld hx hb hX hbl hbA hS (by unfold vp_in; decide) dL_law_1062 ?_
  refine fn_top (xs 1) (congrArg xs (by decide)) ?_
  refine fn_goi (wc := [(x0, .inr (11, [.ref (u 0), .ref (u 10), .ref (u 17), .ref (u 25), .ref (u 26), .ref (u 27), .ref (u 28), .ref (u 29), .ref (u 34), .ref (u 39), .ref (u 43), .ref (u 51), .ref (u 55)])), ((u 10), .inr (7, [.int 0, .int 0, .int 0, .int 0, .int 0, .int 0, .int 0, .int 0, .int 0, .ref (u 11), .ref (u 12), .ref (u 13), .ref (u 14), .ref (u 15), .ref (u 16)]))]) (wr := [(m0, .inr (12, [.int 0, .ref (v 0), .ref (v 1), .ref (v 2), .ref (v 3), .ref (v 4), .int 0, .int 0, .int 0, .int 0, .int 0, .long 0, .int 0, .int 0, .int 0, .int (-1), .ref (v 5), .ref (v 6), .ref (v 7), .ref (v 8), .ref (v 9), .ref (v 10), .ref (v 11), .ref (v 12), .ref (v 13), .ref (v 14), .ref (v 15), .ref (v 16), .ref (v 17), .ref (v 18), .ref (v 19), .ref (v 20), .int 0, .int 0, .int 0, .int 0, .ref (v 21), .ref (v 22), .ref (v 23), .int 0, .int 0, .ref (v 24), .ref (v 25), .int 0, .int 0, .ref (v 26), .ref (v 27), .ref (v 28), .int 0, .int 0, .int 0])), ((v 0), .inl (K 0, 4, .inl fw)), ((v 1), .inl (K 0, 4, .inl (fun _ => 0))), ((v 2), .inl (K 3, 240, .inr (.inl (fun _ => 0)))), ((v 4), .inl (K 1, 1400, .inl (fun _ => 0))), ((v 5), .inl (K 0, 5, .inl (fun _ => 0))), ((v 6), .inl (K 0, 40, .inl (fun _ => 0))), ((v 7), .inl (K 0, 50, .inl (fun _ => 0))), ((v 8), .inl (K 0, 60, .inl (fun _ => 0))), ((v 9), .inl (K 0, 480, .inl (fun _ => 0))), ((v 10), .inl (K 0, 600, .inl (fun _ => 0))), ((v 11), .inl (K 2, 3, .inl (fun _ => 0)))]) hK hP hD hS hA [0, 11] [88, 89, 90, 91, 92, 93, 94, 95, 96, 97, 98, 99] rfl rfl (by decide) (fun hp => va_runV (C := RX11) (As := [.int (xs 1)]) (rest := []) ⟨hx, hb, hml, hown, hts⟩ (c_X11_holds (l := l) (D := D) (K := K) (x0 := (x0)) (p0 := ((xs 1))) (fx := ([.ref (u 0), .ref (u 10), .ref (u 17), .ref (u 25), .ref (u 26), .ref (u 27), .ref (u 28), .ref (u 29), .ref (u 34), .ref (u 39), .ref (u 43), .ref (u 51), .ref (u 55)])) (t0 := ((u 10))) (hx1 := rfl) (ft := ([.int 0, .int 0, .int 0, .int 0, .int 0, .int 0, .int 0, .int 0, .int 0, .ref (u 11), .ref (u 12), .ref (u 13), .ref (u 14), .ref (u 15), .ref (u 16)])) (ht0 := rfl) (ht3 := rfl) (ht4 := rfl) (ht5 := rfl) _) (cwV 1 hts (fn_ginV (fn_gin wd_867) wd_864 wd_865 wd_866 wd_1) rfl rfl rfl (by decide +kernel) ⟨Nat.le_of_ble_eq_true rfl, Nat.le_of_ble_eq_true rfl⟩) ⟨fn_blind, va_recv hK.1 hP (ci := 11) (q0 := 0) rfl rfl, hp⟩ rfl rfl hl.1 rfl (lv_room (Nat.le_of_ble_eq_true rfl)) dL_law_1063 ⟨Nat.le_of_ble_eq_true rfl, Nat.le_of_ble_eq_true rfl⟩) (fun r2 u1 H locs hwu1 hP hD hS => ?_)
  have r2_e : r2 = (-2) := hwu1
  subst r2_e
  have hP : va_P D vwCl [(m0, .inr (12, [.int 0, .ref (v 0), .ref (v 1), .ref (v 2), .ref (v 3), .ref (v 4), .int 0, .int 0, .int 0, .int 0, .int 0, .long 0, .int 0, .int 0, .int 0, .int (-1), .ref (v 5), .ref (v 6), .ref (v 7), .ref (v 8), .ref (v 9), .ref (v 10), .ref (v 11), .ref (v 12), .ref (v 13), .ref (v 14), .ref (v 15), .ref (v 16), .ref (v 17), .ref (v 18), .ref (v 19), .ref (v 20), .int 0, .int 0, .int 0, .int 0, .ref (v 21), .ref (v 22), .ref (v 23), .int 0, .int 0, .ref (v 24), .ref (v 25), .int 0, .int 0, .ref (v 26), .ref (v 27), .ref (v 28), .int 0, .int 0, .int 0])), ((v 0), .inl (K 0, 4, .inl fw)), ((v 1), .inl (K 0, 4, .inl (fun _ => 0))), ((v 2), .inl (K 3, 240, .inr (.inl (fun _ => 0)))), ((v 4), .inl (K 1, 1400, .inl (fun _ => 0))), ((v 5), .inl (K 0, 5, .inl (fun _ => 0))), ((v 6), .inl (K 0, 40, .inl (fun _ => 0))), ((v 7), .inl (K 0, 50, .inl (fun _ => 0))), ((v 8), .inl (K 0, 60, .inl (fun _ => 0))), ((v 9), .inl (K 0, 480, .inl (fun _ => 0))), ((v 10), .inl (K 0, 600, .inl (fun _ => 0))), ((v 11), .inl (K 2, 3, .inl (fun _ => 0)))] H := hP
  have hD : va_D A [(m0, .inr (12, [.int 0, .ref (v 0), .ref (v 1), .ref (v 2), .ref (v 3), .ref (v 4), .int 0, .int 0, .int 0, .int 0, .int 0, .long 0, .int 0, .int 0, .int 0, .int (-1), .ref (v 5), .ref (v 6), .ref (v 7), .ref (v 8), .ref (v 9), .ref (v 10), .ref (v 11), .ref (v 12), .ref (v 13), .ref (v 14), .ref (v 15), .ref (v 16), .ref (v 17), .ref (v 18), .ref (v 19), .ref (v 20), .int 0, .int 0, .int 0, .int 0, .ref (v 21), .ref (v 22), .ref (v 23), .int 0, .int 0, .ref (v 24), .ref (v 25), .int 0, .int 0, .ref (v 26), .ref (v 27), .ref (v 28), .int 0, .int 0, .int 0])), ((v 0), .inl (K 0, 4, .inl fw)), ((v 1), .inl (K 0, 4, .inl (fun _ => 0))), ((v 2), .inl (K 3, 240, .inr (.inl (fun _ => 0)))), ((v 4), .inl (K 1, 1400, .inl (fun _ => 0))), ((v 5), .inl (K 0, 5, .inl (fun _ => 0))), ((v 6), .inl (K 0, 40, .inl (fun _ => 0))), ((v 7), .inl (K 0, 50, .inl (fun _ => 0))), ((v 8), .inl (K 0, 60, .inl (fun _ => 0))), ((v 9), .inl (K 0, 480, .inl (fun _ => 0))), ((v 10), .inl (K 0, 600, .inl (fun _ => 0))), ((v 11), .inl (K 2, 3, .inl (fun _ => 0)))] := hD
  refine lv_aload_n hx hb dL_law_1066 rfl (lv_at hl 1 rfl) ?_
  refine lv_aload_n hx hb dL_law_1067 rfl (lv_at hl 3 rfl) ?_
  refine lv_iload_n hx hb dL_law_1068 rfl (lv_at hl 0 rfl) ?_
  refine lv_iconst (v := 1) hx hb dL_law_1069 (by decide) ?_
  refine lv_iadd hx hb dL_law_1070 ?_
  refine fn_top 1 (by decide) ?_
  refine va_sld hx hb hX hbl hbA hS (by unfold vp_in; decide) dL_law_1071 ?_
  refine fn_top (xs 1) (congrArg xs (by decide)) ?_
  refine fn_goi (wc := [(m0, .inr (12, [.int 0, .ref (v 0), .ref (v 1), .ref (v 2), .ref (v 3), .ref (v 4), .int 0, .int 0, .int 0, .int 0, .int 0, .long 0, .int 0, .int 0, .int 0, .int (-1), .ref (v 5), .ref (v 6), .ref (v 7), .ref (v 8), .ref (v 9), .ref (v 10), .ref (v 11), .ref (v 12), .ref (v 13), .ref (v 14), .ref (v 15), .ref (v 16), .ref (v 17), .ref (v 18), .ref (v 19), .ref (v 20), .int 0, .int 0, .int 0, .int 0, .ref (v 21), .ref (v 22), .ref (v 23), .int 0, .int 0, .ref (v 24), .ref (v 25), .int 0, .int 0, .ref (v 26), .ref (v 27), .ref (v 28), .int 0, .int 0, .int 0])), ((v 5), .inl (K 0, 5, .inl (fun _ => 0))), ((v 6), .inl (K 0, 40, .inl (fun _ => 0)))]) (wr := []) hK hP hD hS hA [0, 5, 6] [] rfl rfl (by decide) (fun hp => va_runV (C := RX12) (As := [.int (xs 1)]) (rest := [.int (-2)]) ⟨hx, hb, hml, hown, hts⟩ (c_X12_holds (l := l) (D := D) (K := K) (m0 := (m0)) (p0 := ((xs 1))) (fm := ([.int 0, .ref (v 0), .ref (v 1), .ref (v 2), .ref (v 3), .ref (v 4), .int 0, .int 0, .int 0, .int 0, .int 0, .long 0, .int 0, .int 0, .int 0, .int (-1), .ref (v 5), .ref (v 6), .ref (v 7), .ref (v 8), .ref (v 9), .ref (v 10), .ref (v 11), .ref (v 12), .ref (v 13), .ref (v 14), .ref (v 15), .ref (v 16), .ref (v 17), .ref (v 18), .ref (v 19), .ref (v 20), .int 0, .int 0, .int 0, .int 0, .ref (v 21), .ref (v 22), .ref (v 23), .int 0, .int 0, .ref (v 24), .ref (v 25), .int 0, .int 0, .ref (v 26), .ref (v 27), .ref (v 28), .int 0, .int 0, .int 0])) (hmn := rfl) (al := ((v 5))) (hm16 := rfl) (ah := ((v 6))) (hm17 := rfl) (fl := (fun _ => 0)) (hfl := (fun _ => rfl)) (fh := (fun _ => 0)) (hfh := (fun _ => rfl)) _) (cwV 1 hts (fn_ginV (fn_gin wd_1727) wd_1724 wd_1725 wd_1726 wd_13) rfl rfl rfl (by decide +kernel) ⟨Nat.le_of_ble_eq_true rfl, Nat.le_of_ble_eq_true rfl⟩) ⟨fn_blind, va_recv hK.1 hP (ci := 12) (q0 := 0) rfl rfl, hp⟩ rfl rfl hl.1 rfl (lv_room (Nat.le_of_ble_eq_true rfl)) dL_law_1072 ⟨Nat.le_of_ble_eq_true rfl, Nat.le_of_ble_eq_true rfl⟩) (fun r4 u3 H locs hwu3 hP hD hS => ?_)
  have r4_e : r4 = (-2) := hwu3
  subst r4_e
  have hP : va_P D vwCl [] H := hP
  have hD : va_D A [] := hD
  refine lv_icmp_eq (tgt := 1996) hx hb dL_law_1075 (by decide) (fun _ => ?_) (fun h9 => absurd (by decide) h9)
  refine lv_iinc (v := 6) (lv' := [(3, .int 6), (2, .ref m0), (1, .ref x0), (0, .ref b)]) hx hb dL_law_1996 hl (k := 0) rfl (by decide) (by decide) rfl (fun ls hl => ?_)
  refine lv_goto (tgt := 18) hx hb dL_law_1999 (by decide) ?_
  refine lv_iload_n hx hb dL_law_18 rfl (lv_at hl 0 rfl) ?_
  refine lv_aload_n hx hb dL_law_19 rfl (lv_at hl 3 rfl) ?_
  refine fn_at 20 rfl ?_
  refine va_slen hx hb hX hbl hbA hS dL_law_20 ?_
  refine fn_top 6 (by decide) ?_
  refine lv_bipush (v := 6) hx hb dL_law_21 (by decide) ?_
  refine lv_isub hx hb dL_law_23 ?_
  refine fn_top 0 (by decide) ?_
  refine lv_icmp_gt (tgt := 2002) hx hb dL_law_24 (by decide) (fun _ => ?_) (fun h9 => absurd (by decide) h9)
  refine lv_iconst (v := 1) hx hb dL_law_2002 (by decide) ?_
  refine va_forget (fun q hq => by have h9 := hS.2.2 q hq; rw [← hAe] at h9; exact h9) ?_
  refine W.widen (k := 600000) (n := 7302250) (Nat.le_of_ble_eq_true rfl) (Nat.le_of_ble_eq_true rfl) ?_
  exact lw_ret hx hb hr hlocks dL_law_2003
