theorem dL_law_1080 : decode cL_law 1080 = .ok (.aload_n 1, 1) := by decide +kernel
theorem dL_law_1081 : decode cL_law 1081 = .ok (.invokevirtual 145, 3) := by decide +kernel
theorem dL_law_1084 : decode cL_law 1084 = .ok (.aload_n 2, 1) := by decide +kernel
theorem dL_law_1085 : decode cL_law 1085 = .ok (.invokevirtual 148, 3) := by decide +kernel
theorem dL_law_1088 : decode cL_law 1088 = .ok (.if_icmp .eq 908, 3) := by decide +kernel
set_option maxHeartbeats 4000000 in
set_option maxRecDepth 100000 in
theorem law_32 {p : Program} {l : Launch} {e : Env} {s : State} {m : MethodId} {below : List Frame} {meth : Method} {c : Code} {b : Nat} {xs : Nat → Int32} (hx : p.tables.exec = Jvm.exec) (hb : c.code = cL_law) (hr : meth.sig.returnType = ret) (hml : c.maxLocals = 4) (hown : s.vm.findClass RL = some m.cls) (hts : ∀ w ∈ fn_big, w.before #[Value.ref b] s = true) (hX : va_X b 6 xs s s.heap) (hbl : b < s.heap.size) (hlocks : meth.locks = false) {D : va_G} {K : Nat → ClassId} (hK : fn_KK D K s) {x0 m0 : Nat} {u v : Nat → Nat} {fw : Nat → Int32} (hfw : ∀ j, j < 4 → fw j = -1) {A : Nat → Prop} (hAe : (fun q : Nat => s.heap.size ≤ q) = A) : ∀ (H : Heap) (locs : List Loc) (ls : Array Slot), va_P D vwCl (fn_world K x0 m0 u v fw) H → va_D A (fn_world K x0 m0 u v fw) → va_S A s.heap H locs → lv_has ls 4 [(3, .int 0), (2, .ref m0), (1, .ref x0), (0, .ref b)] → W p l e room_1 s m #[Value.ref b] below meth c H locs 144 12710 (lw_Z below #[Value.ref b] s) (F0 m 1080 ls []) := by
  intro H locs ls hP hD hS hl
  have hA : ∀ q : Nat, s.heap.size ≤ q → A q := fun q h => by rw [← hAe]; exact h
  have hbA : ¬ A b := by rw [← hAe]; exact Nat.not_le.mpr hbl
  refine lv_aload_n hx hb dL_law_1080 rfl (lv_at hl 2 rfl) ?_
  refine fn_goi (wc := [(x0, .inr (11, [.ref (u 0), .ref (u 10), .ref (u 17), .ref (u 25), .ref (u 26), .ref (u 27), .ref (u 28), .ref (u 29), .ref (u 34), .ref (u 39), .ref (u 43), .ref (u 51), .ref (u 55)])), ((u 10), .inr (7, [.int 0, .int 0, .int 0, .int 0, .int 0, .int 0, .int 0, .int 0, .int 0, .ref (u 11), .ref (u 12), .ref (u 13), .ref (u 14), .ref (u 15), .ref (u 16)]))]) (wr := [(m0, .inr (12, [.int 0, .ref (v 0), .ref (v 1), .ref (v 2), .ref (v 3), .ref (v 4), .int 0, .int 0, .int 0, .int 0, .int 0, .long 0, .int 0, .int 0, .int 0, .int (-1), .ref (v 5), .ref (v 6), .ref (v 7), .ref (v 8), .ref (v 9), .ref (v 10), .ref (v 11), .ref (v 12), .ref (v 13), .ref (v 14), .ref (v 15), .ref (v 16), .ref (v 17), .ref (v 18), .ref (v 19), .ref (v 20), .int 0, .int 0, .int 0, .int 0, .ref (v 21), .ref (v 22), .ref (v 23), .int 0, .int 0, .ref (v 24), .ref (v 25), .int 0, .int 0, .ref (v 26), .ref (v 27), .ref (v 28), .int 0, .int 0, .int 0])), ((v 0), .inl (K 0, 4, .inl fw)), ((v 1), .inl (K 0, 4, .inl (fun _ => 0))), ((v 2), .inl (K 3, 240, .inr (.inl (fun _ => 0)))), ((v 4), .inl (K 1, 1400, .inl (fun _ => 0))), ((v 5), .inl (K 0, 5, .inl (fun _ => 0))), ((v 6), .inl (K 0, 40, .inl (fun _ => 0))), ((v 7), .inl (K 0, 50, .inl (fun _ => 0))), ((v 8), .inl (K 0, 60, .inl (fun _ => 0))), ((v 9), .inl (K 0, 480, .inl (fun _ => 0))), ((v 10), .inl (K 0, 600, .inl (fun _ => 0))), ((v 11), .inl (K 2, 3, .inl (fun _ => 0)))]) hK hP hD hS hA [0, 11] [88, 89, 90, 91, 92, 93, 94, 95, 96, 97, 98, 99] rfl rfl (by decide) (fun hp => va_runV (C := RX11) (As := []) (rest := []) ⟨hx, hb, hml, hown, hts⟩ (c_X11_ways (l := l) (D := D) (K := K) (x0 := (x0)) (fx := ([.ref (u 0), .ref (u 10), .ref (u 17), .ref (u 25), .ref (u 26), .ref (u 27), .ref (u 28), .ref (u 29), .ref (u 34), .ref (u 39), .ref (u 43), .ref (u 51), .ref (u 55)])) (t0 := ((u 10))) (hx1 := rfl) (ft := ([.int 0, .int 0, .int 0, .int 0, .int 0, .int 0, .int 0, .int 0, .int 0, .ref (u 11), .ref (u 12), .ref (u 13), .ref (u 14), .ref (u 15), .ref (u 16)])) (ht0 := rfl) (ht3 := rfl) (ht4 := rfl) (ht5 := rfl) _) (cwV 0 hts (fn_ginV (fn_gin wd_887) wd_884 wd_885 wd_886 wd_1) rfl rfl rfl (by decide +kernel) ⟨Nat.le_of_ble_eq_true rfl, Nat.le_of_ble_eq_true rfl⟩) ⟨fn_blind, va_recv hK.1 hP (ci := 11) (q0 := 0) rfl rfl, hp⟩ rfl rfl hl.1 rfl (lv_room (Nat.le_of_ble_eq_true rfl)) dL_law_1081 ⟨Nat.le_of_ble_eq_true rfl, Nat.le_of_ble_eq_true rfl⟩) (fun r2 u1 H locs hwu1 hP hD hS => ?_)
  have r2_e : r2 = (-2) := hwu1
  subst r2_e
  have hP : va_P D vwCl [(m0, .inr (12, [.int 0, .ref (v 0), .ref (v 1), .ref (v 2), .ref (v 3), .ref (v 4), .int 0, .int 0, .int 0, .int 0, .int 0, .long 0, .int 0, .int 0, .int 0, .int (-1), .ref (v 5), .ref (v 6), .ref (v 7), .ref (v 8), .ref (v 9), .ref (v 10), .ref (v 11), .ref (v 12), .ref (v 13), .ref (v 14), .ref (v 15), .ref (v 16), .ref (v 17), .ref (v 18), .ref (v 19), .ref (v 20), .int 0, .int 0, .int 0, .int 0, .ref (v 21), .ref (v 22), .ref (v 23), .int 0, .int 0, .ref (v 24), .ref (v 25), .int 0, .int 0, .ref (v 26), .ref (v 27), .ref (v 28), .int 0, .int 0, .int 0])), ((v 0), .inl (K 0, 4, .inl fw)), ((v 1), .inl (K 0, 4, .inl (fun _ => 0))), ((v 2), .inl (K 3, 240, .inr (.inl (fun _ => 0)))), ((v 4), .inl (K 1, 1400, .inl (fun _ => 0))), ((v 5), .inl (K 0, 5, .inl (fun _ => 0))), ((v 6), .inl (K 0, 40, .inl (fun _ => 0))), ((v 7), .inl (K 0, 50, .inl (fun _ => 0))), ((v 8), .inl (K 0, 60, .inl (fun _ => 0))), ((v 9), .inl (K 0, 480, .inl (fun _ => 0))), ((v 10), .inl (K 0, 600, .inl (fun _ => 0))), ((v 11), .inl (K 2, 3, .inl (fun _ => 0)))] H := hP
  have hD : va_D A [(m0, .inr (12, [.int 0, .ref (v 0), .ref (v 1), .ref (v 2), .ref (v 3), .ref (v 4), .int 0, .int 0, .int 0, .int 0, .int 0, .long 0, .int 0, .int 0, .int 0, .int (-1), .ref (v 5), .ref (v 6), .ref (v 7), .ref (v 8), .ref (v 9), .ref (v 10), .ref (v 11), .ref (v 12), .ref (v 13), .ref (v 14), .ref (v 15), .ref (v 16), .ref (v 17), .ref (v 18), .ref (v 19), .ref (v 20), .int 0, .int 0, .int 0, .int 0, .ref (v 21), .ref (v 22), .ref (v 23), .int 0, .int 0, .ref (v 24), .ref (v 25), .int 0, .int 0, .ref (v 26), .ref (v 27), .ref (v 28), .int 0, .int 0, .int 0])), ((v 0), .inl (K 0, 4, .inl fw)), ((v 1), .inl (K 0, 4, .inl (fun _ => 0))), ((v 2), .inl (K 3, 240, .inr (.inl (fun _ => 0)))), ((v 4), .inl (K 1, 1400, .inl (fun _ => 0))), ((v 5), .inl (K 0, 5, .inl (fun _ => 0))), ((v 6), .inl (K 0, 40, .inl (fun _ => 0))), ((v 7), .inl (K 0, 50, .inl (fun _ => 0))), ((v 8), .inl (K 0, 60, .inl (fun _ => 0))), ((v 9), .inl (K 0, 480, .inl (fun _ => 0))), ((v 10), .inl (K 0, 600, .inl (fun _ => 0))), ((v 11), .inl (K 2, 3, .inl (fun _ => 0)))] := hD
  refine lv_aload_n hx hb dL_law_1084 rfl (lv_at hl 1 rfl) ?_
  refine fn_goi (wc := [(m0, .inr (12, [.int 0, .ref (v 0), .ref (v 1), .ref (v 2), .ref (v 3), .ref (v 4), .int 0, .int 0, .int 0, .int 0, .int 0, .long 0, .int 0, .int 0, .int 0, .int (-1), .ref (v 5), .ref (v 6), .ref (v 7), .ref (v 8), .ref (v 9), .ref (v 10), .ref (v 11), .ref (v 12), .ref (v 13), .ref (v 14), .ref (v 15), .ref (v 16), .ref (v 17), .ref (v 18), .ref (v 19), .ref (v 20), .int 0, .int 0, .int 0, .int 0, .ref (v 21), .ref (v 22), .ref (v 23), .int 0, .int 0, .ref (v 24), .ref (v 25), .int 0, .int 0, .ref (v 26), .ref (v 27), .ref (v 28), .int 0, .int 0, .int 0])), ((v 5), .inl (K 0, 5, .inl (fun _ => 0))), ((v 6), .inl (K 0, 40, .inl (fun _ => 0)))]) (wr := []) hK hP hD hS hA [0, 5, 6] [] rfl rfl (by decide) (fun hp => va_runV (C := RX12) (As := []) (rest := [.int (-2)]) ⟨hx, hb, hml, hown, hts⟩ (c_X12_ways (l := l) (D := D) (K := K) (m0 := (m0)) (fm := ([.int 0, .ref (v 0), .ref (v 1), .ref (v 2), .ref (v 3), .ref (v 4), .int 0, .int 0, .int 0, .int 0, .int 0, .long 0, .int 0, .int 0, .int 0, .int (-1), .ref (v 5), .ref (v 6), .ref (v 7), .ref (v 8), .ref (v 9), .ref (v 10), .ref (v 11), .ref (v 12), .ref (v 13), .ref (v 14), .ref (v 15), .ref (v 16), .ref (v 17), .ref (v 18), .ref (v 19), .ref (v 20), .int 0, .int 0, .int 0, .int 0, .ref (v 21), .ref (v 22), .ref (v 23), .int 0, .int 0, .ref (v 24), .ref (v 25), .int 0, .int 0, .ref (v 26), .ref (v 27), .ref (v 28), .int 0, .int 0, .int 0])) (hmn := rfl) (al := ((v 5))) (hm16 := rfl) (ah := ((v 6))) (hm17 := rfl) (fl := (fun _ => 0)) (hfl := (fun _ => rfl)) (fh := (fun _ => 0)) (hfh := (fun _ => rfl)) _) (cwV 0 hts (fn_ginV (fn_gin wd_1739) wd_1736 wd_1737 wd_1738 wd_13) rfl rfl rfl (by decide +kernel) ⟨Nat.le_of_ble_eq_true rfl, Nat.le_of_ble_eq_true rfl⟩) ⟨fn_blind, va_recv hK.1 hP (ci := 12) (q0 := 0) rfl rfl, hp⟩ rfl rfl hl.1 rfl (lv_room (Nat.le_of_ble_eq_true rfl)) dL_law_1085 ⟨Nat.le_of_ble_eq_true rfl, Nat.le_of_ble_eq_true rfl⟩) (fun r4 u3 H locs hwu3 hP hD hS => ?_)
  have r4_e : r4 = (-2) := hwu3
  subst r4_e
  have hP : va_P D vwCl [] H := hP
  have hD : va_D A [] := hD
  refine lv_icmp_eq (tgt := 1996) hx hb dL_law_1088 (by decide) (fun _ => ?_) (fun h9 => absurd (by decide) h9)
  refine lv_iinc (v := 6) (lv' := [(3, .int 6), (2, .ref m0), (1, .ref x0), (0, .ref b)]) hx hb dL_law_1996 hl (k := 0) rfl (by decide) (by decide) rfl (fun ls hl => ?_)
  refine lv_goto (tgt := 18) hx hb dL_law_1999 (by decide) ?_
  refine lv_iload_n hx hb dL_law_18 rfl (lv_at hl 0 rfl) ?_
  refine lv_aload_n hx hb dL_law_19 rfl (lv_at hl 3 rfl) ?_
  refine va_slen hx hb hX hbl hbA hS dL_law_20 ?_
  refine fn_top 6 (by decide) ?_
  refine lv_bipush (v := 6) hx hb dL_law_21 (by decide) ?_
  refine lv_isub hx hb dL_law_23 ?_
  refine fn_top 0 (by decide) ?_
  refine lv_icmp_gt (tgt := 2002) hx hb dL_law_24 (by decide) (fun _ => ?_) (fun h9 => absurd (by decide) h9)
  refine lv_iconst (v := 1) hx hb dL_law_2002 (by decide) ?_
  refine va_forget (fun q hq => by have h9 := hS.2.2 q hq; rw [← hAe] at h9; exact h9) ?_
  refine W.widen (k := 600000) (n := 7302250) (Nat.le_of_ble_eq_true rfl) (Nat.le_of_ble_eq_true rfl) ?_
  exact lw_ret hx hb hr hlocks dL_law_2003
theorem dL_law_1093 : decode cL_law 1093 = .ok (.aload_n 1, 1) := by decide +kernel
theorem dL_law_1094 : decode cL_law 1094 = .ok (.invokevirtual 149, 3) := by decide +kernel
theorem dL_law_1097 : decode cL_law 1097 = .ok (.aload_n 2, 1) := by decide +kernel
theorem dL_law_1098 : decode cL_law 1098 = .ok (.invokevirtual 152, 3) := by decide +kernel
theorem dL_law_1101 : decode cL_law 1101 = .ok (.if_icmp .eq 895, 3) := by decide +kernel
set_option maxHeartbeats 4000000 in
set_option maxRecDepth 100000 in
theorem law_33 {p : Program} {l : Launch} {e : Env} {s : State} {m : MethodId} {below : List Frame} {meth : Method} {c : Code} {b : Nat} {xs : Nat → Int32} (hx : p.tables.exec = Jvm.exec) (hb : c.code = cL_law) (hr : meth.sig.returnType = ret) (hml : c.maxLocals = 4) (hown : s.vm.findClass RL = some m.cls) (hts : ∀ w ∈ fn_big, w.before #[Value.ref b] s = true) (hX : va_X b 6 xs s s.heap) (hbl : b < s.heap.size) (hlocks : meth.locks = false) {D : va_G} {K : Nat → ClassId} (hK : fn_KK D K s) {x0 m0 : Nat} {u v : Nat → Nat} {fw : Nat → Int32} (hfw : ∀ j, j < 4 → fw j = -1) {A : Nat → Prop} (hAe : (fun q : Nat => s.heap.size ≤ q) = A) : ∀ (H : Heap) (locs : List Loc) (ls : Array Slot), va_P D vwCl (fn_world K x0 m0 u v fw) H → va_D A (fn_world K x0 m0 u v fw) → va_S A s.heap H locs → lv_has ls 4 [(3, .int 0), (2, .ref m0), (1, .ref x0), (0, .ref b)] → W p l e room_1 s m #[Value.ref b] below meth c H locs 144 12710 (lw_Z below #[Value.ref b] s) (F0 m 1093 ls []) := by
  intro H locs ls hP hD hS hl
  have hA : ∀ q : Nat, s.heap.size ≤ q → A q := fun q h => by rw [← hAe]; exact h
  have hbA : ¬ A b := by rw [← hAe]; exact Nat.not_le.mpr hbl
  refine lv_aload_n hx hb dL_law_1093 rfl (lv_at hl 2 rfl) ?_
  refine fn_goi (wc := [(x0, .inr (11, [.ref (u 0), .ref (u 10), .ref (u 17), .ref (u 25), .ref (u 26), .ref (u 27), .ref (u 28), .ref (u 29), .ref (u 34), .ref (u 39), .ref (u 43), .ref (u 51), .ref (u 55)])), ((u 10), .inr (7, [.int 0, .int 0, .int 0, .int 0, .int 0, .int 0, .int 0, .int 0, .int 0, .ref (u 11), .ref (u 12), .ref (u 13), .ref (u 14), .ref (u 15), .ref (u 16)]))]) (wr := [(m0, .inr (12, [.int 0, .ref (v 0), .ref (v 1), .ref (v 2), .ref (v 3), .ref (v 4), .int 0, .int 0, .int 0, .int 0, .int 0, .long 0, .int 0, .int 0, .int 0, .int (-1), .ref (v 5), .ref (v 6), .ref (v 7), .ref (v 8), .ref (v 9), .ref (v 10), .ref (v 11), .ref (v 12), .ref (v 13), .ref (v 14), .ref (v 15), .ref (v 16), .ref (v 17), .ref (v 18), .ref (v 19), .ref (v 20), .int 0, .int 0, .int 0, .int 0, .ref (v 21), .ref (v 22), .ref (v 23), .int 0, .int 0, .ref (v 24), .ref (v 25), .int 0, .int 0, .ref (v 26), .ref (v 27), .ref (v 28), .int 0, .int 0, .int 0])), ((v 0), .inl (K 0, 4, .inl fw)), ((v 1), .inl (K 0, 4, .inl (fun _ => 0))), ((v 2), .inl (K 3, 240, .inr (.inl (fun _ => 0)))), ((v 4), .inl (K 1, 1400, .inl (fun _ => 0))), ((v 5), .inl (K 0, 5, .inl (fun _ => 0))), ((v 6), .inl (K 0, 40, .inl (fun _ => 0))), ((v 7), .inl (K 0, 50, .inl (fun _ => 0))), ((v 8), .inl (K 0, 60, .inl (fun _ => 0))), ((v 9), .inl (K 0, 480, .inl (fun _ => 0))), ((v 10), .inl (K 0, 600, .inl (fun _ => 0))), ((v 11), .inl (K 2, 3, .inl (fun _ => 0)))]) hK hP hD hS hA [0, 11] [88, 89, 90, 91, 92, 93, 94, 95, 96, 97, 98, 99] rfl rfl (by decide) (fun hp => va_runV (C := RX11) (As := []) (rest := []) ⟨hx, hb, hml, hown, hts⟩ (c_X11_most (l := l) (D := D) (K := K) (x0 := (x0)) (fx := ([.ref (u 0), .ref (u 10), .ref (u 17), .ref (u 25), .ref (u 26), .ref (u 27), .ref (u 28), .ref (u 29), .ref (u 34), .ref (u 39), .ref (u 43), .ref (u 51), .ref (u 55)])) (t0 := ((u 10))) (hx1 := rfl) (ft := ([.int 0, .int 0, .int 0, .int 0, .int 0, .int 0, .int 0, .int 0, .int 0, .ref (u 11), .ref (u 12), .ref (u 13), .ref (u 14), .ref (u 15), .ref (u 16)])) (ht0 := rfl) (ht3 := rfl) (ht4 := rfl) (ht5 := rfl) _) (cwV 0 hts (fn_ginV (fn_gin wd_896) wd_893 wd_894 wd_895 wd_1) rfl rfl rfl (by decide +kernel) ⟨Nat.le_of_ble_eq_true rfl, Nat.le_of_ble_eq_true rfl⟩) ⟨fn_blind, va_recv hK.1 hP (ci := 11) (q0 := 0) rfl rfl, hp⟩ rfl rfl hl.1 rfl (lv_room (Nat.le_of_ble_eq_true rfl)) dL_law_1094 ⟨Nat.le_of_ble_eq_true rfl, Nat.le_of_ble_eq_true rfl⟩) (fun r2 u1 H locs hwu1 hP hD hS => ?_)
  have r2_e : r2 = (-2) := hwu1
  subst r2_e
  have hP : va_P D vwCl [(m0, .inr (12, [.int 0, .ref (v 0), .ref (v 1), .ref (v 2), .ref (v 3), .ref (v 4), .int 0, .int 0, .int 0, .int 0, .int 0, .long 0, .int 0, .int 0, .int 0, .int (-1), .ref (v 5), .ref (v 6), .ref (v 7), .ref (v 8), .ref (v 9), .ref (v 10), .ref (v 11), .ref (v 12), .ref (v 13), .ref (v 14), .ref (v 15), .ref (v 16), .ref (v 17), .ref (v 18), .ref (v 19), .ref (v 20), .int 0, .int 0, .int 0, .int 0, .ref (v 21), .ref (v 22), .ref (v 23), .int 0, .int 0, .ref (v 24), .ref (v 25), .int 0, .int 0, .ref (v 26), .ref (v 27), .ref (v 28), .int 0, .int 0, .int 0])), ((v 0), .inl (K 0, 4, .inl fw)), ((v 1), .inl (K 0, 4, .inl (fun _ => 0))), ((v 2), .inl (K 3, 240, .inr (.inl (fun _ => 0)))), ((v 4), .inl (K 1, 1400, .inl (fun _ => 0))), ((v 5), .inl (K 0, 5, .inl (fun _ => 0))), ((v 6), .inl (K 0, 40, .inl (fun _ => 0))), ((v 7), .inl (K 0, 50, .inl (fun _ => 0))), ((v 8), .inl (K 0, 60, .inl (fun _ => 0))), ((v 9), .inl (K 0, 480, .inl (fun _ => 0))), ((v 10), .inl (K 0, 600, .inl (fun _ => 0))), ((v 11), .inl (K 2, 3, .inl (fun _ => 0)))] H := hP
  have hD : va_D A [(m0, .inr (12, [.int 0, .ref (v 0), .ref (v 1), .ref (v 2), .ref (v 3), .ref (v 4), .int 0, .int 0, .int 0, .int 0, .int 0, .long 0, .int 0, .int 0, .int 0, .int (-1), .ref (v 5), .ref (v 6), .ref (v 7), .ref (v 8), .ref (v 9), .ref (v 10), .ref (v 11), .ref (v 12), .ref (v 13), .ref (v 14), .ref (v 15), .ref (v 16), .ref (v 17), .ref (v 18), .ref (v 19), .ref (v 20), .int 0, .int 0, .int 0, .int 0, .ref (v 21), .ref (v 22), .ref (v 23), .int 0, .int 0, .ref (v 24), .ref (v 25), .int 0, .int 0, .ref (v 26), .ref (v 27), .ref (v 28), .int 0, .int 0, .int 0])), ((v 0), .inl (K 0, 4, .inl fw)), ((v 1), .inl (K 0, 4, .inl (fun _ => 0))), ((v 2), .inl (K 3, 240, .inr (.inl (fun _ => 0)))), ((v 4), .inl (K 1, 1400, .inl (fun _ => 0))), ((v 5), .inl (K 0, 5, .inl (fun _ => 0))), ((v 6), .inl (K 0, 40, .inl (fun _ => 0))), ((v 7), .inl (K 0, 50, .inl (fun _ => 0))), ((v 8), .inl (K 0, 60, .inl (fun _ => 0))), ((v 9), .inl (K 0, 480, .inl (fun _ => 0))), ((v 10), .inl (K 0, 600, .inl (fun _ => 0))), ((v 11), .inl (K 2, 3, .inl (fun _ => 0)))] := hD
  refine lv_aload_n hx hb dL_law_1097 rfl (lv_at hl 1 rfl) ?_
  refine fn_goi (wc := [(m0, .inr (12, [.int 0, .ref (v 0), .ref (v 1), .ref (v 2), .ref (v 3), .ref (v 4), .int 0, .int 0, .int 0, .int 0, .int 0, .long 0, .int 0, .int 0, .int 0, .int (-1), .ref (v 5), .ref (v 6), .ref (v 7), .ref (v 8), .ref (v 9), .ref (v 10), .ref (v 11), .ref (v 12), .ref (v 13), .ref (v 14), .ref (v 15), .ref (v 16), .ref (v 17), .ref (v 18), .ref (v 19), .ref (v 20), .int 0, .int 0, .int 0, .int 0, .ref (v 21), .ref (v 22), .ref (v 23), .int 0, .int 0, .ref (v 24), .ref (v 25), .int 0, .int 0, .ref (v 26), .ref (v 27), .ref (v 28), .int 0, .int 0, .int 0])), ((v 5), .inl (K 0, 5, .inl (fun _ => 0))), ((v 6), .inl (K 0, 40, .inl (fun _ => 0)))]) (wr := []) hK hP hD hS hA [0, 5, 6] [] rfl rfl (by decide) (fun hp => va_runV (C := RX12) (As := []) (rest := [.int (-2)]) ⟨hx, hb, hml, hown, hts⟩ (c_X12_most (l := l) (D := D) (K := K) (m0 := (m0)) (fm := ([.int 0, .ref (v 0), .ref (v 1), .ref (v 2), .ref (v 3), .ref (v 4), .int 0, .int 0, .int 0, .int 0, .int 0, .long 0, .int 0, .int 0, .int 0, .int (-1), .ref (v 5), .ref (v 6), .ref (v 7), .ref (v 8), .ref (v 9), .ref (v 10), .ref (v 11), .ref (v 12), .ref (v 13), .ref (v 14), .ref (v 15), .ref (v 16), .ref (v 17), .ref (v 18), .ref (v 19), .ref (v 20), .int 0, .int 0, .int 0, .int 0, .ref (v 21), .ref (v 22), .ref (v 23), .int 0, .int 0, .ref (v 24), .ref (v 25), .int 0, .int 0, .ref (v 26), .ref (v 27), .ref (v 28), .int 0, .int 0, .int 0])) (hmn := rfl) (al := ((v 5))) (hm16 := rfl) (ah := ((v 6))) (hm17 := rfl) (fl := (fun _ => 0)) (hfl := (fun _ => rfl)) (fh := (fun _ => 0)) (hfh := (fun _ => rfl)) _) (cwV 0 hts (fn_ginV (fn_gin wd_1747) wd_1744 wd_1745 wd_1746 wd_13) rfl rfl rfl (by decide +kernel) ⟨Nat.le_of_ble_eq_true rfl, Nat.le_of_ble_eq_true rfl⟩) ⟨fn_blind, va_recv hK.1 hP (ci := 12) (q0 := 0) rfl rfl, hp⟩ rfl rfl hl.1 rfl (lv_room (Nat.le_of_ble_eq_true rfl)) dL_law_1098 ⟨Nat.le_of_ble_eq_true rfl, Nat.le_of_ble_eq_true rfl⟩) (fun r4 u3 H locs hwu3 hP hD hS => ?_)
  have r4_e : r4 = (-2) := hwu3
  subst r4_e
  have hP : va_P D vwCl [] H := hP
  have hD : va_D A [] := hD
  refine lv_icmp_eq (tgt := 1996) hx hb dL_law_1101 (by decide) (fun _ => ?_) (fun h9 => absurd (by decide) h9)
  refine lv_iinc (v := 6) (lv' := [(3, .int 6), (2, .ref m0), (1, .ref x0), (0, .ref b)]) hx hb dL_law_1996 hl (k := 0) rfl (by decide) (by decide) rfl (fun ls hl => ?_)
  refine lv_goto (tgt := 18) hx hb dL_law_1999 (by decide) ?_
  refine lv_iload_n hx hb dL_law_18 rfl (lv_at hl 0 rfl) ?_
  refine lv_aload_n hx hb dL_law_19 rfl (lv_at hl 3 rfl) ?_
  refine va_slen hx hb hX hbl hbA hS dL_law_20 ?_
  refine fn_top 6 (by decide) ?_
  refine lv_bipush (v := 6) hx hb dL_law_21 (by decide) ?_
  refine lv_isub hx hb dL_law_23 ?_
  refine fn_top 0 (by decide) ?_
  refine lv_icmp_gt (tgt := 2002) hx hb dL_law_24 (by decide) (fun _ => ?_) (fun h9 => absurd (by decide) h9)
  refine lv_iconst (v := 1) hx hb dL_law_2002 (by decide) ?_
  refine va_forget (fun q hq => by have h9 := hS.2.2 q hq; rw [← hAe] at h9; exact h9) ?_
  refine W.widen (k := 600000) (n := 7302250) (Nat.le_of_ble_eq_true rfl) (Nat.le_of_ble_eq_true rfl) ?_
  exact lw_ret hx hb hr hlocks dL_law_2003
theorem dL_law_1106 : decode cL_law 1106 = .ok (.aload_n 1, 1) := by decide +kernel
theorem dL_law_1107 : decode cL_law 1107 = .ok (.invokevirtual 153, 3) := by decide +kernel
theorem dL_law_1110 : decode cL_law 1110 = .ok (.aload_n 2, 1) := by decide +kernel
theorem dL_law_1111 : decode cL_law 1111 = .ok (.invokevirtual 156, 3) := by decide +kernel
theorem dL_law_1114 : decode cL_law 1114 = .ok (.if_icmp .eq 882, 3) := by decide +kernel
set_option maxHeartbeats 4000000 in
set_option maxRecDepth 100000 in
theorem law_34 {p : Program} {l : Launch} {e : Env} {s : State} {m : MethodId} {below : List Frame} {meth : Method} {c : Code} {b : Nat} {xs : Nat → Int32} (hx : p.tables.exec = Jvm.exec) (hb : c.code = cL_law) (hr : meth.sig.returnType = ret) (hml : c.maxLocals = 4) (hown : s.vm.findClass RL = some m.cls) (hts : ∀ w ∈ fn_big, w.before #[Value.ref b] s = true) (hX : va_X b 6 xs s s.heap) (hbl : b < s.heap.size) (hlocks : meth.locks = false) {D : va_G} {K : Nat → ClassId} (hK : fn_KK D K s) {x0 m0 : Nat} {u v : Nat → Nat} {fw : Nat → Int32} (hfw : ∀ j, j < 4 → fw j = -1) {A : Nat → Prop} (hAe : (fun q : Nat => s.heap.size ≤ q) = A) : ∀ (H : Heap) (locs : List Loc) (ls : Array Slot), va_P D vwCl (fn_world K x0 m0 u v fw) H → va_D A (fn_world K x0 m0 u v fw) → va_S A s.heap H locs → lv_has ls 4 [(3, .int 0), (2, .ref m0), (1, .ref x0), (0, .ref b)] → W p l e room_1 s m #[Value.ref b] below meth c H locs 144 12710 (lw_Z below #[Value.ref b] s) (F0 m 1106 ls []) := by
  intro H locs ls hP hD hS hl
  have hA : ∀ q : Nat, s.heap.size ≤ q → A q := fun q h => by rw [← hAe]; exact h
  have hbA : ¬ A b := by rw [← hAe]; exact Nat.not_le.mpr hbl
  refine lv_aload_n hx hb dL_law_1106 rfl (lv_at hl 2 rfl) ?_
  refine fn_goi (wc := [(x0, .inr (11, [.ref (u 0), .ref (u 10), .ref (u 17), .ref (u 25), .ref (u 26), .ref (u 27), .ref (u 28), .ref (u 29), .ref (u 34), .ref (u 39), .ref (u 43), .ref (u 51), .ref (u 55)])), ((u 10), .inr (7, [.int 0, .int 0, .int 0, .int 0, .int 0, .int 0, .int 0, .int 0, .int 0, .ref (u 11), .ref (u 12), .ref (u 13), .ref (u 14), .ref (u 15), .ref (u 16)]))]) (wr := [(m0, .inr (12, [.int 0, .ref (v 0), .ref (v 1), .ref (v 2), .ref (v 3), .ref (v 4), .int 0, .int 0, .int 0, .int 0, .int 0, .long 0, .int 0, .int 0, .int 0, .int (-1), .ref (v 5), .ref (v 6), .ref (v 7), .ref (v 8), .ref (v 9), .ref (v 10), .ref (v 11), .ref (v 12), .ref (v 13), .ref (v 14), .ref (v 15), .ref (v 16), .ref (v 17), .ref (v 18), .ref (v 19), .ref (v 20), .int 0, .int 0, .int 0, .int 0, .ref (v 21), .ref (v 22), .ref (v 23), .int 0, .int 0, .ref (v 24), .ref (v 25), .int 0, .int 0, .ref (v 26), .ref (v 27), .ref (v 28), .int 0, .int 0, .int 0])), ((v 0), .inl (K 0, 4, .inl fw)), ((v 1), .inl (K 0, 4, .inl (fun _ => 0))), ((v 2), .inl (K 3, 240, .inr (.inl (fun _ => 0)))), ((v 4), .inl (K 1, 1400, .inl (fun _ => 0))), ((v 5), .inl (K 0, 5, .inl (fun _ => 0))), ((v 6), .inl (K 0, 40, .inl (fun _ => 0))), ((v 7), .inl (K 0, 50, .inl (fun _ => 0))), ((v 8), .inl (K 0, 60, .inl (fun _ => 0))), ((v 9), .inl (K 0, 480, .inl (fun _ => 0))), ((v 10), .inl (K 0, 600, .inl (fun _ => 0))), ((v 11), .inl (K 2, 3, .inl (fun _ => 0)))]) hK hP hD hS hA [0, 11] [88, 89, 90, 91, 92, 93, 94, 95, 96, 97, 98, 99] rfl rfl (by decide) (fun hp => va_runV (C := RX11) (As := []) (rest := []) ⟨hx, hb, hml, hown, hts⟩ (c_X11_mostly (l := l) (D := D) (K := K) (x0 := (x0)) (fx := ([.ref (u 0), .ref (u 10), .ref (u 17), .ref (u 25), .ref (u 26), .ref (u 27), .ref (u 28), .ref (u 29), .ref (u 34), .ref (u 39), .ref (u 43), .ref (u 51), .ref (u 55)])) (t0 := ((u 10))) (hx1 := rfl) (ft := ([.int 0, .int 0, .int 0, .int 0, .int 0, .int 0, .int 0, .int 0, .int 0, .ref (u 11), .ref (u 12), .ref (u 13), .ref (u 14), .ref (u 15), .ref (u 16)])) (ht0 := rfl) (ht3 := rfl) (ht4 := rfl) (ht5 := rfl) _) (cwV 0 hts (fn_ginV (fn_gin wd_900) wd_901 wd_898 wd_899 wd_1) rfl rfl rfl (by decide +kernel) ⟨Nat.le_of_ble_eq_true rfl, Nat.le_of_ble_eq_true rfl⟩) ⟨fn_blind, va_recv hK.1 hP (ci := 11) (q0 := 0) rfl rfl, hp⟩ rfl rfl hl.1 rfl (lv_room (Nat.le_of_ble_eq_true rfl)) dL_law_1107 ⟨Nat.le_of_ble_eq_true rfl, Nat.le_of_ble_eq_true rfl⟩) (fun r2 u1 H locs hwu1 hP hD hS => ?_)
  have r2_e : r2 = (-2) := hwu1
  subst r2_e
  have hP : va_P D vwCl [(m0, .inr (12, [.int 0, .ref (v 0), .ref (v 1), .ref (v 2), .ref (v 3), .ref (v 4), .int 0, .int 0, .int 0, .int 0, .int 0, .long 0, .int 0, .int 0, .int 0, .int (-1), .ref (v 5), .ref (v 6), .ref (v 7), .ref (v 8), .ref (v 9), .ref (v 10), .ref (v 11), .ref (v 12), .ref (v 13), .ref (v 14), .ref (v 15), .ref (v 16), .ref (v 17), .ref (v 18), .ref (v 19), .ref (v 20), .int 0, .int 0, .int 0, .int 0, .ref (v 21), .ref (v 22), .ref (v 23), .int 0, .int 0, .ref (v 24), .ref (v 25), .int 0, .int 0, .ref (v 26), .ref (v 27), .ref (v 28), .int 0, .int 0, .int 0])), ((v 0), .inl (K 0, 4, .inl fw)), ((v 1), .inl (K 0, 4, .inl (fun _ => 0))), ((v 2), .inl (K 3, 240, .inr (.inl (fun _ => 0)))), ((v 4), .inl (K 1, 1400, .inl (fun _ => 0))), ((v 5), .inl (K 0, 5, .inl (fun _ => 0))), ((v 6), .inl (K 0, 40, .inl (fun _ => 0))), ((v 7), .inl (K 0, 50, .inl (fun _ => 0))), ((v 8), .inl (K 0, 60, .inl (fun _ => 0))), ((v 9), .inl (K 0, 480, .inl (fun _ => 0))), ((v 10), .inl (K 0, 600, .inl (fun _ => 0))), ((v 11), .inl (K 2, 3, .inl (fun _ => 0)))] H := hP
  have hD : va_D A [(m0, .inr (12, [.int 0, .ref (v 0), .ref (v 1), .ref (v 2), .ref (v 3), .ref (v 4), .int 0, .int 0, .int 0, .int 0, .int 0, .long 0, .int 0, .int 0, .int 0, .int (-1), .ref (v 5), .ref (v 6), .ref (v 7), .ref (v 8), .ref (v 9), .ref (v 10), .ref (v 11), .ref (v 12), .ref (v 13), .ref (v 14), .ref (v 15), .ref (v 16), .ref (v 17), .ref (v 18), .ref (v 19), .ref (v 20), .int 0, .int 0, .int 0, .int 0, .ref (v 21), .ref (v 22), .ref (v 23), .int 0, .int 0, .ref (v 24), .ref (v 25), .int 0, .int 0, .ref (v 26), .ref (v 27), .ref (v 28), .int 0, .int 0, .int 0])), ((v 0), .inl (K 0, 4, .inl fw)), ((v 1), .inl (K 0, 4, .inl (fun _ => 0))), ((v 2), .inl (K 3, 240, .inr (.inl (fun _ => 0)))), ((v 4), .inl (K 1, 1400, .inl (fun _ => 0))), ((v 5), .inl (K 0, 5, .inl (fun _ => 0))), ((v 6), .inl (K 0, 40, .inl (fun _ => 0))), ((v 7), .inl (K 0, 50, .inl (fun _ => 0))), ((v 8), .inl (K 0, 60, .inl (fun _ => 0))), ((v 9), .inl (K 0, 480, .inl (fun _ => 0))), ((v 10), .inl (K 0, 600, .inl (fun _ => 0))), ((v 11), .inl (K 2, 3, .inl (fun _ => 0)))] := hD
  refine lv_aload_n hx hb dL_law_1110 rfl (lv_at hl 1 rfl) ?_
  refine fn_goi (wc := [(m0, .inr (12, [.int 0, .ref (v 0), .ref (v 1), .ref (v 2), .ref (v 3), .ref (v 4), .int 0, .int 0, .int 0, .int 0, .int 0, .long 0, .int 0, .int 0, .int 0, .int (-1), .ref (v 5), .ref (v 6), .ref (v 7), .ref (v 8), .ref (v 9), .ref (v 10), .ref (v 11), .ref (v 12), .ref (v 13), .ref (v 14), .ref (v 15), .ref (v 16), .ref (v 17), .ref (v 18), .ref (v 19), .ref (v 20), .int 0, .int 0, .int 0, .int 0, .ref (v 21), .ref (v 22), .ref (v 23), .int 0, .int 0, .ref (v 24), .ref (v 25), .int 0, .int 0, .ref (v 26), .ref (v 27), .ref (v 28), .int 0, .int 0, .int 0])), ((v 5), .inl (K 0, 5, .inl (fun _ => 0))), ((v 6), .inl (K 0, 40, .inl (fun _ => 0)))]) (wr := []) hK hP hD hS hA [0, 5, 6] [] rfl rfl (by decide) (fun hp => va_runV (C := RX12) (As := []) (rest := [.int (-2)]) ⟨hx, hb, hml, hown, hts⟩ (c_X12_mostly (l := l) (D := D) (K := K) (m0 := (m0)) (fm := ([.int 0, .ref (v 0), .ref (v 1), .ref (v 2), .ref (v 3), .ref (v 4), .int 0, .int 0, .int 0, .int 0, .int 0, .long 0, .int 0, .int 0, .int 0, .int (-1), .ref (v 5), .ref (v 6), .ref (v 7), .ref (v 8), .ref (v 9), .ref (v 10), .ref (v 11), .ref (v 12), .ref (v 13), .ref (v 14), .ref (v 15), .ref (v 16), .ref (v 17), .ref (v 18), .ref (v 19), .ref (v 20), .int 0, .int 0, .int 0, .int 0, .ref (v 21), .ref (v 22), .ref (v 23), .int 0, .int 0, .ref (v 24), .ref (v 25), .int 0, .int 0, .ref (v 26), .ref (v 27), .ref (v 28), .int 0, .int 0, .int 0])) (hmn := rfl) (al := ((v 5))) (hm16 := rfl) (ah := ((v 6))) (hm17 := rfl) (fl := (fun _ => 0)) (hfl := (fun _ => rfl)) (fh := (fun _ => 0)) (hfh := (fun _ => rfl)) _) (cwV 0 hts (fn_ginV (fn_gin wd_1751) wd_1748 wd_1749 wd_1750 wd_13) rfl rfl rfl (by decide +kernel) ⟨Nat.le_of_ble_eq_true rfl, Nat.le_of_ble_eq_true rfl⟩) ⟨fn_blind, va_recv hK.1 hP (ci := 12) (q0 := 0) rfl rfl, hp⟩ rfl rfl hl.1 rfl (lv_room (Nat.le_of_ble_eq_true rfl)) dL_law_1111 ⟨Nat.le_of_ble_eq_true rfl, Nat.le_of_ble_eq_true rfl⟩) (fun r4 u3 H locs hwu3 hP hD hS => ?_)
  have r4_e : r4 = (-2) := hwu3
  subst r4_e
  have hP : va_P D vwCl [] H := hP
  have hD : va_D A [] := hD
  refine lv_icmp_eq (tgt := 1996) hx hb dL_law_1114 (by decide) (fun _ => ?_) (fun h9 => absurd (by decide) h9)
  refine lv_iinc (v := 6) (lv' := [(3, .int 6), (2, .ref m0), (1, .ref x0), (0, .ref b)]) hx hb dL_law_1996 hl (k := 0) rfl (by decide) (by decide) rfl (fun ls hl => ?_)
  refine lv_goto (tgt := 18) hx hb dL_law_1999 (by decide) ?_
  refine lv_iload_n hx hb dL_law_18 rfl (lv_at hl 0 rfl) ?_
  refine lv_aload_n hx hb dL_law_19 rfl (lv_at hl 3 rfl) ?_
  refine va_slen hx hb hX hbl hbA hS dL_law_20 ?_
  refine fn_top 6 (by decide) ?_
  refine lv_bipush (v := 6) hx hb dL_law_21 (by decide) ?_
  refine lv_isub hx hb dL_law_23 ?_
  refine fn_top 0 (by decide) ?_
  refine lv_icmp_gt (tgt := 2002) hx hb dL_law_24 (by decide) (fun _ => ?_) (fun h9 => absurd (by decide) h9)
  refine lv_iconst (v := 1) hx hb dL_law_2002 (by decide) ?_
  refine va_forget (fun q hq => by have h9 := hS.2.2 q hq; rw [← hAe] at h9; exact h9) ?_
  refine W.widen (k := 600000) (n := 7302250) (Nat.le_of_ble_eq_true rfl) (Nat.le_of_ble_eq_true rfl) ?_
  exact lw_ret hx hb hr hlocks dL_law_2003
theorem dL_law_1119 : decode cL_law 1119 = .ok (.aload_n 1, 1) := by decide +kernel
theorem dL_law_1120 : decode cL_law 1120 = .ok (.aload_n 0, 1) := by decide +kernel
theorem dL_law_1121 : decode cL_law 1121 = .ok (.iload_n 3, 1) := by decide +kernel
theorem dL_law_1122 : decode cL_law 1122 = .ok (.iconst 1, 1) := by decide +kernel
theorem dL_law_1123 : decode cL_law 1123 = .ok (.iadd, 1) := by decide +kernel
theorem dL_law_1124 : decode cL_law 1124 = .ok (.iaload, 1) := by decide +kernel
theorem dL_law_1125 : decode cL_law 1125 = .ok (.invokevirtual 157, 3) := by decide +kernel
theorem dL_law_1128 : decode cL_law 1128 = .ok (.aload_n 2, 1) := by decide +kernel
theorem dL_law_1129 : decode cL_law 1129 = .ok (.aload_n 0, 1) := by decide +kernel
theorem dL_law_1130 : decode cL_law 1130 = .ok (.iload_n 3, 1) := by decide +kernel
theorem dL_law_1131 : decode cL_law 1131 = .ok (.iconst 1, 1) := by decide +kernel
theorem dL_law_1132 : decode cL_law 1132 = .ok (.iadd, 1) := by decide +kernel
theorem dL_law_1133 : decode cL_law 1133 = .ok (.iaload, 1) := by decide +kernel
theorem dL_law_1134 : decode cL_law 1134 = .ok (.invokevirtual 160, 3) := by decide +kernel
theorem dL_law_1137 : decode cL_law 1137 = .ok (.if_icmp .eq 859, 3) := by decide +kernel
set_option maxHeartbeats 4000000 in
set_option maxRecDepth 100000 in
theorem law_35 {p : Program} {l : Launch} {e : Env} {s : State} {m : MethodId} {below : List Frame} {meth : Method} {c : Code} {b : Nat} {xs : Nat → Int32} (hx : p.tables.exec = Jvm.exec) (hb : c.code = cL_law) (hr : meth.sig.returnType = ret) (hml : c.maxLocals = 4) (hown : s.vm.findClass RL = some m.cls) (hts : ∀ w ∈ fn_big, w.before #[Value.ref b] s = true) (hX : va_X b 6 xs s s.heap) (hbl : b < s.heap.size) (hlocks : meth.locks = false) {D : va_G} {K : Nat → ClassId} (hK : fn_KK D K s) {x0 m0 : Nat} {u v : Nat → Nat} {fw : Nat → Int32} (hfw : ∀ j, j < 4 → fw j = -1) {A : Nat → Prop} (hAe : (fun q : Nat => s.heap.size ≤ q) = A) : ∀ (H : Heap) (locs : List Loc) (ls : Array Slot), va_P D vwCl (fn_world K x0 m0 u v fw) H → va_D A (fn_world K x0 m0 u v fw) → va_S A s.heap H locs → lv_has ls 4 [(3, .int 0), (2, .ref m0), (1, .ref x0), (0, .ref b)] → W p l e room_1 s m #[Value.ref b] below meth c H locs 144 12710 (lw_Z below #[Value.ref b] s) (F0 m 1119 ls []) := by
  intro H locs ls hP hD hS hl
  have hA : ∀ q : Nat, s.heap.size ≤ q → A q := fun q h => by rw [← hAe]; exact h
  have hbA : ¬ A b := by rw [← hAe]; exact Nat.not_le.mpr hbl
  refine lv_aload_n hx hb dL_law_1119 rfl (lv_at hl 2 rfl) ?_
  refine lv_aload_n hx hb dL_law_1120 rfl (lv_at hl 3 rfl) ?_
  refine lv_iload_n hx hb dL_law_1121 rfl (lv_at hl 0 rfl) ?_
  refine lv_iconst (v := 1) hx hb dL_law_1122 (by decide) ?_
  refine lv_iadd hx hb dL_law_1123 ?_
  refine fn_top 1 (by decide) ?_
  refine va_sld hx hb hX hbl hbA hS (by unfold vp_in; decide) dL_law_1124 ?_
  refine fn_top (xs 1) (congrArg xs (by decide)) ?_
  refine fn_goi (wc := [(x0, .inr (11, [.ref (u 0), .ref (u 10), .ref (u 17), .ref (u 25), .ref (u 26), .ref (u 27), .ref (u 28), .ref (u 29), .ref (u 34), .ref (u 39), .ref (u 43), .ref (u 51), .ref (u 55)])), ((u 10), .inr (7, [.int 0, .int 0, .int 0, .int 0, .int 0, .int 0, .int 0, .int 0, .int 0, .ref (u 11), .ref (u 12), .ref (u 13), .ref (u 14), .ref (u 15), .ref (u 16)]))]) (wr := [(m0, .inr (12, [.int 0, .ref (v 0), .ref (v 1), .ref (v 2), .ref (v 3), .ref (v 4), .int 0, .int 0, .int 0, .int 0, .int 0, .long 0, .int 0, .int 0, .int 0, .int (-1), .ref (v 5), .ref (v 6), .ref (v 7), .ref (v 8), .ref (v 9), .ref (v 10), .ref (v 11), .ref (v 12), .ref (v 13), .ref (v 14), .ref (v 15), .ref (v 16), .ref (v 17), .ref (v 18), .ref (v 19), .ref (v 20), .int 0, .int 0, .int 0, .int 0, .ref (v 21), .ref (v 22), .ref (v 23), .int 0, .int 0, .ref (v 24), .ref (v 25), .int 0, .int 0, .ref (v 26), .ref (v 27), .ref (v 28), .int 0, .int 0, .int 0])), ((v 0), .inl (K 0, 4, .inl fw)), ((v 1), .inl (K 0, 4, .inl (fun _ => 0))), ((v 2), .inl (K 3, 240, .inr (.inl (fun _ => 0)))), ((v 4), .inl (K 1, 1400, .inl (fun _ => 0))), ((v 5), .inl (K 0, 5, .inl (fun _ => 0))), ((v 6), .inl (K 0, 40, .inl (fun _ => 0))), ((v 7), .inl (K 0, 50, .inl (fun _ => 0))), ((v 8), .inl (K 0, 60, .inl (fun _ => 0))), ((v 9), .inl (K 0, 480, .inl (fun _ => 0))), ((v 10), .inl (K 0, 600, .inl (fun _ => 0))), ((v 11), .inl (K 2, 3, .inl (fun _ => 0)))]) hK hP hD hS hA [0, 11] [88, 89, 90, 91, 92, 93, 94, 95, 96, 97, 98, 99] rfl rfl (by decide) (fun hp => va_runV (C := RX11) (As := [.int (xs 1)]) (rest := []) ⟨hx, hb, hml, hown, hts⟩ (c_X11_sure (l := l) (D := D) (K := K) (x0 := (x0)) (p0 := ((xs 1))) (fx := ([.ref (u 0), .ref (u 10), .ref (u 17), .ref (u 25), .ref (u 26), .ref (u 27), .ref (u 28), .ref (u 29), .ref (u 34), .ref (u 39), .ref (u 43), .ref (u 51), .ref (u 55)])) (t0 := ((u 10))) (hx1 := rfl) (ft := ([.int 0, .int 0, .int 0, .int 0, .int 0, .int 0, .int 0, .int 0, .int 0, .ref (u 11), .ref (u 12), .ref (u 13), .ref (u 14), .ref (u 15), .ref (u 16)])) (ht0 := rfl) (ht3 := rfl) (ht4 := rfl) (ht5 := rfl) _) (cwV 1 hts (fn_ginV (fn_gin wd_905) wd_902 wd_903 wd_904 wd_1) rfl rfl rfl (by decide +kernel) ⟨Nat.le_of_ble_eq_true rfl, Nat.le_of_ble_eq_true rfl⟩) ⟨fn_blind, va_recv hK.1 hP (ci := 11) (q0 := 0) rfl rfl, hp⟩ rfl rfl hl.1 rfl (lv_room (Nat.le_of_ble_eq_true rfl)) dL_law_1125 ⟨Nat.le_of_ble_eq_true rfl, Nat.le_of_ble_eq_true rfl⟩) (fun r2 u1 H locs hwu1 hP hD hS => ?_)
  have r2_e : r2 = (-2) := hwu1
  subst r2_e
  have hP : va_P D vwCl [(m0, .inr (12, [.int 0, .ref (v 0), .ref (v 1), .ref (v 2), .ref (v 3), .ref (v 4), .int 0, .int 0, .int 0, .int 0, .int 0, .long 0, .int 0, .int 0, .int 0, .int (-1), .ref (v 5), .ref (v 6), .ref (v 7), .ref (v 8), .ref (v 9), .ref (v 10), .ref (v 11), .ref (v 12), .ref (v 13), .ref (v 14), .ref (v 15), .ref (v 16), .ref (v 17), .ref (v 18), .ref (v 19), .ref (v 20), .int 0, .int 0, .int 0, .int 0, .ref (v 21), .ref (v 22), .ref (v 23), .int 0, .int 0, .ref (v 24), .ref (v 25), .int 0, .int 0, .ref (v 26), .ref (v 27), .ref (v 28), .int 0, .int 0, .int 0])), ((v 0), .inl (K 0, 4, .inl fw)), ((v 1), .inl (K 0, 4, .inl (fun _ => 0))), ((v 2), .inl (K 3, 240, .inr (.inl (fun _ => 0)))), ((v 4), .inl (K 1, 1400, .inl (fun _ => 0))), ((v 5), .inl (K 0, 5, .inl (fun _ => 0))), ((v 6), .inl (K 0, 40, .inl (fun _ => 0))), ((v 7), .inl (K 0, 50, .inl (fun _ => 0))), ((v 8), .inl (K 0, 60, .inl (fun _ => 0))), ((v 9), .inl (K 0, 480, .inl (fun _ => 0))), ((v 10), .inl (K 0, 600, .inl (fun _ => 0))), ((v 11), .inl (K 2, 3, .inl (fun _ => 0)))] H := hP
  have hD : va_D A [(m0, .inr (12, [.int 0, .ref (v 0), .ref (v 1), .ref (v 2), .ref (v 3), .ref (v 4), .int 0, .int 0, .int 0, .int 0, .int 0, .long 0, .int 0, .int 0, .int 0, .int (-1), .ref (v 5), .ref (v 6), .ref (v 7), .ref (v 8), .ref (v 9), .ref (v 10), .ref (v 11), .ref (v 12), .ref (v 13), .ref (v 14), .ref (v 15), .ref (v 16), .ref (v 17), .ref (v 18), .ref (v 19), .ref (v 20), .int 0, .int 0, .int 0, .int 0, .ref (v 21), .ref (v 22), .ref (v 23), .int 0, .int 0, .ref (v 24), .ref (v 25), .int 0, .int 0, .ref (v 26), .ref (v 27), .ref (v 28), .int 0, .int 0, .int 0])), ((v 0), .inl (K 0, 4, .inl fw)), ((v 1), .inl (K 0, 4, .inl (fun _ => 0))), ((v 2), .inl (K 3, 240, .inr (.inl (fun _ => 0)))), ((v 4), .inl (K 1, 1400, .inl (fun _ => 0))), ((v 5), .inl (K 0, 5, .inl (fun _ => 0))), ((v 6), .inl (K 0, 40, .inl (fun _ => 0))), ((v 7), .inl (K 0, 50, .inl (fun _ => 0))), ((v 8), .inl (K 0, 60, .inl (fun _ => 0))), ((v 9), .inl (K 0, 480, .inl (fun _ => 0))), ((v 10), .inl (K 0, 600, .inl (fun _ => 0))), ((v 11), .inl (K 2, 3, .inl (fun _ => 0)))] := hD
  refine lv_aload_n hx hb dL_law_1128 rfl (lv_at hl 1 rfl) ?_
  refine lv_aload_n hx hb dL_law_1129 rfl (lv_at hl 3 rfl) ?_
  refine lv_iload_n hx hb dL_law_1130 rfl (lv_at hl 0 rfl) ?_
  refine lv_iconst (v := 1) hx hb dL_law_1131 (by decide) ?_
  refine lv_iadd hx hb dL_law_1132 ?_
  refine fn_top 1 (by decide) ?_
  refine va_sld hx hb hX hbl hbA hS (by unfold vp_in; decide) dL_law_1133 ?_
  refine fn_top (xs 1) (congrArg xs (by decide)) ?_
  refine fn_goi (wc := [(m0, .inr (12, [.int 0, .ref (v 0), .ref (v 1), .ref (v 2), .ref (v 3), .ref (v 4), .int 0, .int 0, .int 0, .int 0, .int 0, .long 0, .int 0, .int 0, .int 0, .int (-1), .ref (v 5), .ref (v 6), .ref (v 7), .ref (v 8), .ref (v 9), .ref (v 10), .ref (v 11), .ref (v 12), .ref (v 13), .ref (v 14), .ref (v 15), .ref (v 16), .ref (v 17), .ref (v 18), .ref (v 19), .ref (v 20), .int 0, .int 0, .int 0, .int 0, .ref (v 21), .ref (v 22), .ref (v 23), .int 0, .int 0, .ref (v 24), .ref (v 25), .int 0, .int 0, .ref (v 26), .ref (v 27), .ref (v 28), .int 0, .int 0, .int 0])), ((v 5), .inl (K 0, 5, .inl (fun _ => 0))), ((v 6), .inl (K 0, 40, .inl (fun _ => 0)))]) (wr := []) hK hP hD hS hA [0, 5, 6] [] rfl rfl (by decide) (fun hp => va_runV (C := RX12) (As := [.int (xs 1)]) (rest := [.int (-2)]) ⟨hx, hb, hml, hown, hts⟩ (c_X12_sure (l := l) (D := D) (K := K) (m0 := (m0)) (p0 := ((xs 1))) (fm := ([.int 0, .ref (v 0), .ref (v 1), .ref (v 2), .ref (v 3), .ref (v 4), .int 0, .int 0, .int 0, .int 0, .int 0, .long 0, .int 0, .int 0, .int 0, .int (-1), .ref (v 5), .ref (v 6), .ref (v 7), .ref (v 8), .ref (v 9), .ref (v 10), .ref (v 11), .ref (v 12), .ref (v 13), .ref (v 14), .ref (v 15), .ref (v 16), .ref (v 17), .ref (v 18), .ref (v 19), .ref (v 20), .int 0, .int 0, .int 0, .int 0, .ref (v 21), .ref (v 22), .ref (v 23), .int 0, .int 0, .ref (v 24), .ref (v 25), .int 0, .int 0, .ref (v 26), .ref (v 27), .ref (v 28), .int 0, .int 0, .int 0])) (hmn := rfl) (al := ((v 5))) (hm16 := rfl) (ah := ((v 6))) (hm17 := rfl) (fl := (fun _ => 0)) (hfl := (fun _ => rfl)) (fh := (fun _ => 0)) (hfh := (fun _ => rfl)) _) (cwV 1 hts (fn_ginV (fn_gin wd_1755) wd_1752 wd_1753 wd_1754 wd_13) rfl rfl rfl (by decide +kernel) ⟨Nat.le_of_ble_eq_true rfl, Nat.le_of_ble_eq_true rfl⟩) ⟨fn_blind, va_recv hK.1 hP (ci := 12) (q0 := 0) rfl rfl, hp⟩ rfl rfl hl.1 rfl (lv_room (Nat.le_of_ble_eq_true rfl)) dL_law_1134 ⟨Nat.le_of_ble_eq_true rfl, Nat.le_of_ble_eq_true rfl⟩) (fun r4 u3 H locs hwu3 hP hD hS => ?_)
  have r4_e : r4 = (-2) := hwu3
  subst r4_e
  have hP : va_P D vwCl [] H := hP
  have hD : va_D A [] := hD
  refine lv_icmp_eq (tgt := 1996) hx hb dL_law_1137 (by decide) (fun _ => ?_) (fun h9 => absurd (by decide) h9)
  refine lv_iinc (v := 6) (lv' := [(3, .int 6), (2, .ref m0), (1, .ref x0), (0, .ref b)]) hx hb dL_law_1996 hl (k := 0) rfl (by decide) (by decide) rfl (fun ls hl => ?_)
  refine lv_goto (tgt := 18) hx hb dL_law_1999 (by decide) ?_
  refine lv_iload_n hx hb dL_law_18 rfl (lv_at hl 0 rfl) ?_
  refine lv_aload_n hx hb dL_law_19 rfl (lv_at hl 3 rfl) ?_
  refine fn_at 20 rfl ?_
  refine va_slen hx hb hX hbl hbA hS dL_law_20 ?_
  refine fn_top 6 (by decide) ?_
  refine lv_bipush (v := 6) hx hb dL_law_21 (by decide) ?_
  refine lv_isub hx hb dL_law_23 ?_
  refine fn_top 0 (by decide) ?_
  refine lv_icmp_gt (tgt := 2002) hx hb dL_law_24 (by decide) (fun _ => ?_) (fun h9 => absurd (by decide) h9)
  refine lv_iconst (v := 1) hx hb dL_law_2002 (by decide) ?_
  refine va_forget (fun q hq => by have h9 := hS.2.2 q hq; rw [← hAe] at h9; exact h9) ?_
  refine W.widen (k := 600000) (n := 7302250) (Nat.le_of_ble_eq_true rfl) (Nat.le_of_ble_eq_true rfl) ?_
  exact lw_ret hx hb hr hlocks dL_law_2003
theorem dL_law_1142 : decode cL_law 1142 = .ok (.aload_n 1, 1) := by decide +kernel
theorem dL_law_1143 : decode cL_law 1143 = .ok (.aload_n 0, 1) := by decide +kernel
theorem dL_law_1144 : decode cL_law 1144 = .ok (.iload_n 3, 1) := by decide +kernel
theorem dL_law_1145 : decode cL_law 1145 = .ok (.iconst 1, 1) := by decide +kernel
theorem dL_law_1146 : decode cL_law 1146 = .ok (.iadd, 1) := by decide +kernel
theorem dL_law_1147 : decode cL_law 1147 = .ok (.iaload, 1) := by decide +kernel
theorem dL_law_1148 : decode cL_law 1148 = .ok (.invokevirtual 161, 3) := by decide +kernel
theorem dL_law_1151 : decode cL_law 1151 = .ok (.aload_n 2, 1) := by decide +kernel
theorem dL_law_1152 : decode cL_law 1152 = .ok (.aload_n 0, 1) := by decide +kernel
theorem dL_law_1153 : decode cL_law 1153 = .ok (.iload_n 3, 1) := by decide +kernel
theorem dL_law_1154 : decode cL_law 1154 = .ok (.iconst 1, 1) := by decide +kernel
theorem dL_law_1155 : decode cL_law 1155 = .ok (.iadd, 1) := by decide +kernel
theorem dL_law_1156 : decode cL_law 1156 = .ok (.iaload, 1) := by decide +kernel
theorem dL_law_1157 : decode cL_law 1157 = .ok (.invokevirtual 164, 3) := by decide +kernel
theorem dL_law_1160 : decode cL_law 1160 = .ok (.if_icmp .eq 836, 3) := by decide +kernel
set_option maxHeartbeats 4000000 in
set_option maxRecDepth 100000 in
theorem law_36 {p : Program} {l : Launch} {e : Env} {s : State} {m : MethodId} {below : List Frame} {meth : Method} {c : Code} {b : Nat} {xs : Nat → Int32} (hx : p.tables.exec = Jvm.exec) (hb : c.code = cL_law) (hr : meth.sig.returnType = ret) (hml : c.maxLocals = 4) (hown : s.vm.findClass RL = some m.cls) (hts : ∀ w ∈ fn_big, w.before #[Value.ref b] s = true) (hX : va_X b 6 xs s s.heap) (hbl : b < s.heap.size) (hlocks : meth.locks = false) {D : va_G} {K : Nat → ClassId} (hK : fn_KK D K s) {x0 m0 : Nat} {u v : Nat → Nat} {fw : Nat → Int32} (hfw : ∀ j, j < 4 → fw j = -1) {A : Nat → Prop} (hAe : (fun q : Nat => s.heap.size ≤ q) = A) : ∀ (H : Heap) (locs : List Loc) (ls : Array Slot), va_P D vwCl (fn_world K x0 m0 u v fw) H → va_D A (fn_world K x0 m0 u v fw) → va_S A s.heap H locs → lv_has ls 4 [(3, .int 0), (2, .ref m0), (1, .ref x0), (0, .ref b)] → W p l e room_1 s m #[Value.ref b] below meth c H locs 144 12710 (lw_Z below #[Value.ref b] s) (F0 m 1142 ls []) := by
  intro H locs ls hP hD hS hl
  have hA : ∀ q : Nat, s.heap.size ≤ q → A q := fun q h => by rw [← hAe]; exact h
  have hbA : ¬ A b := by rw [← hAe]; exact Nat.not_le.mpr hbl
  refine lv_aload_n hx hb dL_law_1142 rfl (lv_at hl 2 rfl) ?_
  refine lv_aload_n hx hb dL_law_1143 rfl (lv_at hl 3 rfl) ?_
  refine lv_iload_n hx hb dL_law_1144 rfl (lv_at hl 0 rfl) ?_
  refine lv_iconst (v := 1) hx hb dL_law_1145 (by decide) ?_
  refine lv_iadd hx hb dL_law_1146 ?_
  refine fn_top 1 (by decide) ?_
  refine va_sld hx hb hX hbl hbA hS (by unfold vp_in; decide) dL_law_1147 ?_
  refine fn_top (xs 1) (congrArg xs (by decide)) ?_
  refine fn_goi (wc := [(x0, .inr (11, [.ref (u 0), .ref (u 10), .ref (u 17), .ref (u 25), .ref (u 26), .ref (u 27), .ref (u 28), .ref (u 29), .ref (u 34), .ref (u 39), .ref (u 43), .ref (u 51), .ref (u 55)])), ((u 10), .inr (7, [.int 0, .int 0, .int 0, .int 0, .int 0, .int 0, .int 0, .int 0, .int 0, .ref (u 11), .ref (u 12), .ref (u 13), .ref (u 14), .ref (u 15), .ref (u 16)]))]) (wr := [(m0, .inr (12, [.int 0, .ref (v 0), .ref (v 1), .ref (v 2), .ref (v 3), .ref (v 4), .int 0, .int 0, .int 0, .int 0, .int 0, .long 0, .int 0, .int 0, .int 0, .int (-1), .ref (v 5), .ref (v 6), .ref (v 7), .ref (v 8), .ref (v 9), .ref (v 10), .ref (v 11), .ref (v 12), .ref (v 13), .ref (v 14), .ref (v 15), .ref (v 16), .ref (v 17), .ref (v 18), .ref (v 19), .ref (v 20), .int 0, .int 0, .int 0, .int 0, .ref (v 21), .ref (v 22), .ref (v 23), .int 0, .int 0, .ref (v 24), .ref (v 25), .int 0, .int 0, .ref (v 26), .ref (v 27), .ref (v 28), .int 0, .int 0, .int 0])), ((v 0), .inl (K 0, 4, .inl fw)), ((v 1), .inl (K 0, 4, .inl (fun _ => 0))), ((v 2), .inl (K 3, 240, .inr (.inl (fun _ => 0)))), ((v 4), .inl (K 1, 1400, .inl (fun _ => 0))), ((v 5), .inl (K 0, 5, .inl (fun _ => 0))), ((v 6), .inl (K 0, 40, .inl (fun _ => 0))), ((v 7), .inl (K 0, 50, .inl (fun _ => 0))), ((v 8), .inl (K 0, 60, .inl (fun _ => 0))), ((v 9), .inl (K 0, 480, .inl (fun _ => 0))), ((v 10), .inl (K 0, 600, .inl (fun _ => 0))), ((v 11), .inl (K 2, 3, .inl (fun _ => 0)))]) hK hP hD hS hA [0, 11] [88, 89, 90, 91, 92, 93, 94, 95, 96, 97, 98, 99] rfl rfl (by decide) (fun hp => va_runV (C := RX11) (As := [.int (xs 1)]) (rest := []) ⟨hx, hb, hml, hown, hts⟩ (c_X11_loose (l := l) (D := D) (K := K) (x0 := (x0)) (p0 := ((xs 1))) (fx := ([.ref (u 0), .ref (u 10), .ref (u 17), .ref (u 25), .ref (u 26), .ref (u 27), .ref (u 28), .ref (u 29), .ref (u 34), .ref (u 39), .ref (u 43), .ref (u 51), .ref (u 55)])) (t0 := ((u 10))) (hx1 := rfl) (ft := ([.int 0, .int 0, .int 0, .int 0, .int 0, .int 0, .int 0, .int 0, .int 0, .ref (u 11), .ref (u 12), .ref (u 13), .ref (u 14), .ref (u 15), .ref (u 16)])) (ht0 := rfl) (ht3 := rfl) (ht4 := rfl) (ht5 := rfl) _) (cwV 1 hts (fn_ginV (fn_gin wd_909) wd_906 wd_907 wd_908 wd_1) rfl rfl rfl (by decide +kernel) ⟨Nat.le_of_ble_eq_true rfl, Nat.le_of_ble_eq_true rfl⟩) ⟨fn_blind, va_recv hK.1 hP (ci := 11) (q0 := 0) rfl rfl, hp⟩ rfl rfl hl.1 rfl (lv_room (Nat.le_of_ble_eq_true rfl)) dL_law_1148 ⟨Nat.le_of_ble_eq_true rfl, Nat.le_of_ble_eq_true rfl⟩) (fun r2 u1 H locs hwu1 hP hD hS => ?_)
  have r2_e : r2 = (-2) := hwu1
  subst r2_e
  have hP : va_P D vwCl [(m0, .inr (12, [.int 0, .ref (v 0), .ref (v 1), .ref (v 2), .ref (v 3), .ref (v 4), .int 0, .int 0, .int 0, .int 0, .int 0, .long 0, .int 0, .int 0, .int 0, .int (-1), .ref (v 5), .ref (v 6), .ref (v 7), .ref (v 8), .ref (v 9), .ref (v 10), .ref (v 11), .ref (v 12), .ref (v 13), .ref (v 14), .ref (v 15), .ref (v 16), .ref (v 17), .ref (v 18), .ref (v 19), .ref (v 20), .int 0, .int 0, .int 0, .int 0, .ref (v 21), .ref (v 22), .ref (v 23), .int 0, .int 0, .ref (v 24), .ref (v 25), .int 0, .int 0, .ref (v 26), .ref (v 27), .ref (v 28), .int 0, .int 0, .int 0])), ((v 0), .inl (K 0, 4, .inl fw)), ((v 1), .inl (K 0, 4, .inl (fun _ => 0))), ((v 2), .inl (K 3, 240, .inr (.inl (fun _ => 0)))), ((v 4), .inl (K 1, 1400, .inl (fun _ => 0))), ((v 5), .inl (K 0, 5, .inl (fun _ => 0))), ((v 6), .inl (K 0, 40, .inl (fun _ => 0))), ((v 7), .inl (K 0, 50, .inl (fun _ => 0))), ((v 8), .inl (K 0, 60, .inl (fun _ => 0))), ((v 9), .inl (K 0, 480, .inl (fun _ => 0))), ((v 10), .inl (K 0, 600, .inl (fun _ => 0))), ((v 11), .inl (K 2, 3, .inl (fun _ => 0)))] H := hP
  have hD : va_D A [(m0, .inr (12, [.int 0, .ref (v 0), .ref (v 1), .ref (v 2), .ref (v 3), .ref (v 4), .int 0, .int 0, .int 0, .int 0, .int 0, .long 0, .int 0, .int 0, .int 0, .int (-1), .ref (v 5), .ref (v 6), .ref (v 7), .ref (v 8), .ref (v 9), .ref (v 10), .ref (v 11), .ref (v 12), .ref (v 13), .ref (v 14), .ref (v 15), .ref (v 16), .ref (v 17), .ref (v 18), .ref (v 19), .ref (v 20), .int 0, .int 0, .int 0, .int 0, .ref (v 21), .ref (v 22), .ref (v 23), .int 0, .int 0, .ref (v 24), .ref (v 25), .int 0, .int 0, .ref (v 26), .ref (v 27), .ref (v 28), .int 0, .int 0, .int 0])), ((v 0), .inl (K 0, 4, .inl fw)), ((v 1), .inl (K 0, 4, .inl (fun _ => 0))), ((v 2), .inl (K 3, 240, .inr (.inl (fun _ => 0)))), ((v 4), .inl (K 1, 1400, .inl (fun _ => 0))), ((v 5), .inl (K 0, 5, .inl (fun _ => 0))), ((v 6), .inl (K 0, 40, .inl (fun _ => 0))), ((v 7), .inl (K 0, 50, .inl (fun _ => 0))), ((v 8), .inl (K 0, 60, .inl (fun _ => 0))), ((v 9), .inl (K 0, 480, .inl (fun _ => 0))), ((v 10), .inl (K 0, 600, .inl (fun _ => 0))), ((v 11), .inl (K 2, 3, .inl (fun _ => 0)))] := hD
  refine lv_aload_n hx hb dL_law_1151 rfl (lv_at hl 1 rfl) ?_
  refine lv_aload_n hx hb dL_law_1152 rfl (lv_at hl 3 rfl) ?_
  refine lv_iload_n hx hb dL_law_1153 rfl (lv_at hl 0 rfl) ?_
  refine lv_iconst (v := 1) hx hb dL_law_1154 (by decide) ?_
  refine lv_iadd hx hb dL_law_1155 ?_
  refine fn_top 1 (by decide) ?_
  refine va_sld hx hb hX hbl hbA hS (by unfold vp_in; decide) dL_law_1156 ?_
  refine fn_top (xs 1) (congrArg xs (by decide)) ?_
  refine fn_goi (wc := [(m0, .inr (12, [.int 0, .ref (v 0), .ref (v 1), .ref (v 2), .ref (v 3), .ref (v 4), .int 0, .int 0, .int 0, .int 0, .int 0, .long 0, .int 0, .int 0, .int 0, .int (-1), .ref (v 5), .ref (v 6), .ref (v 7), .ref (v 8), .ref (v 9), .ref (v 10), .ref (v 11), .ref (v 12), .ref (v 13), .ref (v 14), .ref (v 15), .ref (v 16), .ref (v 17), .ref (v 18), .ref (v 19), .ref (v 20), .int 0, .int 0, .int 0, .int 0, .ref (v 21), .ref (v 22), .ref (v 23), .int 0, .int 0, .ref (v 24), .ref (v 25), .int 0, .int 0, .ref (v 26), .ref (v 27), .ref (v 28), .int 0, .int 0, .int 0])), ((v 5), .inl (K 0, 5, .inl (fun _ => 0))), ((v 6), .inl (K 0, 40, .inl (fun _ => 0)))]) (wr := []) hK hP hD hS hA [0, 5, 6] [] rfl rfl (by decide) (fun hp => va_runV (C := RX12) (As := [.int (xs 1)]) (rest := [.int (-2)]) ⟨hx, hb, hml, hown, hts⟩ (c_X12_loose (l := l) (D := D) (K := K) (m0 := (m0)) (p0 := ((xs 1))) (fm := ([.int 0, .ref (v 0), .ref (v 1), .ref (v 2), .ref (v 3), .ref (v 4), .int 0, .int 0, .int 0, .int 0, .int 0, .long 0, .int 0, .int 0, .int 0, .int (-1), .ref (v 5), .ref (v 6), .ref (v 7), .ref (v 8), .ref (v 9), .ref (v 10), .ref (v 11), .ref (v 12), .ref (v 13), .ref (v 14), .ref (v 15), .ref (v 16), .ref (v 17), .ref (v 18), .ref (v 19), .ref (v 20), .int 0, .int 0, .int 0, .int 0, .ref (v 21), .ref (v 22), .ref (v 23), .int 0, .int 0, .ref (v 24), .ref (v 25), .int 0, .int 0, .ref (v 26), .ref (v 27), .ref (v 28), .int 0, .int 0, .int 0])) (hmn := rfl) (al := ((v 5))) (hm16 := rfl) (ah := ((v 6))) (hm17 := rfl) (fl := (fun _ => 0)) (hfl := (fun _ => rfl)) (fh := (fun _ => 0)) (hfh := (fun _ => rfl)) _) (cwV 1 hts (fn_ginV (fn_gin wd_1759) wd_1756 wd_1757 wd_1758 wd_13) rfl rfl rfl (by decide +kernel) ⟨Nat.le_of_ble_eq_true rfl, Nat.le_of_ble_eq_true rfl⟩) ⟨fn_blind, va_recv hK.1 hP (ci := 12) (q0 := 0) rfl rfl, hp⟩ rfl rfl hl.1 rfl (lv_room (Nat.le_of_ble_eq_true rfl)) dL_law_1157 ⟨Nat.le_of_ble_eq_true rfl, Nat.le_of_ble_eq_true rfl⟩) (fun r4 u3 H locs hwu3 hP hD hS => ?_)
  have r4_e : r4 = (-2) := hwu3
  subst r4_e
  have hP : va_P D vwCl [] H := hP
  have hD : va_D A [] := hD
  refine lv_icmp_eq (tgt := 1996) hx hb dL_law_1160 (by decide) (fun _ => ?_) (fun h9 => absurd (by decide) h9)
  refine lv_iinc (v := 6) (lv' := [(3, .int 6), (2, .ref m0), (1, .ref x0), (0, .ref b)]) hx hb dL_law_1996 hl (k := 0) rfl (by decide) (by decide) rfl (fun ls hl => ?_)
  refine lv_goto (tgt := 18) hx hb dL_law_1999 (by decide) ?_
  refine lv_iload_n hx hb dL_law_18 rfl (lv_at hl 0 rfl) ?_
  refine lv_aload_n hx hb dL_law_19 rfl (lv_at hl 3 rfl) ?_
  refine fn_at 20 rfl ?_
  refine va_slen hx hb hX hbl hbA hS dL_law_20 ?_
  refine fn_top 6 (by decide) ?_
  refine lv_bipush (v := 6) hx hb dL_law_21 (by decide) ?_
  refine lv_isub hx hb dL_law_23 ?_
  refine fn_top 0 (by decide) ?_
  refine lv_icmp_gt (tgt := 2002) hx hb dL_law_24 (by decide) (fun _ => ?_) (fun h9 => absurd (by decide) h9)
  refine lv_iconst (v := 1) hx hb dL_law_2002 (by decide) ?_
  refine va_forget (fun q hq => by have h9 := hS.2.2 q hq; rw [← hAe] at h9; exact h9) ?_
  refine W.widen (k := 600000) (n := 7302250) (Nat.le_of_ble_eq_true rfl) (Nat.le_of_ble_eq_true rfl) ?_
  exact lw_ret hx hb hr hlocks dL_law_2003
theorem dL_law_1165 : decode cL_law 1165 = .ok (.aload_n 1, 1) := by decide +kernel
theorem dL_law_1166 : decode cL_law 1166 = .ok (.aload_n 0, 1) := by decide +kernel
theorem dL_law_1167 : decode cL_law 1167 = .ok (.iload_n 3, 1) := by decide +kernel
theorem dL_law_1168 : decode cL_law 1168 = .ok (.iconst 1, 1) := by decide +kernel
theorem dL_law_1169 : decode cL_law 1169 = .ok (.iadd, 1) := by decide +kernel
theorem dL_law_1170 : decode cL_law 1170 = .ok (.iaload, 1) := by decide +kernel
theorem dL_law_1171 : decode cL_law 1171 = .ok (.invokevirtual 165, 3) := by decide +kernel
theorem dL_law_1174 : decode cL_law 1174 = .ok (.aload_n 2, 1) := by decide +kernel
theorem dL_law_1175 : decode cL_law 1175 = .ok (.aload_n 0, 1) := by decide +kernel
theorem dL_law_1176 : decode cL_law 1176 = .ok (.iload_n 3, 1) := by decide +kernel
theorem dL_law_1177 : decode cL_law 1177 = .ok (.iconst 1, 1) := by decide +kernel
theorem dL_law_1178 : decode cL_law 1178 = .ok (.iadd, 1) := by decide +kernel
theorem dL_law_1179 : decode cL_law 1179 = .ok (.iaload, 1) := by decide +kernel
theorem dL_law_1180 : decode cL_law 1180 = .ok (.invokevirtual 168, 3) := by decide +kernel
theorem dL_law_1183 : decode cL_law 1183 = .ok (.if_icmp .eq 813, 3) := by decide +kernel
set_option maxHeartbeats 4000000 in
set_option maxRecDepth 100000 in
theorem law_37 {p : Program} {l : Launch} {e : Env} {s : State} {m : MethodId} {below : List Frame} {meth : Method} {c : Code} {b : Nat} {xs : Nat → Int32} (hx : p.tables.exec = Jvm.exec) (hb : c.code = cL_law) (hr : meth.sig.returnType = ret) (hml : c.maxLocals = 4) (hown : s.vm.findClass RL = some m.cls) (hts : ∀ w ∈ fn_big, w.before #[Value.ref b] s = true) (hX : va_X b 6 xs s s.heap) (hbl : b < s.heap.size) (hlocks : meth.locks = false) {D : va_G} {K : Nat → ClassId} (hK : fn_KK D K s) {x0 m0 : Nat} {u v : Nat → Nat} {fw : Nat → Int32} (hfw : ∀ j, j < 4 → fw j = -1) {A : Nat → Prop} (hAe : (fun q : Nat => s.heap.size ≤ q) = A) : ∀ (H : Heap) (locs : List Loc) (ls : Array Slot), va_P D vwCl (fn_world K x0 m0 u v fw) H → va_D A (fn_world K x0 m0 u v fw) → va_S A s.heap H locs → lv_has ls 4 [(3, .int 0), (2, .ref m0), (1, .ref x0), (0, .ref b)] → W p l e room_1 s m #[Value.ref b] below meth c H locs 144 12710 (lw_Z below #[Value.ref b] s) (F0 m 1165 ls []) := by
  intro H locs ls hP hD hS hl
  have hA : ∀ q : Nat, s.heap.size ≤ q → A q := fun q h => by rw [← hAe]; exact h
  have hbA : ¬ A b := by rw [← hAe]; exact Nat.not_le.mpr hbl
  refine lv_aload_n hx hb dL_law_1165 rfl (lv_at hl 2 rfl) ?_
  refine lv_aload_n hx hb dL_law_1166 rfl (lv_at hl 3 rfl) ?_
  refine lv_iload_n hx hb dL_law_1167 rfl (lv_at hl 0 rfl) ?_
  refine lv_iconst (v := 1) hx hb dL_law_1168 (by decide) ?_
  refine lv_iadd hx hb dL_law_1169 ?_
  refine fn_top 1 (by decide) ?_
  refine va_sld hx hb hX hbl hbA hS (by unfold vp_in; decide) dL_law_1170 ?_
  refine fn_top (xs 1) (congrArg xs (by decide)) ?_
  refine fn_goi (wc := [(x0, .inr (11, [.ref (u 0), .ref (u 10), .ref (u 17), .ref (u 25), .ref (u 26), .ref (u 27), .ref (u 28), .ref (u 29), .ref (u 34), .ref (u 39), .ref (u 43), .ref (u 51), .ref (u 55)])), ((u 10), .inr (7, [.int 0, .int 0, .int 0, .int 0, .int 0, .int 0, .int 0, .int 0, .int 0, .ref (u 11), .ref (u 12), .ref (u 13), .ref (u 14), .ref (u 15), .ref (u 16)]))]) (wr := [(m0, .inr (12, [.int 0, .ref (v 0), .ref (v 1), .ref (v 2), .ref (v 3), .ref (v 4), .int 0, .int 0, .int 0, .int 0, .int 0, .long 0, .int 0, .int 0, .int 0, .int (-1), .ref (v 5), .ref (v 6), .ref (v 7), .ref (v 8), .ref (v 9), .ref (v 10), .ref (v 11), .ref (v 12), .ref (v 13), .ref (v 14), .ref (v 15), .ref (v 16), .ref (v 17), .ref (v 18), .ref (v 19), .ref (v 20), .int 0, .int 0, .int 0, .int 0, .ref (v 21), .ref (v 22), .ref (v 23), .int 0, .int 0, .ref (v 24), .ref (v 25), .int 0, .int 0, .ref (v 26), .ref (v 27), .ref (v 28), .int 0, .int 0, .int 0])), ((v 0), .inl (K 0, 4, .inl fw)), ((v 1), .inl (K 0, 4, .inl (fun _ => 0))), ((v 2), .inl (K 3, 240, .inr (.inl (fun _ => 0)))), ((v 4), .inl (K 1, 1400, .inl (fun _ => 0))), ((v 5), .inl (K 0, 5, .inl (fun _ => 0))), ((v 6), .inl (K 0, 40, .inl (fun _ => 0))), ((v 7), .inl (K 0, 50, .inl (fun _ => 0))), ((v 8), .inl (K 0, 60, .inl (fun _ => 0))), ((v 9), .inl (K 0, 480, .inl (fun _ => 0))), ((v 10), .inl (K 0, 600, .inl (fun _ => 0))), ((v 11), .inl (K 2, 3, .inl (fun _ => 0)))]) hK hP hD hS hA [0, 11] [88, 89, 90, 91, 92, 93, 94, 95, 96, 97, 98, 99] rfl rfl (by decide) (fun hp => va_runV (C := RX11) (As := [.int (xs 1)]) (rest := []) ⟨hx, hb, hml, hown, hts⟩ (c_X11_loosely (l := l) (D := D) (K := K) (x0 := (x0)) (p0 := ((xs 1))) (fx := ([.ref (u 0), .ref (u 10), .ref (u 17), .ref (u 25), .ref (u 26), .ref (u 27), .ref (u 28), .ref (u 29), .ref (u 34), .ref (u 39), .ref (u 43), .ref (u 51), .ref (u 55)])) (t0 := ((u 10))) (hx1 := rfl) (ft := ([.int 0, .int 0, .int 0, .int 0, .int 0, .int 0, .int 0, .int 0, .int 0, .ref (u 11), .ref (u 12), .ref (u 13), .ref (u 14), .ref (u 15), .ref (u 16)])) (ht0 := rfl) (ht3 := rfl) (ht4 := rfl) (ht5 := rfl) _) (cwV 1 hts (fn_ginV (fn_gin wd_917) wd_914 wd_915 wd_916 wd_1) rfl rfl rfl (by decide +kernel) ⟨Nat.le_of_ble_eq_true rfl, Nat.le_of_ble_eq_true rfl⟩) ⟨fn_blind, va_recv hK.1 hP (ci := 11) (q0 := 0) rfl rfl, hp⟩ rfl rfl hl.1 rfl (lv_room (Nat.le_of_ble_eq_true rfl)) dL_law_1171 ⟨Nat.le_of_ble_eq_true rfl, Nat.le_of_ble_eq_true rfl⟩) (fun r2 u1 H locs hwu1 hP hD hS => ?_)
  have r2_e : r2 = (-2) := hwu1
  subst r2_e
  have hP : va_P D vwCl [(m0, .inr (12, [.int 0, .ref (v 0), .ref (v 1), .ref (v 2), .ref (v 3), .ref (v 4), .int 0, .int 0, .int 0, .int 0, .int 0, .long 0, .int 0, .int 0, .int 0, .int (-1), .ref (v 5), .ref (v 6), .ref (v 7), .ref (v 8), .ref (v 9), .ref (v 10), .ref (v 11), .ref (v 12), .ref (v 13), .ref (v 14), .ref (v 15), .ref (v 16), .ref (v 17), .ref (v 18), .ref (v 19), .ref (v 20), .int 0, .int 0, .int 0, .int 0, .ref (v 21), .ref (v 22), .ref (v 23), .int 0, .int 0, .ref (v 24), .ref (v 25), .int 0, .int 0, .ref (v 26), .ref (v 27), .ref (v 28), .int 0, .int 0, .int 0])), ((v 0), .inl (K 0, 4, .inl fw)), ((v 1), .inl (K 0, 4, .inl (fun _ => 0))), ((v 2), .inl (K 3, 240, .inr (.inl (fun _ => 0)))), ((v 4), .inl (K 1, 1400, .inl (fun _ => 0))), ((v 5), .inl (K 0, 5, .inl (fun _ => 0))), ((v 6), .inl (K 0, 40, .inl (fun _ => 0))), ((v 7), .inl (K 0, 50, .inl (fun _ => 0))), ((v 8), .inl (K 0, 60, .inl (fun _ => 0))), ((v 9), .inl (K 0, 480, .inl (fun _ => 0))), ((v 10), .inl (K 0, 600, .inl (fun _ => 0))), ((v 11), .inl (K 2, 3, .inl (fun _ => 0)))] H := hP
  have hD : va_D A [(m0, .inr (12, [.int 0, .ref (v 0), .ref (v 1), .ref (v 2), .ref (v 3), .ref (v 4), .int 0, .int 0, .int 0, .int 0, .int 0, .long 0, .int 0, .int 0, .int 0, .int (-1), .ref (v 5), .ref (v 6), .ref (v 7), .ref (v 8), .ref (v 9), .ref (v 10), .ref (v 11), .ref (v 12), .ref (v 13), .ref (v 14), .ref (v 15), .ref (v 16), .ref (v 17), .ref (v 18), .ref (v 19), .ref (v 20), .int 0, .int 0, .int 0, .int 0, .ref (v 21), .ref (v 22), .ref (v 23), .int 0, .int 0, .ref (v 24), .ref (v 25), .int 0, .int 0, .ref (v 26), .ref (v 27), .ref (v 28), .int 0, .int 0, .int 0])), ((v 0), .inl (K 0, 4, .inl fw)), ((v 1), .inl (K 0, 4, .inl (fun _ => 0))), ((v 2), .inl (K 3, 240, .inr (.inl (fun _ => 0)))), ((v 4), .inl (K 1, 1400, .inl (fun _ => 0))), ((v 5), .inl (K 0, 5, .inl (fun _ => 0))), ((v 6), .inl (K 0, 40, .inl (fun _ => 0))), ((v 7), .inl (K 0, 50, .inl (fun _ => 0))), ((v 8), .inl (K 0, 60, .inl (fun _ => 0))), ((v 9), .inl (K 0, 480, .inl (fun _ => 0))), ((v 10), .inl (K 0, 600, .inl (fun _ => 0))), ((v 11), .inl (K 2, 3, .inl (fun _ => 0)))] := hD
  refine lv_aload_n hx hb dL_law_1174 rfl (lv_at hl 1 rfl) ?_
  refine lv_aload_n hx hb dL_law_1175 rfl (lv_at hl 3 rfl) ?_
  refine lv_iload_n hx hb dL_law_1176 rfl (lv_at hl 0 rfl) ?_
  refine lv_iconst (v := 1) hx hb dL_law_1177 (by decide) ?_
  refine lv_iadd hx hb dL_law_1178 ?_
  refine fn_top 1 (by decide) ?_
  refine va_sld hx hb hX hbl hbA hS (by unfold vp_in; decide) dL_law_1179 ?_
  refine fn_top (xs 1) (congrArg xs (by decide)) ?_
  refine fn_goi (wc := [(m0, .inr (12, [.int 0, .ref (v 0), .ref (v 1), .ref (v 2), .ref (v 3), .ref (v 4), .int 0, .int 0, .int 0, .int 0, .int 0, .long 0, .int 0, .int 0, .int 0, .int (-1), .ref (v 5), .ref (v 6), .ref (v 7), .ref (v 8), .ref (v 9), .ref (v 10), .ref (v 11), .ref (v 12), .ref (v 13), .ref (v 14), .ref (v 15), .ref (v 16), .ref (v 17), .ref (v 18), .ref (v 19), .ref (v 20), .int 0, .int 0, .int 0, .int 0, .ref (v 21), .ref (v 22), .ref (v 23), .int 0, .int 0, .ref (v 24), .ref (v 25), .int 0, .int 0, .ref (v 26), .ref (v 27), .ref (v 28), .int 0, .int 0, .int 0])), ((v 5), .inl (K 0, 5, .inl (fun _ => 0))), ((v 6), .inl (K 0, 40, .inl (fun _ => 0)))]) (wr := []) hK hP hD hS hA [0, 5, 6] [] rfl rfl (by decide) (fun hp => va_runV (C := RX12) (As := [.int (xs 1)]) (rest := [.int (-2)]) ⟨hx, hb, hml, hown, hts⟩ (c_X12_loosely (l := l) (D := D) (K := K) (m0 := (m0)) (p0 := ((xs 1))) (fm := ([.int 0, .ref (v 0), .ref (v 1), .ref (v 2), .ref (v 3), .ref (v 4), .int 0, .int 0, .int 0, .int 0, .int 0, .long 0, .int 0, .int 0, .int 0, .int (-1), .ref (v 5), .ref (v 6), .ref (v 7), .ref (v 8), .ref (v 9), .ref (v 10), .ref (v 11), .ref (v 12), .ref (v 13), .ref (v 14), .ref (v 15), .ref (v 16), .ref (v 17), .ref (v 18), .ref (v 19), .ref (v 20), .int 0, .int 0, .int 0, .int 0, .ref (v 21), .ref (v 22), .ref (v 23), .int 0, .int 0, .ref (v 24), .ref (v 25), .int 0, .int 0, .ref (v 26), .ref (v 27), .ref (v 28), .int 0, .int 0, .int 0])) (hmn := rfl) (al := ((v 5))) (hm16 := rfl) (ah := ((v 6))) (hm17 := rfl) (fl := (fun _ => 0)) (hfl := (fun _ => rfl)) (fh := (fun _ => 0)) (hfh := (fun _ => rfl)) _) (cwV 1 hts (fn_ginV (fn_gin wd_1767) wd_1764 wd_1765 wd_1766 wd_13) rfl rfl rfl (by decide +kernel) ⟨Nat.le_of_ble_eq_true rfl, Nat.le_of_ble_eq_true rfl⟩) ⟨fn_blind, va_recv hK.1 hP (ci := 12) (q0 := 0) rfl rfl, hp⟩ rfl rfl hl.1 rfl (lv_room (Nat.le_of_ble_eq_true rfl)) dL_law_1180 ⟨Nat.le_of_ble_eq_true rfl, Nat.le_of_ble_eq_true rfl⟩) (fun r4 u3 H locs hwu3 hP hD hS => ?_)
  have r4_e : r4 = (-2) := hwu3
  subst r4_e
  have hP : va_P D vwCl [] H := hP
  have hD : va_D A [] := hD
  refine lv_icmp_eq (tgt := 1996) hx hb dL_law_1183 (by decide) (fun _ => ?_) (fun h9 => absurd (by decide) h9)
  refine lv_iinc (v := 6) (lv' := [(3, .int 6), (2, .ref m0), (1, .ref x0), (0, .ref b)]) hx hb dL_law_1996 hl (k := 0) rfl (by decide) (by decide) rfl (fun ls hl => ?_)
  refine lv_goto (tgt := 18) hx hb dL_law_1999 (by decide) ?_
  refine lv_iload_n hx hb dL_law_18 rfl (lv_at hl 0 rfl) ?_
  refine lv_aload_n hx hb dL_law_19 rfl (lv_at hl 3 rfl) ?_
  refine fn_at 20 rfl ?_
  refine va_slen hx hb hX hbl hbA hS dL_law_20 ?_
  refine fn_top 6 (by decide) ?_
  refine lv_bipush (v := 6) hx hb dL_law_21 (by decide) ?_
  refine lv_isub hx hb dL_law_23 ?_
  refine fn_top 0 (by decide) ?_
  refine lv_icmp_gt (tgt := 2002) hx hb dL_law_24 (by decide) (fun _ => ?_) (fun h9 => absurd (by decide) h9)
  refine lv_iconst (v := 1) hx hb dL_law_2002 (by decide) ?_
  refine va_forget (fun q hq => by have h9 := hS.2.2 q hq; rw [← hAe] at h9; exact h9) ?_
  refine W.widen (k := 600000) (n := 7302250) (Nat.le_of_ble_eq_true rfl) (Nat.le_of_ble_eq_true rfl) ?_
  exact lw_ret hx hb hr hlocks dL_law_2003
theorem dL_law_1188 : decode cL_law 1188 = .ok (.aload_n 1, 1) := by decide +kernel
theorem dL_law_1189 : decode cL_law 1189 = .ok (.aload_n 0, 1) := by decide +kernel
theorem dL_law_1190 : decode cL_law 1190 = .ok (.iload_n 3, 1) := by decide +kernel
theorem dL_law_1191 : decode cL_law 1191 = .ok (.iconst 1, 1) := by decide +kernel
theorem dL_law_1192 : decode cL_law 1192 = .ok (.iadd, 1) := by decide +kernel
theorem dL_law_1193 : decode cL_law 1193 = .ok (.iaload, 1) := by decide +kernel
theorem dL_law_1194 : decode cL_law 1194 = .ok (.aload_n 0, 1) := by decide +kernel
theorem dL_law_1195 : decode cL_law 1195 = .ok (.iload_n 3, 1) := by decide +kernel
theorem dL_law_1196 : decode cL_law 1196 = .ok (.iconst 2, 1) := by decide +kernel
theorem dL_law_1197 : decode cL_law 1197 = .ok (.iadd, 1) := by decide +kernel
theorem dL_law_1198 : decode cL_law 1198 = .ok (.iaload, 1) := by decide +kernel
theorem dL_law_1199 : decode cL_law 1199 = .ok (.invokevirtual 169, 3) := by decide +kernel
theorem dL_law_1202 : decode cL_law 1202 = .ok (.aload_n 2, 1) := by decide +kernel
theorem dL_law_1203 : decode cL_law 1203 = .ok (.aload_n 0, 1) := by decide +kernel
theorem dL_law_1204 : decode cL_law 1204 = .ok (.iload_n 3, 1) := by decide +kernel
theorem dL_law_1205 : decode cL_law 1205 = .ok (.iconst 1, 1) := by decide +kernel
theorem dL_law_1206 : decode cL_law 1206 = .ok (.iadd, 1) := by decide +kernel
theorem dL_law_1207 : decode cL_law 1207 = .ok (.iaload, 1) := by decide +kernel
theorem dL_law_1208 : decode cL_law 1208 = .ok (.aload_n 0, 1) := by decide +kernel
theorem dL_law_1209 : decode cL_law 1209 = .ok (.iload_n 3, 1) := by decide +kernel
theorem dL_law_1210 : decode cL_law 1210 = .ok (.iconst 2, 1) := by decide +kernel
theorem dL_law_1211 : decode cL_law 1211 = .ok (.iadd, 1) := by decide +kernel
theorem dL_law_1212 : decode cL_law 1212 = .ok (.iaload, 1) := by decide +kernel
theorem dL_law_1213 : decode cL_law 1213 = .ok (.invokevirtual 172, 3) := by decide +kernel
theorem dL_law_1216 : decode cL_law 1216 = .ok (.if_icmp .eq 780, 3) := by decide +kernel
set_option maxHeartbeats 4000000 in
set_option maxRecDepth 100000 in
theorem law_38 {p : Program} {l : Launch} {e : Env} {s : State} {m : MethodId} {below : List Frame} {meth : Method} {c : Code} {b : Nat} {xs : Nat → Int32} (hx : p.tables.exec = Jvm.exec) (hb : c.code = cL_law) (hr : meth.sig.returnType = ret) (hml : c.maxLocals = 4) (hown : s.vm.findClass RL = some m.cls) (hts : ∀ w ∈ fn_big, w.before #[Value.ref b] s = true) (hX : va_X b 6 xs s s.heap) (hbl : b < s.heap.size) (hlocks : meth.locks = false) {D : va_G} {K : Nat → ClassId} (hK : fn_KK D K s) {x0 m0 : Nat} {u v : Nat → Nat} {fw : Nat → Int32} (hfw : ∀ j, j < 4 → fw j = -1) {A : Nat → Prop} (hAe : (fun q : Nat => s.heap.size ≤ q) = A) : ∀ (H : Heap) (locs : List Loc) (ls : Array Slot), va_P D vwCl (fn_world K x0 m0 u v fw) H → va_D A (fn_world K x0 m0 u v fw) → va_S A s.heap H locs → lv_has ls 4 [(3, .int 0), (2, .ref m0), (1, .ref x0), (0, .ref b)] → W p l e room_1 s m #[Value.ref b] below meth c H locs 144 12710 (lw_Z below #[Value.ref b] s) (F0 m 1188 ls []) := by
  intro H locs ls hP hD hS hl
  have hA : ∀ q : Nat, s.heap.size ≤ q → A q := fun q h => by rw [← hAe]; exact h
  have hbA : ¬ A b := by rw [← hAe]; exact Nat.not_le.mpr hbl
  refine lv_aload_n hx hb dL_law_1188 rfl (lv_at hl 2 rfl) ?_
  refine lv_aload_n hx hb dL_law_1189 rfl (lv_at hl 3 rfl) ?_
  refine lv_iload_n hx hb dL_law_1190 rfl (lv_at hl 0 rfl) ?_
  refine lv_iconst (v := 1) hx hb dL_law_1191 (by decide) ?_
  refine lv_iadd hx hb dL_law_1192 ?_
  refine fn_top 1 (by decide) ?_
  refine va_sld hx hb hX hbl hbA hS (by unfold vp_in; decide) dL_law_1193 ?_
  refine fn_top (xs 1) (congrArg xs (by decide)) ?_
  refine lv_aload_n hx hb dL_law_1194 rfl (lv_at hl 3 rfl) ?_
  refine lv_iload_n hx hb dL_law_1195 rfl (lv_at hl 0 rfl) ?_
  refine lv_iconst (v := 2) hx hb dL_law_1196 (by decide) ?_
  refine lv_iadd hx hb dL_law_1197 ?_
  refine fn_top 2 (by decide) ?_
  refine va_sld hx hb hX hbl hbA hS (by unfold vp_in; decide) dL_law_1198 ?_
  refine fn_top (xs 2) (congrArg xs (by decide)) ?_
  refine fn_goi (wc := [(x0, .inr (11, [.ref (u 0), .ref (u 10), .ref (u 17), .ref (u 25), .ref (u 26), .ref (u 27), .ref (u 28), .ref (u 29), .ref (u 34), .ref (u 39), .ref (u 43), .ref (u 51), .ref (u 55)])), ((u 10), .inr (7, [.int 0, .int 0, .int 0, .int 0, .int 0, .int 0, .int 0, .int 0, .int 0, .ref (u 11), .ref (u 12), .ref (u 13), .ref (u 14), .ref (u 15), .ref (u 16)]))]) (wr := [(m0, .inr (12, [.int 0, .ref (v 0), .ref (v 1), .ref (v 2), .ref (v 3), .ref (v 4), .int 0, .int 0, .int 0, .int 0, .int 0, .long 0, .int 0, .int 0, .int 0, .int (-1), .ref (v 5), .ref (v 6), .ref (v 7), .ref (v 8), .ref (v 9), .ref (v 10), .ref (v 11), .ref (v 12), .ref (v 13), .ref (v 14), .ref (v 15), .ref (v 16), .ref (v 17), .ref (v 18), .ref (v 19), .ref (v 20), .int 0, .int 0, .int 0, .int 0, .ref (v 21), .ref (v 22), .ref (v 23), .int 0, .int 0, .ref (v 24), .ref (v 25), .int 0, .int 0, .ref (v 26), .ref (v 27), .ref (v 28), .int 0, .int 0, .int 0])), ((v 0), .inl (K 0, 4, .inl fw)), ((v 1), .inl (K 0, 4, .inl (fun _ => 0))), ((v 2), .inl (K 3, 240, .inr (.inl (fun _ => 0)))), ((v 4), .inl (K 1, 1400, .inl (fun _ => 0))), ((v 5), .inl (K 0, 5, .inl (fun _ => 0))), ((v 6), .inl (K 0, 40, .inl (fun _ => 0))), ((v 7), .inl (K 0, 50, .inl (fun _ => 0))), ((v 8), .inl (K 0, 60, .inl (fun _ => 0))), ((v 9), .inl (K 0, 480, .inl (fun _ => 0))), ((v 10), .inl (K 0, 600, .inl (fun _ => 0))), ((v 11), .inl (K 2, 3, .inl (fun _ => 0)))]) hK hP hD hS hA [0, 11] [88, 89, 90, 91, 92, 93, 94, 95, 96, 97, 98, 99] rfl rfl (by decide) (fun hp => va_runV (C := RX11) (As := [.int (xs 1), .int (xs 2)]) (rest := []) ⟨hx, hb, hml, hown, hts⟩ (c_X11_leaves (l := l) (D := D) (K := K) (x0 := (x0)) (p0 := ((xs 1))) (p1 := ((xs 2))) (fx := ([.ref (u 0), .ref (u 10), .ref (u 17), .ref (u 25), .ref (u 26), .ref (u 27), .ref (u 28), .ref (u 29), .ref (u 34), .ref (u 39), .ref (u 43), .ref (u 51), .ref (u 55)])) (t0 := ((u 10))) (hx1 := rfl) (ft := ([.int 0, .int 0, .int 0, .int 0, .int 0, .int 0, .int 0, .int 0, .int 0, .ref (u 11), .ref (u 12), .ref (u 13), .ref (u 14), .ref (u 15), .ref (u 16)])) (ht0 := rfl) (ht3 := rfl) (ht4 := rfl) (ht5 := rfl) _) (cwV 2 hts (fn_ginV (fn_gin wd_921) wd_918 wd_919 wd_920 wd_1) rfl rfl rfl (by decide +kernel) ⟨Nat.le_of_ble_eq_true rfl, Nat.le_of_ble_eq_true rfl⟩) ⟨fn_blind, va_recv hK.1 hP (ci := 11) (q0 := 0) rfl rfl, hp⟩ rfl rfl hl.1 rfl (lv_room (Nat.le_of_ble_eq_true rfl)) dL_law_1199 ⟨Nat.le_of_ble_eq_true rfl, Nat.le_of_ble_eq_true rfl⟩) (fun r2 u1 H locs hwu1 hP hD hS => ?_)
  have r2_e : r2 = (-2) := hwu1
  subst r2_e
  have hP : va_P D vwCl [(m0, .inr (12, [.int 0, .ref (v 0), .ref (v 1), .ref (v 2), .ref (v 3), .ref (v 4), .int 0, .int 0, .int 0, .int 0, .int 0, .long 0, .int 0, .int 0, .int 0, .int (-1), .ref (v 5), .ref (v 6), .ref (v 7), .ref (v 8), .ref (v 9), .ref (v 10), .ref (v 11), .ref (v 12), .ref (v 13), .ref (v 14), .ref (v 15), .ref (v 16), .ref (v 17), .ref (v 18), .ref (v 19), .ref (v 20), .int 0, .int 0, .int 0, .int 0, .ref (v 21), .ref (v 22), .ref (v 23), .int 0, .int 0, .ref (v 24), .ref (v 25), .int 0, .int 0, .ref (v 26), .ref (v 27), .ref (v 28), .int 0, .int 0, .int 0])), ((v 0), .inl (K 0, 4, .inl fw)), ((v 1), .inl (K 0, 4, .inl (fun _ => 0))), ((v 2), .inl (K 3, 240, .inr (.inl (fun _ => 0)))), ((v 4), .inl (K 1, 1400, .inl (fun _ => 0))), ((v 5), .inl (K 0, 5, .inl (fun _ => 0))), ((v 6), .inl (K 0, 40, .inl (fun _ => 0))), ((v 7), .inl (K 0, 50, .inl (fun _ => 0))), ((v 8), .inl (K 0, 60, .inl (fun _ => 0))), ((v 9), .inl (K 0, 480, .inl (fun _ => 0))), ((v 10), .inl (K 0, 600, .inl (fun _ => 0))), ((v 11), .inl (K 2, 3, .inl (fun _ => 0)))] H := hP
  have hD : va_D A [(m0, .inr (12, [.int 0, .ref (v 0), .ref (v 1), .ref (v 2), .ref (v 3), .ref (v 4), .int 0, .int 0, .int 0, .int 0, .int 0, .long 0, .int 0, .int 0, .int 0, .int (-1), .ref (v 5), .ref (v 6), .ref (v 7), .ref (v 8), .ref (v 9), .ref (v 10), .ref (v 11), .ref (v 12), .ref (v 13), .ref (v 14), .ref (v 15), .ref (v 16), .ref (v 17), .ref (v 18), .ref (v 19), .ref (v 20), .int 0, .int 0, .int 0, .int 0, .ref (v 21), .ref (v 22), .ref (v 23), .int 0, .int 0, .ref (v 24), .ref (v 25), .int 0, .int 0, .ref (v 26), .ref (v 27), .ref (v 28), .int 0, .int 0, .int 0])), ((v 0), .inl (K 0, 4, .inl fw)), ((v 1), .inl (K 0, 4, .inl (fun _ => 0))), ((v 2), .inl (K 3, 240, .inr (.inl (fun _ => 0)))), ((v 4), .inl (K 1, 1400, .inl (fun _ => 0))), ((v 5), .inl (K 0, 5, .inl (fun _ => 0))), ((v 6), .inl (K 0, 40, .inl (fun _ => 0))), ((v 7), .inl (K 0, 50, .inl (fun _ => 0))), ((v 8), .inl (K 0, 60, .inl (fun _ => 0))), ((v 9), .inl (K 0, 480, .inl (fun _ => 0))), ((v 10), .inl (K 0, 600, .inl (fun _ => 0))), ((v 11), .inl (K 2, 3, .inl (fun _ => 0)))] := hD
  refine lv_aload_n hx hb dL_law_1202 rfl (lv_at hl 1 rfl) ?_
  refine lv_aload_n hx hb dL_law_1203 rfl (lv_at hl 3 rfl) ?_
  refine lv_iload_n hx hb dL_law_1204 rfl (lv_at hl 0 rfl) ?_
  refine lv_iconst (v := 1) hx hb dL_law_1205 (by decide) ?_
  refine lv_iadd hx hb dL_law_1206 ?_
  refine fn_top 1 (by decide) ?_
  refine va_sld hx hb hX hbl hbA hS (by unfold vp_in; decide) dL_law_1207 ?_
  refine fn_top (xs 1) (congrArg xs (by decide)) ?_
  refine lv_aload_n hx hb dL_law_1208 rfl (lv_at hl 3 rfl) ?_
  refine fn_at 1209 rfl ?_
  refine lv_iload_n hx hb dL_law_1209 rfl (lv_at hl 0 rfl) ?_
  refine lv_iconst (v := 2) hx hb dL_law_1210 (by decide) ?_
  refine lv_iadd hx hb dL_law_1211 ?_
  refine fn_top 2 (by decide) ?_
  refine va_sld hx hb hX hbl hbA hS (by unfold vp_in; decide) dL_law_1212 ?_
  refine fn_top (xs 2) (congrArg xs (by decide)) ?_
  refine fn_goi (wc := [(m0, .inr (12, [.int 0, .ref (v 0), .ref (v 1), .ref (v 2), .ref (v 3), .ref (v 4), .int 0, .int 0, .int 0, .int 0, .int 0, .long 0, .int 0, .int 0, .int 0, .int (-1), .ref (v 5), .ref (v 6), .ref (v 7), .ref (v 8), .ref (v 9), .ref (v 10), .ref (v 11), .ref (v 12), .ref (v 13), .ref (v 14), .ref (v 15), .ref (v 16), .ref (v 17), .ref (v 18), .ref (v 19), .ref (v 20), .int 0, .int 0, .int 0, .int 0, .ref (v 21), .ref (v 22), .ref (v 23), .int 0, .int 0, .ref (v 24), .ref (v 25), .int 0, .int 0, .ref (v 26), .ref (v 27), .ref (v 28), .int 0, .int 0, .int 0])), ((v 5), .inl (K 0, 5, .inl (fun _ => 0))), ((v 6), .inl (K 0, 40, .inl (fun _ => 0)))]) (wr := []) hK hP hD hS hA [0, 5, 6] [] rfl rfl (by decide) (fun hp => va_runV (C := RX12) (As := [.int (xs 1), .int (xs 2)]) (rest := [.int (-2)]) ⟨hx, hb, hml, hown, hts⟩ (c_X12_leaves (l := l) (D := D) (K := K) (m0 := (m0)) (p0 := ((xs 1))) (p1 := ((xs 2))) (fm := ([.int 0, .ref (v 0), .ref (v 1), .ref (v 2), .ref (v 3), .ref (v 4), .int 0, .int 0, .int 0, .int 0, .int 0, .long 0, .int 0, .int 0, .int 0, .int (-1), .ref (v 5), .ref (v 6), .ref (v 7), .ref (v 8), .ref (v 9), .ref (v 10), .ref (v 11), .ref (v 12), .ref (v 13), .ref (v 14), .ref (v 15), .ref (v 16), .ref (v 17), .ref (v 18), .ref (v 19), .ref (v 20), .int 0, .int 0, .int 0, .int 0, .ref (v 21), .ref (v 22), .ref (v 23), .int 0, .int 0, .ref (v 24), .ref (v 25), .int 0, .int 0, .ref (v 26), .ref (v 27), .ref (v 28), .int 0, .int 0, .int 0])) (hmn := rfl) (al := ((v 5))) (hm16 := rfl) (ah := ((v 6))) (hm17 := rfl) (fl := (fun _ => 0)) (hfl := (fun _ => rfl)) (fh := (fun _ => 0)) (hfh := (fun _ => rfl)) _) (cwV 2 hts (fn_ginV (fn_gin wd_1771) wd_1768 wd_1769 wd_1770 wd_13) rfl rfl rfl (by decide +kernel) ⟨Nat.le_of_ble_eq_true rfl, Nat.le_of_ble_eq_true rfl⟩) ⟨fn_blind, va_recv hK.1 hP (ci := 12) (q0 := 0) rfl rfl, hp⟩ rfl rfl hl.1 rfl (lv_room (Nat.le_of_ble_eq_true rfl)) dL_law_1213 ⟨Nat.le_of_ble_eq_true rfl, Nat.le_of_ble_eq_true rfl⟩) (fun r4 u3 H locs hwu3 hP hD hS => ?_)
  have r4_e : r4 = (-2) := hwu3
  subst r4_e
  have hP : va_P D vwCl [] H := hP
  have hD : va_D A [] := hD
  refine lv_icmp_eq (tgt := 1996) hx hb dL_law_1216 (by decide) (fun _ => ?_) (fun h9 => absurd (by decide) h9)
  refine lv_iinc (v := 6) (lv' := [(3, .int 6), (2, .ref m0), (1, .ref x0), (0, .ref b)]) hx hb dL_law_1996 hl (k := 0) rfl (by decide) (by decide) rfl (fun ls hl => ?_)
  refine lv_goto (tgt := 18) hx hb dL_law_1999 (by decide) ?_
  refine lv_iload_n hx hb dL_law_18 rfl (lv_at hl 0 rfl) ?_
  refine lv_aload_n hx hb dL_law_19 rfl (lv_at hl 3 rfl) ?_
  refine va_slen hx hb hX hbl hbA hS dL_law_20 ?_
  refine fn_top 6 (by decide) ?_
  refine lv_bipush (v := 6) hx hb dL_law_21 (by decide) ?_
  refine lv_isub hx hb dL_law_23 ?_
  refine fn_top 0 (by decide) ?_
  refine lv_icmp_gt (tgt := 2002) hx hb dL_law_24 (by decide) (fun _ => ?_) (fun h9 => absurd (by decide) h9)
  refine lv_iconst (v := 1) hx hb dL_law_2002 (by decide) ?_
  refine va_forget (fun q hq => by have h9 := hS.2.2 q hq; rw [← hAe] at h9; exact h9) ?_
  refine W.widen (k := 600000) (n := 7302250) (Nat.le_of_ble_eq_true rfl) (Nat.le_of_ble_eq_true rfl) ?_
  exact lw_ret hx hb hr hlocks dL_law_2003
theorem dL_law_1221 : decode cL_law 1221 = .ok (.aload_n 1, 1) := by decide +kernel
theorem dL_law_1222 : decode cL_law 1222 = .ok (.aload_n 0, 1) := by decide +kernel
theorem dL_law_1223 : decode cL_law 1223 = .ok (.iload_n 3, 1) := by decide +kernel
theorem dL_law_1224 : decode cL_law 1224 = .ok (.iconst 1, 1) := by decide +kernel
theorem dL_law_1225 : decode cL_law 1225 = .ok (.iadd, 1) := by decide +kernel
theorem dL_law_1226 : decode cL_law 1226 = .ok (.iaload, 1) := by decide +kernel
theorem dL_law_1227 : decode cL_law 1227 = .ok (.aload_n 0, 1) := by decide +kernel
theorem dL_law_1228 : decode cL_law 1228 = .ok (.iload_n 3, 1) := by decide +kernel
theorem dL_law_1229 : decode cL_law 1229 = .ok (.iconst 2, 1) := by decide +kernel
theorem dL_law_1230 : decode cL_law 1230 = .ok (.iadd, 1) := by decide +kernel
theorem dL_law_1231 : decode cL_law 1231 = .ok (.iaload, 1) := by decide +kernel
theorem dL_law_1232 : decode cL_law 1232 = .ok (.invokevirtual 173, 3) := by decide +kernel
theorem dL_law_1235 : decode cL_law 1235 = .ok (.aload_n 2, 1) := by decide +kernel
theorem dL_law_1236 : decode cL_law 1236 = .ok (.aload_n 0, 1) := by decide +kernel
theorem dL_law_1237 : decode cL_law 1237 = .ok (.iload_n 3, 1) := by decide +kernel
theorem dL_law_1238 : decode cL_law 1238 = .ok (.iconst 1, 1) := by decide +kernel
theorem dL_law_1239 : decode cL_law 1239 = .ok (.iadd, 1) := by decide +kernel
theorem dL_law_1240 : decode cL_law 1240 = .ok (.iaload, 1) := by decide +kernel
theorem dL_law_1241 : decode cL_law 1241 = .ok (.aload_n 0, 1) := by decide +kernel
theorem dL_law_1242 : decode cL_law 1242 = .ok (.iload_n 3, 1) := by decide +kernel
theorem dL_law_1243 : decode cL_law 1243 = .ok (.iconst 2, 1) := by decide +kernel
theorem dL_law_1244 : decode cL_law 1244 = .ok (.iadd, 1) := by decide +kernel
theorem dL_law_1245 : decode cL_law 1245 = .ok (.iaload, 1) := by decide +kernel
theorem dL_law_1246 : decode cL_law 1246 = .ok (.invokevirtual 176, 3) := by decide +kernel
theorem dL_law_1249 : decode cL_law 1249 = .ok (.if_icmp .eq 747, 3) := by decide +kernel
set_option maxHeartbeats 4000000 in
set_option maxRecDepth 100000 in
theorem law_39 {p : Program} {l : Launch} {e : Env} {s : State} {m : MethodId} {below : List Frame} {meth : Method} {c : Code} {b : Nat} {xs : Nat → Int32} (hx : p.tables.exec = Jvm.exec) (hb : c.code = cL_law) (hr : meth.sig.returnType = ret) (hml : c.maxLocals = 4) (hown : s.vm.findClass RL = some m.cls) (hts : ∀ w ∈ fn_big, w.before #[Value.ref b] s = true) (hX : va_X b 6 xs s s.heap) (hbl : b < s.heap.size) (hlocks : meth.locks = false) {D : va_G} {K : Nat → ClassId} (hK : fn_KK D K s) {x0 m0 : Nat} {u v : Nat → Nat} {fw : Nat → Int32} (hfw : ∀ j, j < 4 → fw j = -1) {A : Nat → Prop} (hAe : (fun q : Nat => s.heap.size ≤ q) = A) : ∀ (H : Heap) (locs : List Loc) (ls : Array Slot), va_P D vwCl (fn_world K x0 m0 u v fw) H → va_D A (fn_world K x0 m0 u v fw) → va_S A s.heap H locs → lv_has ls 4 [(3, .int 0), (2, .ref m0), (1, .ref x0), (0, .ref b)] → W p l e room_1 s m #[Value.ref b] below meth c H locs 144 12710 (lw_Z below #[Value.ref b] s) (F0 m 1221 ls []) := by
  intro H locs ls hP hD hS hl
  have hA : ∀ q : Nat, s.heap.size ≤ q → A q := fun q h => by rw [← hAe]; exact h
  have hbA : ¬ A b := by rw [← hAe]; exact Nat.not_le.mpr hbl
  refine lv_aload_n hx hb dL_law_1221 rfl (lv_at hl 2 rfl) ?_
  refine lv_aload_n hx hb dL_law_1222 rfl (lv_at hl 3 rfl) ?_
  refine lv_iload_n hx hb dL_law_1223 rfl (lv_at hl 0 rfl) ?_
  refine lv_iconst (v := 1) hx hb dL_law_1224 (by decide) ?_
  refine lv_iadd hx hb dL_law_1225 ?_
  refine fn_top 1 (by decide) ?_
  refine va_sld hx hb hX hbl hbA hS (by unfold vp_in; decide) dL_law_1226 ?_
  refine fn_top (xs 1) (congrArg xs (by decide)) ?_
  refine lv_aload_n hx hb dL_law_1227 rfl (lv_at hl 3 rfl) ?_
  refine lv_iload_n hx hb dL_law_1228 rfl (lv_at hl 0 rfl) ?_
  refine lv_iconst (v := 2) hx hb dL_law_1229 (by decide) ?_
  refine lv_iadd hx hb dL_law_1230 ?_
  refine fn_top 2 (by decide) ?_
  refine va_sld hx hb hX hbl hbA hS (by unfold vp_in; decide) dL_law_1231 ?_
  refine fn_top (xs 2) (congrArg xs (by decide)) ?_
  refine fn_goi (wc := [(x0, .inr (11, [.ref (u 0), .ref (u 10), .ref (u 17), .ref (u 25), .ref (u 26), .ref (u 27), .ref (u 28), .ref (u 29), .ref (u 34), .ref (u 39), .ref (u 43), .ref (u 51), .ref (u 55)])), ((u 10), .inr (7, [.int 0, .int 0, .int 0, .int 0, .int 0, .int 0, .int 0, .int 0, .int 0, .ref (u 11), .ref (u 12), .ref (u 13), .ref (u 14), .ref (u 15), .ref (u 16)]))]) (wr := [(m0, .inr (12, [.int 0, .ref (v 0), .ref (v 1), .ref (v 2), .ref (v 3), .ref (v 4), .int 0, .int 0, .int 0, .int 0, .int 0, .long 0, .int 0, .int 0, .int 0, .int (-1), .ref (v 5), .ref (v 6), .ref (v 7), .ref (v 8), .ref (v 9), .ref (v 10), .ref (v 11), .ref (v 12), .ref (v 13), .ref (v 14), .ref (v 15), .ref (v 16), .ref (v 17), .ref (v 18), .ref (v 19), .ref (v 20), .int 0, .int 0, .int 0, .int 0, .ref (v 21), .ref (v 22), .ref (v 23), .int 0, .int 0, .ref (v 24), .ref (v 25), .int 0, .int 0, .ref (v 26), .ref (v 27), .ref (v 28), .int 0, .int 0, .int 0])), ((v 0), .inl (K 0, 4, .inl fw)), ((v 1), .inl (K 0, 4, .inl (fun _ => 0))), ((v 2), .inl (K 3, 240, .inr (.inl (fun _ => 0)))), ((v 4), .inl (K 1, 1400, .inl (fun _ => 0))), ((v 5), .inl (K 0, 5, .inl (fun _ => 0))), ((v 6), .inl (K 0, 40, .inl (fun _ => 0))), ((v 7), .inl (K 0, 50, .inl (fun _ => 0))), ((v 8), .inl (K 0, 60, .inl (fun _ => 0))), ((v 9), .inl (K 0, 480, .inl (fun _ => 0))), ((v 10), .inl (K 0, 600, .inl (fun _ => 0))), ((v 11), .inl (K 2, 3, .inl (fun _ => 0)))]) hK hP hD hS hA [0, 11] [88, 89, 90, 91, 92, 93, 94, 95, 96, 97, 98, 99] rfl rfl (by decide) (fun hp => va_runV (C := RX11) (As := [.int (xs 1), .int (xs 2)]) (rest := []) ⟨hx, hb, hml, hown, hts⟩ (c_X11_reads (l := l) (D := D) (K := K) (x0 := (x0)) (p0 := ((xs 1))) (p1 := ((xs 2))) (fx := ([.ref (u 0), .ref (u 10), .ref (u 17), .ref (u 25), .ref (u 26), .ref (u 27), .ref (u 28), .ref (u 29), .ref (u 34), .ref (u 39), .ref (u 43), .ref (u 51), .ref (u 55)])) (t0 := ((u 10))) (hx1 := rfl) (ft := ([.int 0, .int 0, .int 0, .int 0, .int 0, .int 0, .int 0, .int 0, .int 0, .ref (u 11), .ref (u 12), .ref (u 13), .ref (u 14), .ref (u 15), .ref (u 16)])) (ht0 := rfl) (ht3 := rfl) (ht4 := rfl) (ht5 := rfl) _) (cwV 2 hts (fn_ginV (fn_gin wd_956) wd_953 wd_954 wd_955 wd_1) rfl rfl rfl (by decide +kernel) ⟨Nat.le_of_ble_eq_true rfl, Nat.le_of_ble_eq_true rfl⟩) ⟨fn_blind, va_recv hK.1 hP (ci := 11) (q0 := 0) rfl rfl, hp⟩ rfl rfl hl.1 rfl (lv_room (Nat.le_of_ble_eq_true rfl)) dL_law_1232 ⟨Nat.le_of_ble_eq_true rfl, Nat.le_of_ble_eq_true rfl⟩) (fun r2 u1 H locs hwu1 hP hD hS => ?_)
  have r2_e : r2 = (-2) := hwu1
  subst r2_e
  have hP : va_P D vwCl [(m0, .inr (12, [.int 0, .ref (v 0), .ref (v 1), .ref (v 2), .ref (v 3), .ref (v 4), .int 0, .int 0, .int 0, .int 0, .int 0, .long 0, .int 0, .int 0, .int 0, .int (-1), .ref (v 5), .ref (v 6), .ref (v 7), .ref (v 8), .ref (v 9), .ref (v 10), .ref (v 11), .ref (v 12), .ref (v 13), .ref (v 14), .ref (v 15), .ref (v 16), .ref (v 17), .ref (v 18), .ref (v 19), .ref (v 20), .int 0, .int 0, .int 0, .int 0, .ref (v 21), .ref (v 22), .ref (v 23), .int 0, .int 0, .ref (v 24), .ref (v 25), .int 0, .int 0, .ref (v 26), .ref (v 27), .ref (v 28), .int 0, .int 0, .int 0])), ((v 0), .inl (K 0, 4, .inl fw)), ((v 1), .inl (K 0, 4, .inl (fun _ => 0))), ((v 2), .inl (K 3, 240, .inr (.inl (fun _ => 0)))), ((v 4), .inl (K 1, 1400, .inl (fun _ => 0))), ((v 5), .inl (K 0, 5, .inl (fun _ => 0))), ((v 6), .inl (K 0, 40, .inl (fun _ => 0))), ((v 7), .inl (K 0, 50, .inl (fun _ => 0))), ((v 8), .inl (K 0, 60, .inl (fun _ => 0))), ((v 9), .inl (K 0, 480, .inl (fun _ => 0))), ((v 10), .inl (K 0, 600, .inl (fun _ => 0))), ((v 11), .inl (K 2, 3, .inl (fun _ => 0)))] H := hP
  have hD : va_D A [(m0, .inr (12, [.int 0, .ref (v 0), .ref (v 1), .ref (v 2), .ref (v 3), .ref (v 4), .int 0, .int 0, .int 0, .int 0, .int 0, .long 0, .int 0, .int 0, .int 0, .int (-1), .ref (v 5), .ref (v 6), .ref (v 7), .ref (v 8), .ref (v 9), .ref (v 10), .ref (v 11), .ref (v 12), .ref (v 13), .ref (v 14), .ref (v 15), .ref (v 16), .ref (v 17), .ref (v 18), .ref (v 19), .ref (v 20), .int 0, .int 0, .int 0, .int 0, .ref (v 21), .ref (v 22), .ref (v 23), .int 0, .int 0, .ref (v 24), .ref (v 25), .int 0, .int 0, .ref (v 26), .ref (v 27), .ref (v 28), .int 0, .int 0, .int 0])), ((v 0), .inl (K 0, 4, .inl fw)), ((v 1), .inl (K 0, 4, .inl (fun _ => 0))), ((v 2), .inl (K 3, 240, .inr (.inl (fun _ => 0)))), ((v 4), .inl (K 1, 1400, .inl (fun _ => 0))), ((v 5), .inl (K 0, 5, .inl (fun _ => 0))), ((v 6), .inl (K 0, 40, .inl (fun _ => 0))), ((v 7), .inl (K 0, 50, .inl (fun _ => 0))), ((v 8), .inl (K 0, 60, .inl (fun _ => 0))), ((v 9), .inl (K 0, 480, .inl (fun _ => 0))), ((v 10), .inl (K 0, 600, .inl (fun _ => 0))), ((v 11), .inl (K 2, 3, .inl (fun _ => 0)))] := hD
  refine lv_aload_n hx hb dL_law_1235 rfl (lv_at hl 1 rfl) ?_
  refine lv_aload_n hx hb dL_law_1236 rfl (lv_at hl 3 rfl) ?_
  refine lv_iload_n hx hb dL_law_1237 rfl (lv_at hl 0 rfl) ?_
  refine lv_iconst (v := 1) hx hb dL_law_1238 (by decide) ?_
  refine lv_iadd hx hb dL_law_1239 ?_
  refine fn_top 1 (by decide) ?_
  refine va_sld hx hb hX hbl hbA hS (by unfold vp_in; decide) dL_law_1240 ?_
  refine fn_top (xs 1) (congrArg xs (by decide)) ?_
  refine lv_aload_n hx hb dL_law_1241 rfl (lv_at hl 3 rfl) ?_
  refine fn_at 1242 rfl ?_
  refine lv_iload_n hx hb dL_law_1242 rfl (lv_at hl 0 rfl) ?_
  refine lv_iconst (v := 2) hx hb dL_law_1243 (by decide) ?_
  refine lv_iadd hx hb dL_law_1244 ?_
  refine fn_top 2 (by decide) ?_
  refine va_sld hx hb hX hbl hbA hS (by unfold vp_in; decide) dL_law_1245 ?_
  refine fn_top (xs 2) (congrArg xs (by decide)) ?_
  refine fn_goi (wc := [(m0, .inr (12, [.int 0, .ref (v 0), .ref (v 1), .ref (v 2), .ref (v 3), .ref (v 4), .int 0, .int 0, .int 0, .int 0, .int 0, .long 0, .int 0, .int 0, .int 0, .int (-1), .ref (v 5), .ref (v 6), .ref (v 7), .ref (v 8), .ref (v 9), .ref (v 10), .ref (v 11), .ref (v 12), .ref (v 13), .ref (v 14), .ref (v 15), .ref (v 16), .ref (v 17), .ref (v 18), .ref (v 19), .ref (v 20), .int 0, .int 0, .int 0, .int 0, .ref (v 21), .ref (v 22), .ref (v 23), .int 0, .int 0, .ref (v 24), .ref (v 25), .int 0, .int 0, .ref (v 26), .ref (v 27), .ref (v 28), .int 0, .int 0, .int 0])), ((v 5), .inl (K 0, 5, .inl (fun _ => 0))), ((v 6), .inl (K 0, 40, .inl (fun _ => 0)))]) (wr := []) hK hP hD hS hA [0, 5, 6] [] rfl rfl (by decide) (fun hp => va_runV (C := RX12) (As := [.int (xs 1), .int (xs 2)]) (rest := [.int (-2)]) ⟨hx, hb, hml, hown, hts⟩ (c_X12_reads (l := l) (D := D) (K := K) (m0 := (m0)) (p0 := ((xs 1))) (p1 := ((xs 2))) (fm := ([.int 0, .ref (v 0), .ref (v 1), .ref (v 2), .ref (v 3), .ref (v 4), .int 0, .int 0, .int 0, .int 0, .int 0, .long 0, .int 0, .int 0, .int 0, .int (-1), .ref (v 5), .ref (v 6), .ref (v 7), .ref (v 8), .ref (v 9), .ref (v 10), .ref (v 11), .ref (v 12), .ref (v 13), .ref (v 14), .ref (v 15), .ref (v 16), .ref (v 17), .ref (v 18), .ref (v 19), .ref (v 20), .int 0, .int 0, .int 0, .int 0, .ref (v 21), .ref (v 22), .ref (v 23), .int 0, .int 0, .ref (v 24), .ref (v 25), .int 0, .int 0, .ref (v 26), .ref (v 27), .ref (v 28), .int 0, .int 0, .int 0])) (hmn := rfl) (al := ((v 5))) (hm16 := rfl) (ah := ((v 6))) (hm17 := rfl) (fl := (fun _ => 0)) (hfl := (fun _ => rfl)) (fh := (fun _ => 0)) (hfh := (fun _ => rfl)) _) (cwV 2 hts (fn_ginV (fn_gin wd_1791) wd_1788 wd_1789 wd_1790 wd_13) rfl rfl rfl (by decide +kernel) ⟨Nat.le_of_ble_eq_true rfl, Nat.le_of_ble_eq_true rfl⟩) ⟨fn_blind, va_recv hK.1 hP (ci := 12) (q0 := 0) rfl rfl, hp⟩ rfl rfl hl.1 rfl (lv_room (Nat.le_of_ble_eq_true rfl)) dL_law_1246 ⟨Nat.le_of_ble_eq_true rfl, Nat.le_of_ble_eq_true rfl⟩) (fun r4 u3 H locs hwu3 hP hD hS => ?_)
  have r4_e : r4 = (-2) := hwu3
  subst r4_e
  have hP : va_P D vwCl [] H := hP
  have hD : va_D A [] := hD
  refine lv_icmp_eq (tgt := 1996) hx hb dL_law_1249 (by decide) (fun _ => ?_) (fun h9 => absurd (by decide) h9)
  refine lv_iinc (v := 6) (lv' := [(3, .int 6), (2, .ref m0), (1, .ref x0), (0, .ref b)]) hx hb dL_law_1996 hl (k := 0) rfl (by decide) (by decide) rfl (fun ls hl => ?_)
  refine lv_goto (tgt := 18) hx hb dL_law_1999 (by decide) ?_
  refine lv_iload_n hx hb dL_law_18 rfl (lv_at hl 0 rfl) ?_
  refine lv_aload_n hx hb dL_law_19 rfl (lv_at hl 3 rfl) ?_
  refine va_slen hx hb hX hbl hbA hS dL_law_20 ?_
  refine fn_top 6 (by decide) ?_
  refine lv_bipush (v := 6) hx hb dL_law_21 (by decide) ?_
  refine lv_isub hx hb dL_law_23 ?_
  refine fn_top 0 (by decide) ?_
  refine lv_icmp_gt (tgt := 2002) hx hb dL_law_24 (by decide) (fun _ => ?_) (fun h9 => absurd (by decide) h9)
  refine lv_iconst (v := 1) hx hb dL_law_2002 (by decide) ?_
  refine va_forget (fun q hq => by have h9 := hS.2.2 q hq; rw [← hAe] at h9; exact h9) ?_
  refine W.widen (k := 600000) (n := 7302250) (Nat.le_of_ble_eq_true rfl) (Nat.le_of_ble_eq_true rfl) ?_
  exact lw_ret hx hb hr hlocks dL_law_2003
theorem dL_law_1254 : decode cL_law 1254 = .ok (.aload_n 1, 1) := by decide +kernel
theorem dL_law_1255 : decode cL_law 1255 = .ok (.aload_n 0, 1) := by decide +kernel
theorem dL_law_1256 : decode cL_law 1256 = .ok (.iload_n 3, 1) := by decide +kernel
theorem dL_law_1257 : decode cL_law 1257 = .ok (.iconst 1, 1) := by decide +kernel
theorem dL_law_1258 : decode cL_law 1258 = .ok (.iadd, 1) := by decide +kernel
theorem dL_law_1259 : decode cL_law 1259 = .ok (.iaload, 1) := by decide +kernel
theorem dL_law_1260 : decode cL_law 1260 = .ok (.aload_n 0, 1) := by decide +kernel
theorem dL_law_1261 : decode cL_law 1261 = .ok (.iload_n 3, 1) := by decide +kernel
theorem dL_law_1262 : decode cL_law 1262 = .ok (.iconst 2, 1) := by decide +kernel
theorem dL_law_1263 : decode cL_law 1263 = .ok (.iadd, 1) := by decide +kernel
theorem dL_law_1264 : decode cL_law 1264 = .ok (.iaload, 1) := by decide +kernel
theorem dL_law_1265 : decode cL_law 1265 = .ok (.aload_n 0, 1) := by decide +kernel
theorem dL_law_1266 : decode cL_law 1266 = .ok (.iload_n 3, 1) := by decide +kernel
theorem dL_law_1267 : decode cL_law 1267 = .ok (.iconst 3, 1) := by decide +kernel
theorem dL_law_1268 : decode cL_law 1268 = .ok (.iadd, 1) := by decide +kernel
theorem dL_law_1269 : decode cL_law 1269 = .ok (.iaload, 1) := by decide +kernel
theorem dL_law_1270 : decode cL_law 1270 = .ok (.invokevirtual 177, 3) := by decide +kernel
theorem dL_law_1273 : decode cL_law 1273 = .ok (.aload_n 2, 1) := by decide +kernel
theorem dL_law_1274 : decode cL_law 1274 = .ok (.aload_n 0, 1) := by decide +kernel
theorem dL_law_1275 : decode cL_law 1275 = .ok (.iload_n 3, 1) := by decide +kernel
theorem dL_law_1276 : decode cL_law 1276 = .ok (.iconst 1, 1) := by decide +kernel
theorem dL_law_1277 : decode cL_law 1277 = .ok (.iadd, 1) := by decide +kernel
theorem dL_law_1278 : decode cL_law 1278 = .ok (.iaload, 1) := by decide +kernel
theorem dL_law_1279 : decode cL_law 1279 = .ok (.aload_n 0, 1) := by decide +kernel
theorem dL_law_1280 : decode cL_law 1280 = .ok (.iload_n 3, 1) := by decide +kernel
theorem dL_law_1281 : decode cL_law 1281 = .ok (.iconst 2, 1) := by decide +kernel
theorem dL_law_1282 : decode cL_law 1282 = .ok (.iadd, 1) := by decide +kernel
theorem dL_law_1283 : decode cL_law 1283 = .ok (.iaload, 1) := by decide +kernel
theorem dL_law_1284 : decode cL_law 1284 = .ok (.aload_n 0, 1) := by decide +kernel
theorem dL_law_1285 : decode cL_law 1285 = .ok (.iload_n 3, 1) := by decide +kernel
theorem dL_law_1286 : decode cL_law 1286 = .ok (.iconst 3, 1) := by decide +kernel
theorem dL_law_1287 : decode cL_law 1287 = .ok (.iadd, 1) := by decide +kernel
theorem dL_law_1288 : decode cL_law 1288 = .ok (.iaload, 1) := by decide +kernel
theorem dL_law_1289 : decode cL_law 1289 = .ok (.invokevirtual 181, 3) := by decide +kernel
theorem dL_law_1292 : decode cL_law 1292 = .ok (.if_icmp .eq 704, 3) := by decide +kernel
set_option maxHeartbeats 4000000 in
set_option maxRecDepth 100000 in
theorem law_40 {p : Program} {l : Launch} {e : Env} {s : State} {m : MethodId} {below : List Frame} {meth : Method} {c : Code} {b : Nat} {xs : Nat → Int32} (hx : p.tables.exec = Jvm.exec) (hb : c.code = cL_law) (hr : meth.sig.returnType = ret) (hml : c.maxLocals = 4) (hown : s.vm.findClass RL = some m.cls) (hts : ∀ w ∈ fn_big, w.before #[Value.ref b] s = true) (hX : va_X b 6 xs s s.heap) (hbl : b < s.heap.size) (hlocks : meth.locks = false) {D : va_G} {K : Nat → ClassId} (hK : fn_KK D K s) {x0 m0 : Nat} {u v : Nat → Nat} {fw : Nat → Int32} (hfw : ∀ j, j < 4 → fw j = -1) {A : Nat → Prop} (hAe : (fun q : Nat => s.heap.size ≤ q) = A) : ∀ (H : Heap) (locs : List Loc) (ls : Array Slot), va_P D vwCl (fn_world K x0 m0 u v fw) H → va_D A (fn_world K x0 m0 u v fw) → va_S A s.heap H locs → lv_has ls 4 [(3, .int 0), (2, .ref m0), (1, .ref x0), (0, .ref b)] → W p l e room_1 s m #[Value.ref b] below meth c H locs 144 12710 (lw_Z below #[Value.ref b] s) (F0 m 1254 ls []) := by
  intro H locs ls hP hD hS hl
  have hA : ∀ q : Nat, s.heap.size ≤ q → A q := fun q h => by rw [← hAe]; exact h
  have hbA : ¬ A b := by rw [← hAe]; exact Nat.not_le.mpr hbl
  refine lv_aload_n hx hb dL_law_1254 rfl (lv_at hl 2 rfl) ?_
  refine lv_aload_n hx hb dL_law_1255 rfl (lv_at hl 3 rfl) ?_
  refine lv_iload_n hx hb dL_law_1256 rfl (lv_at hl 0 rfl) ?_
  refine lv_iconst (v := 1) hx hb dL_law_1257 (by decide) ?_
  refine lv_iadd hx hb dL_law_1258 ?_
  refine fn_top 1 (by decide) ?_
  refine va_sld hx hb hX hbl hbA hS (by unfold vp_in; decide) dL_law_1259 ?_
  refine fn_top (xs 1) (congrArg xs (by decide)) ?_
  refine lv_aload_n hx hb dL_law_1260 rfl (lv_at hl 3 rfl) ?_
  refine lv_iload_n hx hb dL_law_1261 rfl (lv_at hl 0 rfl) ?_
  refine lv_iconst (v := 2) hx hb dL_law_1262 (by decide) ?_
  refine lv_iadd hx hb dL_law_1263 ?_
  refine fn_top 2 (by decide) ?_
  refine va_sld hx hb hX hbl hbA hS (by unfold vp_in; decide) dL_law_1264 ?_
  refine fn_top (xs 2) (congrArg xs (by decide)) ?_
  refine lv_aload_n hx hb dL_law_1265 rfl (lv_at hl 3 rfl) ?_
  refine lv_iload_n hx hb dL_law_1266 rfl (lv_at hl 0 rfl) ?_
  refine lv_iconst (v := 3) hx hb dL_law_1267 (by decide) ?_
  refine lv_iadd hx hb dL_law_1268 ?_
  refine fn_top 3 (by decide) ?_
  refine va_sld hx hb hX hbl hbA hS (by unfold vp_in; decide) dL_law_1269 ?_
  refine fn_top (xs 3) (congrArg xs (by decide)) ?_
  refine fn_goi (wc := [(x0, .inr (11, [.ref (u 0), .ref (u 10), .ref (u 17), .ref (u 25), .ref (u 26), .ref (u 27), .ref (u 28), .ref (u 29), .ref (u 34), .ref (u 39), .ref (u 43), .ref (u 51), .ref (u 55)])), ((u 10), .inr (7, [.int 0, .int 0, .int 0, .int 0, .int 0, .int 0, .int 0, .int 0, .int 0, .ref (u 11), .ref (u 12), .ref (u 13), .ref (u 14), .ref (u 15), .ref (u 16)]))]) (wr := [(m0, .inr (12, [.int 0, .ref (v 0), .ref (v 1), .ref (v 2), .ref (v 3), .ref (v 4), .int 0, .int 0, .int 0, .int 0, .int 0, .long 0, .int 0, .int 0, .int 0, .int (-1), .ref (v 5), .ref (v 6), .ref (v 7), .ref (v 8), .ref (v 9), .ref (v 10), .ref (v 11), .ref (v 12), .ref (v 13), .ref (v 14), .ref (v 15), .ref (v 16), .ref (v 17), .ref (v 18), .ref (v 19), .ref (v 20), .int 0, .int 0, .int 0, .int 0, .ref (v 21), .ref (v 22), .ref (v 23), .int 0, .int 0, .ref (v 24), .ref (v 25), .int 0, .int 0, .ref (v 26), .ref (v 27), .ref (v 28), .int 0, .int 0, .int 0])), ((v 0), .inl (K 0, 4, .inl fw)), ((v 1), .inl (K 0, 4, .inl (fun _ => 0))), ((v 2), .inl (K 3, 240, .inr (.inl (fun _ => 0)))), ((v 4), .inl (K 1, 1400, .inl (fun _ => 0))), ((v 5), .inl (K 0, 5, .inl (fun _ => 0))), ((v 6), .inl (K 0, 40, .inl (fun _ => 0))), ((v 7), .inl (K 0, 50, .inl (fun _ => 0))), ((v 8), .inl (K 0, 60, .inl (fun _ => 0))), ((v 9), .inl (K 0, 480, .inl (fun _ => 0))), ((v 10), .inl (K 0, 600, .inl (fun _ => 0))), ((v 11), .inl (K 2, 3, .inl (fun _ => 0)))]) hK hP hD hS hA [0, 11] [88, 89, 90, 91, 92, 93, 94, 95, 96, 97, 98, 99] rfl rfl (by decide) (fun hp => va_runV (C := RX11) (As := [.int (xs 1), .int (xs 2), .int (xs 3)]) (rest := []) ⟨hx, hb, hml, hown, hts⟩ (c_X11_order (l := l) (D := D) (K := K) (x0 := (x0)) (p0 := ((xs 1))) (p1 := ((xs 2))) (p2 := ((xs 3))) (fx := ([.ref (u 0), .ref (u 10), .ref (u 17), .ref (u 25), .ref (u 26), .ref (u 27), .ref (u 28), .ref (u 29), .ref (u 34), .ref (u 39), .ref (u 43), .ref (u 51), .ref (u 55)])) (t0 := ((u 10))) (hx1 := rfl) (ft := ([.int 0, .int 0, .int 0, .int 0, .int 0, .int 0, .int 0, .int 0, .int 0, .ref (u 11), .ref (u 12), .ref (u 13), .ref (u 14), .ref (u 15), .ref (u 16)])) (ht0 := rfl) (ht3 := rfl) (ht4 := rfl) (ht5 := rfl) _) (cwV 3 hts (fn_ginV (fn_gin wd_1001) wd_998 wd_999 wd_1000 wd_1) rfl rfl rfl (by decide +kernel) ⟨Nat.le_of_ble_eq_true rfl, Nat.le_of_ble_eq_true rfl⟩) ⟨fn_blind, va_recv hK.1 hP (ci := 11) (q0 := 0) rfl rfl, hp⟩ rfl rfl hl.1 rfl (lv_room (Nat.le_of_ble_eq_true rfl)) dL_law_1270 ⟨Nat.le_of_ble_eq_true rfl, Nat.le_of_ble_eq_true rfl⟩) (fun r2 u1 H locs hwu1 hP hD hS => ?_)
  have r2_e : r2 = (-2) := hwu1
  subst r2_e
  have hP : va_P D vwCl [(m0, .inr (12, [.int 0, .ref (v 0), .ref (v 1), .ref (v 2), .ref (v 3), .ref (v 4), .int 0, .int 0, .int 0, .int 0, .int 0, .long 0, .int 0, .int 0, .int 0, .int (-1), .ref (v 5), .ref (v 6), .ref (v 7), .ref (v 8), .ref (v 9), .ref (v 10), .ref (v 11), .ref (v 12), .ref (v 13), .ref (v 14), .ref (v 15), .ref (v 16), .ref (v 17), .ref (v 18), .ref (v 19), .ref (v 20), .int 0, .int 0, .int 0, .int 0, .ref (v 21), .ref (v 22), .ref (v 23), .int 0, .int 0, .ref (v 24), .ref (v 25), .int 0, .int 0, .ref (v 26), .ref (v 27), .ref (v 28), .int 0, .int 0, .int 0])), ((v 0), .inl (K 0, 4, .inl fw)), ((v 1), .inl (K 0, 4, .inl (fun _ => 0))), ((v 2), .inl (K 3, 240, .inr (.inl (fun _ => 0)))), ((v 4), .inl (K 1, 1400, .inl (fun _ => 0))), ((v 5), .inl (K 0, 5, .inl (fun _ => 0))), ((v 6), .inl (K 0, 40, .inl (fun _ => 0))), ((v 7), .inl (K 0, 50, .inl (fun _ => 0))), ((v 8), .inl (K 0, 60, .inl (fun _ => 0))), ((v 9), .inl (K 0, 480, .inl (fun _ => 0))), ((v 10), .inl (K 0, 600, .inl (fun _ => 0))), ((v 11), .inl (K 2, 3, .inl (fun _ => 0)))] H := hP
  have hD : va_D A [(m0, .inr (12, [.int 0, .ref (v 0), .ref (v 1), .ref (v 2), .ref (v 3), .ref (v 4), .int 0, .int 0, .int 0, .int 0, .int 0, .long 0, .int 0, .int 0, .int 0, .int (-1), .ref (v 5), .ref (v 6), .ref (v 7), .ref (v 8), .ref (v 9), .ref (v 10), .ref (v 11), .ref (v 12), .ref (v 13), .ref (v 14), .ref (v 15), .ref (v 16), .ref (v 17), .ref (v 18), .ref (v 19), .ref (v 20), .int 0, .int 0, .int 0, .int 0, .ref (v 21), .ref (v 22), .ref (v 23), .int 0, .int 0, .ref (v 24), .ref (v 25), .int 0, .int 0, .ref (v 26), .ref (v 27), .ref (v 28), .int 0, .int 0, .int 0])), ((v 0), .inl (K 0, 4, .inl fw)), ((v 1), .inl (K 0, 4, .inl (fun _ => 0))), ((v 2), .inl (K 3, 240, .inr (.inl (fun _ => 0)))), ((v 4), .inl (K 1, 1400, .inl (fun _ => 0))), ((v 5), .inl (K 0, 5, .inl (fun _ => 0))), ((v 6), .inl (K 0, 40, .inl (fun _ => 0))), ((v 7), .inl (K 0, 50, .inl (fun _ => 0))), ((v 8), .inl (K 0, 60, .inl (fun _ => 0))), ((v 9), .inl (K 0, 480, .inl (fun _ => 0))), ((v 10), .inl (K 0, 600, .inl (fun _ => 0))), ((v 11), .inl (K 2, 3, .inl (fun _ => 0)))] := hD
  refine lv_aload_n hx hb dL_law_1273 rfl (lv_at hl 1 rfl) ?_
  refine lv_aload_n hx hb dL_law_1274 rfl (lv_at hl 3 rfl) ?_
  refine fn_at 1275 rfl ?_
  refine lv_iload_n hx hb dL_law_1275 rfl (lv_at hl 0 rfl) ?_
  refine lv_iconst (v := 1) hx hb dL_law_1276 (by decide) ?_
  refine lv_iadd hx hb dL_law_1277 ?_
  refine fn_top 1 (by decide) ?_
  refine va_sld hx hb hX hbl hbA hS (by unfold vp_in; decide) dL_law_1278 ?_
  refine fn_top (xs 1) (congrArg xs (by decide)) ?_
  refine lv_aload_n hx hb dL_law_1279 rfl (lv_at hl 3 rfl) ?_
  refine lv_iload_n hx hb dL_law_1280 rfl (lv_at hl 0 rfl) ?_
  refine lv_iconst (v := 2) hx hb dL_law_1281 (by decide) ?_
  refine lv_iadd hx hb dL_law_1282 ?_
  refine fn_top 2 (by decide) ?_
  refine va_sld hx hb hX hbl hbA hS (by unfold vp_in; decide) dL_law_1283 ?_
  refine fn_top (xs 2) (congrArg xs (by decide)) ?_
  refine lv_aload_n hx hb dL_law_1284 rfl (lv_at hl 3 rfl) ?_
  refine lv_iload_n hx hb dL_law_1285 rfl (lv_at hl 0 rfl) ?_
  refine lv_iconst (v := 3) hx hb dL_law_1286 (by decide) ?_
  refine lv_iadd hx hb dL_law_1287 ?_
  refine fn_top 3 (by decide) ?_
  refine va_sld hx hb hX hbl hbA hS (by unfold vp_in; decide) dL_law_1288 ?_
  refine fn_top (xs 3) (congrArg xs (by decide)) ?_
  refine fn_goi (wc := [(m0, .inr (12, [.int 0, .ref (v 0), .ref (v 1), .ref (v 2), .ref (v 3), .ref (v 4), .int 0, .int 0, .int 0, .int 0, .int 0, .long 0, .int 0, .int 0, .int 0, .int (-1), .ref (v 5), .ref (v 6), .ref (v 7), .ref (v 8), .ref (v 9), .ref (v 10), .ref (v 11), .ref (v 12), .ref (v 13), .ref (v 14), .ref (v 15), .ref (v 16), .ref (v 17), .ref (v 18), .ref (v 19), .ref (v 20), .int 0, .int 0, .int 0, .int 0, .ref (v 21), .ref (v 22), .ref (v 23), .int 0, .int 0, .ref (v 24), .ref (v 25), .int 0, .int 0, .ref (v 26), .ref (v 27), .ref (v 28), .int 0, .int 0, .int 0])), ((v 5), .inl (K 0, 5, .inl (fun _ => 0))), ((v 6), .inl (K 0, 40, .inl (fun _ => 0)))]) (wr := []) hK hP hD hS hA [0, 5, 6] [] rfl rfl (by decide) (fun hp => va_runV (C := RX12) (As := [.int (xs 1), .int (xs 2), .int (xs 3)]) (rest := [.int (-2)]) ⟨hx, hb, hml, hown, hts⟩ (c_X12_order (l := l) (D := D) (K := K) (m0 := (m0)) (p0 := ((xs 1))) (p1 := ((xs 2))) (p2 := ((xs 3))) (fm := ([.int 0, .ref (v 0), .ref (v 1), .ref (v 2), .ref (v 3), .ref (v 4), .int 0, .int 0, .int 0, .int 0, .int 0, .long 0, .int 0, .int 0, .int 0, .int (-1), .ref (v 5), .ref (v 6), .ref (v 7), .ref (v 8), .ref (v 9), .ref (v 10), .ref (v 11), .ref (v 12), .ref (v 13), .ref (v 14), .ref (v 15), .ref (v 16), .ref (v 17), .ref (v 18), .ref (v 19), .ref (v 20), .int 0, .int 0, .int 0, .int 0, .ref (v 21), .ref (v 22), .ref (v 23), .int 0, .int 0, .ref (v 24), .ref (v 25), .int 0, .int 0, .ref (v 26), .ref (v 27), .ref (v 28), .int 0, .int 0, .int 0])) (hmn := rfl) (al := ((v 5))) (hm16 := rfl) (ah := ((v 6))) (hm17 := rfl) (fl := (fun _ => 0)) (hfl := (fun _ => rfl)) (fh := (fun _ => 0)) (hfh := (fun _ => rfl)) _) (cwV 3 hts (fn_ginV (fn_gin wd_1811) wd_1808 wd_1809 wd_1810 wd_13) rfl rfl rfl (by decide +kernel) ⟨Nat.le_of_ble_eq_true rfl, Nat.le_of_ble_eq_true rfl⟩) ⟨fn_blind, va_recv hK.1 hP (ci := 12) (q0 := 0) rfl rfl, hp⟩ rfl rfl hl.1 rfl (lv_room (Nat.le_of_ble_eq_true rfl)) dL_law_1289 ⟨Nat.le_of_ble_eq_true rfl, Nat.le_of_ble_eq_true rfl⟩) (fun r4 u3 H locs hwu3 hP hD hS => ?_)
  have r4_e : r4 = (-2) := hwu3
  subst r4_e
  have hP : va_P D vwCl [] H := hP
  have hD : va_D A [] := hD
  refine lv_icmp_eq (tgt := 1996) hx hb dL_law_1292 (by decide) (fun _ => ?_) (fun h9 => absurd (by decide) h9)
  refine lv_iinc (v := 6) (lv' := [(3, .int 6), (2, .ref m0), (1, .ref x0), (0, .ref b)]) hx hb dL_law_1996 hl (k := 0) rfl (by decide) (by decide) rfl (fun ls hl => ?_)
  refine lv_goto (tgt := 18) hx hb dL_law_1999 (by decide) ?_
  refine lv_iload_n hx hb dL_law_18 rfl (lv_at hl 0 rfl) ?_
  refine lv_aload_n hx hb dL_law_19 rfl (lv_at hl 3 rfl) ?_
  refine fn_at 20 rfl ?_
  refine va_slen hx hb hX hbl hbA hS dL_law_20 ?_
  refine fn_top 6 (by decide) ?_
  refine lv_bipush (v := 6) hx hb dL_law_21 (by decide) ?_
  refine lv_isub hx hb dL_law_23 ?_
  refine fn_top 0 (by decide) ?_
  refine lv_icmp_gt (tgt := 2002) hx hb dL_law_24 (by decide) (fun _ => ?_) (fun h9 => absurd (by decide) h9)
  refine lv_iconst (v := 1) hx hb dL_law_2002 (by decide) ?_
  refine va_forget (fun q hq => by have h9 := hS.2.2 q hq; rw [← hAe] at h9; exact h9) ?_
  refine W.widen (k := 600000) (n := 7302250) (Nat.le_of_ble_eq_true rfl) (Nat.le_of_ble_eq_true rfl) ?_
  exact lw_ret hx hb hr hlocks dL_law_2003
theorem dL_law_1297 : decode cL_law 1297 = .ok (.aload_n 1, 1) := by decide +kernel
theorem dL_law_1298 : decode cL_law 1298 = .ok (.aload_n 0, 1) := by decide +kernel
theorem dL_law_1299 : decode cL_law 1299 = .ok (.iload_n 3, 1) := by decide +kernel
theorem dL_law_1300 : decode cL_law 1300 = .ok (.iconst 1, 1) := by decide +kernel
theorem dL_law_1301 : decode cL_law 1301 = .ok (.iadd, 1) := by decide +kernel
theorem dL_law_1302 : decode cL_law 1302 = .ok (.iaload, 1) := by decide +kernel
theorem dL_law_1303 : decode cL_law 1303 = .ok (.aload_n 0, 1) := by decide +kernel
theorem dL_law_1304 : decode cL_law 1304 = .ok (.iload_n 3, 1) := by decide +kernel
theorem dL_law_1305 : decode cL_law 1305 = .ok (.iconst 2, 1) := by decide +kernel
theorem dL_law_1306 : decode cL_law 1306 = .ok (.iadd, 1) := by decide +kernel
theorem dL_law_1307 : decode cL_law 1307 = .ok (.iaload, 1) := by decide +kernel
theorem dL_law_1308 : decode cL_law 1308 = .ok (.invokevirtual 182, 3) := by decide +kernel
theorem dL_law_1311 : decode cL_law 1311 = .ok (.aload_n 2, 1) := by decide +kernel
theorem dL_law_1312 : decode cL_law 1312 = .ok (.aload_n 0, 1) := by decide +kernel
theorem dL_law_1313 : decode cL_law 1313 = .ok (.iload_n 3, 1) := by decide +kernel
theorem dL_law_1314 : decode cL_law 1314 = .ok (.iconst 1, 1) := by decide +kernel
theorem dL_law_1315 : decode cL_law 1315 = .ok (.iadd, 1) := by decide +kernel
theorem dL_law_1316 : decode cL_law 1316 = .ok (.iaload, 1) := by decide +kernel
theorem dL_law_1317 : decode cL_law 1317 = .ok (.aload_n 0, 1) := by decide +kernel
theorem dL_law_1318 : decode cL_law 1318 = .ok (.iload_n 3, 1) := by decide +kernel
theorem dL_law_1319 : decode cL_law 1319 = .ok (.iconst 2, 1) := by decide +kernel
theorem dL_law_1320 : decode cL_law 1320 = .ok (.iadd, 1) := by decide +kernel
theorem dL_law_1321 : decode cL_law 1321 = .ok (.iaload, 1) := by decide +kernel
theorem dL_law_1322 : decode cL_law 1322 = .ok (.invokevirtual 185, 3) := by decide +kernel
theorem dL_law_1325 : decode cL_law 1325 = .ok (.if_icmp .eq 671, 3) := by decide +kernel
set_option maxHeartbeats 4000000 in
set_option maxRecDepth 100000 in
theorem law_41 {p : Program} {l : Launch} {e : Env} {s : State} {m : MethodId} {below : List Frame} {meth : Method} {c : Code} {b : Nat} {xs : Nat → Int32} (hx : p.tables.exec = Jvm.exec) (hb : c.code = cL_law) (hr : meth.sig.returnType = ret) (hml : c.maxLocals = 4) (hown : s.vm.findClass RL = some m.cls) (hts : ∀ w ∈ fn_big, w.before #[Value.ref b] s = true) (hX : va_X b 6 xs s s.heap) (hbl : b < s.heap.size) (hlocks : meth.locks = false) {D : va_G} {K : Nat → ClassId} (hK : fn_KK D K s) {x0 m0 : Nat} {u v : Nat → Nat} {fw : Nat → Int32} (hfw : ∀ j, j < 4 → fw j = -1) {A : Nat → Prop} (hAe : (fun q : Nat => s.heap.size ≤ q) = A) : ∀ (H : Heap) (locs : List Loc) (ls : Array Slot), va_P D vwCl (fn_world K x0 m0 u v fw) H → va_D A (fn_world K x0 m0 u v fw) → va_S A s.heap H locs → lv_has ls 4 [(3, .int 0), (2, .ref m0), (1, .ref x0), (0, .ref b)] → W p l e room_1 s m #[Value.ref b] below meth c H locs 144 12710 (lw_Z below #[Value.ref b] s) (F0 m 1297 ls []) := by
  intro H locs ls hP hD hS hl
  have hA : ∀ q : Nat, s.heap.size ≤ q → A q := fun q h => by rw [← hAe]; exact h
  have hbA : ¬ A b := by rw [← hAe]; exact Nat.not_le.mpr hbl
  refine lv_aload_n hx hb dL_law_1297 rfl (lv_at hl 2 rfl) ?_
  refine lv_aload_n hx hb dL_law_1298 rfl (lv_at hl 3 rfl) ?_
  refine lv_iload_n hx hb dL_law_1299 rfl (lv_at hl 0 rfl) ?_
  refine lv_iconst (v := 1) hx hb dL_law_1300 (by decide) ?_
  refine lv_iadd hx hb dL_law_1301 ?_
  refine fn_top 1 (by decide) ?_
  refine va_sld hx hb hX hbl hbA hS (by unfold vp_in; decide) dL_law_1302 ?_
  refine fn_top (xs 1) (congrArg xs (by decide)) ?_
  refine lv_aload_n hx hb dL_law_1303 rfl (lv_at hl 3 rfl) ?_
  refine lv_iload_n hx hb dL_law_1304 rfl (lv_at hl 0 rfl) ?_
  refine lv_iconst (v := 2) hx hb dL_law_1305 (by decide) ?_
  refine lv_iadd hx hb dL_law_1306 ?_
  refine fn_top 2 (by decide) ?_
  refine va_sld hx hb hX hbl hbA hS (by unfold vp_in; decide) dL_law_1307 ?_
  refine fn_top (xs 2) (congrArg xs (by decide)) ?_
  refine fn_goi (wc := [(x0, .inr (11, [.ref (u 0), .ref (u 10), .ref (u 17), .ref (u 25), .ref (u 26), .ref (u 27), .ref (u 28), .ref (u 29), .ref (u 34), .ref (u 39), .ref (u 43), .ref (u 51), .ref (u 55)])), ((u 10), .inr (7, [.int 0, .int 0, .int 0, .int 0, .int 0, .int 0, .int 0, .int 0, .int 0, .ref (u 11), .ref (u 12), .ref (u 13), .ref (u 14), .ref (u 15), .ref (u 16)]))]) (wr := [(m0, .inr (12, [.int 0, .ref (v 0), .ref (v 1), .ref (v 2), .ref (v 3), .ref (v 4), .int 0, .int 0, .int 0, .int 0, .int 0, .long 0, .int 0, .int 0, .int 0, .int (-1), .ref (v 5), .ref (v 6), .ref (v 7), .ref (v 8), .ref (v 9), .ref (v 10), .ref (v 11), .ref (v 12), .ref (v 13), .ref (v 14), .ref (v 15), .ref (v 16), .ref (v 17), .ref (v 18), .ref (v 19), .ref (v 20), .int 0, .int 0, .int 0, .int 0, .ref (v 21), .ref (v 22), .ref (v 23), .int 0, .int 0, .ref (v 24), .ref (v 25), .int 0, .int 0, .ref (v 26), .ref (v 27), .ref (v 28), .int 0, .int 0, .int 0])), ((v 0), .inl (K 0, 4, .inl fw)), ((v 1), .inl (K 0, 4, .inl (fun _ => 0))), ((v 2), .inl (K 3, 240, .inr (.inl (fun _ => 0)))), ((v 4), .inl (K 1, 1400, .inl (fun _ => 0))), ((v 5), .inl (K 0, 5, .inl (fun _ => 0))), ((v 6), .inl (K 0, 40, .inl (fun _ => 0))), ((v 7), .inl (K 0, 50, .inl (fun _ => 0))), ((v 8), .inl (K 0, 60, .inl (fun _ => 0))), ((v 9), .inl (K 0, 480, .inl (fun _ => 0))), ((v 10), .inl (K 0, 600, .inl (fun _ => 0))), ((v 11), .inl (K 2, 3, .inl (fun _ => 0)))]) hK hP hD hS hA [0, 11] [88, 89, 90, 91, 92, 93, 94, 95, 96, 97, 98, 99] rfl rfl (by decide) (fun hp => va_runV (C := RX11) (As := [.int (xs 1), .int (xs 2)]) (rest := []) ⟨hx, hb, hml, hown, hts⟩ (c_X11_shares (l := l) (D := D) (K := K) (x0 := (x0)) (p0 := ((xs 1))) (p1 := ((xs 2))) (fx := ([.ref (u 0), .ref (u 10), .ref (u 17), .ref (u 25), .ref (u 26), .ref (u 27), .ref (u 28), .ref (u 29), .ref (u 34), .ref (u 39), .ref (u 43), .ref (u 51), .ref (u 55)])) (t0 := ((u 10))) (hx1 := rfl) (ft := ([.int 0, .int 0, .int 0, .int 0, .int 0, .int 0, .int 0, .int 0, .int 0, .ref (u 11), .ref (u 12), .ref (u 13), .ref (u 14), .ref (u 15), .ref (u 16)])) (ht0 := rfl) (ht3 := rfl) (ht4 := rfl) (ht5 := rfl) _) (cwV 2 hts (fn_ginV (fn_gin wd_1013) wd_1010 wd_1011 wd_1012 wd_1) rfl rfl rfl (by decide +kernel) ⟨Nat.le_of_ble_eq_true rfl, Nat.le_of_ble_eq_true rfl⟩) ⟨fn_blind, va_recv hK.1 hP (ci := 11) (q0 := 0) rfl rfl, hp⟩ rfl rfl hl.1 rfl (lv_room (Nat.le_of_ble_eq_true rfl)) dL_law_1308 ⟨Nat.le_of_ble_eq_true rfl, Nat.le_of_ble_eq_true rfl⟩) (fun r2 u1 H locs hwu1 hP hD hS => ?_)
  have r2_e : r2 = (-2) := hwu1
  subst r2_e
  have hP : va_P D vwCl [(m0, .inr (12, [.int 0, .ref (v 0), .ref (v 1), .ref (v 2), .ref (v 3), .ref (v 4), .int 0, .int 0, .int 0, .int 0, .int 0, .long 0, .int 0, .int 0, .int 0, .int (-1), .ref (v 5), .ref (v 6), .ref (v 7), .ref (v 8), .ref (v 9), .ref (v 10), .ref (v 11), .ref (v 12), .ref (v 13), .ref (v 14), .ref (v 15), .ref (v 16), .ref (v 17), .ref (v 18), .ref (v 19), .ref (v 20), .int 0, .int 0, .int 0, .int 0, .ref (v 21), .ref (v 22), .ref (v 23), .int 0, .int 0, .ref (v 24), .ref (v 25), .int 0, .int 0, .ref (v 26), .ref (v 27), .ref (v 28), .int 0, .int 0, .int 0])), ((v 0), .inl (K 0, 4, .inl fw)), ((v 1), .inl (K 0, 4, .inl (fun _ => 0))), ((v 2), .inl (K 3, 240, .inr (.inl (fun _ => 0)))), ((v 4), .inl (K 1, 1400, .inl (fun _ => 0))), ((v 5), .inl (K 0, 5, .inl (fun _ => 0))), ((v 6), .inl (K 0, 40, .inl (fun _ => 0))), ((v 7), .inl (K 0, 50, .inl (fun _ => 0))), ((v 8), .inl (K 0, 60, .inl (fun _ => 0))), ((v 9), .inl (K 0, 480, .inl (fun _ => 0))), ((v 10), .inl (K 0, 600, .inl (fun _ => 0))), ((v 11), .inl (K 2, 3, .inl (fun _ => 0)))] H := hP
  have hD : va_D A [(m0, .inr (12, [.int 0, .ref (v 0), .ref (v 1), .ref (v 2), .ref (v 3), .ref (v 4), .int 0, .int 0, .int 0, .int 0, .int 0, .long 0, .int 0, .int 0, .int 0, .int (-1), .ref (v 5), .ref (v 6), .ref (v 7), .ref (v 8), .ref (v 9), .ref (v 10), .ref (v 11), .ref (v 12), .ref (v 13), .ref (v 14), .ref (v 15), .ref (v 16), .ref (v 17), .ref (v 18), .ref (v 19), .ref (v 20), .int 0, .int 0, .int 0, .int 0, .ref (v 21), .ref (v 22), .ref (v 23), .int 0, .int 0, .ref (v 24), .ref (v 25), .int 0, .int 0, .ref (v 26), .ref (v 27), .ref (v 28), .int 0, .int 0, .int 0])), ((v 0), .inl (K 0, 4, .inl fw)), ((v 1), .inl (K 0, 4, .inl (fun _ => 0))), ((v 2), .inl (K 3, 240, .inr (.inl (fun _ => 0)))), ((v 4), .inl (K 1, 1400, .inl (fun _ => 0))), ((v 5), .inl (K 0, 5, .inl (fun _ => 0))), ((v 6), .inl (K 0, 40, .inl (fun _ => 0))), ((v 7), .inl (K 0, 50, .inl (fun _ => 0))), ((v 8), .inl (K 0, 60, .inl (fun _ => 0))), ((v 9), .inl (K 0, 480, .inl (fun _ => 0))), ((v 10), .inl (K 0, 600, .inl (fun _ => 0))), ((v 11), .inl (K 2, 3, .inl (fun _ => 0)))] := hD
  refine lv_aload_n hx hb dL_law_1311 rfl (lv_at hl 1 rfl) ?_
  refine lv_aload_n hx hb dL_law_1312 rfl (lv_at hl 3 rfl) ?_
  refine lv_iload_n hx hb dL_law_1313 rfl (lv_at hl 0 rfl) ?_
  refine lv_iconst (v := 1) hx hb dL_law_1314 (by decide) ?_
  refine lv_iadd hx hb dL_law_1315 ?_
  refine fn_top 1 (by decide) ?_
  refine va_sld hx hb hX hbl hbA hS (by unfold vp_in; decide) dL_law_1316 ?_
  refine fn_top (xs 1) (congrArg xs (by decide)) ?_
  refine lv_aload_n hx hb dL_law_1317 rfl (lv_at hl 3 rfl) ?_
  refine fn_at 1318 rfl ?_
  refine lv_iload_n hx hb dL_law_1318 rfl (lv_at hl 0 rfl) ?_
  refine lv_iconst (v := 2) hx hb dL_law_1319 (by decide) ?_
  refine lv_iadd hx hb dL_law_1320 ?_
  refine fn_top 2 (by decide) ?_
  refine va_sld hx hb hX hbl hbA hS (by unfold vp_in; decide) dL_law_1321 ?_
  refine fn_top (xs 2) (congrArg xs (by decide)) ?_
  refine fn_goi (wc := [(m0, .inr (12, [.int 0, .ref (v 0), .ref (v 1), .ref (v 2), .ref (v 3), .ref (v 4), .int 0, .int 0, .int 0, .int 0, .int 0, .long 0, .int 0, .int 0, .int 0, .int (-1), .ref (v 5), .ref (v 6), .ref (v 7), .ref (v 8), .ref (v 9), .ref (v 10), .ref (v 11), .ref (v 12), .ref (v 13), .ref (v 14), .ref (v 15), .ref (v 16), .ref (v 17), .ref (v 18), .ref (v 19), .ref (v 20), .int 0, .int 0, .int 0, .int 0, .ref (v 21), .ref (v 22), .ref (v 23), .int 0, .int 0, .ref (v 24), .ref (v 25), .int 0, .int 0, .ref (v 26), .ref (v 27), .ref (v 28), .int 0, .int 0, .int 0])), ((v 5), .inl (K 0, 5, .inl (fun _ => 0))), ((v 6), .inl (K 0, 40, .inl (fun _ => 0)))]) (wr := []) hK hP hD hS hA [0, 5, 6] [] rfl rfl (by decide) (fun hp => va_runV (C := RX12) (As := [.int (xs 1), .int (xs 2)]) (rest := [.int (-2)]) ⟨hx, hb, hml, hown, hts⟩ (c_X12_shares (l := l) (D := D) (K := K) (m0 := (m0)) (p0 := ((xs 1))) (p1 := ((xs 2))) (fm := ([.int 0, .ref (v 0), .ref (v 1), .ref (v 2), .ref (v 3), .ref (v 4), .int 0, .int 0, .int 0, .int 0, .int 0, .long 0, .int 0, .int 0, .int 0, .int (-1), .ref (v 5), .ref (v 6), .ref (v 7), .ref (v 8), .ref (v 9), .ref (v 10), .ref (v 11), .ref (v 12), .ref (v 13), .ref (v 14), .ref (v 15), .ref (v 16), .ref (v 17), .ref (v 18), .ref (v 19), .ref (v 20), .int 0, .int 0, .int 0, .int 0, .ref (v 21), .ref (v 22), .ref (v 23), .int 0, .int 0, .ref (v 24), .ref (v 25), .int 0, .int 0, .ref (v 26), .ref (v 27), .ref (v 28), .int 0, .int 0, .int 0])) (hmn := rfl) (al := ((v 5))) (hm16 := rfl) (ah := ((v 6))) (hm17 := rfl) (fl := (fun _ => 0)) (hfl := (fun _ => rfl)) (fh := (fun _ => 0)) (hfh := (fun _ => rfl)) _) (cwV 2 hts (fn_ginV (fn_gin wd_1815) wd_1812 wd_1813 wd_1814 wd_13) rfl rfl rfl (by decide +kernel) ⟨Nat.le_of_ble_eq_true rfl, Nat.le_of_ble_eq_true rfl⟩) ⟨fn_blind, va_recv hK.1 hP (ci := 12) (q0 := 0) rfl rfl, hp⟩ rfl rfl hl.1 rfl (lv_room (Nat.le_of_ble_eq_true rfl)) dL_law_1322 ⟨Nat.le_of_ble_eq_true rfl, Nat.le_of_ble_eq_true rfl⟩) (fun r4 u3 H locs hwu3 hP hD hS => ?_)
  have r4_e : r4 = (-2) := hwu3
  subst r4_e
  have hP : va_P D vwCl [] H := hP
  have hD : va_D A [] := hD
  refine lv_icmp_eq (tgt := 1996) hx hb dL_law_1325 (by decide) (fun _ => ?_) (fun h9 => absurd (by decide) h9)
  refine lv_iinc (v := 6) (lv' := [(3, .int 6), (2, .ref m0), (1, .ref x0), (0, .ref b)]) hx hb dL_law_1996 hl (k := 0) rfl (by decide) (by decide) rfl (fun ls hl => ?_)
  refine lv_goto (tgt := 18) hx hb dL_law_1999 (by decide) ?_
  refine lv_iload_n hx hb dL_law_18 rfl (lv_at hl 0 rfl) ?_
  refine lv_aload_n hx hb dL_law_19 rfl (lv_at hl 3 rfl) ?_
  refine va_slen hx hb hX hbl hbA hS dL_law_20 ?_
  refine fn_top 6 (by decide) ?_
  refine lv_bipush (v := 6) hx hb dL_law_21 (by decide) ?_
  refine lv_isub hx hb dL_law_23 ?_
  refine fn_top 0 (by decide) ?_
  refine lv_icmp_gt (tgt := 2002) hx hb dL_law_24 (by decide) (fun _ => ?_) (fun h9 => absurd (by decide) h9)
  refine lv_iconst (v := 1) hx hb dL_law_2002 (by decide) ?_
  refine va_forget (fun q hq => by have h9 := hS.2.2 q hq; rw [← hAe] at h9; exact h9) ?_
  refine W.widen (k := 600000) (n := 7302250) (Nat.le_of_ble_eq_true rfl) (Nat.le_of_ble_eq_true rfl) ?_
  exact lw_ret hx hb hr hlocks dL_law_2003
theorem dL_law_1330 : decode cL_law 1330 = .ok (.aload_n 1, 1) := by decide +kernel
theorem dL_law_1331 : decode cL_law 1331 = .ok (.aload_n 0, 1) := by decide +kernel
theorem dL_law_1332 : decode cL_law 1332 = .ok (.iload_n 3, 1) := by decide +kernel
theorem dL_law_1333 : decode cL_law 1333 = .ok (.iconst 1, 1) := by decide +kernel
theorem dL_law_1334 : decode cL_law 1334 = .ok (.iadd, 1) := by decide +kernel
theorem dL_law_1335 : decode cL_law 1335 = .ok (.iaload, 1) := by decide +kernel
theorem dL_law_1336 : decode cL_law 1336 = .ok (.aload_n 0, 1) := by decide +kernel
theorem dL_law_1337 : decode cL_law 1337 = .ok (.iload_n 3, 1) := by decide +kernel
theorem dL_law_1338 : decode cL_law 1338 = .ok (.iconst 2, 1) := by decide +kernel
theorem dL_law_1339 : decode cL_law 1339 = .ok (.iadd, 1) := by decide +kernel
theorem dL_law_1340 : decode cL_law 1340 = .ok (.iaload, 1) := by decide +kernel
theorem dL_law_1341 : decode cL_law 1341 = .ok (.invokevirtual 186, 3) := by decide +kernel
theorem dL_law_1344 : decode cL_law 1344 = .ok (.aload_n 2, 1) := by decide +kernel
theorem dL_law_1345 : decode cL_law 1345 = .ok (.aload_n 0, 1) := by decide +kernel
theorem dL_law_1346 : decode cL_law 1346 = .ok (.iload_n 3, 1) := by decide +kernel
theorem dL_law_1347 : decode cL_law 1347 = .ok (.iconst 1, 1) := by decide +kernel
theorem dL_law_1348 : decode cL_law 1348 = .ok (.iadd, 1) := by decide +kernel
theorem dL_law_1349 : decode cL_law 1349 = .ok (.iaload, 1) := by decide +kernel
theorem dL_law_1350 : decode cL_law 1350 = .ok (.aload_n 0, 1) := by decide +kernel
theorem dL_law_1351 : decode cL_law 1351 = .ok (.iload_n 3, 1) := by decide +kernel
theorem dL_law_1352 : decode cL_law 1352 = .ok (.iconst 2, 1) := by decide +kernel
theorem dL_law_1353 : decode cL_law 1353 = .ok (.iadd, 1) := by decide +kernel
theorem dL_law_1354 : decode cL_law 1354 = .ok (.iaload, 1) := by decide +kernel
theorem dL_law_1355 : decode cL_law 1355 = .ok (.invokevirtual 189, 3) := by decide +kernel
theorem dL_law_1358 : decode cL_law 1358 = .ok (.if_icmp .eq 638, 3) := by decide +kernel
set_option maxHeartbeats 4000000 in
set_option maxRecDepth 100000 in
theorem law_42 {p : Program} {l : Launch} {e : Env} {s : State} {m : MethodId} {below : List Frame} {meth : Method} {c : Code} {b : Nat} {xs : Nat → Int32} (hx : p.tables.exec = Jvm.exec) (hb : c.code = cL_law) (hr : meth.sig.returnType = ret) (hml : c.maxLocals = 4) (hown : s.vm.findClass RL = some m.cls) (hts : ∀ w ∈ fn_big, w.before #[Value.ref b] s = true) (hX : va_X b 6 xs s s.heap) (hbl : b < s.heap.size) (hlocks : meth.locks = false) {D : va_G} {K : Nat → ClassId} (hK : fn_KK D K s) {x0 m0 : Nat} {u v : Nat → Nat} {fw : Nat → Int32} (hfw : ∀ j, j < 4 → fw j = -1) {A : Nat → Prop} (hAe : (fun q : Nat => s.heap.size ≤ q) = A) : ∀ (H : Heap) (locs : List Loc) (ls : Array Slot), va_P D vwCl (fn_world K x0 m0 u v fw) H → va_D A (fn_world K x0 m0 u v fw) → va_S A s.heap H locs → lv_has ls 4 [(3, .int 0), (2, .ref m0), (1, .ref x0), (0, .ref b)] → W p l e room_1 s m #[Value.ref b] below meth c H locs 144 12710 (lw_Z below #[Value.ref b] s) (F0 m 1330 ls []) := by
  intro H locs ls hP hD hS hl
  have hA : ∀ q : Nat, s.heap.size ≤ q → A q := fun q h => by rw [← hAe]; exact h
  have hbA : ¬ A b := by rw [← hAe]; exact Nat.not_le.mpr hbl
  refine lv_aload_n hx hb dL_law_1330 rfl (lv_at hl 2 rfl) ?_
  refine lv_aload_n hx hb dL_law_1331 rfl (lv_at hl 3 rfl) ?_
  refine lv_iload_n hx hb dL_law_1332 rfl (lv_at hl 0 rfl) ?_
  refine lv_iconst (v := 1) hx hb dL_law_1333 (by decide) ?_
  refine lv_iadd hx hb dL_law_1334 ?_
  refine fn_top 1 (by decide) ?_
  refine va_sld hx hb hX hbl hbA hS (by unfold vp_in; decide) dL_law_1335 ?_
  refine fn_top (xs 1) (congrArg xs (by decide)) ?_
  refine lv_aload_n hx hb dL_law_1336 rfl (lv_at hl 3 rfl) ?_
  refine lv_iload_n hx hb dL_law_1337 rfl (lv_at hl 0 rfl) ?_
  refine lv_iconst (v := 2) hx hb dL_law_1338 (by decide) ?_
  refine lv_iadd hx hb dL_law_1339 ?_
  refine fn_top 2 (by decide) ?_
  refine va_sld hx hb hX hbl hbA hS (by unfold vp_in; decide) dL_law_1340 ?_
  refine fn_top (xs 2) (congrArg xs (by decide)) ?_
  refine fn_goi (wc := [(x0, .inr (11, [.ref (u 0), .ref (u 10), .ref (u 17), .ref (u 25), .ref (u 26), .ref (u 27), .ref (u 28), .ref (u 29), .ref (u 34), .ref (u 39), .ref (u 43), .ref (u 51), .ref (u 55)])), ((u 10), .inr (7, [.int 0, .int 0, .int 0, .int 0, .int 0, .int 0, .int 0, .int 0, .int 0, .ref (u 11), .ref (u 12), .ref (u 13), .ref (u 14), .ref (u 15), .ref (u 16)]))]) (wr := [(m0, .inr (12, [.int 0, .ref (v 0), .ref (v 1), .ref (v 2), .ref (v 3), .ref (v 4), .int 0, .int 0, .int 0, .int 0, .int 0, .long 0, .int 0, .int 0, .int 0, .int (-1), .ref (v 5), .ref (v 6), .ref (v 7), .ref (v 8), .ref (v 9), .ref (v 10), .ref (v 11), .ref (v 12), .ref (v 13), .ref (v 14), .ref (v 15), .ref (v 16), .ref (v 17), .ref (v 18), .ref (v 19), .ref (v 20), .int 0, .int 0, .int 0, .int 0, .ref (v 21), .ref (v 22), .ref (v 23), .int 0, .int 0, .ref (v 24), .ref (v 25), .int 0, .int 0, .ref (v 26), .ref (v 27), .ref (v 28), .int 0, .int 0, .int 0])), ((v 0), .inl (K 0, 4, .inl fw)), ((v 1), .inl (K 0, 4, .inl (fun _ => 0))), ((v 2), .inl (K 3, 240, .inr (.inl (fun _ => 0)))), ((v 4), .inl (K 1, 1400, .inl (fun _ => 0))), ((v 5), .inl (K 0, 5, .inl (fun _ => 0))), ((v 6), .inl (K 0, 40, .inl (fun _ => 0))), ((v 7), .inl (K 0, 50, .inl (fun _ => 0))), ((v 8), .inl (K 0, 60, .inl (fun _ => 0))), ((v 9), .inl (K 0, 480, .inl (fun _ => 0))), ((v 10), .inl (K 0, 600, .inl (fun _ => 0))), ((v 11), .inl (K 2, 3, .inl (fun _ => 0)))]) hK hP hD hS hA [0, 11] [88, 89, 90, 91, 92, 93, 94, 95, 96, 97, 98, 99] rfl rfl (by decide) (fun hp => va_runV (C := RX11) (As := [.int (xs 1), .int (xs 2)]) (rest := []) ⟨hx, hb, hml, hown, hts⟩ (c_X11_first (l := l) (D := D) (K := K) (x0 := (x0)) (p0 := ((xs 1))) (p1 := ((xs 2))) (fx := ([.ref (u 0), .ref (u 10), .ref (u 17), .ref (u 25), .ref (u 26), .ref (u 27), .ref (u 28), .ref (u 29), .ref (u 34), .ref (u 39), .ref (u 43), .ref (u 51), .ref (u 55)])) (t0 := ((u 10))) (hx1 := rfl) (ft := ([.int 0, .int 0, .int 0, .int 0, .int 0, .int 0, .int 0, .int 0, .int 0, .ref (u 11), .ref (u 12), .ref (u 13), .ref (u 14), .ref (u 15), .ref (u 16)])) (ht0 := rfl) (ht3 := rfl) (ht4 := rfl) (ht5 := rfl) _) (cwV 2 hts (fn_ginV (fn_gin wd_1028) wd_1025 wd_1026 wd_1027 wd_1) rfl rfl rfl (by decide +kernel) ⟨Nat.le_of_ble_eq_true rfl, Nat.le_of_ble_eq_true rfl⟩) ⟨fn_blind, va_recv hK.1 hP (ci := 11) (q0 := 0) rfl rfl, hp⟩ rfl rfl hl.1 rfl (lv_room (Nat.le_of_ble_eq_true rfl)) dL_law_1341 ⟨Nat.le_of_ble_eq_true rfl, Nat.le_of_ble_eq_true rfl⟩) (fun r2 u1 H locs hwu1 hP hD hS => ?_)
  have r2_e : r2 = (-2) := hwu1
  subst r2_e
  have hP : va_P D vwCl [(m0, .inr (12, [.int 0, .ref (v 0), .ref (v 1), .ref (v 2), .ref (v 3), .ref (v 4), .int 0, .int 0, .int 0, .int 0, .int 0, .long 0, .int 0, .int 0, .int 0, .int (-1), .ref (v 5), .ref (v 6), .ref (v 7), .ref (v 8), .ref (v 9), .ref (v 10), .ref (v 11), .ref (v 12), .ref (v 13), .ref (v 14), .ref (v 15), .ref (v 16), .ref (v 17), .ref (v 18), .ref (v 19), .ref (v 20), .int 0, .int 0, .int 0, .int 0, .ref (v 21), .ref (v 22), .ref (v 23), .int 0, .int 0, .ref (v 24), .ref (v 25), .int 0, .int 0, .ref (v 26), .ref (v 27), .ref (v 28), .int 0, .int 0, .int 0])), ((v 0), .inl (K 0, 4, .inl fw)), ((v 1), .inl (K 0, 4, .inl (fun _ => 0))), ((v 2), .inl (K 3, 240, .inr (.inl (fun _ => 0)))), ((v 4), .inl (K 1, 1400, .inl (fun _ => 0))), ((v 5), .inl (K 0, 5, .inl (fun _ => 0))), ((v 6), .inl (K 0, 40, .inl (fun _ => 0))), ((v 7), .inl (K 0, 50, .inl (fun _ => 0))), ((v 8), .inl (K 0, 60, .inl (fun _ => 0))), ((v 9), .inl (K 0, 480, .inl (fun _ => 0))), ((v 10), .inl (K 0, 600, .inl (fun _ => 0))), ((v 11), .inl (K 2, 3, .inl (fun _ => 0)))] H := hP
  have hD : va_D A [(m0, .inr (12, [.int 0, .ref (v 0), .ref (v 1), .ref (v 2), .ref (v 3), .ref (v 4), .int 0, .int 0, .int 0, .int 0, .int 0, .long 0, .int 0, .int 0, .int 0, .int (-1), .ref (v 5), .ref (v 6), .ref (v 7), .ref (v 8), .ref (v 9), .ref (v 10), .ref (v 11), .ref (v 12), .ref (v 13), .ref (v 14), .ref (v 15), .ref (v 16), .ref (v 17), .ref (v 18), .ref (v 19), .ref (v 20), .int 0, .int 0, .int 0, .int 0, .ref (v 21), .ref (v 22), .ref (v 23), .int 0, .int 0, .ref (v 24), .ref (v 25), .int 0, .int 0, .ref (v 26), .ref (v 27), .ref (v 28), .int 0, .int 0, .int 0])), ((v 0), .inl (K 0, 4, .inl fw)), ((v 1), .inl (K 0, 4, .inl (fun _ => 0))), ((v 2), .inl (K 3, 240, .inr (.inl (fun _ => 0)))), ((v 4), .inl (K 1, 1400, .inl (fun _ => 0))), ((v 5), .inl (K 0, 5, .inl (fun _ => 0))), ((v 6), .inl (K 0, 40, .inl (fun _ => 0))), ((v 7), .inl (K 0, 50, .inl (fun _ => 0))), ((v 8), .inl (K 0, 60, .inl (fun _ => 0))), ((v 9), .inl (K 0, 480, .inl (fun _ => 0))), ((v 10), .inl (K 0, 600, .inl (fun _ => 0))), ((v 11), .inl (K 2, 3, .inl (fun _ => 0)))] := hD
  refine lv_aload_n hx hb dL_law_1344 rfl (lv_at hl 1 rfl) ?_
  refine lv_aload_n hx hb dL_law_1345 rfl (lv_at hl 3 rfl) ?_
  refine lv_iload_n hx hb dL_law_1346 rfl (lv_at hl 0 rfl) ?_
  refine lv_iconst (v := 1) hx hb dL_law_1347 (by decide) ?_
  refine lv_iadd hx hb dL_law_1348 ?_
  refine fn_top 1 (by decide) ?_
  refine va_sld hx hb hX hbl hbA hS (by unfold vp_in; decide) dL_law_1349 ?_
  refine fn_top (xs 1) (congrArg xs (by decide)) ?_
  refine lv_aload_n hx hb dL_law_1350 rfl (lv_at hl 3 rfl) ?_
  refine fn_at 1351 rfl ?_
  refine lv_iload_n hx hb dL_law_1351 rfl (lv_at hl 0 rfl) ?_
  refine lv_iconst (v := 2) hx hb dL_law_1352 (by decide) ?_
  refine lv_iadd hx hb dL_law_1353 ?_
  refine fn_top 2 (by decide) ?_
  refine va_sld hx hb hX hbl hbA hS (by unfold vp_in; decide) dL_law_1354 ?_
  refine fn_top (xs 2) (congrArg xs (by decide)) ?_
  refine fn_goi (wc := [(m0, .inr (12, [.int 0, .ref (v 0), .ref (v 1), .ref (v 2), .ref (v 3), .ref (v 4), .int 0, .int 0, .int 0, .int 0, .int 0, .long 0, .int 0, .int 0, .int 0, .int (-1), .ref (v 5), .ref (v 6), .ref (v 7), .ref (v 8), .ref (v 9), .ref (v 10), .ref (v 11), .ref (v 12), .ref (v 13), .ref (v 14), .ref (v 15), .ref (v 16), .ref (v 17), .ref (v 18), .ref (v 19), .ref (v 20), .int 0, .int 0, .int 0, .int 0, .ref (v 21), .ref (v 22), .ref (v 23), .int 0, .int 0, .ref (v 24), .ref (v 25), .int 0, .int 0, .ref (v 26), .ref (v 27), .ref (v 28), .int 0, .int 0, .int 0])), ((v 5), .inl (K 0, 5, .inl (fun _ => 0))), ((v 6), .inl (K 0, 40, .inl (fun _ => 0)))]) (wr := []) hK hP hD hS hA [0, 5, 6] [] rfl rfl (by decide) (fun hp => va_runV (C := RX12) (As := [.int (xs 1), .int (xs 2)]) (rest := [.int (-2)]) ⟨hx, hb, hml, hown, hts⟩ (c_X12_first (l := l) (D := D) (K := K) (m0 := (m0)) (p0 := ((xs 1))) (p1 := ((xs 2))) (fm := ([.int 0, .ref (v 0), .ref (v 1), .ref (v 2), .ref (v 3), .ref (v 4), .int 0, .int 0, .int 0, .int 0, .int 0, .long 0, .int 0, .int 0, .int 0, .int (-1), .ref (v 5), .ref (v 6), .ref (v 7), .ref (v 8), .ref (v 9), .ref (v 10), .ref (v 11), .ref (v 12), .ref (v 13), .ref (v 14), .ref (v 15), .ref (v 16), .ref (v 17), .ref (v 18), .ref (v 19), .ref (v 20), .int 0, .int 0, .int 0, .int 0, .ref (v 21), .ref (v 22), .ref (v 23), .int 0, .int 0, .ref (v 24), .ref (v 25), .int 0, .int 0, .ref (v 26), .ref (v 27), .ref (v 28), .int 0, .int 0, .int 0])) (hmn := rfl) (al := ((v 5))) (hm16 := rfl) (ah := ((v 6))) (hm17 := rfl) (fl := (fun _ => 0)) (hfl := (fun _ => rfl)) (fh := (fun _ => 0)) (hfh := (fun _ => rfl)) _) (cwV 2 hts (fn_ginV (fn_gin wd_1823) wd_1820 wd_1821 wd_1822 wd_13) rfl rfl rfl (by decide +kernel) ⟨Nat.le_of_ble_eq_true rfl, Nat.le_of_ble_eq_true rfl⟩) ⟨fn_blind, va_recv hK.1 hP (ci := 12) (q0 := 0) rfl rfl, hp⟩ rfl rfl hl.1 rfl (lv_room (Nat.le_of_ble_eq_true rfl)) dL_law_1355 ⟨Nat.le_of_ble_eq_true rfl, Nat.le_of_ble_eq_true rfl⟩) (fun r4 u3 H locs hwu3 hP hD hS => ?_)
  have r4_e : r4 = (-2) := hwu3
  subst r4_e
  have hP : va_P D vwCl [] H := hP
  have hD : va_D A [] := hD
  refine lv_icmp_eq (tgt := 1996) hx hb dL_law_1358 (by decide) (fun _ => ?_) (fun h9 => absurd (by decide) h9)
  refine lv_iinc (v := 6) (lv' := [(3, .int 6), (2, .ref m0), (1, .ref x0), (0, .ref b)]) hx hb dL_law_1996 hl (k := 0) rfl (by decide) (by decide) rfl (fun ls hl => ?_)
  refine lv_goto (tgt := 18) hx hb dL_law_1999 (by decide) ?_
  refine lv_iload_n hx hb dL_law_18 rfl (lv_at hl 0 rfl) ?_
  refine lv_aload_n hx hb dL_law_19 rfl (lv_at hl 3 rfl) ?_
  refine va_slen hx hb hX hbl hbA hS dL_law_20 ?_
  refine fn_top 6 (by decide) ?_
  refine lv_bipush (v := 6) hx hb dL_law_21 (by decide) ?_
  refine lv_isub hx hb dL_law_23 ?_
  refine fn_top 0 (by decide) ?_
  refine lv_icmp_gt (tgt := 2002) hx hb dL_law_24 (by decide) (fun _ => ?_) (fun h9 => absurd (by decide) h9)
  refine lv_iconst (v := 1) hx hb dL_law_2002 (by decide) ?_
  refine va_forget (fun q hq => by have h9 := hS.2.2 q hq; rw [← hAe] at h9; exact h9) ?_
  refine W.widen (k := 600000) (n := 7302250) (Nat.le_of_ble_eq_true rfl) (Nat.le_of_ble_eq_true rfl) ?_
  exact lw_ret hx hb hr hlocks dL_law_2003
theorem dL_law_1363 : decode cL_law 1363 = .ok (.aload_n 1, 1) := by decide +kernel
theorem dL_law_1364 : decode cL_law 1364 = .ok (.invokevirtual 190, 3) := by decide +kernel
theorem dL_law_1367 : decode cL_law 1367 = .ok (.aload_n 2, 1) := by decide +kernel
theorem dL_law_1368 : decode cL_law 1368 = .ok (.invokevirtual 193, 3) := by decide +kernel
theorem dL_law_1371 : decode cL_law 1371 = .ok (.if_icmp .eq 625, 3) := by decide +kernel
set_option maxHeartbeats 4000000 in
set_option maxRecDepth 100000 in
theorem law_43 {p : Program} {l : Launch} {e : Env} {s : State} {m : MethodId} {below : List Frame} {meth : Method} {c : Code} {b : Nat} {xs : Nat → Int32} (hx : p.tables.exec = Jvm.exec) (hb : c.code = cL_law) (hr : meth.sig.returnType = ret) (hml : c.maxLocals = 4) (hown : s.vm.findClass RL = some m.cls) (hts : ∀ w ∈ fn_big, w.before #[Value.ref b] s = true) (hX : va_X b 6 xs s s.heap) (hbl : b < s.heap.size) (hlocks : meth.locks = false) {D : va_G} {K : Nat → ClassId} (hK : fn_KK D K s) {x0 m0 : Nat} {u v : Nat → Nat} {fw : Nat → Int32} (hfw : ∀ j, j < 4 → fw j = -1) {A : Nat → Prop} (hAe : (fun q : Nat => s.heap.size ≤ q) = A) : ∀ (H : Heap) (locs : List Loc) (ls : Array Slot), va_P D vwCl (fn_world K x0 m0 u v fw) H → va_D A (fn_world K x0 m0 u v fw) → va_S A s.heap H locs → lv_has ls 4 [(3, .int 0), (2, .ref m0), (1, .ref x0), (0, .ref b)] → W p l e room_1 s m #[Value.ref b] below meth c H locs 144 12710 (lw_Z below #[Value.ref b] s) (F0 m 1363 ls []) := by
  intro H locs ls hP hD hS hl
  have hA : ∀ q : Nat, s.heap.size ≤ q → A q := fun q h => by rw [← hAe]; exact h
  have hbA : ¬ A b := by rw [← hAe]; exact Nat.not_le.mpr hbl
  refine lv_aload_n hx hb dL_law_1363 rfl (lv_at hl 2 rfl) ?_
  refine fn_goi (wc := [(x0, .inr (11, [.ref (u 0), .ref (u 10), .ref (u 17), .ref (u 25), .ref (u 26), .ref (u 27), .ref (u 28), .ref (u 29), .ref (u 34), .ref (u 39), .ref (u 43), .ref (u 51), .ref (u 55)])), ((u 10), .inr (7, [.int 0, .int 0, .int 0, .int 0, .int 0, .int 0, .int 0, .int 0, .int 0, .ref (u 11), .ref (u 12), .ref (u 13), .ref (u 14), .ref (u 15), .ref (u 16)]))]) (wr := [(m0, .inr (12, [.int 0, .ref (v 0), .ref (v 1), .ref (v 2), .ref (v 3), .ref (v 4), .int 0, .int 0, .int 0, .int 0, .int 0, .long 0, .int 0, .int 0, .int 0, .int (-1), .ref (v 5), .ref (v 6), .ref (v 7), .ref (v 8), .ref (v 9), .ref (v 10), .ref (v 11), .ref (v 12), .ref (v 13), .ref (v 14), .ref (v 15), .ref (v 16), .ref (v 17), .ref (v 18), .ref (v 19), .ref (v 20), .int 0, .int 0, .int 0, .int 0, .ref (v 21), .ref (v 22), .ref (v 23), .int 0, .int 0, .ref (v 24), .ref (v 25), .int 0, .int 0, .ref (v 26), .ref (v 27), .ref (v 28), .int 0, .int 0, .int 0])), ((v 0), .inl (K 0, 4, .inl fw)), ((v 1), .inl (K 0, 4, .inl (fun _ => 0))), ((v 2), .inl (K 3, 240, .inr (.inl (fun _ => 0)))), ((v 4), .inl (K 1, 1400, .inl (fun _ => 0))), ((v 5), .inl (K 0, 5, .inl (fun _ => 0))), ((v 6), .inl (K 0, 40, .inl (fun _ => 0))), ((v 7), .inl (K 0, 50, .inl (fun _ => 0))), ((v 8), .inl (K 0, 60, .inl (fun _ => 0))), ((v 9), .inl (K 0, 480, .inl (fun _ => 0))), ((v 10), .inl (K 0, 600, .inl (fun _ => 0))), ((v 11), .inl (K 2, 3, .inl (fun _ => 0)))]) hK hP hD hS hA [0, 11] [88, 89, 90, 91, 92, 93, 94, 95, 96, 97, 98, 99] rfl rfl (by decide) (fun hp => va_runV (C := RX11) (As := []) (rest := []) ⟨hx, hb, hml, hown, hts⟩ (c_X11_sends (l := l) (D := D) (K := K) (x0 := (x0)) (fx := ([.ref (u 0), .ref (u 10), .ref (u 17), .ref (u 25), .ref (u 26), .ref (u 27), .ref (u 28), .ref (u 29), .ref (u 34), .ref (u 39), .ref (u 43), .ref (u 51), .ref (u 55)])) (t0 := ((u 10))) (hx1 := rfl) (ft := ([.int 0, .int 0, .int 0, .int 0, .int 0, .int 0, .int 0, .int 0, .int 0, .ref (u 11), .ref (u 12), .ref (u 13), .ref (u 14), .ref (u 15), .ref (u 16)])) (ht0 := rfl) (ht3 := rfl) (ht4 := rfl) (ht5 := rfl) _) (cwV 0 hts (fn_ginV (fn_gin wd_1032) wd_1029 wd_1030 wd_1031 wd_1) rfl rfl rfl (by decide +kernel) ⟨Nat.le_of_ble_eq_true rfl, Nat.le_of_ble_eq_true rfl⟩) ⟨fn_blind, va_recv hK.1 hP (ci := 11) (q0 := 0) rfl rfl, hp⟩ rfl rfl hl.1 rfl (lv_room (Nat.le_of_ble_eq_true rfl)) dL_law_1364 ⟨Nat.le_of_ble_eq_true rfl, Nat.le_of_ble_eq_true rfl⟩) (fun r2 u1 H locs hwu1 hP hD hS => ?_)
  have r2_e : r2 = (-2) := hwu1
  subst r2_e
  have hP : va_P D vwCl [(m0, .inr (12, [.int 0, .ref (v 0), .ref (v 1), .ref (v 2), .ref (v 3), .ref (v 4), .int 0, .int 0, .int 0, .int 0, .int 0, .long 0, .int 0, .int 0, .int 0, .int (-1), .ref (v 5), .ref (v 6), .ref (v 7), .ref (v 8), .ref (v 9), .ref (v 10), .ref (v 11), .ref (v 12), .ref (v 13), .ref (v 14), .ref (v 15), .ref (v 16), .ref (v 17), .ref (v 18), .ref (v 19), .ref (v 20), .int 0, .int 0, .int 0, .int 0, .ref (v 21), .ref (v 22), .ref (v 23), .int 0, .int 0, .ref (v 24), .ref (v 25), .int 0, .int 0, .ref (v 26), .ref (v 27), .ref (v 28), .int 0, .int 0, .int 0])), ((v 0), .inl (K 0, 4, .inl fw)), ((v 1), .inl (K 0, 4, .inl (fun _ => 0))), ((v 2), .inl (K 3, 240, .inr (.inl (fun _ => 0)))), ((v 4), .inl (K 1, 1400, .inl (fun _ => 0))), ((v 5), .inl (K 0, 5, .inl (fun _ => 0))), ((v 6), .inl (K 0, 40, .inl (fun _ => 0))), ((v 7), .inl (K 0, 50, .inl (fun _ => 0))), ((v 8), .inl (K 0, 60, .inl (fun _ => 0))), ((v 9), .inl (K 0, 480, .inl (fun _ => 0))), ((v 10), .inl (K 0, 600, .inl (fun _ => 0))), ((v 11), .inl (K 2, 3, .inl (fun _ => 0)))] H := hP
  have hD : va_D A [(m0, .inr (12, [.int 0, .ref (v 0), .ref (v 1), .ref (v 2), .ref (v 3), .ref (v 4), .int 0, .int 0, .int 0, .int 0, .int 0, .long 0, .int 0, .int 0, .int 0, .int (-1), .ref (v 5), .ref (v 6), .ref (v 7), .ref (v 8), .ref (v 9), .ref (v 10), .ref (v 11), .ref (v 12), .ref (v 13), .ref (v 14), .ref (v 15), .ref (v 16), .ref (v 17), .ref (v 18), .ref (v 19), .ref (v 20), .int 0, .int 0, .int 0, .int 0, .ref (v 21), .ref (v 22), .ref (v 23), .int 0, .int 0, .ref (v 24), .ref (v 25), .int 0, .int 0, .ref (v 26), .ref (v 27), .ref (v 28), .int 0, .int 0, .int 0])), ((v 0), .inl (K 0, 4, .inl fw)), ((v 1), .inl (K 0, 4, .inl (fun _ => 0))), ((v 2), .inl (K 3, 240, .inr (.inl (fun _ => 0)))), ((v 4), .inl (K 1, 1400, .inl (fun _ => 0))), ((v 5), .inl (K 0, 5, .inl (fun _ => 0))), ((v 6), .inl (K 0, 40, .inl (fun _ => 0))), ((v 7), .inl (K 0, 50, .inl (fun _ => 0))), ((v 8), .inl (K 0, 60, .inl (fun _ => 0))), ((v 9), .inl (K 0, 480, .inl (fun _ => 0))), ((v 10), .inl (K 0, 600, .inl (fun _ => 0))), ((v 11), .inl (K 2, 3, .inl (fun _ => 0)))] := hD
  refine lv_aload_n hx hb dL_law_1367 rfl (lv_at hl 1 rfl) ?_
  refine fn_goi (wc := [(m0, .inr (12, [.int 0, .ref (v 0), .ref (v 1), .ref (v 2), .ref (v 3), .ref (v 4), .int 0, .int 0, .int 0, .int 0, .int 0, .long 0, .int 0, .int 0, .int 0, .int (-1), .ref (v 5), .ref (v 6), .ref (v 7), .ref (v 8), .ref (v 9), .ref (v 10), .ref (v 11), .ref (v 12), .ref (v 13), .ref (v 14), .ref (v 15), .ref (v 16), .ref (v 17), .ref (v 18), .ref (v 19), .ref (v 20), .int 0, .int 0, .int 0, .int 0, .ref (v 21), .ref (v 22), .ref (v 23), .int 0, .int 0, .ref (v 24), .ref (v 25), .int 0, .int 0, .ref (v 26), .ref (v 27), .ref (v 28), .int 0, .int 0, .int 0])), ((v 5), .inl (K 0, 5, .inl (fun _ => 0))), ((v 6), .inl (K 0, 40, .inl (fun _ => 0)))]) (wr := []) hK hP hD hS hA [0, 5, 6] [] rfl rfl (by decide) (fun hp => va_runV (C := RX12) (As := []) (rest := [.int (-2)]) ⟨hx, hb, hml, hown, hts⟩ (c_X12_sends (l := l) (D := D) (K := K) (m0 := (m0)) (fm := ([.int 0, .ref (v 0), .ref (v 1), .ref (v 2), .ref (v 3), .ref (v 4), .int 0, .int 0, .int 0, .int 0, .int 0, .long 0, .int 0, .int 0, .int 0, .int (-1), .ref (v 5), .ref (v 6), .ref (v 7), .ref (v 8), .ref (v 9), .ref (v 10), .ref (v 11), .ref (v 12), .ref (v 13), .ref (v 14), .ref (v 15), .ref (v 16), .ref (v 17), .ref (v 18), .ref (v 19), .ref (v 20), .int 0, .int 0, .int 0, .int 0, .ref (v 21), .ref (v 22), .ref (v 23), .int 0, .int 0, .ref (v 24), .ref (v 25), .int 0, .int 0, .ref (v 26), .ref (v 27), .ref (v 28), .int 0, .int 0, .int 0])) (hmn := rfl) (al := ((v 5))) (hm16 := rfl) (ah := ((v 6))) (hm17 := rfl) (fl := (fun _ => 0)) (hfl := (fun _ => rfl)) (fh := (fun _ => 0)) (hfh := (fun _ => rfl)) _) (cwV 0 hts (fn_ginV (fn_gin wd_1827) wd_1824 wd_1825 wd_1826 wd_13) rfl rfl rfl (by decide +kernel) ⟨Nat.le_of_ble_eq_true rfl, Nat.le_of_ble_eq_true rfl⟩) ⟨fn_blind, va_recv hK.1 hP (ci := 12) (q0 := 0) rfl rfl, hp⟩ rfl rfl hl.1 rfl (lv_room (Nat.le_of_ble_eq_true rfl)) dL_law_1368 ⟨Nat.le_of_ble_eq_true rfl, Nat.le_of_ble_eq_true rfl⟩) (fun r4 u3 H locs hwu3 hP hD hS => ?_)
  have r4_e : r4 = (-2) := hwu3
  subst r4_e
  have hP : va_P D vwCl [] H := hP
  have hD : va_D A [] := hD
  refine lv_icmp_eq (tgt := 1996) hx hb dL_law_1371 (by decide) (fun _ => ?_) (fun h9 => absurd (by decide) h9)
  refine lv_iinc (v := 6) (lv' := [(3, .int 6), (2, .ref m0), (1, .ref x0), (0, .ref b)]) hx hb dL_law_1996 hl (k := 0) rfl (by decide) (by decide) rfl (fun ls hl => ?_)
  refine lv_goto (tgt := 18) hx hb dL_law_1999 (by decide) ?_
  refine lv_iload_n hx hb dL_law_18 rfl (lv_at hl 0 rfl) ?_
  refine lv_aload_n hx hb dL_law_19 rfl (lv_at hl 3 rfl) ?_
  refine va_slen hx hb hX hbl hbA hS dL_law_20 ?_
  refine fn_top 6 (by decide) ?_
  refine lv_bipush (v := 6) hx hb dL_law_21 (by decide) ?_
  refine lv_isub hx hb dL_law_23 ?_
  refine fn_top 0 (by decide) ?_
  refine lv_icmp_gt (tgt := 2002) hx hb dL_law_24 (by decide) (fun _ => ?_) (fun h9 => absurd (by decide) h9)
  refine lv_iconst (v := 1) hx hb dL_law_2002 (by decide) ?_
  refine va_forget (fun q hq => by have h9 := hS.2.2 q hq; rw [← hAe] at h9; exact h9) ?_
  refine W.widen (k := 600000) (n := 7302250) (Nat.le_of_ble_eq_true rfl) (Nat.le_of_ble_eq_true rfl) ?_
  exact lw_ret hx hb hr hlocks dL_law_2003
theorem dL_law_1376 : decode cL_law 1376 = .ok (.aload_n 1, 1) := by decide +kernel
theorem dL_law_1377 : decode cL_law 1377 = .ok (.invokevirtual 194, 3) := by decide +kernel
theorem dL_law_1380 : decode cL_law 1380 = .ok (.aload_n 2, 1) := by decide +kernel
theorem dL_law_1381 : decode cL_law 1381 = .ok (.invokevirtual 197, 3) := by decide +kernel
theorem dL_law_1384 : decode cL_law 1384 = .ok (.if_icmp .eq 612, 3) := by decide +kernel
set_option maxHeartbeats 4000000 in
set_option maxRecDepth 100000 in
theorem law_44 {p : Program} {l : Launch} {e : Env} {s : State} {m : MethodId} {below : List Frame} {meth : Method} {c : Code} {b : Nat} {xs : Nat → Int32} (hx : p.tables.exec = Jvm.exec) (hb : c.code = cL_law) (hr : meth.sig.returnType = ret) (hml : c.maxLocals = 4) (hown : s.vm.findClass RL = some m.cls) (hts : ∀ w ∈ fn_big, w.before #[Value.ref b] s = true) (hX : va_X b 6 xs s s.heap) (hbl : b < s.heap.size) (hlocks : meth.locks = false) {D : va_G} {K : Nat → ClassId} (hK : fn_KK D K s) {x0 m0 : Nat} {u v : Nat → Nat} {fw : Nat → Int32} (hfw : ∀ j, j < 4 → fw j = -1) {A : Nat → Prop} (hAe : (fun q : Nat => s.heap.size ≤ q) = A) : ∀ (H : Heap) (locs : List Loc) (ls : Array Slot), va_P D vwCl (fn_world K x0 m0 u v fw) H → va_D A (fn_world K x0 m0 u v fw) → va_S A s.heap H locs → lv_has ls 4 [(3, .int 0), (2, .ref m0), (1, .ref x0), (0, .ref b)] → W p l e room_1 s m #[Value.ref b] below meth c H locs 144 12710 (lw_Z below #[Value.ref b] s) (F0 m 1376 ls []) := by
  intro H locs ls hP hD hS hl
  have hA : ∀ q : Nat, s.heap.size ≤ q → A q := fun q h => by rw [← hAe]; exact h
  have hbA : ¬ A b := by rw [← hAe]; exact Nat.not_le.mpr hbl
  refine lv_aload_n hx hb dL_law_1376 rfl (lv_at hl 2 rfl) ?_
  refine fn_goi (wc := [(x0, .inr (11, [.ref (u 0), .ref (u 10), .ref (u 17), .ref (u 25), .ref (u 26), .ref (u 27), .ref (u 28), .ref (u 29), .ref (u 34), .ref (u 39), .ref (u 43), .ref (u 51), .ref (u 55)])), ((u 10), .inr (7, [.int 0, .int 0, .int 0, .int 0, .int 0, .int 0, .int 0, .int 0, .int 0, .ref (u 11), .ref (u 12), .ref (u 13), .ref (u 14), .ref (u 15), .ref (u 16)]))]) (wr := [(m0, .inr (12, [.int 0, .ref (v 0), .ref (v 1), .ref (v 2), .ref (v 3), .ref (v 4), .int 0, .int 0, .int 0, .int 0, .int 0, .long 0, .int 0, .int 0, .int 0, .int (-1), .ref (v 5), .ref (v 6), .ref (v 7), .ref (v 8), .ref (v 9), .ref (v 10), .ref (v 11), .ref (v 12), .ref (v 13), .ref (v 14), .ref (v 15), .ref (v 16), .ref (v 17), .ref (v 18), .ref (v 19), .ref (v 20), .int 0, .int 0, .int 0, .int 0, .ref (v 21), .ref (v 22), .ref (v 23), .int 0, .int 0, .ref (v 24), .ref (v 25), .int 0, .int 0, .ref (v 26), .ref (v 27), .ref (v 28), .int 0, .int 0, .int 0])), ((v 0), .inl (K 0, 4, .inl fw)), ((v 1), .inl (K 0, 4, .inl (fun _ => 0))), ((v 2), .inl (K 3, 240, .inr (.inl (fun _ => 0)))), ((v 4), .inl (K 1, 1400, .inl (fun _ => 0))), ((v 5), .inl (K 0, 5, .inl (fun _ => 0))), ((v 6), .inl (K 0, 40, .inl (fun _ => 0))), ((v 7), .inl (K 0, 50, .inl (fun _ => 0))), ((v 8), .inl (K 0, 60, .inl (fun _ => 0))), ((v 9), .inl (K 0, 480, .inl (fun _ => 0))), ((v 10), .inl (K 0, 600, .inl (fun _ => 0))), ((v 11), .inl (K 2, 3, .inl (fun _ => 0)))]) hK hP hD hS hA [0, 11] [88, 89, 90, 91, 92, 93, 94, 95, 96, 97, 98, 99] rfl rfl (by decide) (fun hp => va_runV (C := RX11) (As := []) (rest := []) ⟨hx, hb, hml, hown, hts⟩ (c_X11_orders (l := l) (D := D) (K := K) (x0 := (x0)) (fx := ([.ref (u 0), .ref (u 10), .ref (u 17), .ref (u 25), .ref (u 26), .ref (u 27), .ref (u 28), .ref (u 29), .ref (u 34), .ref (u 39), .ref (u 43), .ref (u 51), .ref (u 55)])) (t0 := ((u 10))) (hx1 := rfl) (ft := ([.int 0, .int 0, .int 0, .int 0, .int 0, .int 0, .int 0, .int 0, .int 0, .ref (u 11), .ref (u 12), .ref (u 13), .ref (u 14), .ref (u 15), .ref (u 16)])) (ht0 := rfl) (ht3 := rfl) (ht4 := rfl) (ht5 := rfl) _) (cwV 0 hts (fn_ginV (fn_gin wd_1058) wd_1055 wd_1056 wd_1057 wd_1) rfl rfl rfl (by decide +kernel) ⟨Nat.le_of_ble_eq_true rfl, Nat.le_of_ble_eq_true rfl⟩) ⟨fn_blind, va_recv hK.1 hP (ci := 11) (q0 := 0) rfl rfl, hp⟩ rfl rfl hl.1 rfl (lv_room (Nat.le_of_ble_eq_true rfl)) dL_law_1377 ⟨Nat.le_of_ble_eq_true rfl, Nat.le_of_ble_eq_true rfl⟩) (fun r2 u1 H locs hwu1 hP hD hS => ?_)
  have r2_e : r2 = (-2) := hwu1
  subst r2_e
  have hP : va_P D vwCl [(m0, .inr (12, [.int 0, .ref (v 0), .ref (v 1), .ref (v 2), .ref (v 3), .ref (v 4), .int 0, .int 0, .int 0, .int 0, .int 0, .long 0, .int 0, .int 0, .int 0, .int (-1), .ref (v 5), .ref (v 6), .ref (v 7), .ref (v 8), .ref (v 9), .ref (v 10), .ref (v 11), .ref (v 12), .ref (v 13), .ref (v 14), .ref (v 15), .ref (v 16), .ref (v 17), .ref (v 18), .ref (v 19), .ref (v 20), .int 0, .int 0, .int 0, .int 0, .ref (v 21), .ref (v 22), .ref (v 23), .int 0, .int 0, .ref (v 24), .ref (v 25), .int 0, .int 0, .ref (v 26), .ref (v 27), .ref (v 28), .int 0, .int 0, .int 0])), ((v 0), .inl (K 0, 4, .inl fw)), ((v 1), .inl (K 0, 4, .inl (fun _ => 0))), ((v 2), .inl (K 3, 240, .inr (.inl (fun _ => 0)))), ((v 4), .inl (K 1, 1400, .inl (fun _ => 0))), ((v 5), .inl (K 0, 5, .inl (fun _ => 0))), ((v 6), .inl (K 0, 40, .inl (fun _ => 0))), ((v 7), .inl (K 0, 50, .inl (fun _ => 0))), ((v 8), .inl (K 0, 60, .inl (fun _ => 0))), ((v 9), .inl (K 0, 480, .inl (fun _ => 0))), ((v 10), .inl (K 0, 600, .inl (fun _ => 0))), ((v 11), .inl (K 2, 3, .inl (fun _ => 0)))] H := hP
  have hD : va_D A [(m0, .inr (12, [.int 0, .ref (v 0), .ref (v 1), .ref (v 2), .ref (v 3), .ref (v 4), .int 0, .int 0, .int 0, .int 0, .int 0, .long 0, .int 0, .int 0, .int 0, .int (-1), .ref (v 5), .ref (v 6), .ref (v 7), .ref (v 8), .ref (v 9), .ref (v 10), .ref (v 11), .ref (v 12), .ref (v 13), .ref (v 14), .ref (v 15), .ref (v 16), .ref (v 17), .ref (v 18), .ref (v 19), .ref (v 20), .int 0, .int 0, .int 0, .int 0, .ref (v 21), .ref (v 22), .ref (v 23), .int 0, .int 0, .ref (v 24), .ref (v 25), .int 0, .int 0, .ref (v 26), .ref (v 27), .ref (v 28), .int 0, .int 0, .int 0])), ((v 0), .inl (K 0, 4, .inl fw)), ((v 1), .inl (K 0, 4, .inl (fun _ => 0))), ((v 2), .inl (K 3, 240, .inr (.inl (fun _ => 0)))), ((v 4), .inl (K 1, 1400, .inl (fun _ => 0))), ((v 5), .inl (K 0, 5, .inl (fun _ => 0))), ((v 6), .inl (K 0, 40, .inl (fun _ => 0))), ((v 7), .inl (K 0, 50, .inl (fun _ => 0))), ((v 8), .inl (K 0, 60, .inl (fun _ => 0))), ((v 9), .inl (K 0, 480, .inl (fun _ => 0))), ((v 10), .inl (K 0, 600, .inl (fun _ => 0))), ((v 11), .inl (K 2, 3, .inl (fun _ => 0)))] := hD
  refine lv_aload_n hx hb dL_law_1380 rfl (lv_at hl 1 rfl) ?_
  refine fn_goi (wc := [(m0, .inr (12, [.int 0, .ref (v 0), .ref (v 1), .ref (v 2), .ref (v 3), .ref (v 4), .int 0, .int 0, .int 0, .int 0, .int 0, .long 0, .int 0, .int 0, .int 0, .int (-1), .ref (v 5), .ref (v 6), .ref (v 7), .ref (v 8), .ref (v 9), .ref (v 10), .ref (v 11), .ref (v 12), .ref (v 13), .ref (v 14), .ref (v 15), .ref (v 16), .ref (v 17), .ref (v 18), .ref (v 19), .ref (v 20), .int 0, .int 0, .int 0, .int 0, .ref (v 21), .ref (v 22), .ref (v 23), .int 0, .int 0, .ref (v 24), .ref (v 25), .int 0, .int 0, .ref (v 26), .ref (v 27), .ref (v 28), .int 0, .int 0, .int 0])), ((v 5), .inl (K 0, 5, .inl (fun _ => 0))), ((v 6), .inl (K 0, 40, .inl (fun _ => 0)))]) (wr := []) hK hP hD hS hA [0, 5, 6] [] rfl rfl (by decide) (fun hp => va_runV (C := RX12) (As := []) (rest := [.int (-2)]) ⟨hx, hb, hml, hown, hts⟩ (c_X12_orders (l := l) (D := D) (K := K) (m0 := (m0)) (fm := ([.int 0, .ref (v 0), .ref (v 1), .ref (v 2), .ref (v 3), .ref (v 4), .int 0, .int 0, .int 0, .int 0, .int 0, .long 0, .int 0, .int 0, .int 0, .int (-1), .ref (v 5), .ref (v 6), .ref (v 7), .ref (v 8), .ref (v 9), .ref (v 10), .ref (v 11), .ref (v 12), .ref (v 13), .ref (v 14), .ref (v 15), .ref (v 16), .ref (v 17), .ref (v 18), .ref (v 19), .ref (v 20), .int 0, .int 0, .int 0, .int 0, .ref (v 21), .ref (v 22), .ref (v 23), .int 0, .int 0, .ref (v 24), .ref (v 25), .int 0, .int 0, .ref (v 26), .ref (v 27), .ref (v 28), .int 0, .int 0, .int 0])) (hmn := rfl) (al := ((v 5))) (hm16 := rfl) (ah := ((v 6))) (hm17 := rfl) (fl := (fun _ => 0)) (hfl := (fun _ => rfl)) (fh := (fun _ => 0)) (hfh := (fun _ => rfl)) _) (cwV 0 hts (fn_ginV (fn_gin wd_1843) wd_1840 wd_1841 wd_1842 wd_13) rfl rfl rfl (by decide +kernel) ⟨Nat.le_of_ble_eq_true rfl, Nat.le_of_ble_eq_true rfl⟩) ⟨fn_blind, va_recv hK.1 hP (ci := 12) (q0 := 0) rfl rfl, hp⟩ rfl rfl hl.1 rfl (lv_room (Nat.le_of_ble_eq_true rfl)) dL_law_1381 ⟨Nat.le_of_ble_eq_true rfl, Nat.le_of_ble_eq_true rfl⟩) (fun r4 u3 H locs hwu3 hP hD hS => ?_)
  have r4_e : r4 = (-2) := hwu3
  subst r4_e
  have hP : va_P D vwCl [] H := hP
  have hD : va_D A [] := hD
  refine lv_icmp_eq (tgt := 1996) hx hb dL_law_1384 (by decide) (fun _ => ?_) (fun h9 => absurd (by decide) h9)
  refine lv_iinc (v := 6) (lv' := [(3, .int 6), (2, .ref m0), (1, .ref x0), (0, .ref b)]) hx hb dL_law_1996 hl (k := 0) rfl (by decide) (by decide) rfl (fun ls hl => ?_)
  refine lv_goto (tgt := 18) hx hb dL_law_1999 (by decide) ?_
  refine lv_iload_n hx hb dL_law_18 rfl (lv_at hl 0 rfl) ?_
  refine lv_aload_n hx hb dL_law_19 rfl (lv_at hl 3 rfl) ?_
  refine va_slen hx hb hX hbl hbA hS dL_law_20 ?_
  refine fn_top 6 (by decide) ?_
  refine lv_bipush (v := 6) hx hb dL_law_21 (by decide) ?_
  refine lv_isub hx hb dL_law_23 ?_
  refine fn_top 0 (by decide) ?_
  refine lv_icmp_gt (tgt := 2002) hx hb dL_law_24 (by decide) (fun _ => ?_) (fun h9 => absurd (by decide) h9)
  refine lv_iconst (v := 1) hx hb dL_law_2002 (by decide) ?_
  refine va_forget (fun q hq => by have h9 := hS.2.2 q hq; rw [← hAe] at h9; exact h9) ?_
  refine W.widen (k := 600000) (n := 7302250) (Nat.le_of_ble_eq_true rfl) (Nat.le_of_ble_eq_true rfl) ?_
  exact lw_ret hx hb hr hlocks dL_law_2003
theorem dL_law_1389 : decode cL_law 1389 = .ok (.aload_n 1, 1) := by decide +kernel
theorem dL_law_1390 : decode cL_law 1390 = .ok (.aload_n 0, 1) := by decide +kernel
theorem dL_law_1391 : decode cL_law 1391 = .ok (.iload_n 3, 1) := by decide +kernel
theorem dL_law_1392 : decode cL_law 1392 = .ok (.iconst 1, 1) := by decide +kernel
theorem dL_law_1393 : decode cL_law 1393 = .ok (.iadd, 1) := by decide +kernel
theorem dL_law_1394 : decode cL_law 1394 = .ok (.iaload, 1) := by decide +kernel
theorem dL_law_1395 : decode cL_law 1395 = .ok (.invokevirtual 198, 3) := by decide +kernel
theorem dL_law_1398 : decode cL_law 1398 = .ok (.aload_n 2, 1) := by decide +kernel
theorem dL_law_1399 : decode cL_law 1399 = .ok (.aload_n 0, 1) := by decide +kernel
theorem dL_law_1400 : decode cL_law 1400 = .ok (.iload_n 3, 1) := by decide +kernel
theorem dL_law_1401 : decode cL_law 1401 = .ok (.iconst 1, 1) := by decide +kernel
theorem dL_law_1402 : decode cL_law 1402 = .ok (.iadd, 1) := by decide +kernel
theorem dL_law_1403 : decode cL_law 1403 = .ok (.iaload, 1) := by decide +kernel
theorem dL_law_1404 : decode cL_law 1404 = .ok (.invokevirtual 201, 3) := by decide +kernel
theorem dL_law_1407 : decode cL_law 1407 = .ok (.if_icmp .eq 589, 3) := by decide +kernel
set_option maxHeartbeats 4000000 in
set_option maxRecDepth 100000 in
theorem law_45 {p : Program} {l : Launch} {e : Env} {s : State} {m : MethodId} {below : List Frame} {meth : Method} {c : Code} {b : Nat} {xs : Nat → Int32} (hx : p.tables.exec = Jvm.exec) (hb : c.code = cL_law) (hr : meth.sig.returnType = ret) (hml : c.maxLocals = 4) (hown : s.vm.findClass RL = some m.cls) (hts : ∀ w ∈ fn_big, w.before #[Value.ref b] s = true) (hX : va_X b 6 xs s s.heap) (hbl : b < s.heap.size) (hlocks : meth.locks = false) {D : va_G} {K : Nat → ClassId} (hK : fn_KK D K s) {x0 m0 : Nat} {u v : Nat → Nat} {fw : Nat → Int32} (hfw : ∀ j, j < 4 → fw j = -1) {A : Nat → Prop} (hAe : (fun q : Nat => s.heap.size ≤ q) = A) : ∀ (H : Heap) (locs : List Loc) (ls : Array Slot), va_P D vwCl (fn_world K x0 m0 u v fw) H → va_D A (fn_world K x0 m0 u v fw) → va_S A s.heap H locs → lv_has ls 4 [(3, .int 0), (2, .ref m0), (1, .ref x0), (0, .ref b)] → W p l e room_1 s m #[Value.ref b] below meth c H locs 144 12710 (lw_Z below #[Value.ref b] s) (F0 m 1389 ls []) := by
  intro H locs ls hP hD hS hl
  have hA : ∀ q : Nat, s.heap.size ≤ q → A q := fun q h => by rw [← hAe]; exact h
  have hbA : ¬ A b := by rw [← hAe]; exact Nat.not_le.mpr hbl
  refine lv_aload_n hx hb dL_law_1389 rfl (lv_at hl 2 rfl) ?_
  refine lv_aload_n hx hb dL_law_1390 rfl (lv_at hl 3 rfl) ?_
  refine lv_iload_n hx hb dL_law_1391 rfl (lv_at hl 0 rfl) ?_
  refine lv_iconst (v := 1) hx hb dL_law_1392 (by decide) ?_
  refine lv_iadd hx hb dL_law_1393 ?_
  refine fn_top 1 (by decide) ?_
  refine va_sld hx hb hX hbl hbA hS (by unfold vp_in; decide) dL_law_1394 ?_
  refine fn_top (xs 1) (congrArg xs (by decide)) ?_
  refine fn_goi (wc := [(x0, .inr (11, [.ref (u 0), .ref (u 10), .ref (u 17), .ref (u 25), .ref (u 26), .ref (u 27), .ref (u 28), .ref (u 29), .ref (u 34), .ref (u 39), .ref (u 43), .ref (u 51), .ref (u 55)])), ((u 10), .inr (7, [.int 0, .int 0, .int 0, .int 0, .int 0, .int 0, .int 0, .int 0, .int 0, .ref (u 11), .ref (u 12), .ref (u 13), .ref (u 14), .ref (u 15), .ref (u 16)]))]) (wr := [(m0, .inr (12, [.int 0, .ref (v 0), .ref (v 1), .ref (v 2), .ref (v 3), .ref (v 4), .int 0, .int 0, .int 0, .int 0, .int 0, .long 0, .int 0, .int 0, .int 0, .int (-1), .ref (v 5), .ref (v 6), .ref (v 7), .ref (v 8), .ref (v 9), .ref (v 10), .ref (v 11), .ref (v 12), .ref (v 13), .ref (v 14), .ref (v 15), .ref (v 16), .ref (v 17), .ref (v 18), .ref (v 19), .ref (v 20), .int 0, .int 0, .int 0, .int 0, .ref (v 21), .ref (v 22), .ref (v 23), .int 0, .int 0, .ref (v 24), .ref (v 25), .int 0, .int 0, .ref (v 26), .ref (v 27), .ref (v 28), .int 0, .int 0, .int 0])), ((v 0), .inl (K 0, 4, .inl fw)), ((v 1), .inl (K 0, 4, .inl (fun _ => 0))), ((v 2), .inl (K 3, 240, .inr (.inl (fun _ => 0)))), ((v 4), .inl (K 1, 1400, .inl (fun _ => 0))), ((v 5), .inl (K 0, 5, .inl (fun _ => 0))), ((v 6), .inl (K 0, 40, .inl (fun _ => 0))), ((v 7), .inl (K 0, 50, .inl (fun _ => 0))), ((v 8), .inl (K 0, 60, .inl (fun _ => 0))), ((v 9), .inl (K 0, 480, .inl (fun _ => 0))), ((v 10), .inl (K 0, 600, .inl (fun _ => 0))), ((v 11), .inl (K 2, 3, .inl (fun _ => 0)))]) hK hP hD hS hA [0, 11] [88, 89, 90, 91, 92, 93, 94, 95, 96, 97, 98, 99] rfl rfl (by decide) (fun hp => va_runV (C := RX11) (As := [.int (xs 1)]) (rest := []) ⟨hx, hb, hml, hown, hts⟩ (c_X11_earliest (l := l) (D := D) (K := K) (x0 := (x0)) (p0 := ((xs 1))) (fx := ([.ref (u 0), .ref (u 10), .ref (u 17), .ref (u 25), .ref (u 26), .ref (u 27), .ref (u 28), .ref (u 29), .ref (u 34), .ref (u 39), .ref (u 43), .ref (u 51), .ref (u 55)])) (t0 := ((u 10))) (hx1 := rfl) (ft := ([.int 0, .int 0, .int 0, .int 0, .int 0, .int 0, .int 0, .int 0, .int 0, .ref (u 11), .ref (u 12), .ref (u 13), .ref (u 14), .ref (u 15), .ref (u 16)])) (ht0 := rfl) (ht3 := rfl) (ht4 := rfl) (ht5 := rfl) _) (cwV 1 hts (fn_ginV (fn_gin wd_1062) wd_1059 wd_1060 wd_1061 wd_1) rfl rfl rfl (by decide +kernel) ⟨Nat.le_of_ble_eq_true rfl, Nat.le_of_ble_eq_true rfl⟩) ⟨fn_blind, va_recv hK.1 hP (ci := 11) (q0 := 0) rfl rfl, hp⟩ rfl rfl hl.1 rfl (lv_room (Nat.le_of_ble_eq_true rfl)) dL_law_1395 ⟨Nat.le_of_ble_eq_true rfl, Nat.le_of_ble_eq_true rfl⟩) (fun r2 u1 H locs hwu1 hP hD hS => ?_)
  have r2_e : r2 = (-2) := hwu1
  subst r2_e
  have hP : va_P D vwCl [(m0, .inr (12, [.int 0, .ref (v 0), .ref (v 1), .ref (v 2), .ref (v 3), .ref (v 4), .int 0, .int 0, .int 0, .int 0, .int 0, .long 0, .int 0, .int 0, .int 0, .int (-1), .ref (v 5), .ref (v 6), .ref (v 7), .ref (v 8), .ref (v 9), .ref (v 10), .ref (v 11), .ref (v 12), .ref (v 13), .ref (v 14), .ref (v 15), .ref (v 16), .ref (v 17), .ref (v 18), .ref (v 19), .ref (v 20), .int 0, .int 0, .int 0, .int 0, .ref (v 21), .ref (v 22), .ref (v 23), .int 0, .int 0, .ref (v 24), .ref (v 25), .int 0, .int 0, .ref (v 26), .ref (v 27), .ref (v 28), .int 0, .int 0, .int 0])), ((v 0), .inl (K 0, 4, .inl fw)), ((v 1), .inl (K 0, 4, .inl (fun _ => 0))), ((v 2), .inl (K 3, 240, .inr (.inl (fun _ => 0)))), ((v 4), .inl (K 1, 1400, .inl (fun _ => 0))), ((v 5), .inl (K 0, 5, .inl (fun _ => 0))), ((v 6), .inl (K 0, 40, .inl (fun _ => 0))), ((v 7), .inl (K 0, 50, .inl (fun _ => 0))), ((v 8), .inl (K 0, 60, .inl (fun _ => 0))), ((v 9), .inl (K 0, 480, .inl (fun _ => 0))), ((v 10), .inl (K 0, 600, .inl (fun _ => 0))), ((v 11), .inl (K 2, 3, .inl (fun _ => 0)))] H := hP
  have hD : va_D A [(m0, .inr (12, [.int 0, .ref (v 0), .ref (v 1), .ref (v 2), .ref (v 3), .ref (v 4), .int 0, .int 0, .int 0, .int 0, .int 0, .long 0, .int 0, .int 0, .int 0, .int (-1), .ref (v 5), .ref (v 6), .ref (v 7), .ref (v 8), .ref (v 9), .ref (v 10), .ref (v 11), .ref (v 12), .ref (v 13), .ref (v 14), .ref (v 15), .ref (v 16), .ref (v 17), .ref (v 18), .ref (v 19), .ref (v 20), .int 0, .int 0, .int 0, .int 0, .ref (v 21), .ref (v 22), .ref (v 23), .int 0, .int 0, .ref (v 24), .ref (v 25), .int 0, .int 0, .ref (v 26), .ref (v 27), .ref (v 28), .int 0, .int 0, .int 0])), ((v 0), .inl (K 0, 4, .inl fw)), ((v 1), .inl (K 0, 4, .inl (fun _ => 0))), ((v 2), .inl (K 3, 240, .inr (.inl (fun _ => 0)))), ((v 4), .inl (K 1, 1400, .inl (fun _ => 0))), ((v 5), .inl (K 0, 5, .inl (fun _ => 0))), ((v 6), .inl (K 0, 40, .inl (fun _ => 0))), ((v 7), .inl (K 0, 50, .inl (fun _ => 0))), ((v 8), .inl (K 0, 60, .inl (fun _ => 0))), ((v 9), .inl (K 0, 480, .inl (fun _ => 0))), ((v 10), .inl (K 0, 600, .inl (fun _ => 0))), ((v 11), .inl (K 2, 3, .inl (fun _ => 0)))] := hD
  refine lv_aload_n hx hb dL_law_1398 rfl (lv_at hl 1 rfl) ?_
  refine lv_aload_n hx hb dL_law_1399 rfl (lv_at hl 3 rfl) ?_
  refine lv_iload_n hx hb dL_law_1400 rfl (lv_at hl 0 rfl) ?_
  refine lv_iconst (v := 1) hx hb dL_law_1401 (by decide) ?_
  refine lv_iadd hx hb dL_law_1402 ?_
  refine fn_top 1 (by decide) ?_
  refine va_sld hx hb hX hbl hbA hS (by unfold vp_in; decide) dL_law_1403 ?_
  refine fn_top (xs 1) (congrArg xs (by decide)) ?_
  refine fn_goi (wc := [(m0, .inr (12, [.int 0, .ref (v 0), .ref (v 1), .ref (v 2), .ref (v 3), .ref (v 4), .int 0, .int 0, .int 0, .int 0, .int 0, .long 0, .int 0, .int 0, .int 0, .int (-1), .ref (v 5), .ref (v 6), .ref (v 7), .ref (v 8), .ref (v 9), .ref (v 10), .ref (v 11), .ref (v 12), .ref (v 13), .ref (v 14), .ref (v 15), .ref (v 16), .ref (v 17), .ref (v 18), .ref (v 19), .ref (v 20), .int 0, .int 0, .int 0, .int 0, .ref (v 21), .ref (v 22), .ref (v 23), .int 0, .int 0, .ref (v 24), .ref (v 25), .int 0, .int 0, .ref (v 26), .ref (v 27), .ref (v 28), .int 0, .int 0, .int 0])), ((v 5), .inl (K 0, 5, .inl (fun _ => 0))), ((v 6), .inl (K 0, 40, .inl (fun _ => 0)))]) (wr := []) hK hP hD hS hA [0, 5, 6] [] rfl rfl (by decide) (fun hp => va_runV (C := RX12) (As := [.int (xs 1)]) (rest := [.int (-2)]) ⟨hx, hb, hml, hown, hts⟩ (c_X12_earliest (l := l) (D := D) (K := K) (m0 := (m0)) (p0 := ((xs 1))) (fm := ([.int 0, .ref (v 0), .ref (v 1), .ref (v 2), .ref (v 3), .ref (v 4), .int 0, .int 0, .int 0, .int 0, .int 0, .long 0, .int 0, .int 0, .int 0, .int (-1), .ref (v 5), .ref (v 6), .ref (v 7), .ref (v 8), .ref (v 9), .ref (v 10), .ref (v 11), .ref (v 12), .ref (v 13), .ref (v 14), .ref (v 15), .ref (v 16), .ref (v 17), .ref (v 18), .ref (v 19), .ref (v 20), .int 0, .int 0, .int 0, .int 0, .ref (v 21), .ref (v 22), .ref (v 23), .int 0, .int 0, .ref (v 24), .ref (v 25), .int 0, .int 0, .ref (v 26), .ref (v 27), .ref (v 28), .int 0, .int 0, .int 0])) (hmn := rfl) (al := ((v 5))) (hm16 := rfl) (ah := ((v 6))) (hm17 := rfl) (fl := (fun _ => 0)) (hfl := (fun _ => rfl)) (fh := (fun _ => 0)) (hfh := (fun _ => rfl)) _) (cwV 1 hts (fn_ginV (fn_gin wd_1847) wd_1844 wd_1845 wd_1846 wd_13) rfl rfl rfl (by decide +kernel) ⟨Nat.le_of_ble_eq_true rfl, Nat.le_of_ble_eq_true rfl⟩) ⟨fn_blind, va_recv hK.1 hP (ci := 12) (q0 := 0) rfl rfl, hp⟩ rfl rfl hl.1 rfl (lv_room (Nat.le_of_ble_eq_true rfl)) dL_law_1404 ⟨Nat.le_of_ble_eq_true rfl, Nat.le_of_ble_eq_true rfl⟩) (fun r4 u3 H locs hwu3 hP hD hS => ?_)
  have r4_e : r4 = (-2) := hwu3
  subst r4_e
  have hP : va_P D vwCl [] H := hP
  have hD : va_D A [] := hD
  refine lv_icmp_eq (tgt := 1996) hx hb dL_law_1407 (by decide) (fun _ => ?_) (fun h9 => absurd (by decide) h9)
  refine lv_iinc (v := 6) (lv' := [(3, .int 6), (2, .ref m0), (1, .ref x0), (0, .ref b)]) hx hb dL_law_1996 hl (k := 0) rfl (by decide) (by decide) rfl (fun ls hl => ?_)
  refine lv_goto (tgt := 18) hx hb dL_law_1999 (by decide) ?_
  refine lv_iload_n hx hb dL_law_18 rfl (lv_at hl 0 rfl) ?_
  refine lv_aload_n hx hb dL_law_19 rfl (lv_at hl 3 rfl) ?_
  refine fn_at 20 rfl ?_
  refine va_slen hx hb hX hbl hbA hS dL_law_20 ?_
  refine fn_top 6 (by decide) ?_
  refine lv_bipush (v := 6) hx hb dL_law_21 (by decide) ?_
  refine lv_isub hx hb dL_law_23 ?_
  refine fn_top 0 (by decide) ?_
  refine lv_icmp_gt (tgt := 2002) hx hb dL_law_24 (by decide) (fun _ => ?_) (fun h9 => absurd (by decide) h9)
  refine lv_iconst (v := 1) hx hb dL_law_2002 (by decide) ?_
  refine va_forget (fun q hq => by have h9 := hS.2.2 q hq; rw [← hAe] at h9; exact h9) ?_
  refine W.widen (k := 600000) (n := 7302250) (Nat.le_of_ble_eq_true rfl) (Nat.le_of_ble_eq_true rfl) ?_
  exact lw_ret hx hb hr hlocks dL_law_2003
theorem dL_law_1412 : decode cL_law 1412 = .ok (.aload_n 1, 1) := by decide +kernel
theorem dL_law_1413 : decode cL_law 1413 = .ok (.aload_n 0, 1) := by decide +kernel
theorem dL_law_1414 : decode cL_law 1414 = .ok (.iload_n 3, 1) := by decide +kernel
theorem dL_law_1415 : decode cL_law 1415 = .ok (.iconst 1, 1) := by decide +kernel
theorem dL_law_1416 : decode cL_law 1416 = .ok (.iadd, 1) := by decide +kernel
theorem dL_law_1417 : decode cL_law 1417 = .ok (.iaload, 1) := by decide +kernel
theorem dL_law_1418 : decode cL_law 1418 = .ok (.aload_n 0, 1) := by decide +kernel
theorem dL_law_1419 : decode cL_law 1419 = .ok (.iload_n 3, 1) := by decide +kernel
theorem dL_law_1420 : decode cL_law 1420 = .ok (.iconst 2, 1) := by decide +kernel
theorem dL_law_1421 : decode cL_law 1421 = .ok (.iadd, 1) := by decide +kernel
theorem dL_law_1422 : decode cL_law 1422 = .ok (.iaload, 1) := by decide +kernel
theorem dL_law_1423 : decode cL_law 1423 = .ok (.invokevirtual 202, 3) := by decide +kernel
theorem dL_law_1426 : decode cL_law 1426 = .ok (.aload_n 2, 1) := by decide +kernel
theorem dL_law_1427 : decode cL_law 1427 = .ok (.aload_n 0, 1) := by decide +kernel
theorem dL_law_1428 : decode cL_law 1428 = .ok (.iload_n 3, 1) := by decide +kernel
theorem dL_law_1429 : decode cL_law 1429 = .ok (.iconst 1, 1) := by decide +kernel
theorem dL_law_1430 : decode cL_law 1430 = .ok (.iadd, 1) := by decide +kernel
theorem dL_law_1431 : decode cL_law 1431 = .ok (.iaload, 1) := by decide +kernel
theorem dL_law_1432 : decode cL_law 1432 = .ok (.aload_n 0, 1) := by decide +kernel
theorem dL_law_1433 : decode cL_law 1433 = .ok (.iload_n 3, 1) := by decide +kernel
theorem dL_law_1434 : decode cL_law 1434 = .ok (.iconst 2, 1) := by decide +kernel
theorem dL_law_1435 : decode cL_law 1435 = .ok (.iadd, 1) := by decide +kernel
theorem dL_law_1436 : decode cL_law 1436 = .ok (.iaload, 1) := by decide +kernel
theorem dL_law_1437 : decode cL_law 1437 = .ok (.invokevirtual 205, 3) := by decide +kernel
theorem dL_law_1440 : decode cL_law 1440 = .ok (.if_icmp .eq 556, 3) := by decide +kernel
set_option maxHeartbeats 4000000 in
set_option maxRecDepth 100000 in
theorem law_46 {p : Program} {l : Launch} {e : Env} {s : State} {m : MethodId} {below : List Frame} {meth : Method} {c : Code} {b : Nat} {xs : Nat → Int32} (hx : p.tables.exec = Jvm.exec) (hb : c.code = cL_law) (hr : meth.sig.returnType = ret) (hml : c.maxLocals = 4) (hown : s.vm.findClass RL = some m.cls) (hts : ∀ w ∈ fn_big, w.before #[Value.ref b] s = true) (hX : va_X b 6 xs s s.heap) (hbl : b < s.heap.size) (hlocks : meth.locks = false) {D : va_G} {K : Nat → ClassId} (hK : fn_KK D K s) {x0 m0 : Nat} {u v : Nat → Nat} {fw : Nat → Int32} (hfw : ∀ j, j < 4 → fw j = -1) {A : Nat → Prop} (hAe : (fun q : Nat => s.heap.size ≤ q) = A) : ∀ (H : Heap) (locs : List Loc) (ls : Array Slot), va_P D vwCl (fn_world K x0 m0 u v fw) H → va_D A (fn_world K x0 m0 u v fw) → va_S A s.heap H locs → lv_has ls 4 [(3, .int 0), (2, .ref m0), (1, .ref x0), (0, .ref b)] → W p l e room_1 s m #[Value.ref b] below meth c H locs 144 12710 (lw_Z below #[Value.ref b] s) (F0 m 1412 ls []) := by
  intro H locs ls hP hD hS hl
  have hA : ∀ q : Nat, s.heap.size ≤ q → A q := fun q h => by rw [← hAe]; exact h
  have hbA : ¬ A b := by rw [← hAe]; exact Nat.not_le.mpr hbl
  refine lv_aload_n hx hb dL_law_1412 rfl (lv_at hl 2 rfl) ?_
  refine lv_aload_n hx hb dL_law_1413 rfl (lv_at hl 3 rfl) ?_
  refine lv_iload_n hx hb dL_law_1414 rfl (lv_at hl 0 rfl) ?_
  refine lv_iconst (v := 1) hx hb dL_law_1415 (by decide) ?_
  refine lv_iadd hx hb dL_law_1416 ?_
  refine fn_top 1 (by decide) ?_
  refine va_sld hx hb hX hbl hbA hS (by unfold vp_in; decide) dL_law_1417 ?_
  refine fn_top (xs 1) (congrArg xs (by decide)) ?_
  refine lv_aload_n hx hb dL_law_1418 rfl (lv_at hl 3 rfl) ?_
  refine lv_iload_n hx hb dL_law_1419 rfl (lv_at hl 0 rfl) ?_
  refine lv_iconst (v := 2) hx hb dL_law_1420 (by decide) ?_
  refine lv_iadd hx hb dL_law_1421 ?_
  refine fn_top 2 (by decide) ?_
  refine va_sld hx hb hX hbl hbA hS (by unfold vp_in; decide) dL_law_1422 ?_
  refine fn_top (xs 2) (congrArg xs (by decide)) ?_
  refine fn_goi (wc := [(x0, .inr (11, [.ref (u 0), .ref (u 10), .ref (u 17), .ref (u 25), .ref (u 26), .ref (u 27), .ref (u 28), .ref (u 29), .ref (u 34), .ref (u 39), .ref (u 43), .ref (u 51), .ref (u 55)])), ((u 10), .inr (7, [.int 0, .int 0, .int 0, .int 0, .int 0, .int 0, .int 0, .int 0, .int 0, .ref (u 11), .ref (u 12), .ref (u 13), .ref (u 14), .ref (u 15), .ref (u 16)]))]) (wr := [(m0, .inr (12, [.int 0, .ref (v 0), .ref (v 1), .ref (v 2), .ref (v 3), .ref (v 4), .int 0, .int 0, .int 0, .int 0, .int 0, .long 0, .int 0, .int 0, .int 0, .int (-1), .ref (v 5), .ref (v 6), .ref (v 7), .ref (v 8), .ref (v 9), .ref (v 10), .ref (v 11), .ref (v 12), .ref (v 13), .ref (v 14), .ref (v 15), .ref (v 16), .ref (v 17), .ref (v 18), .ref (v 19), .ref (v 20), .int 0, .int 0, .int 0, .int 0, .ref (v 21), .ref (v 22), .ref (v 23), .int 0, .int 0, .ref (v 24), .ref (v 25), .int 0, .int 0, .ref (v 26), .ref (v 27), .ref (v 28), .int 0, .int 0, .int 0])), ((v 0), .inl (K 0, 4, .inl fw)), ((v 1), .inl (K 0, 4, .inl (fun _ => 0))), ((v 2), .inl (K 3, 240, .inr (.inl (fun _ => 0)))), ((v 4), .inl (K 1, 1400, .inl (fun _ => 0))), ((v 5), .inl (K 0, 5, .inl (fun _ => 0))), ((v 6), .inl (K 0, 40, .inl (fun _ => 0))), ((v 7), .inl (K 0, 50, .inl (fun _ => 0))), ((v 8), .inl (K 0, 60, .inl (fun _ => 0))), ((v 9), .inl (K 0, 480, .inl (fun _ => 0))), ((v 10), .inl (K 0, 600, .inl (fun _ => 0))), ((v 11), .inl (K 2, 3, .inl (fun _ => 0)))]) hK hP hD hS hA [0, 11] [88, 89, 90, 91, 92, 93, 94, 95, 96, 97, 98, 99] rfl rfl (by decide) (fun hp => va_runV (C := RX11) (As := [.int (xs 1), .int (xs 2)]) (rest := []) ⟨hx, hb, hml, hown, hts⟩ (c_X11_worth (l := l) (D := D) (K := K) (x0 := (x0)) (p0 := ((xs 1))) (p1 := ((xs 2))) (fx := ([.ref (u 0), .ref (u 10), .ref (u 17), .ref (u 25), .ref (u 26), .ref (u 27), .ref (u 28), .ref (u 29), .ref (u 34), .ref (u 39), .ref (u 43), .ref (u 51), .ref (u 55)])) (t0 := ((u 10))) (hx1 := rfl) (ft := ([.int 0, .int 0, .int 0, .int 0, .int 0, .int 0, .int 0, .int 0, .int 0, .ref (u 11), .ref (u 12), .ref (u 13), .ref (u 14), .ref (u 15), .ref (u 16)])) (ht0 := rfl) (ht3 := rfl) (ht4 := rfl) (ht5 := rfl) _) (cwV 2 hts (fn_ginV (fn_gin wd_1066) wd_1063 wd_1064 wd_1065 wd_1) rfl rfl rfl (by decide +kernel) ⟨Nat.le_of_ble_eq_true rfl, Nat.le_of_ble_eq_true rfl⟩) ⟨fn_blind, va_recv hK.1 hP (ci := 11) (q0 := 0) rfl rfl, hp⟩ rfl rfl hl.1 rfl (lv_room (Nat.le_of_ble_eq_true rfl)) dL_law_1423 ⟨Nat.le_of_ble_eq_true rfl, Nat.le_of_ble_eq_true rfl⟩) (fun r2 u1 H locs hwu1 hP hD hS => ?_)
  have r2_e : r2 = (-2) := hwu1
  subst r2_e
  have hP : va_P D vwCl [(m0, .inr (12, [.int 0, .ref (v 0), .ref (v 1), .ref (v 2), .ref (v 3), .ref (v 4), .int 0, .int 0, .int 0, .int 0, .int 0, .long 0, .int 0, .int 0, .int 0, .int (-1), .ref (v 5), .ref (v 6), .ref (v 7), .ref (v 8), .ref (v 9), .ref (v 10), .ref (v 11), .ref (v 12), .ref (v 13), .ref (v 14), .ref (v 15), .ref (v 16), .ref (v 17), .ref (v 18), .ref (v 19), .ref (v 20), .int 0, .int 0, .int 0, .int 0, .ref (v 21), .ref (v 22), .ref (v 23), .int 0, .int 0, .ref (v 24), .ref (v 25), .int 0, .int 0, .ref (v 26), .ref (v 27), .ref (v 28), .int 0, .int 0, .int 0])), ((v 0), .inl (K 0, 4, .inl fw)), ((v 1), .inl (K 0, 4, .inl (fun _ => 0))), ((v 2), .inl (K 3, 240, .inr (.inl (fun _ => 0)))), ((v 4), .inl (K 1, 1400, .inl (fun _ => 0))), ((v 5), .inl (K 0, 5, .inl (fun _ => 0))), ((v 6), .inl (K 0, 40, .inl (fun _ => 0))), ((v 7), .inl (K 0, 50, .inl (fun _ => 0))), ((v 8), .inl (K 0, 60, .inl (fun _ => 0))), ((v 9), .inl (K 0, 480, .inl (fun _ => 0))), ((v 10), .inl (K 0, 600, .inl (fun _ => 0))), ((v 11), .inl (K 2, 3, .inl (fun _ => 0)))] H := hP
  have hD : va_D A [(m0, .inr (12, [.int 0, .ref (v 0), .ref (v 1), .ref (v 2), .ref (v 3), .ref (v 4), .int 0, .int 0, .int 0, .int 0, .int 0, .long 0, .int 0, .int 0, .int 0, .int (-1), .ref (v 5), .ref (v 6), .ref (v 7), .ref (v 8), .ref (v 9), .ref (v 10), .ref (v 11), .ref (v 12), .ref (v 13), .ref (v 14), .ref (v 15), .ref (v 16), .ref (v 17), .ref (v 18), .ref (v 19), .ref (v 20), .int 0, .int 0, .int 0, .int 0, .ref (v 21), .ref (v 22), .ref (v 23), .int 0, .int 0, .ref (v 24), .ref (v 25), .int 0, .int 0, .ref (v 26), .ref (v 27), .ref (v 28), .int 0, .int 0, .int 0])), ((v 0), .inl (K 0, 4, .inl fw)), ((v 1), .inl (K 0, 4, .inl (fun _ => 0))), ((v 2), .inl (K 3, 240, .inr (.inl (fun _ => 0)))), ((v 4), .inl (K 1, 1400, .inl (fun _ => 0))), ((v 5), .inl (K 0, 5, .inl (fun _ => 0))), ((v 6), .inl (K 0, 40, .inl (fun _ => 0))), ((v 7), .inl (K 0, 50, .inl (fun _ => 0))), ((v 8), .inl (K 0, 60, .inl (fun _ => 0))), ((v 9), .inl (K 0, 480, .inl (fun _ => 0))), ((v 10), .inl (K 0, 600, .inl (fun _ => 0))), ((v 11), .inl (K 2, 3, .inl (fun _ => 0)))] := hD
  refine lv_aload_n hx hb dL_law_1426 rfl (lv_at hl 1 rfl) ?_
  refine lv_aload_n hx hb dL_law_1427 rfl (lv_at hl 3 rfl) ?_
  refine lv_iload_n hx hb dL_law_1428 rfl (lv_at hl 0 rfl) ?_
  refine lv_iconst (v := 1) hx hb dL_law_1429 (by decide) ?_
  refine lv_iadd hx hb dL_law_1430 ?_
  refine fn_top 1 (by decide) ?_
  refine va_sld hx hb hX hbl hbA hS (by unfold vp_in; decide) dL_law_1431 ?_
  refine fn_top (xs 1) (congrArg xs (by decide)) ?_
  refine lv_aload_n hx hb dL_law_1432 rfl (lv_at hl 3 rfl) ?_
  refine fn_at 1433 rfl ?_
  refine lv_iload_n hx hb dL_law_1433 rfl (lv_at hl 0 rfl) ?_
  refine lv_iconst (v := 2) hx hb dL_law_1434 (by decide) ?_
  refine lv_iadd hx hb dL_law_1435 ?_
  refine fn_top 2 (by decide) ?_
  refine va_sld hx hb hX hbl hbA hS (by unfold vp_in; decide) dL_law_1436 ?_
  refine fn_top (xs 2) (congrArg xs (by decide)) ?_
  refine fn_goi (wc := [(m0, .inr (12, [.int 0, .ref (v 0), .ref (v 1), .ref (v 2), .ref (v 3), .ref (v 4), .int 0, .int 0, .int 0, .int 0, .int 0, .long 0, .int 0, .int 0, .int 0, .int (-1), .ref (v 5), .ref (v 6), .ref (v 7), .ref (v 8), .ref (v 9), .ref (v 10), .ref (v 11), .ref (v 12), .ref (v 13), .ref (v 14), .ref (v 15), .ref (v 16), .ref (v 17), .ref (v 18), .ref (v 19), .ref (v 20), .int 0, .int 0, .int 0, .int 0, .ref (v 21), .ref (v 22), .ref (v 23), .int 0, .int 0, .ref (v 24), .ref (v 25), .int 0, .int 0, .ref (v 26), .ref (v 27), .ref (v 28), .int 0, .int 0, .int 0])), ((v 5), .inl (K 0, 5, .inl (fun _ => 0))), ((v 6), .inl (K 0, 40, .inl (fun _ => 0)))]) (wr := []) hK hP hD hS hA [0, 5, 6] [] rfl rfl (by decide) (fun hp => va_runV (C := RX12) (As := [.int (xs 1), .int (xs 2)]) (rest := [.int (-2)]) ⟨hx, hb, hml, hown, hts⟩ (c_X12_worth (l := l) (D := D) (K := K) (m0 := (m0)) (p0 := ((xs 1))) (p1 := ((xs 2))) (fm := ([.int 0, .ref (v 0), .ref (v 1), .ref (v 2), .ref (v 3), .ref (v 4), .int 0, .int 0, .int 0, .int 0, .int 0, .long 0, .int 0, .int 0, .int 0, .int (-1), .ref (v 5), .ref (v 6), .ref (v 7), .ref (v 8), .ref (v 9), .ref (v 10), .ref (v 11), .ref (v 12), .ref (v 13), .ref (v 14), .ref (v 15), .ref (v 16), .ref (v 17), .ref (v 18), .ref (v 19), .ref (v 20), .int 0, .int 0, .int 0, .int 0, .ref (v 21), .ref (v 22), .ref (v 23), .int 0, .int 0, .ref (v 24), .ref (v 25), .int 0, .int 0, .ref (v 26), .ref (v 27), .ref (v 28), .int 0, .int 0, .int 0])) (hmn := rfl) (al := ((v 5))) (hm16 := rfl) (ah := ((v 6))) (hm17 := rfl) (fl := (fun _ => 0)) (hfl := (fun _ => rfl)) (fh := (fun _ => 0)) (hfh := (fun _ => rfl)) _) (cwV 2 hts (fn_ginV (fn_gin wd_1851) wd_1848 wd_1849 wd_1850 wd_13) rfl rfl rfl (by decide +kernel) ⟨Nat.le_of_ble_eq_true rfl, Nat.le_of_ble_eq_true rfl⟩) ⟨fn_blind, va_recv hK.1 hP (ci := 12) (q0 := 0) rfl rfl, hp⟩ rfl rfl hl.1 rfl (lv_room (Nat.le_of_ble_eq_true rfl)) dL_law_1437 ⟨Nat.le_of_ble_eq_true rfl, Nat.le_of_ble_eq_true rfl⟩) (fun r4 u3 H locs hwu3 hP hD hS => ?_)
  have r4_e : r4 = (-2) := hwu3
  subst r4_e
  have hP : va_P D vwCl [] H := hP
  have hD : va_D A [] := hD
  refine lv_icmp_eq (tgt := 1996) hx hb dL_law_1440 (by decide) (fun _ => ?_) (fun h9 => absurd (by decide) h9)
  refine lv_iinc (v := 6) (lv' := [(3, .int 6), (2, .ref m0), (1, .ref x0), (0, .ref b)]) hx hb dL_law_1996 hl (k := 0) rfl (by decide) (by decide) rfl (fun ls hl => ?_)
  refine lv_goto (tgt := 18) hx hb dL_law_1999 (by decide) ?_
  refine lv_iload_n hx hb dL_law_18 rfl (lv_at hl 0 rfl) ?_
  refine lv_aload_n hx hb dL_law_19 rfl (lv_at hl 3 rfl) ?_
  refine va_slen hx hb hX hbl hbA hS dL_law_20 ?_
  refine fn_top 6 (by decide) ?_
  refine lv_bipush (v := 6) hx hb dL_law_21 (by decide) ?_
  refine lv_isub hx hb dL_law_23 ?_
  refine fn_top 0 (by decide) ?_
  refine lv_icmp_gt (tgt := 2002) hx hb dL_law_24 (by decide) (fun _ => ?_) (fun h9 => absurd (by decide) h9)
  refine lv_iconst (v := 1) hx hb dL_law_2002 (by decide) ?_
  refine va_forget (fun q hq => by have h9 := hS.2.2 q hq; rw [← hAe] at h9; exact h9) ?_
  refine W.widen (k := 600000) (n := 7302250) (Nat.le_of_ble_eq_true rfl) (Nat.le_of_ble_eq_true rfl) ?_
  exact lw_ret hx hb hr hlocks dL_law_2003
theorem dL_law_1445 : decode cL_law 1445 = .ok (.aload_n 1, 1) := by decide +kernel
theorem dL_law_1446 : decode cL_law 1446 = .ok (.invokevirtual 206, 3) := by decide +kernel
theorem dL_law_1449 : decode cL_law 1449 = .ok (.aload_n 2, 1) := by decide +kernel
theorem dL_law_1450 : decode cL_law 1450 = .ok (.invokevirtual 209, 3) := by decide +kernel
theorem dL_law_1453 : decode cL_law 1453 = .ok (.if_icmp .eq 543, 3) := by decide +kernel
set_option maxHeartbeats 4000000 in
set_option maxRecDepth 100000 in
theorem law_47 {p : Program} {l : Launch} {e : Env} {s : State} {m : MethodId} {below : List Frame} {meth : Method} {c : Code} {b : Nat} {xs : Nat → Int32} (hx : p.tables.exec = Jvm.exec) (hb : c.code = cL_law) (hr : meth.sig.returnType = ret) (hml : c.maxLocals = 4) (hown : s.vm.findClass RL = some m.cls) (hts : ∀ w ∈ fn_big, w.before #[Value.ref b] s = true) (hX : va_X b 6 xs s s.heap) (hbl : b < s.heap.size) (hlocks : meth.locks = false) {D : va_G} {K : Nat → ClassId} (hK : fn_KK D K s) {x0 m0 : Nat} {u v : Nat → Nat} {fw : Nat → Int32} (hfw : ∀ j, j < 4 → fw j = -1) {A : Nat → Prop} (hAe : (fun q : Nat => s.heap.size ≤ q) = A) : ∀ (H : Heap) (locs : List Loc) (ls : Array Slot), va_P D vwCl (fn_world K x0 m0 u v fw) H → va_D A (fn_world K x0 m0 u v fw) → va_S A s.heap H locs → lv_has ls 4 [(3, .int 0), (2, .ref m0), (1, .ref x0), (0, .ref b)] → W p l e room_1 s m #[Value.ref b] below meth c H locs 144 12710 (lw_Z below #[Value.ref b] s) (F0 m 1445 ls []) := by
  intro H locs ls hP hD hS hl
  have hA : ∀ q : Nat, s.heap.size ≤ q → A q := fun q h => by rw [← hAe]; exact h
  have hbA : ¬ A b := by rw [← hAe]; exact Nat.not_le.mpr hbl
  refine lv_aload_n hx hb dL_law_1445 rfl (lv_at hl 2 rfl) ?_
  refine fn_goi (wc := [(x0, .inr (11, [.ref (u 0), .ref (u 10), .ref (u 17), .ref (u 25), .ref (u 26), .ref (u 27), .ref (u 28), .ref (u 29), .ref (u 34), .ref (u 39), .ref (u 43), .ref (u 51), .ref (u 55)])), ((u 10), .inr (7, [.int 0, .int 0, .int 0, .int 0, .int 0, .int 0, .int 0, .int 0, .int 0, .ref (u 11), .ref (u 12), .ref (u 13), .ref (u 14), .ref (u 15), .ref (u 16)]))]) (wr := [(m0, .inr (12, [.int 0, .ref (v 0), .ref (v 1), .ref (v 2), .ref (v 3), .ref (v 4), .int 0, .int 0, .int 0, .int 0, .int 0, .long 0, .int 0, .int 0, .int 0, .int (-1), .ref (v 5), .ref (v 6), .ref (v 7), .ref (v 8), .ref (v 9), .ref (v 10), .ref (v 11), .ref (v 12), .ref (v 13), .ref (v 14), .ref (v 15), .ref (v 16), .ref (v 17), .ref (v 18), .ref (v 19), .ref (v 20), .int 0, .int 0, .int 0, .int 0, .ref (v 21), .ref (v 22), .ref (v 23), .int 0, .int 0, .ref (v 24), .ref (v 25), .int 0, .int 0, .ref (v 26), .ref (v 27), .ref (v 28), .int 0, .int 0, .int 0])), ((v 0), .inl (K 0, 4, .inl fw)), ((v 1), .inl (K 0, 4, .inl (fun _ => 0))), ((v 2), .inl (K 3, 240, .inr (.inl (fun _ => 0)))), ((v 4), .inl (K 1, 1400, .inl (fun _ => 0))), ((v 5), .inl (K 0, 5, .inl (fun _ => 0))), ((v 6), .inl (K 0, 40, .inl (fun _ => 0))), ((v 7), .inl (K 0, 50, .inl (fun _ => 0))), ((v 8), .inl (K 0, 60, .inl (fun _ => 0))), ((v 9), .inl (K 0, 480, .inl (fun _ => 0))), ((v 10), .inl (K 0, 600, .inl (fun _ => 0))), ((v 11), .inl (K 2, 3, .inl (fun _ => 0)))]) hK hP hD hS hA [0, 11] [88, 89, 90, 91, 92, 93, 94, 95, 96, 97, 98, 99] rfl rfl (by decide) (fun hp => va_runV (C := RX11) (As := []) (rest := []) ⟨hx, hb, hml, hown, hts⟩ (c_X11_rest (l := l) (D := D) (K := K) (x0 := (x0)) (fx := ([.ref (u 0), .ref (u 10), .ref (u 17), .ref (u 25), .ref (u 26), .ref (u 27), .ref (u 28), .ref (u 29), .ref (u 34), .ref (u 39), .ref (u 43), .ref (u 51), .ref (u 55)])) (t0 := ((u 10))) (hx1 := rfl) (ft := ([.int 0, .int 0, .int 0, .int 0, .int 0, .int 0, .int 0, .int 0, .int 0, .ref (u 11), .ref (u 12), .ref (u 13), .ref (u 14), .ref (u 15), .ref (u 16)])) (ht0 := rfl) (ht3 := rfl) (ht4 := rfl) (ht5 := rfl) _) (cwV 0 hts (fn_ginV (fn_gin wd_1086) wd_1083 wd_1084 wd_1085 wd_1) rfl rfl rfl (by decide +kernel) ⟨Nat.le_of_ble_eq_true rfl, Nat.le_of_ble_eq_true rfl⟩) ⟨fn_blind, va_recv hK.1 hP (ci := 11) (q0 := 0) rfl rfl, hp⟩ rfl rfl hl.1 rfl (lv_room (Nat.le_of_ble_eq_true rfl)) dL_law_1446 ⟨Nat.le_of_ble_eq_true rfl, Nat.le_of_ble_eq_true rfl⟩) (fun r2 u1 H locs hwu1 hP hD hS => ?_)
  have r2_e : r2 = (-2) := hwu1
  subst r2_e
  have hP : va_P D vwCl [(m0, .inr (12, [.int 0, .ref (v 0), .ref (v 1), .ref (v 2), .ref (v 3), .ref (v 4), .int 0, .int 0, .int 0, .int 0, .int 0, .long 0, .int 0, .int 0, .int 0, .int (-1), .ref (v 5), .ref (v 6), .ref (v 7), .ref (v 8), .ref (v 9), .ref (v 10), .ref (v 11), .ref (v 12), .ref (v 13), .ref (v 14), .ref (v 15), .ref (v 16), .ref (v 17), .ref (v 18), .ref (v 19), .ref (v 20), .int 0, .int 0, .int 0, .int 0, .ref (v 21), .ref (v 22), .ref (v 23), .int 0, .int 0, .ref (v 24), .ref (v 25), .int 0, .int 0, .ref (v 26), .ref (v 27), .ref (v 28), .int 0, .int 0, .int 0])), ((v 0), .inl (K 0, 4, .inl fw)), ((v 1), .inl (K 0, 4, .inl (fun _ => 0))), ((v 2), .inl (K 3, 240, .inr (.inl (fun _ => 0)))), ((v 4), .inl (K 1, 1400, .inl (fun _ => 0))), ((v 5), .inl (K 0, 5, .inl (fun _ => 0))), ((v 6), .inl (K 0, 40, .inl (fun _ => 0))), ((v 7), .inl (K 0, 50, .inl (fun _ => 0))), ((v 8), .inl (K 0, 60, .inl (fun _ => 0))), ((v 9), .inl (K 0, 480, .inl (fun _ => 0))), ((v 10), .inl (K 0, 600, .inl (fun _ => 0))), ((v 11), .inl (K 2, 3, .inl (fun _ => 0)))] H := hP
  have hD : va_D A [(m0, .inr (12, [.int 0, .ref (v 0), .ref (v 1), .ref (v 2), .ref (v 3), .ref (v 4), .int 0, .int 0, .int 0, .int 0, .int 0, .long 0, .int 0, .int 0, .int 0, .int (-1), .ref (v 5), .ref (v 6), .ref (v 7), .ref (v 8), .ref (v 9), .ref (v 10), .ref (v 11), .ref (v 12), .ref (v 13), .ref (v 14), .ref (v 15), .ref (v 16), .ref (v 17), .ref (v 18), .ref (v 19), .ref (v 20), .int 0, .int 0, .int 0, .int 0, .ref (v 21), .ref (v 22), .ref (v 23), .int 0, .int 0, .ref (v 24), .ref (v 25), .int 0, .int 0, .ref (v 26), .ref (v 27), .ref (v 28), .int 0, .int 0, .int 0])), ((v 0), .inl (K 0, 4, .inl fw)), ((v 1), .inl (K 0, 4, .inl (fun _ => 0))), ((v 2), .inl (K 3, 240, .inr (.inl (fun _ => 0)))), ((v 4), .inl (K 1, 1400, .inl (fun _ => 0))), ((v 5), .inl (K 0, 5, .inl (fun _ => 0))), ((v 6), .inl (K 0, 40, .inl (fun _ => 0))), ((v 7), .inl (K 0, 50, .inl (fun _ => 0))), ((v 8), .inl (K 0, 60, .inl (fun _ => 0))), ((v 9), .inl (K 0, 480, .inl (fun _ => 0))), ((v 10), .inl (K 0, 600, .inl (fun _ => 0))), ((v 11), .inl (K 2, 3, .inl (fun _ => 0)))] := hD
  refine lv_aload_n hx hb dL_law_1449 rfl (lv_at hl 1 rfl) ?_
  refine fn_goi (wc := [(m0, .inr (12, [.int 0, .ref (v 0), .ref (v 1), .ref (v 2), .ref (v 3), .ref (v 4), .int 0, .int 0, .int 0, .int 0, .int 0, .long 0, .int 0, .int 0, .int 0, .int (-1), .ref (v 5), .ref (v 6), .ref (v 7), .ref (v 8), .ref (v 9), .ref (v 10), .ref (v 11), .ref (v 12), .ref (v 13), .ref (v 14), .ref (v 15), .ref (v 16), .ref (v 17), .ref (v 18), .ref (v 19), .ref (v 20), .int 0, .int 0, .int 0, .int 0, .ref (v 21), .ref (v 22), .ref (v 23), .int 0, .int 0, .ref (v 24), .ref (v 25), .int 0, .int 0, .ref (v 26), .ref (v 27), .ref (v 28), .int 0, .int 0, .int 0])), ((v 5), .inl (K 0, 5, .inl (fun _ => 0))), ((v 6), .inl (K 0, 40, .inl (fun _ => 0)))]) (wr := []) hK hP hD hS hA [0, 5, 6] [] rfl rfl (by decide) (fun hp => va_runV (C := RX12) (As := []) (rest := [.int (-2)]) ⟨hx, hb, hml, hown, hts⟩ (c_X12_rest (l := l) (D := D) (K := K) (m0 := (m0)) (fm := ([.int 0, .ref (v 0), .ref (v 1), .ref (v 2), .ref (v 3), .ref (v 4), .int 0, .int 0, .int 0, .int 0, .int 0, .long 0, .int 0, .int 0, .int 0, .int (-1), .ref (v 5), .ref (v 6), .ref (v 7), .ref (v 8), .ref (v 9), .ref (v 10), .ref (v 11), .ref (v 12), .ref (v 13), .ref (v 14), .ref (v 15), .ref (v 16), .ref (v 17), .ref (v 18), .ref (v 19), .ref (v 20), .int 0, .int 0, .int 0, .int 0, .ref (v 21), .ref (v 22), .ref (v 23), .int 0, .int 0, .ref (v 24), .ref (v 25), .int 0, .int 0, .ref (v 26), .ref (v 27), .ref (v 28), .int 0, .int 0, .int 0])) (hmn := rfl) (al := ((v 5))) (hm16 := rfl) (ah := ((v 6))) (hm17 := rfl) (fl := (fun _ => 0)) (hfl := (fun _ => rfl)) (fh := (fun _ => 0)) (hfh := (fun _ => rfl)) _) (cwV 0 hts (fn_ginV (fn_gin wd_1864) wd_1861 wd_1862 wd_1863 wd_13) rfl rfl rfl (by decide +kernel) ⟨Nat.le_of_ble_eq_true rfl, Nat.le_of_ble_eq_true rfl⟩) ⟨fn_blind, va_recv hK.1 hP (ci := 12) (q0 := 0) rfl rfl, hp⟩ rfl rfl hl.1 rfl (lv_room (Nat.le_of_ble_eq_true rfl)) dL_law_1450 ⟨Nat.le_of_ble_eq_true rfl, Nat.le_of_ble_eq_true rfl⟩) (fun r4 u3 H locs hwu3 hP hD hS => ?_)
  have r4_e : r4 = (-2) := hwu3
  subst r4_e
  have hP : va_P D vwCl [] H := hP
  have hD : va_D A [] := hD
  refine lv_icmp_eq (tgt := 1996) hx hb dL_law_1453 (by decide) (fun _ => ?_) (fun h9 => absurd (by decide) h9)
  refine lv_iinc (v := 6) (lv' := [(3, .int 6), (2, .ref m0), (1, .ref x0), (0, .ref b)]) hx hb dL_law_1996 hl (k := 0) rfl (by decide) (by decide) rfl (fun ls hl => ?_)
  refine lv_goto (tgt := 18) hx hb dL_law_1999 (by decide) ?_
  refine lv_iload_n hx hb dL_law_18 rfl (lv_at hl 0 rfl) ?_
  refine lv_aload_n hx hb dL_law_19 rfl (lv_at hl 3 rfl) ?_
  refine va_slen hx hb hX hbl hbA hS dL_law_20 ?_
  refine fn_top 6 (by decide) ?_
  refine lv_bipush (v := 6) hx hb dL_law_21 (by decide) ?_
  refine lv_isub hx hb dL_law_23 ?_
  refine fn_top 0 (by decide) ?_
  refine lv_icmp_gt (tgt := 2002) hx hb dL_law_24 (by decide) (fun _ => ?_) (fun h9 => absurd (by decide) h9)
  refine lv_iconst (v := 1) hx hb dL_law_2002 (by decide) ?_
  refine va_forget (fun q hq => by have h9 := hS.2.2 q hq; rw [← hAe] at h9; exact h9) ?_
  refine W.widen (k := 600000) (n := 7302250) (Nat.le_of_ble_eq_true rfl) (Nat.le_of_ble_eq_true rfl) ?_
  exact lw_ret hx hb hr hlocks dL_law_2003
