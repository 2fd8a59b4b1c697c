/-! THE CLAIM OUT OF ONE WALK OF THE LAW'S BODY. Your part is whole_start (and what it stands on); all else here is the same for every law, but numbers. -/
def R_law : String := "FootNotesLaw"
def lw_P (b : Addr) (xs : List Int32) (args : Array Value) (s : State) : Prop := args = #[.ref b] ∧ s.IntsAt b xs ∧ xs.length ≤ 6 ∧ (Jvm.Cond.and given_1 narrow_1).before args s = true
def lw_Q (_ : Array Value) (s : State) (o : Outcome) (t : State) : Prop := o = .returned (some (.int 1)) ∧ Framed s o t [] 600000 7302250
def lw_Z (below : List Frame) (a : Array Value) (s : State) : State → Prop := fun t => ∃ o, t.status = .running ∧ Ended t below o ∧ lw_Q a s o t
/-- the law's own end, with 1 on the stack, nothing written that was there before, its room as the claim has it -/
theorem lw_ret {p : Program} {l : Launch} {e : Env} {s : State} {m : MethodId} {below : List Frame} {meth : Method} {c : Code} {b : Nat} (hx : p.tables.exec = Jvm.exec) (hb : c.code = code) (hr : meth.sig.returnType = ret) (hlocks : meth.locks = false) {pc : Nat} {H : Heap} {ls : Array Slot} (hdg : decode code pc = .ok (.ireturn, 1)) : W p l e room_1 s m #[Value.ref b] below meth c H [] 600000 7302250 (lw_Z below #[Value.ref b] s) (F0 m pc ls [.int 1]) := by
  intro T hT X
  obtain ⟨fs, hret, hrun, hended, hW, hframe⟩ := X.leave (v := some (.int 1)) (hlocks := hlocks) (fun h => by rw [hr] at h; cases h)
  have hmeth' : T.vm.method? m = some meth := X.method'
  refine ⟨T.setFrames fs, ?_, .returned (some (.int 1)), hrun, hended, rfl, ⟨_, rfl⟩, hW, hframe⟩
  jvm_step X.here [X.here.top, hx, hb, hdg, hmeth', hr, ret, narrow_b1]
  (try refine ⟨rfl, ?_⟩); (try refine ⟨rfl, ?_⟩)
  first | (intro acts; rw [hret _ acts rfl rfl rfl]) | rw [hret _ _ rfl rfl rfl]
  exact Steps.refl _
/-- what holds at the law's entry: the machine, the code, the tables' words (any of lw_tbl by 'hts w (by decide +kernel)'), the script of L ints xs at the cell b, what the Statement gives of the start (any of its parts by flat_of_before) -/
def lw_At (p : Program) (s : State) (m : MethodId) (meth : Method) (c : Code) (b L : Nat) (xs : Nat → Int32) : Prop :=
  p.tables.exec = Jvm.exec ∧ c.code = code ∧ meth.sig.returnType = ret ∧ c.maxLocals = 4 ∧ s.vm.findClass R_law = some m.cls ∧ (∀ w ∈ lw_tbl, w.before #[Value.ref b] s = true) ∧ va_X b L xs s s.heap ∧ b < s.heap.size ∧ meth.locks = false ∧ (Jvm.Cond.and given_1 narrow_1).before #[Value.ref b] s = true
/-- what the tables say of the classes -/
theorem fn_start {A : Array Value} {s : State} (hl : ∀ w ∈ lw_tbl, w.before A s = true) : ∃ (D : va_G) (K : Nat → ClassId), fn_KK D K s := by
  have hts : ∀ w ∈ fn_big, w.before A s = true := fun w h => hl w (fn_big_in w h)
  have hT : ∀ w ∈ tables_1, w.before A s = true := fun w h => hl w (List.mem_append_right _ h)
  obtain ⟨c0, i0, k0⟩ := u_known (C := RX0) (T := TX0) (N := 12) (n := 12) hts inb_X0 (hts _ wd_258)
  obtain ⟨c1, i1, k1⟩ := u_known (C := RX1) (T := TX1) (N := 4) (n := 4) hts inb_X1 (hts _ wd_380)
  obtain ⟨c2, i2, k2⟩ := u_known (C := RX2) (T := TX2) (N := 6) (n := 6) hts inb_X2 (hts _ wd_352)
  obtain ⟨c3, i3, k3⟩ := u_known (C := RX3) (T := TX3) (N := 4) (n := 4) hts inb_X3 (hts _ wd_31)
  obtain ⟨c4, i4, k4⟩ := u_known (C := RX4) (T := TX4) (N := 4) (n := 4) hts inb_X4 (hts _ wd_399)
  obtain ⟨c5, i5, k5⟩ := u_known (C := RX5) (T := TX5) (N := 8) (n := 8) hts inb_X5 (hts _ wd_179)
  obtain ⟨c6, i6, k6⟩ := u_known (C := RX6) (T := TX6) (N := 5) (n := 5) hts inb_X6 (hts _ wd_37)
  obtain ⟨c7, i7, k7⟩ := u_known (C := RX7) (T := TX7) (N := 15) (n := 15) hts inb_X7 (hts _ wd_63)
  obtain ⟨c8, i8, k8⟩ := u_known (C := RX8) (T := TX8) (N := 4) (n := 4) hts inb_X8 (hts _ wd_307)
  obtain ⟨c9, i9, k9⟩ := u_known (C := RX9) (T := TX9) (N := 6) (n := 6) hts inb_X9 (hts _ wd_313)
  obtain ⟨c10, i10, k10⟩ := u_known (C := RX10) (T := TX10) (N := 7) (n := 7) hts inb_X10 (hts _ wd_220)
  obtain ⟨c11, i11, k11⟩ := u_known (C := RX11) (T := TX11) (N := 13) (n := 13) hts inb_X11 (hts _ wd_23)
  obtain ⟨c12, i12, k12⟩ := u_known (C := RX12) (T := TX12) (N := 51) (n := 51) hts inb_X12 (hts _ wd_1229)
  obtain ⟨a0, p0, q0⟩ := fn_arrC (ty := .int) rfl (hts _ wd_158)
  obtain ⟨a1, p1, q1⟩ := fn_arrC (ty := .byte) rfl (hts _ wd_61)
  obtain ⟨a2, p2, q2⟩ := fn_arrC (ty := .boolean) rfl (hts _ wd_256)
  obtain ⟨a3, p3, q3⟩ := fn_arrC (ty := .long) rfl (hts _ wd_421)
  have o0 : va_AO RX7 s := va_AO.of (hT _ (fn_l1 (List.mem_of_getElem? (i := 215) (by decide +kernel))))
  obtain ⟨a4, p4, q4⟩ := fn_arrO o0
  have o1 : va_AO RX5 s := va_AO.of (hT _ (fn_l1 (List.mem_of_getElem? (i := 216) (by decide +kernel))))
  obtain ⟨a5, p5, q5⟩ := fn_arrO o1
  have o2 : va_AO RX4 s := va_AO.of (hT _ (fn_l1 (List.mem_of_getElem? (i := 218) (by decide +kernel))))
  obtain ⟨a6, p6, q6⟩ := fn_arrO o2
  have hC : ∀ k : Nat, ∃ q : ClassId × (Nat → Nat), ∀ r : vw_C, vwCl[k]? = some r → u_Kn s r.1 r.2.1 r.2.2 q.1 q.2 := by
    intro k
    match k with
    | 0 => exact ⟨(c0, i0), fun r h => by cases h; exact k0⟩
    | 1 => exact ⟨(c1, i1), fun r h => by cases h; exact k1⟩
    | 2 => exact ⟨(c2, i2), fun r h => by cases h; exact k2⟩
    | 3 => exact ⟨(c3, i3), fun r h => by cases h; exact k3⟩
    | 4 => exact ⟨(c4, i4), fun r h => by cases h; exact k4⟩
    | 5 => exact ⟨(c5, i5), fun r h => by cases h; exact k5⟩
    | 6 => exact ⟨(c6, i6), fun r h => by cases h; exact k6⟩
    | 7 => exact ⟨(c7, i7), fun r h => by cases h; exact k7⟩
    | 8 => exact ⟨(c8, i8), fun r h => by cases h; exact k8⟩
    | 9 => exact ⟨(c9, i9), fun r h => by cases h; exact k9⟩
    | 10 => exact ⟨(c10, i10), fun r h => by cases h; exact k10⟩
    | 11 => exact ⟨(c11, i11), fun r h => by cases h; exact k11⟩
    | 12 => exact ⟨(c12, i12), fun r h => by cases h; exact k12⟩
    | n + 13 => exact ⟨(c0, i0), fun r h => by simp [vwCl] at h⟩
  obtain ⟨f, hf⟩ := Classical.axiomOfChoice hC
  refine ⟨(fun k => (f k).1, fun k => (f k).2), fun k => ([a0, a1, a2, a3, a4, a5, a6] : List ClassId).getD k a0, ⟨fun k r h => hf k r h, ?_⟩, ?_, ?_⟩
  · intro k r h
    match k, h with
    | 0, h => cases h; exact ⟨p0, q0⟩
    | 1, h => cases h; exact ⟨p1, q1⟩
    | 2, h => cases h; exact ⟨p2, q2⟩
    | 3, h => cases h; exact ⟨p3, q3⟩
    | 4, h => cases h; exact ⟨p4, q4⟩
    | 5, h => cases h; exact ⟨p5, q5⟩
    | 6, h => cases h; exact ⟨p6, q6⟩
    | n + 7, h => simp [fn_tys] at h
  · intro w hw
    have h1 := List.all_eq_true.mp fn_nws_ok w hw
    have h2 := hT w (fn_nws_in w hw)
    cases w <;> first | (exact Bool.noConfusion h1) | exact va_Nw.of rfl h2
  · intro C hC
    rcases List.mem_cons.mp hC with rfl | hC
    · exact o0
    rcases List.mem_cons.mp hC with rfl | hC
    · exact o1
    rcases List.mem_cons.mp hC with rfl | hC
    · exact o2
    exact absurd hC List.not_mem_nil
/-- the two objects as they are made -/
def fn_world (K : Nat → ClassId) (x0 m0 : Nat) (u v : Nat → Nat) (fw : Nat → Int32) : va_W := [(x0, .inr (11, [.ref (u 0), .ref (u 10), .ref (u 17), .ref (u 25), .ref (u 26), .ref (u 27), .ref (u 28), .ref (u 29), .ref (u 34), .ref (u 39), .ref (u 43), .ref (u 51), .ref (u 55)])),
  ((u 0), .inr (3, [.ref (u 1), .ref (u 3), .int 0, .int (-1)])),
  ((u 1), .inr (6, [.int 0, .ref (u 2), .int 0, .int 0, .int 0])),
  ((u 2), .inl (K 1, 1400, .inl (fun _ => 0))),
  ((u 3), .inr (7, [.int 0, .int 0, .int 0, .int 0, .int 0, .int 0, .int 0, .int 0, .int 0, .ref (u 4), .ref (u 5), .ref (u 6), .ref (u 7), .ref (u 8), .ref (u 9)])),
  ((u 4), .inl (K 0, 5, .inl (fun _ => 0))),
  ((u 5), .inl (K 0, 6, .inl (fun _ => 0))),
  ((u 6), .inl (K 0, 12, .inl (fun _ => 0))),
  ((u 7), .inl (K 0, 24, .inl (fun _ => 0))),
  ((u 8), .inl (K 0, 24, .inl (fun _ => 0))),
  ((u 9), .inl (K 0, 24, .inl (fun _ => 0))),
  ((u 10), .inr (7, [.int 0, .int 0, .int 0, .int 0, .int 0, .int 0, .int 0, .int 0, .int 0, .ref (u 11), .ref (u 12), .ref (u 13), .ref (u 14), .ref (u 15), .ref (u 16)])),
  ((u 11), .inl (K 0, 5, .inl (fun _ => 0))),
  ((u 12), .inl (K 0, 6, .inl (fun _ => 0))),
  ((u 13), .inl (K 0, 12, .inl (fun _ => 0))),
  ((u 14), .inl (K 0, 24, .inl (fun _ => 0))),
  ((u 15), .inl (K 0, 24, .inl (fun _ => 0))),
  ((u 16), .inl (K 0, 24, .inl (fun _ => 0))),
  ((u 17), .inr (5, [.int 0, .ref (u 18), .ref (u 19), .ref (u 20), .ref (u 21), .ref (u 22), .ref (u 23), .ref (u 24)])),
  ((u 18), .inl (K 0, 5, .inl (fun _ => 0))),
  ((u 19), .inl (K 0, 150, .inl (fun _ => 0))),
  ((u 20), .inl (K 0, 24, .inl (fun _ => 0))),
  ((u 21), .inl (K 0, 40, .inl (fun _ => 0))),
  ((u 22), .inl (K 0, 40, .inl (fun _ => 0))),
  ((u 23), .inl (K 0, 40, .inl (fun _ => 0))),
  ((u 24), .inl (K 0, 40, .inl (fun _ => 0))),
  ((u 25), .inl (K 4, 3, .inr (.inr (.inr (.inr (va_up (va_up (va_up (fun _ => none) (Int32.toNatClampNeg 0) (some (u 60))) (Int32.toNatClampNeg 1) (some (u 75))) (Int32.toNatClampNeg 2) (some (u 90)))))))),
  ((u 26), .inl (K 5, 3, .inr (.inr (.inr (.inr (va_up (va_up (va_up (fun _ => none) (Int32.toNatClampNeg 0) (some (u 67))) (Int32.toNatClampNeg 1) (some (u 82))) (Int32.toNatClampNeg 2) (some (u 97)))))))),
  ((u 27), .inl (K 2, 3, .inl (fun _ => 0))),
  ((u 28), .inl (K 6, 4, .inr (.inr (.inr (.inr (va_up (va_up (va_up (va_up (fun _ => none) (Int32.toNatClampNeg 0) (some (u 105))) (Int32.toNatClampNeg 1) (some (u 107))) (Int32.toNatClampNeg 2) (some (u 109))) (Int32.toNatClampNeg 3) (some (u 111)))))))),
  ((u 29), .inr (10, [.int 0, .int 0, .ref (u 30), .ref (u 31), .ref (u 32), .ref (u 33), .int 0])),
  ((u 30), .inl (K 0, 12, .inl (fun _ => 0))),
  ((u 31), .inl (K 0, 24, .inl (fun _ => 0))),
  ((u 32), .inl (K 0, 12, .inl (fun _ => 0))),
  ((u 33), .inl (K 0, 12, .inl (fun _ => 0))),
  ((u 60), .inr (7, [.int 0, .int 0, .int 0, .int 0, .int 0, .int 0, .int 0, .int 0, .int 0, .ref (u 61), .ref (u 62), .ref (u 63), .ref (u 64), .ref (u 65), .ref (u 66)])),
  ((u 61), .inl (K 0, 5, .inl (fun _ => 0))),
  ((u 62), .inl (K 0, 6, .inl (fun _ => 0))),
  ((u 63), .inl (K 0, 12, .inl (fun _ => 0))),
  ((u 64), .inl (K 0, 24, .inl (fun _ => 0))),
  ((u 65), .inl (K 0, 24, .inl (fun _ => 0))),
  ((u 66), .inl (K 0, 24, .inl (fun _ => 0))),
  ((u 67), .inr (5, [.int 0, .ref (u 68), .ref (u 69), .ref (u 70), .ref (u 71), .ref (u 72), .ref (u 73), .ref (u 74)])),
  ((u 68), .inl (K 0, 5, .inl (fun _ => 0))),
  ((u 69), .inl (K 0, 150, .inl (fun _ => 0))),
  ((u 70), .inl (K 0, 24, .inl (fun _ => 0))),
  ((u 71), .inl (K 0, 40, .inl (fun _ => 0))),
  ((u 72), .inl (K 0, 40, .inl (fun _ => 0))),
  ((u 73), .inl (K 0, 40, .inl (fun _ => 0))),
  ((u 74), .inl (K 0, 40, .inl (fun _ => 0))),
  ((u 75), .inr (7, [.int 0, .int 0, .int 0, .int 0, .int 0, .int 0, .int 0, .int 0, .int 0, .ref (u 76), .ref (u 77), .ref (u 78), .ref (u 79), .ref (u 80), .ref (u 81)])),
  ((u 76), .inl (K 0, 5, .inl (fun _ => 0))),
  ((u 77), .inl (K 0, 6, .inl (fun _ => 0))),
  ((u 78), .inl (K 0, 12, .inl (fun _ => 0))),
  ((u 79), .inl (K 0, 24, .inl (fun _ => 0))),
  ((u 80), .inl (K 0, 24, .inl (fun _ => 0))),
  ((u 81), .inl (K 0, 24, .inl (fun _ => 0))),
  ((u 82), .inr (5, [.int 0, .ref (u 83), .ref (u 84), .ref (u 85), .ref (u 86), .ref (u 87), .ref (u 88), .ref (u 89)])),
  ((u 83), .inl (K 0, 5, .inl (fun _ => 0))),
  ((u 84), .inl (K 0, 150, .inl (fun _ => 0))),
  ((u 85), .inl (K 0, 24, .inl (fun _ => 0))),
  ((u 86), .inl (K 0, 40, .inl (fun _ => 0))),
  ((u 87), .inl (K 0, 40, .inl (fun _ => 0))),
  ((u 88), .inl (K 0, 40, .inl (fun _ => 0))),
  ((u 89), .inl (K 0, 40, .inl (fun _ => 0))),
  ((u 90), .inr (7, [.int 0, .int 0, .int 0, .int 0, .int 0, .int 0, .int 0, .int 0, .int 0, .ref (u 91), .ref (u 92), .ref (u 93), .ref (u 94), .ref (u 95), .ref (u 96)])),
  ((u 91), .inl (K 0, 5, .inl (fun _ => 0))),
  ((u 92), .inl (K 0, 6, .inl (fun _ => 0))),
  ((u 93), .inl (K 0, 12, .inl (fun _ => 0))),
  ((u 94), .inl (K 0, 24, .inl (fun _ => 0))),
  ((u 95), .inl (K 0, 24, .inl (fun _ => 0))),
  ((u 96), .inl (K 0, 24, .inl (fun _ => 0))),
  ((u 97), .inr (5, [.int 0, .ref (u 98), .ref (u 99), .ref (u 100), .ref (u 101), .ref (u 102), .ref (u 103), .ref (u 104)])),
  ((u 98), .inl (K 0, 5, .inl (fun _ => 0))),
  ((u 99), .inl (K 0, 150, .inl (fun _ => 0))),
  ((u 100), .inl (K 0, 24, .inl (fun _ => 0))),
  ((u 101), .inl (K 0, 40, .inl (fun _ => 0))),
  ((u 102), .inl (K 0, 40, .inl (fun _ => 0))),
  ((u 103), .inl (K 0, 40, .inl (fun _ => 0))),
  ((u 104), .inl (K 0, 40, .inl (fun _ => 0))),
  ((u 105), .inr (4, [.int 0, .int 0, .int 0, .ref (u 106)])),
  ((u 106), .inl (K 3, 60, .inr (.inl (fun _ => 0)))),
  ((u 107), .inr (4, [.int 0, .int 0, .int 0, .ref (u 108)])),
  ((u 108), .inl (K 3, 60, .inr (.inl (fun _ => 0)))),
  ((u 109), .inr (4, [.int 0, .int 0, .int 0, .ref (u 110)])),
  ((u 110), .inl (K 3, 60, .inr (.inl (fun _ => 0)))),
  ((u 111), .inr (4, [.int 0, .int 0, .int 0, .ref (u 112)])),
  ((u 112), .inl (K 3, 60, .inr (.inl (fun _ => 0)))),
  (m0, .inr (12, [.int 0, .ref (v 0), .ref (v 1), .ref (v 2), .ref (v 3), .ref (v 4), .int 0, .int 0, .int 0, .int 0, .int 0, .long 0, .int 0, .int 0, .int 0, .int (-1), .ref (v 5), .ref (v 6), .ref (v 7), .ref (v 8), .ref (v 9), .ref (v 10), .ref (v 11), .ref (v 12), .ref (v 13), .ref (v 14), .ref (v 15), .ref (v 16), .ref (v 17), .ref (v 18), .ref (v 19), .ref (v 20), .int 0, .int 0, .int 0, .int 0, .ref (v 21), .ref (v 22), .ref (v 23), .int 0, .int 0, .ref (v 24), .ref (v 25), .int 0, .int 0, .ref (v 26), .ref (v 27), .ref (v 28), .int 0, .int 0, .int 0])),
  ((v 0), .inl (K 0, 4, .inl fw)),
  ((v 1), .inl (K 0, 4, .inl (fun _ => 0))),
  ((v 2), .inl (K 3, 240, .inr (.inl (fun _ => 0)))),
  ((v 4), .inl (K 1, 1400, .inl (fun _ => 0))),
  ((v 5), .inl (K 0, 5, .inl (fun _ => 0))),
  ((v 6), .inl (K 0, 40, .inl (fun _ => 0))),
  ((v 7), .inl (K 0, 50, .inl (fun _ => 0))),
  ((v 8), .inl (K 0, 60, .inl (fun _ => 0))),
  ((v 9), .inl (K 0, 480, .inl (fun _ => 0))),
  ((v 10), .inl (K 0, 600, .inl (fun _ => 0))),
  ((v 11), .inl (K 2, 3, .inl (fun _ => 0)))]
