theorem fn_nws_in : ∀ w ∈ fn_nws, w ∈ tables_1 := by
  have h : fn_nws = ([32, 38, 43, 45, 47, 64, 69, 70, 71, 73, 74, 76, 77, 78, 79, 81, 82, 83, 84, 85, 86, 88, 89, 90, 91, 93, 94, 95, 96, 97, 98, 100, 101, 102, 104, 105, 107, 108, 110, 112, 114, 115, 117, 118, 119, 120, 121, 123, 124, 126, 160, 162, 164, 166, 177, 180, 185, 187, 188, 189, 192, 193, 221, 226, 229, 230, 232, 233, 234, 235, 237, 239, 259, 270, 272, 274, 276, 278, 280, 308, 314, 338, 353, 361, 363, 365, 381, 386, 400, 405, 407, 409, 411, 466, 478, 482, 486, 510, 562, 572, 588, 599, 603, 616, 623, 627, 636, 647, 659, 663, 671, 675, 680, 685, 697, 715, 727, 736, 744, 760, 780, 790, 798, 807, 822, 834, 857, 872, 876, 888, 910, 922, 926, 939, 944, 948, 949, 968, 972, 976, 992, 993, 994, 1002, 1014, 1024, 1033, 1070, 1087, 1088, 1114, 1135, 1192, 1204, 1215, 1223] : List Nat).filterMap (fun i => tables_1[i]?) := by decide +kernel
  intro w hw
  rw [h] at hw
  obtain ⟨i, -, hi⟩ := List.mem_filterMap.mp hw
  exact List.mem_of_getElem? hi
/-! my own rows over the kit's: one bundle for what never changes in a method, one row a call -/
abbrev fn_tys (K : Nat → ClassId) : List (ClassId × FieldType) := [(K 0, .int), (K 1, .byte), (K 2, .boolean), (K 3, .long), (K 4, .object RX7), (K 5, .object RX5), (K 6, .object RX4)]
def fn_isN (w : Cond) : Bool := match w with
  | .fieldLinkNest _ _ _ _ _ _ => true
  | .methodLinkNest _ _ _ _ => true
  | _ => false
theorem fn_nws_ok : fn_nws.all fn_isN = true := by decide +kernel
def fn_NW (U : State) : Prop := ∀ w ∈ fn_nws, va_Nw w U
theorem fn_NW.warm {s U : State} (hW : s.WarmedH U.vm) (h : fn_NW s) : fn_NW U := by
  intro w hw
  have h1 := List.all_eq_true.mp fn_nws_ok w hw
  have h2 := h w hw
  cases w <;> first | (exact Bool.noConfusion h1) | exact va_Nw.warmF hW h2 | exact va_Nw.warmM hW h2
theorem fn_NW.same {u U : State} (hv : u.vm = U.vm) (h : fn_NW u) : fn_NW U := by
  intro w hw
  have h1 := List.all_eq_true.mp fn_nws_ok w hw
  have h2 := h w hw
  cases w <;> first | (exact Bool.noConfusion h1) | exact va_Nw.same rfl hv h2
def fn_KK (D : va_G) (K : Nat → ClassId) (U : State) : Prop := va_K D vwCl (fn_tys K) U ∧ fn_NW U ∧ ∀ C ∈ [RX7, RX5, RX4], va_AO C U
theorem fn_KK.warm {D : va_G} {K : Nat → ClassId} {s U : State} (hW : s.WarmedH U.vm) (h : fn_KK D K s) : fn_KK D K U := ⟨va_K.moved hW.alike h.1, h.2.1.warm hW, fun C hC => va_AO.moved hW.alike (h.2.2 C hC)⟩
theorem fn_KK.same {D : va_G} {K : Nat → ClassId} {u U : State} (hv : u.vm = U.vm) (h : fn_KK D K u) : fn_KK D K U := ⟨va_K.moved (by rw [hv]; exact Vm.Alike.refl _) h.1, h.2.1.same hv, fun C hC => va_AO.moved (by rw [hv]; exact Vm.Alike.refl _) (h.2.2 C hC)⟩
theorem fn_KK.nw {D : va_G} {K : Nat → ClassId} {s : State} (h : fn_KK D K s) (k : Nat) {w : Cond} (hk : fn_nws[k]? = some w) : va_Nw w s := h.2.1 w (List.mem_of_getElem? hk)
theorem fn_KK.nf {D : va_G} {K : Nat → ClassId} {s : State} {args : Array Value} (h : fn_KK D K s) (k : Nat) {a : String} {i : Nat} {b n d g : String} (hk : fn_nws[k]? = some (.fieldLinkNest a i b n d g)) : (Cond.fieldLinkNest a i b n d g).before args s = true := va_Nw.use rfl (h.nw k hk)
def fn_Pre (D : va_G) (K : Nat → ClassId) (wc : va_W) (sz : Nat) (U : State) : Prop := U.heap.size = sz ∧ va_P D vwCl wc U.heap ∧ fn_KK D K U ∧ va_D (fun _ => True) wc
theorem fn_blind {D : va_G} {K : Nat → ClassId} {wc : va_W} {sz : Nat} {av : List Value} : FrameBlind (va_Pc av (fn_Pre D K wc sz)) := fun a U g mk q => ⟨q.1, q.2.1, q.2.2.1, fn_KK.same (u := U) (U := U.calling g mk a) rfl q.2.2.2.1, q.2.2.2.2⟩
theorem fn_fm {ws wc : va_W} {is : List Nat} (h : is.map (fun i => ws[i]?) = wc.map some) : is.filterMap (fun i => ws[i]?) = wc := by
  have h1 := congrArg (List.filterMap id) h
  simpa [List.filterMap_map] using h1
theorem fn_pre {D : va_G} {K : Nat → ClassId} {s : State} {H : Heap} {A : Nat → Prop} {ws wc : va_W} {av : List Value} (hK : fn_KK D K s) (hP : va_P D vwCl ws H) (hD : va_D A ws) (isC : List Nat) (hn : va_nd isC = true) (hC : isC.map (fun i => ws[i]?) = wc.map some) :
    ∀ U : State, U.heap = H → s.WarmedH U.vm → va_Pc av (fn_Pre D K wc H.size) av.toArray U := fun U hU hW =>
  ⟨rfl, by rw [hU], by rw [hU]; exact hP.sub isC (fn_fm hC), hK.warm hW, (hD.sub isC hn hC).weaken (fun _ _ _ _ => trivial)⟩
theorem fn_nd : ∀ {a b : List Nat}, va_nd (a ++ b) = true → va_nd a = true ∧ va_nd b = true ∧ ∀ i ∈ a, i ∉ b
  | [], b, h => ⟨rfl, h, fun i hi => absurd hi List.not_mem_nil⟩
  | x :: a, b, h => by
    have h1 : (decide (x ∉ a ++ b) && va_nd (a ++ b)) = true := h
    rw [Bool.and_eq_true] at h1
    obtain ⟨h2, h3⟩ := h1
    have h2 : x ∉ a ++ b := of_decide_eq_true h2
    obtain ⟨k1, k2, k3⟩ := fn_nd h3
    refine ⟨?_, k2, ?_⟩
    · show (decide (x ∉ a) && va_nd a) = true
      rw [Bool.and_eq_true]
      exact ⟨decide_eq_true (fun hx => h2 (List.mem_append_left _ hx)), k1⟩
    · intro i hi
      rcases List.mem_cons.mp hi with rfl | hi
      · exact fun hx => h2 (List.mem_append_right _ hx)
      · exact k3 i hi
/-- a contract with an int answer: args av, cells wc; behind it the cells w1 u, and 'post answer u' -/
abbrev fn_CI {S : Type} (l : Launch) (D : va_G) (K : Nat → ClassId) (y : MethodName) (ws : List Cond) (rm : Room) (av : List Value) (wc : va_W) (post : Int32 → S → Prop) (w1 : S → va_W) (mc ms : Nat) : Prop :=
  ∀ sz : Nat, Met l y ws rm (va_Pc av (fn_Pre D K wc sz)) (va_Qi post (fun u t => va_P D vwCl (w1 u) t.heap ∧ va_D (va_A wc sz) (w1 u)) (va_A wc sz)) mc ms (va_A wc sz)
abbrev fn_CV {S : Type} (l : Launch) (D : va_G) (K : Nat → ClassId) (y : MethodName) (ws : List Cond) (rm : Room) (av : List Value) (wc : va_W) (post : S → Prop) (w1 : S → va_W) (mc ms : Nat) : Prop :=
  ∀ sz : Nat, Met l y ws rm (va_Pc av (fn_Pre D K wc sz)) (va_Qv post (fun u t => va_P D vwCl (w1 u) t.heap ∧ va_D (va_A wc sz) (w1 u)) (va_A wc sz)) mc ms (va_A wc sz)
section FnIn
variable {l : Launch} {D : va_G} {K : Nat → ClassId} {y : MethodName} {ws ws' : List Cond} {rm : Room} {av : List Value} {wc : va_W} {mc ms maxL : Nat} {cc : ByteArray} {ret : Option FieldType} {S : Type} {w1 : S → va_W}
/-- what holds in a body -/
abbrev fn_B (D : va_G) (K : Nat → ClassId) (y : MethodName) (ws : List Cond) (cc : ByteArray) (maxL : Nat) (ret : Option FieldType) (av : List Value) (p : Program) (s : State) (m : MethodId) (meth : Method) (c : Code) : Prop :=
  p.tables.exec = Jvm.exec ∧ c.code = cc ∧ meth.sig.returnType = ret ∧ c.maxLocals = maxL ∧ (∀ w ∈ ws, w.before av.toArray s = true) ∧ s.vm.findClass y.cls = some m.cls ∧ meth.locks = false ∧ meth.name = y.name ∧ fn_KK D K s
theorem fn_inI {post : Int32 → S → Prop} (hy : plainName y.cls = true) (hw : ws = Cond.code y cc maxL ret :: ws') (hav : (lg_sl av).length ≤ maxL)
    (body : ∀ (p : Program) (e : Env) (s : State) (m : MethodId) (below : List Frame) (meth : Method) (c : Code) (A : Nat → Prop) (ls : Array Slot), fn_B D K y ws cc maxL ret av p s m meth c → (∀ q, s.heap.size ≤ q → A q) → va_P D vwCl wc s.heap → va_D A wc → va_S A s.heap s.heap [] → lv_has ls maxL (lv_args 0 av) →
      W p l e (headSpec ws rm).room s m av.toArray below meth c s.heap [] 0 0 (MQ below (va_Qi post (fun u t => va_P D vwCl (w1 u) t.heap ∧ va_D A (w1 u)) A) av.toArray s mc ms A) (F0 m 0 ls [])) :
    fn_CI l D K y ws rm av wc post w1 mc ms := by
  intro sz
  refine Met.ofW (cc := cc) (maxL := maxL) (ret := ret) hy hw ?_
  intro p e s m args below meth c s₁ B hml hv
  obtain ⟨rfl, hsz, hP, hK, hD0⟩ := hv
  subst hsz
  rw [lg_entry_eq]
  exact body p e s m below meth c _ _ ⟨B.exec, B.bytes, B.returns, hml, atoms_spec (ws := ws) B.pre, findClass_of_methodNamed B.named, B.notSynchronized, (name_of_methodNamed B.named B.method).1, hK⟩ (fun q h => Or.inr h) hP (hD0.self (sz := s.heap.size)) va_S.rf (lv_entry av hav)
theorem fn_inV {post : S → Prop} (hy : plainName y.cls = true) (hw : ws = Cond.code y cc maxL ret :: ws') (hav : (lg_sl av).length ≤ maxL)
    (body : ∀ (p : Program) (e : Env) (s : State) (m : MethodId) (below : List Frame) (meth : Method) (c : Code) (A : Nat → Prop) (ls : Array Slot), fn_B D K y ws cc maxL ret av p s m meth c → (∀ q, s.heap.size ≤ q → A q) → va_P D vwCl wc s.heap → va_D A wc → va_S A s.heap s.heap [] → lv_has ls maxL (lv_args 0 av) →
      W p l e (headSpec ws rm).room s m av.toArray below meth c s.heap [] 0 0 (MQ below (va_Qv post (fun u t => va_P D vwCl (w1 u) t.heap ∧ va_D A (w1 u)) A) av.toArray s mc ms A) (F0 m 0 ls [])) :
    fn_CV l D K y ws rm av wc post w1 mc ms := by
  intro sz
  refine Met.ofW (cc := cc) (maxL := maxL) (ret := ret) hy hw ?_
  intro p e s m args below meth c s₁ B hml hv
  obtain ⟨rfl, hsz, hP, hK, hD0⟩ := hv
  subst hsz
  rw [lg_entry_eq]
  exact body p e s m below meth c _ _ ⟨B.exec, B.bytes, B.returns, hml, atoms_spec (ws := ws) B.pre, findClass_of_methodNamed B.named, B.notSynchronized, (name_of_methodNamed B.named B.method).1, hK⟩ (fun q h => Or.inr h) hP (hD0.self (sz := s.heap.size)) va_S.rf (lv_entry av hav)
end FnIn
section FnGo
variable {p : Program} {l : Launch} {e : Env} {R : Room} {s : State} {m : MethodId} {args : Array Value} {below : List Frame} {meth : Method} {c : Code} {H H0 : Heap} {locs : List Loc} {cells slots mc ms pc : Nat} {Q : State → Prop} {D : va_G} {K : Nat → ClassId} {A : Nat → Prop} {ws wc wr : va_W} {ls : Array Slot} {st0 rest : List Value} {S : Type} {w1 : S → va_W} {av : List Value} {a : Array Value} {cc : ByteArray}
theorem fn_goi {post : Int32 → S → Prop} (hK : fn_KK D K s) (hP : va_P D vwCl ws H) (hD : va_D A ws) (hS : va_S A H0 H locs) (hA : ∀ q, H0.size ≤ q → A q) (isC isR : List Nat) (hC : isC.map (fun i => ws[i]?) = wc.map some) (hR : isR.map (fun i => ws[i]?) = wr.map some) (hnd : va_nd (isR ++ isC) = true)
    (hr : (∀ U : State, U.heap = H → s.WarmedH U.vm → va_Pc av (fn_Pre D K wc H.size) av.toArray U) → va_Run p l e R s m args below meth c H locs cells slots mc ms (F0 m pc ls st0) rest (va_Qi post (fun u t => va_P D vwCl (w1 u) t.heap ∧ va_D (va_A wc H.size) (w1 u)) (va_A wc H.size) a) (va_A wc H.size))
    (kk : ∀ (r : Int32) (u : S) (H1 : Heap) (locs1 : List Loc), post r u → va_P D vwCl (wr ++ w1 u) H1 → va_D A (wr ++ w1 u) → va_S A H0 H1 locs1 → W p l e R s m args below meth c H1 locs1 (cells + mc) (slots + ms) Q (F0 m (pc + 3) ls (.int r :: rest))) :
    W p l e R s m args below meth c H locs cells slots Q (F0 m pc ls st0) := by
  obtain ⟨hnR, hnC, hdis⟩ := fn_nd hnd
  have hF := va_free hD hS hA isC hC
  refine va_calli (hr (fn_pre hK hP hD isC hnC hC)) hS (fun q _ h => hF q h) hF (fun r u t H1 locs1 ht hvm hw hB hz hk hS1 => ?_)
  obtain ⟨hP1, hD1⟩ := hB
  rw [ht] at hP1
  obtain ⟨h1, h2⟩ := va_join hP hD isC isR hC hR hnR hdis hk hF hP1 hD1
  exact kk r u H1 locs1 hw h1 h2 hS1
theorem fn_gov {post : S → Prop} (hK : fn_KK D K s) (hP : va_P D vwCl ws H) (hD : va_D A ws) (hS : va_S A H0 H locs) (hA : ∀ q, H0.size ≤ q → A q) (isC isR : List Nat) (hC : isC.map (fun i => ws[i]?) = wc.map some) (hR : isR.map (fun i => ws[i]?) = wr.map some) (hnd : va_nd (isR ++ isC) = true)
    (hr : (∀ U : State, U.heap = H → s.WarmedH U.vm → va_Pc av (fn_Pre D K wc H.size) av.toArray U) → va_Run p l e R s m args below meth c H locs cells slots mc ms (F0 m pc ls st0) rest (va_Qv post (fun u t => va_P D vwCl (w1 u) t.heap ∧ va_D (va_A wc H.size) (w1 u)) (va_A wc H.size) a) (va_A wc H.size))
    (kk : ∀ (u : S) (H1 : Heap) (locs1 : List Loc), post u → va_P D vwCl (wr ++ w1 u) H1 → va_D A (wr ++ w1 u) → va_S A H0 H1 locs1 → W p l e R s m args below meth c H1 locs1 (cells + mc) (slots + ms) Q (F0 m (pc + 3) ls rest)) :
    W p l e R s m args below meth c H locs cells slots Q (F0 m pc ls st0) := by
  obtain ⟨hnR, hnC, hdis⟩ := fn_nd hnd
  have hF := va_free hD hS hA isC hC
  refine va_callv (hr (fn_pre hK hP hD isC hnC hC)) hS (fun q _ h => hF q h) hF (fun u t H1 locs1 ht hvm hw hB hz hk hS1 => ?_)
  obtain ⟨hP1, hD1⟩ := hB
  rw [ht] at hP1
  obtain ⟨h1, h2⟩ := va_join hP hD isC isR hC hR hnR hdis hk hF hP1 hD1
  exact kk u H1 locs1 hw h1 h2 hS1
theorem fn_iret {post : Int32 → S → Prop} {v : Int32} {ty : FieldType} (hx : p.tables.exec = Jvm.exec) (hb : c.code = cc) (hr : meth.sig.returnType = some ty) (hlocks : meth.locks = false) (hn : narrow ty (.int v) = .int v) (hP : va_P D vwCl ws H) (hD : va_D A ws) (hS : va_S A s.heap H locs) (u : S) (hp : post v u) (is : List Nat) (hnd : va_nd is = true) (hs : is.map (fun i => ws[i]?) = (w1 u).map some) (hdg : decode cc pc = .ok (.ireturn, 1)) :
    W p l e R s m args below meth c H locs cells slots (MQ below (va_Qi post (fun u t => va_P D vwCl (w1 u) t.heap ∧ va_D A (w1 u)) A) args s cells slots A) (F0 m pc ls [.int v]) :=
  W.zret hx hb hr hn (fun t ht hW => ⟨⟨v, u, rfl, hp, by rw [ht]; exact hP.sub is (fn_fm hs), hD.sub is hnd hs⟩, hS.F ht⟩) hS.2.2 hdg hlocks
theorem fn_vret {post : S → Prop} (hx : p.tables.exec = Jvm.exec) (hb : c.code = cc) (hr : meth.sig.returnType = none) (hlocks : meth.locks = false) (hP : va_P D vwCl ws H) (hD : va_D A ws) (hS : va_S A s.heap H locs) (u : S) (hp : post u) (is : List Nat) (hnd : va_nd is = true) (hs : is.map (fun i => ws[i]?) = (w1 u).map some) (hdg : decode cc pc = .ok (.return_, 1)) :
    W p l e R s m args below meth c H locs cells slots (MQ below (va_Qv post (fun u t => va_P D vwCl (w1 u) t.heap ∧ va_D A (w1 u)) A) args s cells slots A) (F0 m pc ls []) :=
  W.vret hx hb hr (fun t ht hW => ⟨⟨u, rfl, hp, by rw [ht]; exact hP.sub is (fn_fm hs), hD.sub is hnd hs⟩, hS.F ht⟩) hS.2.2 hdg hlocks
theorem fn_top {x : Int32} (y : Int32) (h : x = y) (k : W p l e R s m args below meth c H locs cells slots Q (F0 m pc ls (.int y :: rest))) : W p l e R s m args below meth c H locs cells slots Q (F0 m pc ls (.int x :: rest)) := by rw [h]; exact k
theorem fn_topl {x : Int64} (y : Int64) (h : x = y) (k : W p l e R s m args below meth c H locs cells slots Q (F0 m pc ls (.long y :: rest))) : W p l e R s m args below meth c H locs cells slots Q (F0 m pc ls (.long x :: rest)) := by rw [h]; exact k
theorem fn_topv {x : Value} (y : Value) (h : x = y) (k : W p l e R s m args below meth c H locs cells slots Q (F0 m pc ls (y :: rest))) : W p l e R s m args below meth c H locs cells slots Q (F0 m pc ls (x :: rest)) := by rw [h]; exact k
end FnGo
theorem fn_gs {fs : List Value} {k j : Nat} {v w : Value} (hne : j ≠ k) (h : fs[k]? = some v) : (fs.set j w)[k]? = some v := by
  rw [List.getElem?_set_ne hne]; exact h
theorem fn_gss {fs : List Value} {k n : Nat} {w : Value} (hl : fs.length = n) (h : k < n) : (fs.set k w)[k]? = some w := by
  rw [List.getElem?_set_self (by rw [hl]; exact h)]
theorem fn_sl {fs : List Value} {k n : Nat} {w : Value} (hl : fs.length = n) : (fs.set k w).length = n := by rw [List.length_set]; exact hl
theorem fn_kl {fs : List Value} {k n : Nat} (hl : fs.length = n) (h : k < n) : k < fs.length := by rw [hl]; exact h
theorem fn_ginV {y : MethodName} {C : String} {own : String} {idx : Nat} {ws : List Cond} (h : GoodIn fn_big ws) (h1 : Cond.methodLink own idx y ∈ fn_big) (h2 : Cond.instanceMethod y ∈ fn_big) (h3 : Cond.selects C y y ∈ fn_big) (h4 : Cond.initialized C ∈ fn_big) : GoodIn fn_big (wsV own idx C y ws) := by
  intro w hw
  have hg : ∀ z ∈ fn_big, z ∈ fn_big ∧ ((z.onTables && z.keeps) = true ∨ ∃ ty, z = .arrayClass ty) := fun z hz => ⟨hz, good_of_word (List.mem_filter.mp hz).2⟩
  rcases List.mem_append.mp hw with hw | hw
  · rcases List.mem_cons.mp hw with rfl | hw
    · exact hg _ h1
    rcases List.mem_cons.mp hw with rfl | hw
    · exact hg _ h2
    rcases List.mem_cons.mp hw with rfl | hw
    · exact hg _ h3
    rcases List.mem_cons.mp hw with rfl | hw
    · exact hg _ h4
    exact absurd hw List.not_mem_nil
  · exact h w hw
theorem fn_ginS {y : MethodName} {own : String} {idx : Nat} {ws : List Cond} (h : GoodIn fn_big ws) (h1 : Cond.methodLink own idx y ∈ fn_big) (h2 : Cond.static y ∈ fn_big) (h4 : Cond.initialized y.cls ∈ fn_big) : GoodIn fn_big (va_wsS own idx y ws) := by
  intro w hw
  have hg : ∀ z ∈ fn_big, z ∈ fn_big ∧ ((z.onTables && z.keeps) = true ∨ ∃ ty, z = .arrayClass ty) := fun z hz => ⟨hz, good_of_word (List.mem_filter.mp hz).2⟩
  rcases List.mem_append.mp hw with hw | hw
  · rcases List.mem_cons.mp hw with rfl | hw
    · exact hg _ h1
    rcases List.mem_cons.mp hw with rfl | hw
    · exact hg _ h2
    rcases List.mem_cons.mp hw with rfl | hw
    · exact hg _ h4
    exact absurd hw List.not_mem_nil
  · exact h w hw
/-- two array classes of one component type are one -/
theorem fn_uniq {D : va_G} {cl : List vw_C} {tys : List (ClassId × FieldType)} {U : State} (h : va_K D cl tys U) (i j : Nat) {a b : ClassId} {ty : FieldType} (hi : tys[i]? = some (a, ty)) (hj : tys[j]? = some (b, ty)) (hp : refKind ty = false) : a = b := by
  have h1 := (h.2 i _ hi).2
  have h2 := (h.2 j _ hj).2
  cases ty <;> first | exact Bool.noConfusion hp | exact Option.some.inj (h1.symm.trans h2)
theorem fn_upd_all {f : Nat → Int32} {k : Nat} {v : Int32} (h : ∀ j, f j = v) : ∀ j, upd f k v j = v := by
  intro j
  unfold upd
  split
  · rfl
  · exact h j
theorem fn_updL_all {f : Nat → Int64} {k : Nat} {v : Int64} (h : ∀ j, f j = v) : ∀ j, vp_updL f k v j = v := by
  intro j
  unfold vp_updL
  split
  · rfl
  · exact h j
theorem fn_cpy_all {α : Type} {f g : Nat → α} {a b n : Nat} {v : α} (h : ∀ j, f j = v) (h2 : ∀ j, g j = v) : ∀ j, va_cpy f g a b n j = v := by
  intro j
  unfold va_cpy
  split
  · exact h _
  · exact h2 _
/-- low ≤ v ≤ high, as 1 or 0 -/
def fn_rng (v a b : Int64) : Int32 := if a ≤ v ∧ v ≤ b then 1 else 0
theorem fn_rng_1 {v a b : Int64} (h1 : ¬ lg_cmp v a < 0) (h2 : ¬ 0 < lg_cmp v b) : (1 : Int32) = fn_rng v a b := by
  rw [lg_cmp_lt] at h1
  rw [lg_cmp_gt] at h2
  unfold fn_rng
  rw [if_pos ⟨Int64.not_lt.mp h1, Int64.not_lt.mp h2⟩]
theorem fn_rng_0a {v a b : Int64} (h1 : lg_cmp v a < 0) : (0 : Int32) = fn_rng v a b := by
  rw [lg_cmp_lt] at h1
  unfold fn_rng
  rw [if_neg (fun h => absurd h1 (Int64.not_lt.mpr h.1))]
theorem fn_rng_0b {v a b : Int64} (h2 : 0 < lg_cmp v b) : (0 : Int32) = fn_rng v a b := by
  rw [lg_cmp_gt] at h2
  unfold fn_rng
  rw [if_neg (fun h => absurd h2 (Int64.not_lt.mpr h.2))]
theorem fn_cmp_no {v : Int64} (h1 : ¬ lg_cmp v 0 < 0) : 0 < lg_cmp v (-1) := by
  rw [lg_cmp_lt] at h1
  rw [lg_cmp_gt, Int64.lt_iff_toInt_lt]
  rw [Int64.lt_iff_toInt_lt] at h1
  have e0 : (0 : Int64).toInt = 0 := by decide
  have e1 : (-1 : Int64).toInt = -1 := by decide
  rw [e0] at h1
  rw [e1]
  omega
theorem fn_uniqO {D : va_G} {cl : List vw_C} {tys : List (ClassId × FieldType)} {U : State} (h : va_K D cl tys U) (i j : Nat) {a b : ClassId} {C : String} (hi : tys[i]? = some (a, .object C)) (hj : tys[j]? = some (b, .object C)) : a = b := by
  obtain ⟨_, _, _, _, _, h1⟩ := (h.2 i _ hi).2
  obtain ⟨_, _, _, _, _, h2⟩ := (h.2 j _ hj).2
  exact Option.some.inj (h1.symm.trans h2)
theorem fn_arrC {ty : FieldType} {A : Array Value} {s : State} (hp : refKind ty = false) (h : (Cond.arrayClass ty).before A s = true) : ∃ cA : ClassId, ArrOfT s cA ty ∧ va_RA s cA ty := by
  obtain ⟨cA, kA, comp, h1, h2, h3⟩ := Cond.arrayClass_spec h
  refine ⟨cA, fun n z => ⟨fun k h => (by cases h), kA, h2, comp, h3⟩, ?_⟩
  cases ty <;> first | exact Bool.noConfusion hp | exact h1
theorem fn_arrO {C : String} {s : State} (h : va_AO C s) : ∃ cA : ClassId, ArrOfT s cA (.object C) ∧ va_RA s cA (.object C) := by
  obtain ⟨comp, c, k, h1, h2, h3, h4, h5⟩ := Cond.arrayOver_spec h
  exact ⟨c, fun N z => ⟨fun k h => (by cases h), k, h3, comp, h4⟩, k, comp, h3, h4, h1, h5⟩
/-- 0 ≤ p < n -/
abbrev fn_ok (p : Int32) (n : Int) : Prop := 0 ≤ p.toInt ∧ p.toInt < n
def fn_sEnd (p : Int32) : Int32 := if p = 0 then 0 else -1
def fn_sCnt (p : Int32) : Int32 := if fn_ok p 10 then 0 else -1
def fn_sImg (p : Int32) : Int32 := if fn_ok p 3 then 0 else -2
def fn_sBack (p : Int32) : Int32 := if fn_ok p 3 then -6 else -2
def fn_sWr (p : Int32) : Int32 := if fn_ok p 4 then -6 else -2
def fn_sPst (p q : Int32) : Int32 := if fn_ok p 4 ∧ fn_ok q 4 then -6 else -2
def fn_sRow (p w n : Int32) : Int32 := if fn_ok p 4 ∧ fn_ok w 4 ∧ n.toInt ≤ 60 then (if n.toInt < 0 then -3 else 0) else -2
theorem fn_t0 : (0 : Int32).toInt = 0 := by decide
theorem fn_lt0 {p : Int32} : p < 0 ↔ p.toInt < 0 := by rw [Int32.lt_iff_toInt_lt, fn_t0]
theorem fn_0le {p : Int32} : 0 ≤ p ↔ 0 ≤ p.toInt := by rw [Int32.le_iff_toInt_le, fn_t0]
theorem fn_le {p q : Int32} (k : Int) (h : q.toInt = k) : q ≤ p ↔ k ≤ p.toInt := by rw [Int32.le_iff_toInt_le, h]
theorem fn_ge {p q : Int32} (k : Int) (h : q.toInt = k) : p ≤ q ↔ p.toInt ≤ k := by rw [Int32.le_iff_toInt_le, h]
theorem fn_bad_a {p : Int32} {n : Int} (h : p < 0) : ¬ fn_ok p n := fun k => by rw [fn_lt0] at h; omega
theorem fn_bad_b {p q : Int32} {n : Int} (hq : q.toInt = n) (h : q ≤ p) : ¬ fn_ok p n := fun k => by rw [fn_le n hq] at h; omega
theorem fn_good {p q : Int32} {n : Int} (hq : q.toInt = n) (h1 : ¬ p < 0) (h2 : ¬ q ≤ p) : fn_ok p n := by
  rw [fn_lt0] at h1; rw [fn_le n hq] at h2
  exact ⟨by omega, by omega⟩
theorem fn_l0 : (0 : Int64).toInt = 0 := by decide
theorem fn_in64 {p : Int32} {b : Int64} {n : Int} (hb : b.toInt = n - 1) : (0 ≤ p.toInt64 ∧ p.toInt64 ≤ b) ↔ fn_ok p n := by
  rw [Int64.le_iff_toInt_le, Int64.le_iff_toInt_le, fn_l0, hb, Int32.toInt_toInt64]
  constructor
  · exact fun h => ⟨h.1, by omega⟩
  · exact fun h => ⟨h.1, by omega⟩
theorem fn_rngN {p : Int32} {b : Int64} {n : Int} (hb : b.toInt = n - 1) (h : ¬ fn_ok p n) : fn_rng p.toInt64 0 b = 0 := if_neg (fun k => h ((fn_in64 hb).mp k))
theorem fn_rngY {p : Int32} {b : Int64} {n : Int} (hb : b.toInt = n - 1) (h : fn_ok p n) : fn_rng p.toInt64 0 b = 1 := if_pos ((fn_in64 hb).mpr h)
theorem fn_okIn {p : Int32} {n : Nat} (h : fn_ok p n) : vp_in p n := vp_in_iff.mpr h
theorem fn_of (p : Int32) (k : Int32) (n : Int) (hk : k.toInt = n) (h : p.toInt = n) : p = k := Int32.toInt_inj.mp (h.trans hk.symm)
theorem fn_c3 {p : Int32} (h : fn_ok p 3) : p = 0 ∨ p = 1 ∨ p = 2 := by
  obtain ⟨h1, h2⟩ := h
  rcases (show p.toInt = 0 ∨ p.toInt = 1 ∨ p.toInt = 2 by omega) with e | e | e
  · exact Or.inl (fn_of p 0 0 (by decide) e)
  · exact Or.inr (Or.inl (fn_of p 1 1 (by decide) e))
  · exact Or.inr (Or.inr (fn_of p 2 2 (by decide) e))
theorem fn_c4 {p : Int32} (h : fn_ok p 4) : p = 0 ∨ p = 1 ∨ p = 2 ∨ p = 3 := by
  obtain ⟨h1, h2⟩ := h
  rcases (show p.toInt = 0 ∨ p.toInt = 1 ∨ p.toInt = 2 ∨ p.toInt = 3 by omega) with e | e | e | e
  · exact Or.inl (fn_of p 0 0 (by decide) e)
  · exact Or.inr (Or.inl (fn_of p 1 1 (by decide) e))
  · exact Or.inr (Or.inr (Or.inl (fn_of p 2 2 (by decide) e)))
  · exact Or.inr (Or.inr (Or.inr (fn_of p 3 3 (by decide) e)))
theorem fn_c10 (p : Int32) : (p.toInt < 0 ∨ 9 < p.toInt) ∨ p = 0 ∨ p = 1 ∨ p = 2 ∨ p = 3 ∨ p = 4 ∨ p = 5 ∨ p = 6 ∨ p = 7 ∨ p = 8 ∨ p = 9 := by
  rcases (show (p.toInt < 0 ∨ 9 < p.toInt) ∨ p.toInt = 0 ∨ p.toInt = 1 ∨ p.toInt = 2 ∨ p.toInt = 3 ∨ p.toInt = 4 ∨ p.toInt = 5 ∨ p.toInt = 6 ∨ p.toInt = 7 ∨ p.toInt = 8 ∨ p.toInt = 9 by omega) with e | e | e | e | e | e | e | e | e | e | e
  · exact Or.inl e
  · rw [fn_of p 0 0 (by decide) e]; decide
  · rw [fn_of p 1 1 (by decide) e]; decide
  · rw [fn_of p 2 2 (by decide) e]; decide
  · rw [fn_of p 3 3 (by decide) e]; decide
  · rw [fn_of p 4 4 (by decide) e]; decide
  · rw [fn_of p 5 5 (by decide) e]; decide
  · rw [fn_of p 6 6 (by decide) e]; decide
  · rw [fn_of p 7 7 (by decide) e]; decide
  · rw [fn_of p 8 8 (by decide) e]; decide
  · rw [fn_of p 9 9 (by decide) e]; decide
theorem fn_cntO {p : Int32} (h : p.toInt < 0 ∨ 9 < p.toInt) : (-1 : Int32) = fn_sCnt p := (if_neg (fun k : fn_ok p 10 => by obtain ⟨a, b⟩ := k; omega)).symm
theorem fn_endA {p : Int32} (h : p < 0) : (-1 : Int32) = fn_sEnd p := (if_neg (fun e => by rw [e] at h; exact absurd h (by decide))).symm
theorem fn_endB {p : Int32} (h : ¬ p ≤ 0) : (-1 : Int32) = fn_sEnd p := (if_neg (fun e => h (by rw [e]; exact Int32.le_refl 0))).symm
theorem fn_endC {p : Int32} (h1 : ¬ p < 0) (h2 : p ≤ 0) : p = fn_sEnd p := by
  have e : p = 0 := by
    rw [fn_lt0] at h1
    rw [fn_ge 0 fn_t0] at h2
    exact fn_of p 0 0 fn_t0 (by omega)
  subst e
  decide
theorem fn_ok1 {p : Int32} (h : fn_ok p 1) : p = fn_sEnd p := by
  have e : p = 0 := fn_of p 0 0 fn_t0 (by obtain ⟨a, b⟩ := h; omega)
  subst e
  decide
theorem fn_ok1n {p : Int32} (h : ¬ fn_ok p 1) : (-1 : Int32) = fn_sEnd p := (if_neg (fun e => h (by rw [e]; decide))).symm
theorem fn_row2 {p w n : Int32} (h : ¬ (fn_ok p 4 ∧ fn_ok w 4 ∧ n.toInt ≤ 60)) : (-2 : Int32) = fn_sRow p w n := (if_neg h).symm
theorem fn_row3 {p w n : Int32} (h1 : fn_ok p 4) (h2 : fn_ok w 4) (h3 : n.toInt ≤ 60) (h4 : n.toInt < 0) : (-3 : Int32) = fn_sRow p w n := by
  unfold fn_sRow; rw [if_pos ⟨h1, h2, h3⟩, if_pos h4]
theorem fn_row0 {p w n : Int32} (h1 : fn_ok p 4) (h2 : fn_ok w 4) (h3 : n.toInt ≤ 60) (h4 : ¬ n.toInt < 0) : (0 : Int32) = fn_sRow p w n := by
  unfold fn_sRow; rw [if_pos ⟨h1, h2, h3⟩, if_neg h4]
theorem fn_60 : (60 : Int32).toInt = 60 := by decide
theorem fn_4 : (4 : Int32).toInt = 4 := by decide
theorem fn_inY {p : Int32} {b : Int64} {n : Int} (hb : b.toInt = n - 1) (h1 : ¬ lg_cmp p.toInt64 0 < 0) (h2 : ¬ 0 < lg_cmp p.toInt64 b) : fn_ok p n := by
  rw [lg_cmp_lt] at h1
  rw [lg_cmp_gt] at h2
  exact (fn_in64 hb).mp ⟨Int64.not_lt.mp h1, Int64.not_lt.mp h2⟩
theorem fn_inNa {p : Int32} {b : Int64} {n : Int} (hb : b.toInt = n - 1) (h1 : lg_cmp p.toInt64 0 < 0) : ¬ fn_ok p n := by
  rw [lg_cmp_lt] at h1
  exact fun k => absurd h1 (Int64.not_lt.mpr ((fn_in64 hb).mpr k).1)
theorem fn_inNb {p : Int32} {b : Int64} {n : Int} (hb : b.toInt = n - 1) (h2 : 0 < lg_cmp p.toInt64 b) : ¬ fn_ok p n := by
  rw [lg_cmp_gt] at h2
  exact fun k => absurd h2 (Int64.not_lt.mpr ((fn_in64 hb).mpr k).2)
theorem fn_cl {p : Int32} {n : Nat} (h : fn_ok p n) : p.toNatClampNeg < n := Nat.not_le.mp fun q => fn_okIn h (Or.inr q)
section FnAt
variable {p : Program} {l : Launch} {e : Env} {R : Room} {s : State} {m : MethodId} {args : Array Value} {below : List Frame} {meth : Method} {c : Code} {H : Heap} {locs : List Loc} {cells slots pc : Nat} {Q : State → Prop} {ls : Array Slot} {st : List Value}
theorem fn_at (n : Nat) (h : pc = n) (k : W p l e R s m args below meth c H locs cells slots Q (F0 m n ls st)) : W p l e R s m args below meth c H locs cells slots Q (F0 m pc ls st) := by rw [h]; exact k
end FnAt
