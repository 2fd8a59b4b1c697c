/-! what lies in the heap before: the words of the language, two statics of the JDK -/
def fn_strs : List (Nat × String) := [(94, "town"), (96, "opens"), (103, "odds"), (53, "book"), (110, "pages"), (111, "by"), (62, "note"), (119, "to"), (121, "denies"), (67, "fact"), (83, "dead")]
def fn_len : List Nat := [4, 5, 4, 4, 5, 2, 4, 2, 6, 4, 4]
def fn_byt : List (List Int32) := [[116, 111, 119, 110], [111, 112, 101, 110, 115], [111, 100, 100, 115], [98, 111, 111, 107], [112, 97, 103, 101, 115], [98, 121], [110, 111, 116, 101], [116, 111], [100, 101, 110, 105, 101, 115], [102, 97, 99, 116], [100, 101, 97, 100]]
def fn_O (adK adV : Nat → Nat) (A : Nat → Prop) (U : State) (H : Heap) : Prop :=
  vk_S 11 fn_len fn_byt adK adV A U H ∧ va_Z "java/lang/String" "COMPACT_STRINGS" "Z" (.int 1) A U H ∧ va_Zq "jdk/internal/util/Preconditions" "SIOOBE_FORMATTER" "Ljava/util/function/BiFunction;" A U H ∧ ∀ (i : Nat) (r : Nat × String), fn_strs[i]? = some r → vk_R RX3 r.1 r.2 (adK i) U
theorem fn_O.same {adK adV : Nat → Nat} {A : Nat → Prop} {u U : State} {H : Heap} (hv : U.vm = u.vm) (h : fn_O adK adV A u H) : fn_O adK adV A U H := by
  have ha : u.vm.Alike U.vm := by rw [hv]; exact Vm.Alike.refl _
  exact ⟨vk_S.moved ha h.1, va_Z.moved ha h.2.1, va_Zq.moved ha h.2.2.1, fun i r hr => vk_R.same hv (h.2.2.2 i r hr)⟩
theorem fn_O.call {adK adV : Nat → Nat} {A B : Nat → Prop} {s U : State} {H : Heap} {locs : List Loc} (h : fn_O adK adV A s s.heap) (hS : va_S A s.heap H locs) (hAB : ∀ q, B q → A q) (hU : U.heap = H) (hW : s.WarmedH U.vm) : fn_O adK adV B U U.heap := by
  rw [hU]
  exact ⟨vk_S.moved hW.alike ((h.1.kept hS.2.1).narrow hAB), va_Z.moved hW.alike ((h.2.1.kept hS.2.1).narrow hAB), va_Zq.moved hW.alike ((h.2.2.1.kept hS.2.1).narrow hAB), fun i r hr => vk_R.warm hW (h.2.2.2 i r hr)⟩
def fn_PreO (adK adV : Nat → Nat) (D : va_G) (K : Nat → ClassId) (wc : va_W) (sz : Nat) (U : State) : Prop := fn_Pre D K wc sz U ∧ fn_O adK adV (va_A wc sz) U U.heap
theorem fn_blindO {adK adV : Nat → Nat} {D : va_G} {K : Nat → ClassId} {wc : va_W} {sz : Nat} {av : List Value} : FrameBlind (va_Pc av (fn_PreO adK adV D K wc sz)) := fun a U g mk q => ⟨q.1, ⟨q.2.1.1, q.2.1.2.1, fn_KK.same (u := U) (U := U.calling g mk a) rfl q.2.1.2.2.1, q.2.1.2.2.2⟩, fn_O.same (u := U) (U := U.calling g mk a) rfl q.2.2⟩
theorem fn_preO {adK adV : Nat → Nat} {D : va_G} {K : Nat → ClassId} {s : State} {H : Heap} {A : Nat → Prop} {ws wc : va_W} {av : List Value} {locs : List Loc} (hK : fn_KK D K s) (hP : va_P D vwCl ws H) (hD : va_D A ws) (hS : va_S A s.heap H locs) (hO : fn_O adK adV A s s.heap) (hF : ∀ q, va_A wc H.size q → A q) (isC : List Nat) (hn : va_nd isC = true) (hC : isC.map (fun i => ws[i]?) = wc.map some) :
    ∀ U : State, U.heap = H → s.WarmedH U.vm → va_Pc av (fn_PreO adK adV D K wc H.size) av.toArray U := fun U hU hW =>
  ⟨rfl, ⟨by rw [hU], by rw [hU]; exact hP.sub isC (fn_fm hC), hK.warm hW, (hD.sub isC hn hC).weaken (fun _ _ _ _ => trivial)⟩, hO.call hS hF hU hW⟩
abbrev fn_CIO (adK adV : Nat → Nat) {S : Type} (l : Launch) (D : va_G) (K : Nat → ClassId) (y : MethodName) (ws : List Cond) (rm : Room) (av : List Value) (wc : va_W) (post : Int32 → S → Prop) (w1 : S → va_W) (mc ms : Nat) : Prop :=
  ∀ sz : Nat, Met l y ws rm (va_Pc av (fn_PreO adK adV D K wc sz)) (va_Qi post (fun u t => va_P D vwCl (w1 u) t.heap ∧ va_D (va_A wc sz) (w1 u)) (va_A wc sz)) mc ms (va_A wc sz)
abbrev fn_CVO (adK adV : Nat → Nat) {S : Type} (l : Launch) (D : va_G) (K : Nat → ClassId) (y : MethodName) (ws : List Cond) (rm : Room) (av : List Value) (wc : va_W) (post : S → Prop) (w1 : S → va_W) (mc ms : Nat) : Prop :=
  ∀ sz : Nat, Met l y ws rm (va_Pc av (fn_PreO adK adV D K wc sz)) (va_Qv post (fun u t => va_P D vwCl (w1 u) t.heap ∧ va_D (va_A wc sz) (w1 u)) (va_A wc sz)) mc ms (va_A wc sz)
section G4In
variable {adK adV : Nat → Nat} {l : Launch} {D : va_G} {K : Nat → ClassId} {y : MethodName} {ws ws' : List Cond} {rm : Room} {av : List Value} {wc : va_W} {mc ms maxL : Nat} {cc : ByteArray} {ret : Option FieldType} {S : Type} {w1 : S → va_W}
theorem g_inIO {post : Int32 → S → Prop} (hy : plainName y.cls = true) (hw : ws = Cond.code y cc maxL ret :: ws') (hav : (lg_sl av).length ≤ maxL)
    (body : ∀ (p : Program) (e : Env) (s : State) (m : MethodId) (below : List Frame) (meth : Method) (c : Code) (A : Nat → Prop) (ls : Array Slot) (ag : Array Value) (Q : State → Prop), g_B D K y ws cc maxL ret ag p s m meth c → fn_O adK adV A s s.heap → (∀ q, s.heap.size ≤ q → A q) → va_P D vwCl wc s.heap → va_D A wc → va_S A s.heap s.heap [] → lv_has ls maxL (lv_args 0 av) → Q = MQ below (va_Qi post (fun u t => va_P D vwCl (w1 u) t.heap ∧ va_D A (w1 u)) A) ag s mc ms A →
      W p l e rm s m ag below meth c s.heap [] 0 0 Q (F0 m 0 ls [])) :
    fn_CIO adK adV l D K y ws rm av wc post w1 mc ms := by
  intro sz
  refine Met.ofW (cc := cc) (maxL := maxL) (ret := ret) hy hw ?_
  intro p e s m args below meth c s₁ B hml hv
  obtain ⟨rfl, ⟨hsz, hP, hK, hD0⟩, hO⟩ := hv
  subst hsz
  rw [lg_entry_eq]
  exact body p e s m below meth c _ _ _ _ ⟨B.exec, B.bytes, B.returns, hml, atoms_spec (ws := ws) B.pre, findClass_of_methodNamed B.named, B.notSynchronized, (name_of_methodNamed B.named B.method).1, hK⟩ hO (fun q h => Or.inr h) hP (hD0.self (sz := s.heap.size)) va_S.rf (lv_entry av hav) rfl
theorem g_inVO {post : S → Prop} (hy : plainName y.cls = true) (hw : ws = Cond.code y cc maxL ret :: ws') (hav : (lg_sl av).length ≤ maxL)
    (body : ∀ (p : Program) (e : Env) (s : State) (m : MethodId) (below : List Frame) (meth : Method) (c : Code) (A : Nat → Prop) (ls : Array Slot) (ag : Array Value) (Q : State → Prop), g_B D K y ws cc maxL ret ag p s m meth c → fn_O adK adV A s s.heap → (∀ q, s.heap.size ≤ q → A q) → va_P D vwCl wc s.heap → va_D A wc → va_S A s.heap s.heap [] → lv_has ls maxL (lv_args 0 av) → Q = MQ below (va_Qv post (fun u t => va_P D vwCl (w1 u) t.heap ∧ va_D A (w1 u)) A) ag s mc ms A →
      W p l e rm s m ag below meth c s.heap [] 0 0 Q (F0 m 0 ls [])) :
    fn_CVO adK adV l D K y ws rm av wc post w1 mc ms := by
  intro sz
  refine Met.ofW (cc := cc) (maxL := maxL) (ret := ret) hy hw ?_
  intro p e s m args below meth c s₁ B hml hv
  obtain ⟨rfl, ⟨hsz, hP, hK, hD0⟩, hO⟩ := hv
  subst hsz
  rw [lg_entry_eq]
  exact body p e s m below meth c _ _ _ _ ⟨B.exec, B.bytes, B.returns, hml, atoms_spec (ws := ws) B.pre, findClass_of_methodNamed B.named, B.notSynchronized, (name_of_methodNamed B.named B.method).1, hK⟩ hO (fun q h => Or.inr h) hP (hD0.self (sz := s.heap.size)) va_S.rf (lv_entry av hav) rfl
end G4In
section G4Go
variable {adK adV : Nat → Nat} {p : Program} {l : Launch} {e : Env} {R : Room} {s : State} {m : MethodId} {args : Array Value} {below : List Frame} {meth : Method} {c : Code} {H : Heap} {locs : List Loc} {cells slots mc ms pc : Nat} {Q : State → Prop} {D : va_G} {K : Nat → ClassId} {A : Nat → Prop} {ws wc wr : va_W} {ls : Array Slot} {st0 rest : List Value} {S : Type} {w1 : S → va_W} {av : List Value} {a : Array Value} {cc : ByteArray}
theorem fn_goiO {post : Int32 → S → Prop} (hO : fn_O adK adV A s s.heap) (hK : fn_KK D K s) (hP : va_P D vwCl ws H) (hD : va_D A ws) (hS : va_S A s.heap H locs) (hA : ∀ q, s.heap.size ≤ q → A q) (isC isR : List Nat) (hC : isC.map (fun i => ws[i]?) = wc.map some) (hR : isR.map (fun i => ws[i]?) = wr.map some) (hnd : va_nd (isR ++ isC) = true)
    (hr : (∀ U : State, U.heap = H → s.WarmedH U.vm → va_Pc av (fn_PreO adK adV D K wc H.size) av.toArray U) → va_Run p l e R s m args below meth c H locs cells slots mc ms (F0 m pc ls st0) rest (va_Qi post (fun u t => va_P D vwCl (w1 u) t.heap ∧ va_D (va_A wc H.size) (w1 u)) (va_A wc H.size) a) (va_A wc H.size))
    (kk : ∀ (r : Int32) (u : S) (H1 : Heap) (locs1 : List Loc), post r u → va_P D vwCl (wr ++ w1 u) H1 → va_D A (wr ++ w1 u) → va_S A s.heap H1 locs1 → W p l e R s m args below meth c H1 locs1 (cells + mc) (slots + ms) Q (F0 m (pc + 3) ls (.int r :: rest))) :
    W p l e R s m args below meth c H locs cells slots Q (F0 m pc ls st0) := by
  obtain ⟨hnR, hnC, hdis⟩ := fn_nd hnd
  have hF := va_free hD hS hA isC hC
  refine va_calli (hr (fn_preO hK hP hD hS hO hF isC hnC hC)) hS (fun q _ h => hF q h) hF (fun r u t H1 locs1 ht hvm hw hB hz hk hS1 => ?_)
  obtain ⟨hP1, hD1⟩ := hB
  rw [ht] at hP1
  obtain ⟨h1, h2⟩ := va_join hP hD isC isR hC hR hnR hdis hk hF hP1 hD1
  exact kk r u H1 locs1 hw h1 h2 hS1
theorem fn_govO {post : S → Prop} (hO : fn_O adK adV A s s.heap) (hK : fn_KK D K s) (hP : va_P D vwCl ws H) (hD : va_D A ws) (hS : va_S A s.heap H locs) (hA : ∀ q, s.heap.size ≤ q → A q) (isC isR : List Nat) (hC : isC.map (fun i => ws[i]?) = wc.map some) (hR : isR.map (fun i => ws[i]?) = wr.map some) (hnd : va_nd (isR ++ isC) = true)
    (hr : (∀ U : State, U.heap = H → s.WarmedH U.vm → va_Pc av (fn_PreO adK adV D K wc H.size) av.toArray U) → va_Run p l e R s m args below meth c H locs cells slots mc ms (F0 m pc ls st0) rest (va_Qv post (fun u t => va_P D vwCl (w1 u) t.heap ∧ va_D (va_A wc H.size) (w1 u)) (va_A wc H.size) a) (va_A wc H.size))
    (kk : ∀ (u : S) (H1 : Heap) (locs1 : List Loc), post u → va_P D vwCl (wr ++ w1 u) H1 → va_D A (wr ++ w1 u) → va_S A s.heap H1 locs1 → W p l e R s m args below meth c H1 locs1 (cells + mc) (slots + ms) Q (F0 m (pc + 3) ls rest)) :
    W p l e R s m args below meth c H locs cells slots Q (F0 m pc ls st0) := by
  obtain ⟨hnR, hnC, hdis⟩ := fn_nd hnd
  have hF := va_free hD hS hA isC hC
  refine va_callv (hr (fn_preO hK hP hD hS hO hF isC hnC hC)) hS (fun q _ h => hF q h) hF (fun u t H1 locs1 ht hvm hw hB hz hk hS1 => ?_)
  obtain ⟨hP1, hD1⟩ := hB
  rw [ht] at hP1
  obtain ⟨h1, h2⟩ := va_join hP hD isC isR hC hR hnR hdis hk hF hP1 hD1
  exact kk u H1 locs1 hw h1 h2 hS1
end G4Go
theorem iI_shr0 (x : Int) : iI x >>> (iI 0 &&& 31) = iI x := by
  rw [iI_0]; exact sb_shr0 _
/-- a char of a byte -/
theorem iI_i2c (x : Int) : ∃ w : Int, ((iI x).toUInt32 % 65536).toInt32 = iI w ∧ (0 ≤ w ∧ w ≤ 65535) := by
  refine ⟨((iI x).toBitVec.toNat % 65536 : Nat), ?_, by omega, by omega⟩
  rw [pk_char, iI_nat (by omega)]
theorem fn_len_lt (i : Nat) : fn_len.getD i 0 < 7 := by
  rcases Nat.lt_or_ge i 11 with h | h
  · have h2 : ∀ i, i < 11 → fn_len.getD i 0 < 7 := by decide
    exact h2 i h
  · have e : fn_len.getD i 0 = 0 := by
      rw [List.getD_eq_getElem?_getD, List.getElem?_eq_none (show fn_len.length ≤ i from h)]; rfl
    rw [e]; decide
theorem iI_nc {v : Int} (h : 0 ≤ v ∧ v ≤ 65535) : narrow .char (.int (iI v)) = .int (iI v) := by
  have e : iI v = nI v.toNat := by rw [iI_nat (by omega)]; congr 1; omega
  rw [e]
  exact (pk_charN (by omega)).1
