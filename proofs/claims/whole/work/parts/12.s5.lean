-- The abstract machine is sound: calls.
section ab_calls
variable {p : Program} {l : Launch} {e : Env} {R : Room} {s : State} {m : MethodId} {args : Array Value} {below : List Frame} {meth : Method} {c : Code} {Q : State → Prop} {D : va_G} {q sa wa B n0 z0 k pc : Nat} {Hb : Heap} {L : ab_L} {st : List ab_V} {S : ab_S} {T : State} {locs : List Loc} {cells slots : Nat}
/-- a method of the tables, as the machine finds it -/
theorem ab_named {j : Nat} (hE : ab_E D wa B Hb s) (hj : j < ab_M) : ∃ (mk : MethodId) (mt : Method) (ck : Code), s.methodNamed? (ab_nm j) = some mk ∧ s.vm.method? mk = some mt ∧ mt.code = some ck ∧ ck.code = ab_by j ∧ ck.maxLocals = ab_mxl j ∧ mt.sig.returnType = ab_rty j ∧ mt.locks = false ∧
    ck.exceptionTable.toList.map (fun h => (h.startPc, h.endPc, h.handlerPc, h.catchType)) = ab_ht j ∧ parseMethodDescriptor (ab_nm j).desc = some mt.sig ∧ mt.name = (ab_nm j).name ∧ s.vm.findClass (ab_cn (ab_own j)) = some mk.cls := by
  rcases ab_code_ok hj with ⟨h0, hw⟩ | hw
  · have w := hE.word hw #[]
    obtain ⟨mk, hn⟩ := Cond.code_named w
    obtain ⟨mt, ck, a1, a2, a3, a4, a5, a6, a7, a8⟩ := Cond.code_spec hn w
    refine ⟨mk, mt, ck, hn, a1, a2, a3, a4, a5, a6, ?_, a8, (name_of_methodNamed hn a1).1, ?_⟩
    · rw [h0]
      have : ck.exceptionTable = #[] := by simpa using a7
      rw [this]
      rfl
    · rw [ab_cnF hj]
      exact findClass_of_methodNamed hn
  · have w := hE.word hw #[]
    obtain ⟨mk, mt, ck, hn, a1, a2, a3, a4, a5, a6, a7, a8⟩ := Cond.codeWith_spec w
    refine ⟨mk, mt, ck, hn, a1, a2, a3, a4, a6, a7, a5, a8, (name_of_methodNamed hn a1).1, ?_⟩
    rw [ab_cnF hj]
    exact findClass_of_methodNamed hn
theorem ab_plain {j : Nat} (hj : j < ab_M) {mk : MethodId} {U : State} (hn : U.methodNamed? (ab_nm j) = some mk) : U.plainMethod mk := by
  refine State.plainMethod.of_name fun kc hk => ?_
  obtain ⟨k', hk', hnm⟩ := className_of_methodNamed hn
  cases hk.symm.trans hk'
  rw [hnm]
  exact ab_plF hj
def ab_iv (p : Program) (l : Launch) (e : Env) (R : Room) (s : State) (m : MethodId) (args : Array Value) (below : List Frame) (meth : Method) (c : Code) (T : State) (locs : List Loc) (cells slots : Nat) (g : JFrame) (y : MethodName) (av rest : List Value) : Prop :=
  ∃ (vm' : Vm) (mk : MethodId), Stand p l e R s m args below meth c (T.setVm vm') locs cells slots ∧ s.methodNamed? y = some mk ∧ s.WarmedH vm' ∧
    ∀ target, (∀ acts, Steps p.tables e below (doInvoke e ((T.setVm vm').setTop { g with stack := rest }) acts mk av.toArray).1 target) → Steps p.tables e below (T.setTop g) target
theorem ab_inS {i j n : Nat} (hF : ab_F k p s m meth c) (hE : ab_E D wa B Hb s) (X : Stand p l e R s m args below meth c T locs cells slots) (hres : (ab_own k, i, 1, j, n) ∈ ab_mtl) {g : JFrame} (hg : g.method = m) {av rest : List Value} (hlen : av.length = n) (hstack : g.stack = av.reverse ++ rest) (hd : decode c.code g.pc = .ok (.invokestatic i, 3)) :
    ab_iv p l e R s m args below meth c T locs cells slots g (ab_nm j) av rest := by
  obtain ⟨hj, w1, w2, w3, hsig, hx⟩ := ab_mtl_s hres
  obtain ⟨mk, mt, ck, hn, a1, a2, a3, a4, a5, a6, a7, a8, a9, a10⟩ := ab_named hE hj
  obtain ⟨kP, hkP, -⟩ := className_of_methodNamed hn
  have hst : mt.isStatic = true := Cond.static_spec hn a1 (hE.word w2 args)
  have hini : kP.init = .initialized := Cond.initialized_spec (findClass_of_methodNamed hn) hkP (hE.word w3 args)
  rcases w1 with w1 | ⟨host, w1⟩
  · obtain ⟨vm', X', hs⟩ := X.invokestatic hF.1 hF.2.2.2.2.2.2.1 (hE.word w1 args) hn a1 hst hkP hini hx hg (argsL := av) (rest := rest) (by rw [hlen]; exact hsig _ a8) hstack hd
    exact ⟨vm', mk, X', hn, X'.warmed, hs⟩
  · obtain ⟨vm', X', hs⟩ := X.invokestaticNest hF.1 hF.2.2.2.2.2.2.1 (hE.word w1 args) hn a1 hst hkP hini hx hg (argsL := av) (rest := rest) (by rw [hlen]; exact hsig _ a8) hstack hd
    exact ⟨vm', mk, X', hn, X'.warmed, hs⟩
theorem ab_inV {i j n : Nat} (hF : ab_F k p s m meth c) (hE : ab_E D wa B Hb s) (X : Stand p l e R s m args below meth c T locs cells slots) (hres : (ab_own k, i, 0, j, n) ∈ ab_mtl) {g : JFrame} (hg : g.method = m) {b : Addr} {av rest : List Value} (hlen : av.length + 1 = n) (hstack : g.stack = av.reverse ++ .ref b :: rest) (hd : decode c.code g.pc = .ok (.invokevirtual i, 3))
    {cell : Cell} (hcell : T.heap[b]? = some cell) (hvm : cell.vm = .none) (hcls : s.vm.findClass (ab_nm j).cls = some cell.cls) :
    ab_iv p l e R s m args below meth c T locs cells slots g (ab_nm j) (.ref b :: av) rest := by
  obtain ⟨hj, w1, w2, w3, hsig, hx⟩ := ab_mtl_v hres
  obtain ⟨mk, mt, ck, hn, a1, a2, a3, a4, a5, a6, a7, a8, a9, a10⟩ := ab_named hE hj
  obtain ⟨mk', mt', hn', hmM, hstM, habM⟩ := Cond.instanceMethod_spec (hE.word w2 args)
  cases hn.symm.trans hn'
  cases a1.symm.trans hmM
  obtain ⟨c2, r2, m2, q1, q2, q3, q4, kP, hkP, hkPi⟩ := Cond.selects_spec (hE.word w3 args)
  cases hcls.symm.trans q1
  cases (State.methodFound?_of_named hn hx).symm.trans q2
  cases hn.symm.trans q3
  have hselP : selectMethod e.platform s.vm cell.cls mk = .method mk := by rw [Launch.admits_selectMethod X.admits]; exact q4
  rcases w1 with w1 | ⟨host, w1⟩
  · obtain ⟨vm', X', hs⟩ := X.invokevirtual hF.1 hF.2.2.2.2.2.2.1 (hE.word w1 args) hn a1 hstM hkP hkPi hx (a := b) (cell := cell) hcell (fun z h => by rw [hvm] at h; cases h) hselP a1 habM hkP hkPi (g := g) hg (argsL := av) (rest := rest) (by have := hsig _ a8; omega) hstack hd
    exact ⟨vm', mk, X', hn, X'.warmed, hs⟩
  · obtain ⟨vm', X', hs⟩ := X.invokevirtualNest hF.1 hF.2.2.2.2.2.2.1 (hE.word w1 args) hn a1 hstM hkP hkPi hx (a := b) (cell := cell) hcell (fun z h => by rw [hvm] at h; cases h) hselP a1 habM hkP hkPi (g := g) hg (argsL := av) (rest := rest) (by have := hsig _ a8; omega) hstack hd
    exact ⟨vm', mk, X', hn, X'.warmed, hs⟩
theorem ab_inI {i j n : Nat} (hF : ab_F k p s m meth c) (hE : ab_E D wa B Hb s) (X : Stand p l e R s m args below meth c T locs cells slots) (hres : (ab_own k, i, 2, j, n) ∈ ab_mtl) {g : JFrame} (hg : g.method = m) {b : Addr} {av rest : List Value} (hlen : av.length + 1 = n) (hstack : g.stack = av.reverse ++ .ref b :: rest) (hd : decode c.code g.pc = .ok (.invokespecial i, 3)) :
    ab_iv p l e R s m args below meth c T locs cells slots g (ab_nm j) (.ref b :: av) rest := by
  obtain ⟨hj, w1, w2, w3, hname, hsig, hx⟩ := ab_mtl_i hres
  have hpl : e.platform.magicAccessors = ({} : Platform).magicAccessors := by rw [X.admits.platform]
  rcases w1 with w1 | ⟨host, w1⟩
  · obtain ⟨mk, mt, ck, kP, vm', hn, hm1, hc1, -, hl1, -, hkP, -, hW1, hs⟩ := Steps.initColdArgs (e := e) X.here hF.1 X.warmed hpl hF.2.2.2.2.2.2.1 hname hx (hE.word w1 args) (hE.word w2 args) (hE.word w3 args) (f := g) hg (fun sig h => by have := hsig _ h; omega) hstack hd
    exact ⟨vm', mk, X.noted hW1, hn, hW1, hs⟩
  · obtain ⟨mk, mt, ck, kP, vm', hn, hm1, hc1, -, hl1, -, hkP, -, hW1, hs⟩ := Steps.initColdArgsNest (e := e) X.here hF.1 X.warmed hpl hF.2.2.2.2.2.2.1 hname hx (hE.word w1 args) (hE.word w2 args) (hE.word w3 args) (f := g) hg (fun sig h => by have := hsig _ h; omega) hstack hd
    exact ⟨vm', mk, X.noted hW1, hn, hW1, hs⟩
/-- the locals that a method begins with -/
theorem ab_exp_sl (ad : Nat → Nat) : ∀ (vs : List ab_V), (lg_sl (vs.map (ab_cv ad))).length = (ab_exp vs).length
  | [] => rfl
  | .inl x :: r => by have := ab_exp_sl ad r; simp [lg_sl, ab_exp, ab_cv, Value.category] at this ⊢; exact this
  | .inr (.inl x) :: r => by have := ab_exp_sl ad r; simp [lg_sl, ab_exp, ab_cv, Value.category] at this ⊢; exact this
  | .inr (.inr 0) :: r => by have := ab_exp_sl ad r; simp [lg_sl, ab_exp, ab_cv, Value.category] at this ⊢; exact this
  | .inr (.inr (x + 1)) :: r => by have := ab_exp_sl ad r; simp [lg_sl, ab_exp, ab_cv, Value.category] at this ⊢; exact this
theorem ab_exp_args (ad : Nat → Nat) : ∀ (vs : List ab_V) (n i : Nat) (v : ab_V), (ab_exp vs)[i]? = some (some v) → (n + i, ab_cv ad v) ∈ lv_args n (vs.map (ab_cv ad))
  | [], _, _, _, h => by simp [ab_exp] at h
  | .inl x :: r, n, 0, v, h => by simp [ab_exp] at h; subst h; simp [lv_args]
  | .inl x :: r, n, i + 1, v, h => by
    simp only [ab_exp, List.getElem?_cons_succ] at h
    have := ab_exp_args ad r (n + 1) i v h
    simp only [List.map_cons, lv_args, ab_cv, Value.category]
    refine List.mem_cons_of_mem _ ?_
    rw [show n + (i + 1) = n + 1 + i by omega]
    exact this
  | .inr (.inl x) :: r, n, 0, v, h => by simp [ab_exp] at h; subst h; simp [lv_args]
  | .inr (.inl x) :: r, n, 1, v, h => by simp [ab_exp] at h
  | .inr (.inl x) :: r, n, i + 2, v, h => by
    simp only [ab_exp, List.getElem?_cons_succ] at h
    have := ab_exp_args ad r (n + 2) i v h
    simp only [List.map_cons, lv_args, ab_cv, Value.category]
    refine List.mem_cons_of_mem _ ?_
    rw [show n + (i + 2) = n + 2 + i by omega]
    exact this
  | .inr (.inr x) :: r, n, 0, v, h => by simp [ab_exp] at h; subst h; simp [lv_args]
  | .inr (.inr x) :: r, n, i + 1, v, h => by
    simp only [ab_exp, List.getElem?_cons_succ] at h
    have := ab_exp_args ad r (n + 1) i v h
    simp only [List.map_cons, lv_args]
    refine List.mem_cons_of_mem _ ?_
    rw [show n + (i + 1) = n + 1 + i by omega, if_neg (by cases x <;> simp [ab_cv, Value.category])]
    exact this
theorem ab_ent_LR {ad : Nat → Nat} {vs : List ab_V} {j : Nat} (h : (ab_exp vs).length ≤ ab_mxl j) : ab_LR ad (ab_ent j vs) (lg_sl (vs.map (ab_cv ad)) ++ List.replicate (ab_mxl j - (lg_sl (vs.map (ab_cv ad))).length) Slot.unset).toArray ∧ (ab_ent j vs).length = ab_mxl j := by
  have hl : (ab_ent j vs).length = ab_mxl j := by simp [ab_ent]; omega
  have he := lv_entry (vs.map (ab_cv ad)) (n := ab_mxl j) (by rw [ab_exp_sl]; exact h)
  refine ⟨⟨by rw [hl]; exact he.1, he.2.1, fun i v hi => ?_⟩, hl⟩
  unfold ab_ent at hi
  by_cases hlt : i < (ab_exp vs).length
  · rw [List.getElem?_append_left hlt] at hi
    have := ab_exp_args ad vs 0 i v hi
    rw [Nat.zero_add] at this
    exact he.2.2 _ this
  · rw [List.getElem?_append_right (by omega)] at hi
    have := List.eq_of_mem_replicate (List.mem_of_getElem? hi)
    cases this
end ab_calls
