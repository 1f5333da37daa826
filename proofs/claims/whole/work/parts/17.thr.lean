-- A method makes an exception and throws it.
theorem ab_inv_wx {S : ab_S} (h : ab_inv S = true) : ab_inv (ab_wx S) = true := h
section ab_throw
variable {p : Program} {l : Launch} {e : Env} {R : Room} {s : State} {m : MethodId} {args : Array Value} {below : List Frame} {meth : Method} {c : Code} {T : State} {locs : List Loc} {cells slots : Nat}
/-- a static that holds a reference or null, at the walk's present state -/
theorem ab_zq {C n d : String} {B : Nat} {Hb : Heap} (h : va_Zq C n d (fun a => B ≤ a) s Hb) : ∃ (cf : ClassId) (kf : Class) (fi : Nat) (f : Field) (a : Nat) (cell : Cell) (u : RefV), s.fieldFound? C n d = some (cf, kf, fi, f) ∧ kf.statics = some a ∧ Hb[a]? = some cell ∧ cell.vm.isStatics = true ∧ cell.slots[f.slot]? = some u.v ∧ a < B := by
  rcases h with ⟨cf, kf, fi, f, a, cell, h1, h2, h3, h4, h5, h6, h7, h8⟩ | ⟨t, cf, kf, fi, f, a, cell, h1, h2, h3, h4, h5, h6, h7, h8⟩
  · exact ⟨cf, kf, fi, f, a, cell, ⟨.null, rfl⟩, h1, h4, h5, h6, h7, Nat.not_le.mp h8⟩
  · exact ⟨cf, kf, fi, f, a, cell, ⟨.ref t, rfl⟩, h1, h4, h5, h6, h7, Nat.not_le.mp h8⟩
set_option maxHeartbeats 1000000 in
/-- 'invokespecial X.<init>(String); athrow' on a fresh X: the method has thrown it; of the heap that cell alone has changed -/
theorem ab_cthrow {B : Nat} {Hb : Heap} (X : Stand p l e R s m args below meth c T locs cells slots) (hexec : p.tables.exec = Jvm.exec) (htr : e.platform.stackTraces = false) {own : String} {x ic : Nat} (hown : s.vm.findClass own = some m.cls) (hx1 : 1 ≤ x) (hx5 : x < 5)
    (hw : ∀ w ∈ lw_tbl, w.before args s = true) (hic : Jvm.Cond.methodLink own ic (Bundle.initS (ab_xn x)) ∈ lw_tbl)
    (hz1 : va_Zq "java/lang/Throwable" "UNASSIGNED_STACK" "[Ljava/lang/StackTraceElement;" (fun a => B ≤ a) s Hb) (hz2 : va_Zq "java/lang/Throwable" "SUPPRESSED_SENTINEL" "Ljava/util/List;" (fun a => B ≤ a) s Hb) (hold : ∀ a, a < B → T.heap[a]? = Hb[a]?)
    {a : Addr} {cX : ClassId} {kX : Class} (hfX : s.vm.findClass (ab_xn x) = some cX) (hkX : s.vm.classes[cX]? = some kX) (hcell : T.heap[a]? = some (freshCell cX kX)) (hnew : B ≤ a)
    {msg : Value} (hmsg : msg.isRef = true) {g : JFrame} (hg : g.method = m) (hsize : g.locals.size = c.maxLocals) (hlocked : g.locked = none) (hentered : g.entered = []) {rest : List Value} (hstack : g.stack = msg :: .ref a :: .ref a :: rest)
    (hd6 : decode c.code g.pc = .ok (.invokespecial ic, 3)) (hd9 : decode c.code (g.pc + 3) = .ok (.athrow, 1)) (hout : c.exceptionTable.toList = []) (hRf : 6 < R.frames) (hRl : 2 * g.monitorRoom + ((Value.ref a :: rest).map fun v => v.category).sum + 81 ≤ R.locals) (hlocks : meth.locks = false) :
    ∃ (U : State) (L : List Loc) (ce : Cell), Steps p.tables e below (T.setTop g) U ∧ U.status = .running ∧ Ended U below (.threw a) ∧ s.WarmedH U.vm ∧ s.sameButNew ({ U with vm := s.vm } : State) (locs ++ L) cells slots ∧ (∀ y ∈ L, y.base = a) ∧
      U.heap = T.heap.setIfInBounds a ce ∧ ce.cls = cX ∧ ce.vm = .none := by
  have howns : e.platform.frameOwnsMonitors = true := by rw [X.admits.platform]
  have hfin : e.platform.finalization = false := by rw [X.admits.platform]
  have hpl : e.platform.magicAccessors = ({} : Platform).magicAccessors := by rw [X.admits.platform]
  have hta : ∀ w ∈ ab_ta, w.before args s = true := fun w h => hw w (ab_taW w h)
  have hxa : ∀ w ∈ ab_xa (ab_xn x) (ab_xi x) (ab_xb x), w.before args s = true := fun w h => hw w (ab_xaW hx1 (by omega) w h)
  obtain ⟨d0, d1, d2, d5⟩ := ab_xbD x hx5
  have hfit := Bundle.fit_spec (ab_xnF x hx5 hx1)
  obtain ⟨Th, Z0, LT, -, Y⟩ := ThrowableC.of_atoms (args := args) howns hfin hpl (fun w h => hta w (by simp [ab_ta, h]))
  obtain ⟨Z, M, LZ, LM, hnZ⟩ := Init0T.ofS_atoms (args := args) hpl LT Y (fun w h => hta w (by simp [ab_ta, h]))
  obtain ⟨P1, Ps, hlen, L1, hL, hP1m, hlink1, hlink⟩ := Bundle.chainS (args := args) hpl hnZ ["java/lang/Exception"] "java/lang/RuntimeException" (by decide +kernel) (by decide +kernel) (fun w h => hta w (by simp [ab_ta, h]))
  obtain ⟨P0, L0, hP0m, hP0s⟩ := PassC.ofS_atoms (args := args) (X := ab_xn x) (Y := "java/lang/RuntimeException") hpl hfit.1 (by decide +kernel) d0 d1 d2 d5 (fun w h => hxa w (by unfold ab_xa; exact List.mem_append_left _ h))
  have hsup : P0.sup = P1.m := Option.some.inj (hP0s.symm.trans hP1m)
  have hfound : s.vm.findClass (ab_xn x) = some P0.m.cls := findClass_of_methodNamed hP0m
  cases Option.some.inj (hfX.symm.trans hfound)
  have a' : ∀ w ∈ ab_xa (ab_xn x) (ab_xi x) (ab_xb x), w.holds args s none s [] = true := hxa
  obtain ⟨c1, kX', hc1, hk, hord, -, -, hn6⟩ := Cond.instantiable_spec (a' (.instantiable (ab_xn x) 6) (by simp [ab_xa]))
  cases Option.some.inj (hc1.symm.trans hfound)
  cases Option.some.inj (hkX.symm.trans hk)
  have hsel0 : selectMethod e.platform s.vm P0.m.cls Th.fill0 = .method Th.fill0 := by
    obtain ⟨c2, r2, m2, q1, q2, q3, q4, -⟩ := Cond.selects_spec (a' (.selects (ab_xn x) Bundle.tFill0 Bundle.tFill0) (by simp [ab_xa]))
    cases Option.some.inj (q1.symm.trans hfound)
    cases Option.some.inj (q2.symm.trans (State.methodFound?_of_named Y.fill0 (by decide)))
    cases Option.some.inj (q3.symm.trans Y.fill0)
    rw [Launch.admits_selectMethod X.admits]; exact q4
  have hselF : selectMethod e.platform s.vm P0.m.cls Th.fill = .method Th.fill := by
    obtain ⟨c2, r2, m2, q1, q2, q3, q4, -⟩ := Cond.selects_spec (a' (.selects (ab_xn x) Bundle.tFill Bundle.tFill) (by simp [ab_xa]))
    cases Option.some.inj (q1.symm.trans hfound)
    cases Option.some.inj (q2.symm.trans (State.methodFound?_of_named Y.fill (by decide)))
    cases Option.some.inj (q3.symm.trans Y.fill)
    rw [Launch.admits_selectMethod X.admits]; exact q4
  obtain ⟨cf1, kf1, fi1, f1, a1, cell1, u0, z1, z2, z3, z4, z5, z6⟩ := ab_zq hz1
  obtain ⟨cf2, kf2, fi2, f2, a2, cell2, sen, y1, y2, y3, y4, y5, y6⟩ := ab_zq hz2
  have e1 := z1.symm.trans Y.unassigned
  simp only [Option.some.injEq, Prod.mk.injEq] at e1
  obtain ⟨-, e12, -, e14⟩ := e1
  have e2 := y1.symm.trans Y.sentinel
  simp only [Option.some.injEq, Prod.mk.injEq] at e2
  obtain ⟨-, e22, -, e24⟩ := e2
  rw [e12, LT.statics] at z2
  rw [e22, LT.statics] at y2
  rw [e14] at z5
  rw [e24] at y5
  have ea1 := Option.some.inj z2
  have ea2 := Option.some.inj y2
  rw [← ea1] at z3 z6
  rw [← ea2] at y3
  have ec : cell2 = cell1 := Option.some.inj (y3.symm.trans z3)
  rw [ec] at y5
  have hcellS : T.heap[Th.aS]? = some cell1 := (hold _ z6).trans z3
  have hneS : Th.aS ≠ a := Nat.ne_of_lt (Nat.lt_of_lt_of_le z6 hnew)
  have hknownS : cell1.vm ≠ .unknown := fun h => by rw [h] at z4; cases z4
  obtain ⟨iM, hffM⟩ := Y.msg
  obtain ⟨ci198, i198, fB, hk198, hg198, ha198, hsB, -, hnB, htB, hffB⟩ := Cond.ownField (t := .object "java/lang/Object") Y.found LT.cls (by decide +kernel) (a' (.fieldLink Bundle.tN 198 Bundle.tN "backtrace" "Ljava/lang/Object;") (by simp [ab_xa])) (a' (.lays Bundle.tN Bundle.tN "backtrace" "Ljava/lang/Object;") (by simp [ab_xa])) e.platform hpl
  obtain ⟨tyC, dC, hdC, hdnC⟩ := Cond.laysAt hfound hk Y.cause (a' (.lays (ab_xn x) Bundle.tN "cause" "Ljava/lang/Throwable;") (by simp [ab_xa]))
  obtain ⟨tyS, dS, hdS, hdnS⟩ := Cond.laysAt hfound hk Y.stack (a' (.lays (ab_xn x) Bundle.tN "stackTrace" Bundle.steD) (by simp [ab_xa]))
  obtain ⟨tyP, dP, hdP, hdnP⟩ := Cond.laysAt hfound hk Y.supp (a' (.lays (ab_xn x) Bundle.tN "suppressedExceptions" Bundle.listD) (by simp [ab_xa]))
  obtain ⟨tyM, dM, hdM, hdnM⟩ := Cond.laysAt hfound hk hffM (a' (.lays (ab_xn x) Bundle.tN "detailMessage" "Ljava/lang/String;") (by simp [ab_xa]))
  obtain ⟨tyB, dB, hdB, hdnB⟩ := Cond.laysAt hfound hk hffB (a' (.lays (ab_xn x) Bundle.tN "backtrace" "Ljava/lang/Object;") (by simp [ab_xa]))
  have bC := Cond.laysApart hdB hdC hdnB hdnC (by rw [hnB, Y.causeName]; decide)
  have bS := Cond.laysApart hdB hdS hdnB hdnS (by rw [hnB, Y.stackName]; decide)
  have bP := Cond.laysApart hdB hdP hdnB hdnP (by rw [hnB, Y.suppName]; decide)
  have hback : ((preparedCellV Th.toThrowableT (freshCell P0.m.cls kX) a u0 sen).withEntry T.cur).slots[fB.slot]? = some .null := by
    have h0 := fresh_default (c := P0.m.cls) tyB
    rw [htB] at h0
    simpa [preparedCellV, Cell.setSlot, Cell.withEntry, Array.getElem?_setIfInBounds, bC, bS, bP, bC.symm, bS.symm, bP.symm, defaultValue] using h0
  obtain ⟨tm, methC, cdC, kC, vm₁, hnC, -, -, -, -, -, -, -, hW₁, st1⟩ := Steps.initColdS (tb := p.tables) (e := e) (below := below) (s := s) (U := T) X.here hexec X.warmed hpl hown (t := Bundle.initS (ab_xn x)) rfl rfl hfit.2
    (hw _ hic) (hxa (.instanceMethod (Bundle.initS (ab_xn x))) (by simp [ab_xa, Bundle.passSAtoms])) (bytes := ab_xb x) (maxL := 2) (hxa (.code (Bundle.initS (ab_xn x)) (ab_xb x) 2 none) (by simp [ab_xa, Bundle.passSAtoms]))
    (f := g) hg (a := a) (msg := msg) (rest := .ref a :: rest) hstack hd6
  cases Option.some.inj (hnC.symm.trans hP0m)
  have X₁ := X.noted hW₁
  have hlen' : Ps.length = 1 := hlen
  obtain ⟨vm₂, X₂, st2⟩ := X₁.ctorMessageOffV hexec (g := { g with stack := .ref a :: rest }) hg hsize Th LT Z LZ M LM (P0 :: P1 :: Ps)
    (fun P hP => by
      rcases List.mem_cons.mp hP with rfl | hP
      · exact L0
      rcases List.mem_cons.mp hP with rfl | hP
      · exact L1
      · exact hL P hP) ⟨hsup, hlink1, hlink⟩ (u0 := u0) (sen := sen) (self := a) hmsg (cell := freshCell P0.m.cls kX) (cellS := cell1)
    hcell (fun _ => by simp) (by simp) rfl rfl hsel0 hselF hcellS hneS hknownS z5 y5
    (Takes.of_laid hk hord tyC (by rw [Y.causeType]; rfl)) (Takes.of_laid hk hord tyS (by rw [Y.stackType]; exact fits_refV_array _ u0)) (Takes.of_laid hk hord tyP (by rw [Y.suppType]; exact fits_refV_object _ sen))
    (Takes.of_laid hk hord tyM (by rw [Y.msgType]; exact fits_refV_object _ ⟨msg, hmsg⟩)) Y.objLocals ⟨{ ci198 := ci198, i198 := i198, fBack := fB }, ⟨hk198, hg198, ha198, hsB⟩, hback, fun _ _ => rfl⟩ htr [] hd6
    (by simp only [List.length_cons, hlen']; omega) (by simp only [List.length_cons, hlen']; exact hRl)
  obtain ⟨hwalk, hrun, hended, hWU, hsame⟩ := X₂.athrowLeaves hexec (g := { g with stack := .ref a :: rest, pc := g.pc + 3 }) hg hlocked hentered (fun y hy => by rw [hout] at hy; cases hy) (a := a) (rest := rest) rfl hd9 hlocks
  refine ⟨_, _, _, st1 _ (fun acts => ?_), hrun, hended, hWU, hsame, ?_, rfl, rfl, rfl⟩
  · rw [doInvoke_state]
    exact st2 _ hwalk
  · intro y hy
    simp only [List.mem_cons, List.not_mem_nil, or_false] at hy
    rcases hy with rfl | rfl | rfl | rfl | rfl <;> rfl
theorem ab_HTof {D : va_G} {q sa wa B : Nat} {Hb : Heap} (hl : ∀ e, l.admits e → e.platform.stackTraces = false) (hA : sa < B ∧ wa < B ∧ sa ≠ wa) : ab_HT l D q sa wa B Hb := by
  intro p e R s m args below meth c n0 z0 k pc i f L st S hF hE hch hf1 hmd hst hRf hRl hRc hRs H locs ls hL hl' hX
  obtain ⟨len, hd0, hdl, -, hrv⟩ := ab_chkE hch
  have hd : decode (ab_by k) pc = .ok (.new i, 3) := by
    rcases hdl with h | h
    · rw [hd0, h]; rfl
    · cases h
  obtain ⟨-, h2⟩ := ab_ctE hrv
  have h2 : ∃ y ∈ ab_thl, y.1 = k ∧ y.2.1 = pc ∧ y.2.2.1 = f.2.1 ∧ y.2.2.2.1 = i := by
    simp only [hf1, Bool.or_eq_true, Bool.not_eq_true', List.any_eq_true, Bool.and_eq_true] at h2
    rcases h2 with h2 | ⟨y, hy, q1, q2, q3, q4⟩
    · exact absurd h2 (by decide)
    · exact ⟨y, hy, Nat.eq_of_beq_eq_true q1, Nat.eq_of_beq_eq_true q2, Nat.eq_of_beq_eq_true q3, Nat.eq_of_beq_eq_true q4⟩
  obtain ⟨⟨k', pc', x, i', js, ic⟩, hy, e1, e2, e3, e4⟩ := h2
  simp only at e1 e2 e3 e4
  subst e1 e2 e4
  obtain ⟨⟨hx1, hx5⟩, hht, d3, d4, d6, d9⟩ := ab_thD _ hy
  simp only at hx1 hx5 hht d3 d4 d6 d9
  have w1 : Jvm.Cond.classLink (ab_cn (ab_own k')) i' (ab_xn x) ∈ lw_tbl := ab_t1W _ hy
  have w2 : Jvm.Cond.stringRef (ab_cn (ab_own k')) js (ab_tx (ab_own k') js) ∈ lw_tbl := ab_t2W _ hy
  have w3 : Jvm.Cond.methodLink (ab_cn (ab_own k')) ic (Bundle.initS (ab_xn x)) ∈ lw_tbl := ab_t3W _ hy
  have hxa : ∀ w ∈ ab_xa (ab_xn x) (ab_xi x) (ab_xb x), w ∈ lw_tbl := ab_xaW hx1 (by omega)
  have w4 : Jvm.Cond.instantiable (ab_xn x) 6 ∈ lw_tbl := hxa _ (by simp [ab_xa])
  have w5 : Jvm.Cond.initialized (ab_xn x) ∈ lw_tbl := hxa _ (by simp [ab_xa])
  obtain ⟨cX, hcX⟩ := classAt_of (hE.word w4 args)
  have h5 := hX.2.2.2.2.1
  have h6 := hX.2.2.2.2.2
  have r1 : S.2.2.2.2.1 + 1 - n0 ≤ R.cells := hRc
  have r2 : S.2.2.2.2.2 + 6 - z0 ≤ R.slots := hRs
  have hown := hF.2.2.2.2.2.2.1
  obtain ⟨ks, cfs, is, adr, -, -, -, -, -, hev⟩ := Cond.stringRef_spec hown (hE.word w2 args)
  have hemp : c.exceptionTable.toList = [] := by
    have h8 := hF.2.2.2.2.2.2.2
    rw [hht] at h8
    exact List.map_eq_nil_iff.mp h8
  have hS := hX.2.1 hmd
  simp only [ab_inv, Bool.and_eq_true] at hS
  have hfC := Nat.eq_of_beq_eq_true hS.1
  have hBH : B ≤ H.size := by have := hX.1.2.2.2.1; omega
  have hcat := ab_cats (ab_ad sa wa B) st
  refine W.newcK hF.1 hF.2.1 hown (hE.word w1 args) (hE.word w4 args) (hE.word w5 args) rfl hd (by omega) (by omega) hcX.1 rfl fun H' kC hkC g1 g2 g3 => ?_
  refine lv_dup hF.1 hF.2.1 d3 rfl ?_
  intro T hT X
  have st4 := X.ldcString hF.1 hown (text := ab_tx (ab_own k') js) (a := adr) (hE.word w2 args) hev (g := F0 m (pc' + 4) ls (.ref H.size :: .ref H.size :: st.map (ab_cv (ab_ad sa wa B)))) rfl (by rw [hF.2.1]; exact d4)
  obtain ⟨U, L', ce, s1, s2, s3, s4, s5, s6, s7, s8, s9⟩ := ab_cthrow (x := x) (ic := ic) (a := H.size) (B := B) (Hb := Hb) (msg := .ref adr) (rest := st.map (ab_cv (ab_ad sa wa B))) (g := F0 m (pc' + 6) ls (.ref adr :: .ref H.size :: .ref H.size :: st.map (ab_cv (ab_ad sa wa B)))) X hF.1 (hl e X.admits) hown hx1 hx5 (fun w hw => hE.word hw args) w3 hE.2.2.2.1 hE.2.2.2.2.1
    (fun a ha => by rw [hT, g3 a (by omega)]; exact hX.2.2.1 a ha) hcX.1 hkC (by rw [hT]; exact g1) hBH rfl rfl (by rw [hF.2.2.1, ← hl']; exact hL.1) rfl rfl rfl (by rw [hF.2.1]; exact d6) (by rw [hF.2.1]; exact d9) hemp (by omega)
    (by show 2 * 0 + (1 + ((st.map (ab_cv (ab_ad sa wa B))).map fun v => v.category).sum) + 81 ≤ _; omega) hF.2.2.2.2.1
  have hU : ∀ a, a < H.size → U.heap[a]? = H[a]? := fun a ha => by
    rw [s7, hT, ← g3 a ha]
    simp [Array.getElem?_setIfInBounds, Nat.ne_of_gt ha]
  have hUz : U.heap.size = H.size + 1 := by rw [s7, hT]; simp [g2]
  refine ⟨U, st4 U s1, .threw H.size, s2, s3, Or.inr ⟨by show f.2.1 ≠ 0; omega, H.size, rfl, ce, by rw [s7, hT]; simp [g2], ?_, fun z hz => by rw [s9] at hz; cases hz⟩, s4, ⟨locs ++ L', ?_, fun y hy => ?_⟩, ⟨fun r a b => ?_, hX.1.2.1, hX.1.2.2.1, by rw [hUz]; have := hX.1.2.2.2.1; show B + (S.2.2.2.1 - 3) ≤ _; omega, fun hlt => ?_, hX.1.2.2.2.2.2⟩, fun hm => ab_inv_wx (hX.2.1 hm), fun a ha => by rw [hU a (by omega)]; exact hX.2.2.1 a ha, by show n0 ≤ _ + 1; omega, by show z0 ≤ _ + 6; omega⟩
  · rw [s8, ← e3, s4.alike.findClass]
    exact hcX.1
  · have e5 : S.2.2.2.2.1 - n0 + 1 = (ab_wx S).2.2.2.2.1 - n0 := by show _ = _ + 1 - n0; omega
    have e6 : S.2.2.2.2.2 - z0 + 6 = (ab_wx S).2.2.2.2.2 - z0 := by show _ = _ + 6 - z0; omega
    rw [← e5, ← e6]
    exact s5
  · rcases List.mem_append.mp hy with h | h
    · exact hX.2.2.2.1 y h
    · rw [s6 y h]; exact hBH
  · refine (hX.1.1 r a b).kept (hU _ ?_) (fun _ => rfl) (fun _ => rfl) (fun _ => rfl)
    have b' : r < S.2.2.2.1 := b
    have := hX.1.2.2.2.1
    match r, a with
    | 1, _ => show sa < _; omega
    | 2, _ => show wa < _; omega
    | r + 3, _ => show B + r < _; omega
  · have : S.2.2.2.1 < ab_C := hlt
    omega
end ab_throw
