-- A method of the law catches.
section ab_catch
variable {p : Program} {l : Launch} {e : Env} {R : Room} {s : State} {m : MethodId} {args : Array Value} {below : List Frame} {meth : Method} {c : Code} {T : State} {locs : List Loc} {cells slots : Nat} {f : JFrame} {a : Addr}
/-- an entry whose class links: taken, or passed; the pool's entry is resolved then -/
theorem ab_go1 {Q : Handler → Pre} {E : CtlPost} {d : Bool} {acts : List Action} {u : State} {x : ExceptionTableEntry} {t : List ExceptionTableEntry} {cT : ClassId} {cell : Cell} (hx : covers x f.pc = true) (h0 : x.catchType ≠ 0)
    (hl : u.vm.ClassLinks e.platform f.method.cls x.catchType cT) (hcell : u.heap[a]? = some cell) (hobj : ∀ z, cell.vm ≠ .statics z) (hk : ∃ k, u.vm.classes[cell.cls]? = some k) (hc : ∃ k, u.vm.classes[cT]? = some k) :
    wp (findHandler.go f a (x :: t)) Q E e d acts u ↔ if u.vm.assignable cell.cls cT = true then Q (.found x.handlerPc) d acts (u.setVm (u.vm.noted f.method.cls x.catchType (.cls cT))) else wp (findHandler.go f a t) Q E e d acts (u.setVm (u.vm.noted f.method.cls x.catchType (.cls cT))) := by
  simp only [covers] at hx
  obtain ⟨ha, ht⟩ := (resolveClass_links e.toSetting hl).op (op := VmOp.resolveClass f.method.cls x.catchType) rfl
  have hal : u.vm.Alike (u.vm.noted f.method.cls x.catchType (.cls cT)) := (Vm.Alike.refl u.vm).noted _ _ _
  obtain ⟨k1, hk1⟩ := hk
  obtain ⟨k2, hk2⟩ := hc
  obtain ⟨k1', hk1', -⟩ := hal.2.2 _ _ hk1
  obtain ⟨k2', hk2', -⟩ := hal.2.2 _ _ hk2
  cases hfit : u.vm.assignable cell.cls cT with
  | true =>
    have hfit' : (u.vm.noted f.method.cls x.catchType (.cls cT)).assignable cell.cls cT = true := by rw [hal.assignable]; exact hfit
    simp [findHandler.go, hx, h0, ha, ht, hcell, hobj, hk1', hk2', hfit', VmOp.dirties, VmOp.acts]
  | false =>
    have hfit' : (u.vm.noted f.method.cls x.catchType (.cls cT)).assignable cell.cls cT = false := by rw [hal.assignable]; exact hfit
    simp [findHandler.go, hx, h0, ha, ht, hcell, hobj, hk1', hk2', hfit', VmOp.dirties, VmOp.acts]
/-- the search: entries that all cover the place, one class each; the n-th is the first that takes the object -/
theorem ab_goN {cell : Cell} (hobj : ∀ z, cell.vm ≠ .statics z) (hk : ∃ k, s.vm.classes[cell.cls]? = some k) : ∀ (es : List ExceptionTableEntry) (n : Nat) (u : State), s.WarmedH u.vm → u.heap[a]? = some cell →
    (∀ (i : Nat) (x : ExceptionTableEntry), i ≤ n → es[i]? = some x → covers x f.pc = true ∧ x.catchType ≠ 0 ∧ ∃ cT, s.vm.ClassLinks e.platform f.method.cls x.catchType cT ∧ s.vm.assignable cell.cls cT = decide (i = n)) → ∀ (x : ExceptionTableEntry), es[n]? = some x →
    ∃ vm', s.WarmedH vm' ∧ ∀ (Q : Handler → Pre) (E : CtlPost) (d : Bool) (acts : List Action), wp (findHandler.go f a es) Q E e d acts u ↔ Q (.found x.handlerPc) d acts (u.setVm vm')
  | [], n, u, _, _, _, x, hx => by simp at hx
  | y :: es, n, u, hW, hcell, hp, x, hx => by
    obtain ⟨h1, h2, cT, h3, h4⟩ := hp 0 y (Nat.zero_le _) rfl
    obtain ⟨dk, _, _, kt, hd, _, _, _, _, hkt, _, hopen⟩ := h3.here
    have hW' : s.WarmedH (u.vm.noted f.method.cls y.catchType (.cls cT)) := hW.noted hd hopen (State.rightAt_cls h3)
    obtain ⟨k0, hk0⟩ := hk
    obtain ⟨k0', hk0', -⟩ := hW.alike.2.2 _ _ hk0
    obtain ⟨kt', hkt', -⟩ := hW.alike.2.2 _ _ hkt
    have hfit : u.vm.assignable cell.cls cT = decide (0 = n) := by rw [hW.alike.assignable]; exact h4
    cases n with
    | zero =>
      cases hx
      refine ⟨_, hW', fun Q E d acts => ?_⟩
      rw [ab_go1 h1 h2 (hW.classLinks h3) hcell hobj ⟨k0', hk0'⟩ ⟨kt', hkt'⟩, if_pos (by rw [hfit]; rfl)]
    | succ n =>
      obtain ⟨vm', hv, hq⟩ := ab_goN hobj ⟨k0, hk0⟩ es n (u.setVm (u.vm.noted f.method.cls y.catchType (.cls cT))) hW' hcell (fun i z hi hz => by
        obtain ⟨g1, g2, cZ, g3, g4⟩ := hp (i + 1) z (by omega) hz
        exact ⟨g1, g2, cZ, g3, by rw [g4]; simp⟩) x hx
      refine ⟨vm', hv, fun Q E d acts => ?_⟩
      rw [ab_go1 h1 h2 (hW.classLinks h3) hcell hobj ⟨k0', hk0'⟩ ⟨kt', hkt'⟩, if_neg (by rw [hfit]; simp)]
      exact hq Q E d acts
/-- from the note that an exception is thrown to the handler, the tables warmer -/
theorem ab_caught (X : Stand p l e R s m args below meth c T locs cells slots) {g : JFrame} (hg : g.method = m) {pc : Nat} {vm' : Vm}
    (hfind : ∀ (Q : Handler → Pre) (E : CtlPost) (d : Bool) (acts : List Action), wp (findHandler g a) Q E e d acts ((T.setTop g).pushFrame (.throwing a)) ↔ Q (.found pc) d acts (((T.setTop g).pushFrame (.throwing a)).setVm vm')) {target : State}
    (hrest : Steps p.tables e below ((T.setVm vm').setTop { g with pc := pc, stack := [.ref a] }) target) : Steps p.tables e below ((T.setTop g).pushFrame (.throwing a)) target := by
  have h : At T g.method c below := by rw [hg]; exact X.here
  obtain ⟨hgo, hw⟩ := h.throwing a
  refine Steps.head hgo hw ?_
  have hst : (stepThrowing e ((T.setTop g).pushFrame (.throwing a)) a (.java g :: T.frames.tail)).Is ((((T.setTop g).pushFrame (.throwing a)).setVm vm').setFrames (.java { g with pc := pc, stack := [.ref a] } :: T.frames.tail)) [] := by
    simp only [stepThrowing, searchFrame, vmDo]
    generalize hr : Sem.go _ e false [] ((T.setTop g).pushFrame (.throwing a)) = res
    obtain ⟨as, rfl, ha⟩ := Sem.eq_ok_of hr (a := Handler.found pc) (s' := ((T.setTop g).pushFrame (.throwing a)).setVm vm') (acts' := []) (by simp [hfind _ _ _ _])
    exact ⟨rfl, ha⟩
  rw [stepThread_throwing (frames_entered h.top _), hst.1]
  obtain ⟨g₀, hg0⟩ := Option.isSome_iff_exists.mp h.top
  obtain ⟨r, hr⟩ := State.topJava?_eq_some.mp hg0
  have hr' : (T.setVm vm').frames = .java g₀ :: r := hr
  rw [State.setTop_of_frames _ hr'] at hrest
  have hz : (((T.setTop g).pushFrame (.throwing a)).setVm vm').setFrames (.java { g with pc := pc, stack := [.ref a] } :: T.frames.tail) = (T.setVm vm').setFrames (.java { g with pc := pc, stack := [.ref a] } :: r) := by
    rw [State.pushFrame, State.setTop_of_frames _ hr, hr]
    show ((((T.setFrames _).setVm vm').setFrames _).setFrames _) = _
    rw [State.setFrames_setFrames]
    show (((T.setVm vm').setFrames _).setFrames _) = _
    rw [State.setFrames_setFrames]
    rfl
  rw [hz]
  exact hrest
theorem ab_hdK : ∀ y ∈ ab_hdl, y.1 < ab_M + 1 := by decide +kernel
theorem ab_HCof {D : va_G} {q sa wa B : Nat} {Hb : Heap} : ab_HC l D q sa wa B Hb := by
  intro p e R s m args below meth c n0 z0 k pc x v i f S L ls locs T a stk hF hE hch hi1 hv hL hl hX X hexc
  obtain ⟨n, hp, ai, sz, hy⟩ := ab_hndE hv
  obtain ⟨hsz, hai, hxn, hlen, hpc, hret, ⟨hx1, hx5⟩, hnc⟩ := ab_hdD _ hy
  obtain ⟨d1, d2, d3⟩ := ab_hdE _ hy
  have hk := ab_hdK _ hy
  simp only at hsz hai hxn hlen hpc hret hx1 hx5 hnc d1 d2 d3 hk
  obtain ⟨len, hd0, hdl, -, hrv⟩ := ab_chkE hch
  have hcov : ab_cov k pc = true := by cases i <;> first | exact (ab_ctE hrv).2 | exact nomatch hi1
  obtain ⟨cell, hc1, hc2, hc3⟩ := hexc
  have hcls : s.vm.findClass (ab_xn x) = some cell.cls := by rw [← X.warmed.alike.findClass]; exact hc2
  have hAt : ClassAt s (ab_xn x) cell.cls := by
    obtain ⟨cC, h⟩ := classAt_of (hE.word (ab_xaW hx1 (by omega) (.instantiable (ab_xn x) 6) (by simp [ab_xa])) args)
    cases h.1.symm.trans hcls
    exact h
  have hpl : e.platform.magicAccessors = ({} : Platform).magicAccessors := by rw [X.admits.platform]
  have htab := hF.2.2.2.2.2.2.2
  have hlen2 : c.exceptionTable.toList.length = (ab_hx k).length := by rw [hlen, ← htab, List.length_map]
  have hnl : n < (ab_hx k).length := (List.getElem?_eq_some_iff.mp hxn).1
  obtain ⟨en, hen⟩ : ∃ en, c.exceptionTable.toList[n]? = some en := ⟨_, List.getElem?_eq_getElem (by omega)⟩
  have hat : ∀ (j : Nat) (y : ExceptionTableEntry), c.exceptionTable.toList[j]? = some y → (ab_ht k)[j]? = some (y.startPc, y.endPc, y.handlerPc, y.catchType) := fun j y hj => by
    rw [← htab, List.getElem?_map, hj]
    rfl
  have hph : en.handlerPc = hp := by
    rw [hat n en hen] at hpc
    exact Option.some.inj hpc
  have hown : s.vm.findClass "ShapedItemsLaw" = some m.cls := by
    have h7 := (ab_hlC k hk n hnl).2.1
    have := hF.2.2.2.2.2.2.1
    rw [h7] at this
    exact this
  have hall : ∀ (j : Nat) (y : ExceptionTableEntry), j ≤ n → c.exceptionTable.toList[j]? = some y → covers y (F0 m pc ls stk).pc = true ∧ y.catchType ≠ 0 ∧ ∃ cT, s.vm.ClassLinks e.platform (F0 m pc ls stk).method.cls y.catchType cT ∧ s.vm.assignable cell.cls cT = decide (j = n) := by
    intro j y hj hjy
    have hjt := hat j y hjy
    have hjl : j < (ab_hx k).length := by omega
    obtain ⟨q1, q2, q3⟩ := ab_hlC k hk j hjl
    have hcx : ∃ cx, (ab_hx k)[j]? = some cx := ⟨_, List.getElem?_eq_getElem hjl⟩
    obtain ⟨cx, hcx⟩ := hcx
    rw [hcx] at q1
    rw [hjt] at q3
    have hw := ab_hwW (k, j, cx) (by simpa using q1)
    unfold ab_hw at hw
    simp only [hjt] at hw
    have hw' : Jvm.Cond.classLink "ShapedItemsLaw" y.catchType (ab_xn cx) ∈ lw_tbl := hw
    obtain ⟨cT, hcT, hcl⟩ := Cond.classLink_spec hown (hE.word hw' args) e.platform hpl
    refine ⟨?_, q3, cT, hcl, ?_⟩
    · have := List.all_eq_true.mp hcov _ (List.mem_of_getElem? hjt)
      simp only [Bool.and_eq_true] at this
      have h1 := Nat.le_of_ble_eq_true this.1
      have h2 := ab_blt this.2
      simp only [covers, Bool.and_eq_true, decide_eq_true_eq]
      exact ⟨h1, h2⟩
    · by_cases hjn : j = n
      · subst hjn
        cases hxn.symm.trans hcx
        cases hcT.symm.trans hcls
        rw [va_assign hAt]
        simp
      · have := hnc j (by omega) cx (by rw [hcx]; rfl)
        obtain ⟨c1, t1, g1, g2, g3⟩ := hE.2.2.2.2.2 x cx this
        cases g1.symm.trans hcls
        cases g2.symm.trans hcT
        rw [g3]
        simp [hjn]
  have hvm0 : ((T.setTop (F0 m pc ls stk)).pushFrame (.throwing a)).vm = T.vm := Stand.throwing_vm T _ a
  have hh0 : ((T.setTop (F0 m pc ls stk)).pushFrame (.throwing a)).heap = T.heap := Stand.throwing_heap T _ a
  obtain ⟨kx, hkx, -⟩ := hAt.2
  obtain ⟨vm', hW', hq⟩ := ab_goN (e := e) (s := s) (f := F0 m pc ls stk) (a := a) hc3 ⟨kx, hkx⟩ c.exceptionTable.toList n ((T.setTop (F0 m pc ls stk)).pushFrame (.throwing a)) (by rw [hvm0]; exact X.warmed) (by rw [hh0]; exact hc1) hall en hen
  rw [hph] at hq
  have X' := X.noted hW'
  have hend : ∀ ls' : Array Slot, W p l e R s m args below meth c T.heap locs (S.2.2.2.2.1 - n0) (S.2.2.2.2.2 - z0) (ab_Q s below D q sa wa B n0 z0 k Hb (0, v, 0, 0) S) (F0 m (hp + sz) ls' []) := by
    intro ls'
    split at d2
    · rename_i nn hdd
      have hnn := of_decide_eq_true d2
      refine lv_iconst hF.1 hF.2.1 hdd hnn ?_
      exact ab_ofMQ hX rfl (by unfold ab_ov; rw [hret]; rfl) (ab_zret hF.1 hF.2.1 (by rw [hF.2.2.2.1]; exact ab_ret1C k hk hret) rfl (fun t h _ => ⟨rfl, h⟩) hX.2.2.2.1 d3 hF.2.2.2.2.1)
    · cases d2
  have hgo : W p l e R s m args below meth c T.heap locs (S.2.2.2.2.1 - n0) (S.2.2.2.2.2 - z0) (ab_Q s below D q sa wa B n0 z0 k Hb (0, v, 0, 0) S) (F0 m hp ls [.ref a]) := by
    split at d1
    · rename_i ii hdd
      simp only [Bool.and_eq_true] at d1
      have e1 := Nat.eq_of_beq_eq_true d1.1
      have e2 := Nat.eq_of_beq_eq_true d1.2
      subst e1
      exact lv_astore_n hF.1 hF.2.1 hdd e2 (hL.has hl) hai rfl fun ls' _ => hend ls'
    · rename_i ii hdd
      simp only [Bool.and_eq_true] at d1
      have e1 := Nat.eq_of_beq_eq_true d1.1
      have e2 := Nat.eq_of_beq_eq_true d1.2
      subst e1 e2
      exact lv_astore hF.1 hF.2.1 hdd (hL.has hl) hai rfl fun ls' _ => hend ls'
    · cases d1
  obtain ⟨t, s1, s2⟩ := hgo (T.setVm vm') rfl X'
  exact ⟨t, ab_caught X rfl (pc := hp) (vm' := vm') (fun Q E d acts => by rw [W.findHandler_eq (meth := meth) (code := c) (by rw [hvm0]; exact X.method') X.code]; exact hq Q E d acts) s1, s2⟩
end ab_catch
