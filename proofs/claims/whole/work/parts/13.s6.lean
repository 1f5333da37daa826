-- The abstract machine is sound: a call, and all instructions.
section ab_main
variable {p : Program} {l : Launch} {e : Env} {R : Room} {s : State} {m : MethodId} {args : Array Value} {below : List Frame} {meth : Method} {c : Code} {Q : State → Prop} {D : va_G} {q sa wa B n0 z0 k pc : Nat} {Hb : Heap} {L : ab_L} {st : List ab_V} {S : ab_S}
def ab_Snd (l : Launch) (D : va_G) (q sa wa B : Nat) (Hb : Heap) (n : Nat) : Prop := ∀ (d k pc : Nat) (L : ab_L) (st : List ab_V) (S : ab_S) (o : ab_O) (S' : ab_S), ab_run q n d k pc L st S = some (o, S') →
  ∀ (p : Program) (e : Env) (R : Room) (s : State) (m : MethodId) (args : Array Value) (below : List Frame) (meth : Method) (c : Code) (n0 z0 : Nat), ab_F k p s m meth c → ab_E D wa B Hb s → d + 8 ≤ R.frames → 64 * d + 200 ≤ R.locals → S'.2.2.2.2.1 - n0 ≤ R.cells → S'.2.2.2.2.2 - z0 ≤ R.slots →
    ab_G p l e R s m args below meth c (ab_Q s below D q sa wa B n0 z0 k Hb o S') D q sa wa B n0 z0 k Hb pc L st S
theorem ab_weak {tb : Tables} {g : Frame} {s1 s2 : State} (h : Steps tb e (g :: below) s1 s2) : Steps tb e below s1 s2 := by
  obtain ⟨n, h1, h2⟩ := h
  exact ⟨n, h1, fun k hk => Within.weaken (mid := [g]) (h2 k hk)⟩
theorem ab_push_cv {j : Nat} {ad : Nat → Nat} {o : ab_O} {st : List ab_V} : (ab_push (ab_ret j) o st).map (ab_cv ad) = (ab_ov j ad o).toList ++ st.map (ab_cv ad) := by
  unfold ab_push ab_ov
  generalize ab_ret j = t
  match t with
  | 0 => rfl
  | 1 => rfl
  | 2 => rfl
  | 3 => rfl
  | n + 4 => rfl
theorem ab_E.moved {s s' : State} (h : ab_E D wa B Hb s) (hW : s.WarmedH s'.vm) (hh : ∀ a, a < B → s'.heap[a]? = Hb[a]?) : ab_E D wa B Hb s' := ⟨⟨hh, fun w hw a' U hU hU2 => h.1.2 w hw a' U (State.WarmedH.trans hW hU) hU2⟩, h.2.1.moved hW.alike, h.2.2.1.moved hW.alike, h.2.2.2.moved hW.alike⟩
/-- a call that has been begun: the callee's walk, then ours -/
theorem ab_xcall {j nn d : Nat} {vs rest stk : List ab_V} {r fin : ab_O × ab_S} (hF : ab_F k p s m meth c) (hE : ab_E D wa B Hb s) (ih : ab_Snd l D q sa wa B Hb nn) (hj : j < ab_M)
    (hin : ∀ (H : Heap) (locs : List Loc) (ls : Array Slot), ab_X D q sa wa B n0 z0 k Hb s S H locs → ls.size = c.maxLocals → ∀ T : State, T.heap = H → Stand p l e R s m args below meth c T locs (S.2.2.2.2.1 - n0) (S.2.2.2.2.2 - z0) →
      ab_iv p l e R s m args below meth c T locs (S.2.2.2.2.1 - n0) (S.2.2.2.2.2 - z0) (F0 m pc ls (stk.map (ab_cv (ab_ad sa wa B)))) (ab_nm j) (vs.map (ab_cv (ab_ad sa wa B))) (rest.map (ab_cv (ab_ad sa wa B))))
    {ig : Instr} (hd : decode (ab_by k) pc = .ok (ig, 3)) (hrun : ab_run q nn d j 0 (ab_ent j vs) [] S = some r) (hlen : (ab_exp vs).length ≤ ab_mxl j) (hml : ab_mxl j ≤ 20) (hrest : rest.length ≤ 8)
    (hmd : ab_md j = true → ab_inv S = true ∨ ab_md k = true) (hmk : ab_md k = true → ab_md j = true)
    (hfr : d + 1 + 8 ≤ R.frames) (hlo : 64 * (d + 1) + 200 ≤ R.locals) (hce : fin.2.2.2.2.2.1 - n0 ≤ R.cells) (hsl : fin.2.2.2.2.2.2 - z0 ≤ R.slots) (hm0 : S.2.2.2.2.1 ≤ r.2.2.2.2.2.1) (hm3 : S.2.2.2.2.2 ≤ r.2.2.2.2.2.2) (hm1 : r.2.2.2.2.2.1 ≤ fin.2.2.2.2.2.1) (hm2 : r.2.2.2.2.2.2 ≤ fin.2.2.2.2.2.2)
    (hcont : r.1.1 = 0 → ab_G p l e R s m args below meth c (ab_Q s below D q sa wa B n0 z0 k Hb fin.1 fin.2) D q sa wa B n0 z0 k Hb (pc + 3) L (ab_push (ab_ret j) r.1 rest) r.2)
    (hthr : r.1.1 ≠ 0 → ∀ (H : Heap) (locs : List Loc) (ls : Array Slot) (T : State) (a : Addr), T.heap = H → ab_LR (ab_ad sa wa B) L ls → L.length = ab_mxl k → ab_X D q sa wa B n0 z0 k Hb s r.2 H locs → Stand p l e R s m args below meth c T locs (r.2.2.2.2.2.1 - n0) (r.2.2.2.2.2.2 - z0) → ab_exc r.1.1 a T →
      ∃ t, Steps p.tables e below ((T.setTop (F0 m pc ls (rest.map (ab_cv (ab_ad sa wa B))))).pushFrame (.throwing a)) t ∧ ab_Q s below D q sa wa B n0 z0 k Hb fin.1 fin.2 t) :
    ab_G p l e R s m args below meth c (ab_Q s below D q sa wa B n0 z0 k Hb fin.1 fin.2) D q sa wa B n0 z0 k Hb pc L stk S := by
  intro H locs ls hL hl hX T hT X
  have hsz : ls.size = c.maxLocals := by rw [hL.1, hl, hF.2.2.1]
  obtain ⟨vm', mk, X1, hn, hW1, hstep⟩ := hin H locs ls hX hsz T hT X
  obtain ⟨mk', mt, ck, hn', a1, a2, a3, a4, a5, a6, a7, a8, a9, a10⟩ := ab_named hE hj
  cases hn.symm.trans hn'
  have hal : s.vm.Alike vm' := hW1.alike
  have hmk1 : (T.setVm vm').vm.method? mk = some mt := by show vm'.method? mk = _; rw [hal.method?]; exact a1
  have hpl : (T.setVm vm').plainMethod mk := ab_plain hj (X1.named hn)
  have h5 := hX.2.2.2.2.1
  have h6 := hX.2.2.2.2.2
  have hcat := ab_cats (ab_ad sa wa B) rest
  have hsum : 2 * (F0 m pc ls (rest.map (ab_cv (ab_ad sa wa B)))).monitorRoom + (((F0 m pc ls (rest.map (ab_cv (ab_ad sa wa B)))).stack).map fun v => v.category).sum ≤ 16 := by
    have h16 : ((rest.map (ab_cv (ab_ad sa wa B))).map fun v => v.category).sum ≤ 16 := by omega
    show 2 * 0 + ((rest.map (ab_cv (ab_ad sa wa B))).map fun v => v.category).sum ≤ 16
    omega
  obtain ⟨Y, hinv⟩ := X1.into (g := F0 m pc ls (rest.map (ab_cv (ab_ad sa wa B)))) rfl hsz (by rw [hF.2.1]; exact hd) (vs.map (ab_cv (ab_ad sa wa B))).toArray (R' := { frames := d + 8, locals := 64 * d + 200, cells := R.cells - (S.2.2.2.2.1 - n0), slots := R.slots - (S.2.2.2.2.2 - z0) }) hmk1 a2 a6 hpl
    (by show d + 8 + 1 ≤ _; omega) (by show _ + (ck.maxLocals + 11) + (64 * d + 200) ≤ _; rw [a4]; omega) (by show _ + (R.cells - _) ≤ _; omega) (by show _ + (R.slots - _) ≤ _; omega)
  have hs' : s.WarmedH ((T.setVm vm').calling (F0 m pc ls (rest.map (ab_cv (ab_ad sa wa B)))) mk (vs.map (ab_cv (ab_ad sa wa B))).toArray).vm := hW1
  have hFj : ab_F j p ((T.setVm vm').calling (F0 m pc ls (rest.map (ab_cv (ab_ad sa wa B)))) mk (vs.map (ab_cv (ab_ad sa wa B))).toArray) mk mt ck := ⟨hF.1, a3, a4, a5, a6, a9, by show vm'.findClass _ = _; rw [hal.findClass]; exact a10, a7⟩
  obtain ⟨hLR, hll⟩ := ab_ent_LR (ad := ab_ad sa wa B) hlen
  have hXj : ab_X D q sa wa B S.2.2.2.2.1 S.2.2.2.2.2 j Hb ((T.setVm vm').calling (F0 m pc ls (rest.map (ab_cv (ab_ad sa wa B)))) mk (vs.map (ab_cv (ab_ad sa wa B))).toArray) S H [] :=
    ⟨hX.1.moved hal, fun h => (hmd h).elim id hX.2.1, hX.2.2.1, fun x hx => (by cases hx), Nat.le_refl _, Nat.le_refl _⟩
  have hG := ih d j 0 (ab_ent j vs) [] S r.1 r.2 hrun p e { frames := d + 8, locals := 64 * d + 200, cells := R.cells - (S.2.2.2.2.1 - n0), slots := R.slots - (S.2.2.2.2.2 - z0) } _ mk (vs.map (ab_cv (ab_ad sa wa B))).toArray (.java (F0 m pc ls (rest.map (ab_cv (ab_ad sa wa B)))) :: below) mt ck S.2.2.2.2.1 S.2.2.2.2.2 hFj (hE.moved hs' (fun a ha => by show T.heap[a]? = _; rw [hT]; exact hX.2.2.1 a ha)) (Nat.le_refl _) (Nat.le_refl _)
    (by show _ ≤ R.cells - _; omega) (by show _ ≤ R.slots - _; omega) H [] _ hLR hll hXj
  rw [Nat.sub_self, Nat.sub_self] at hG
  obtain ⟨t, hsteps, out, b1, b2, b3, b4, ⟨L', b5, b6⟩, b7, b8, b9, b10, b11⟩ := hG _ (by exact hT) Y
  have hen : entryFrame mk (vs.map (ab_cv (ab_ad sa wa B))).toArray ck.maxLocals = F0 mk 0 ((lg_sl (vs.map (ab_cv (ab_ad sa wa B))) ++ List.replicate (ab_mxl j - (lg_sl (vs.map (ab_cv (ab_ad sa wa B)))).length) Slot.unset).toArray) (([] : List ab_V).map (ab_cv (ab_ad sa wa B))) := by rw [a4]; exact lg_entry_eq _ _ _
  rw [← hen] at hsteps
  have hstep' : ∀ tg, Steps p.tables e below t tg → Steps p.tables e below (T.setTop (F0 m pc ls (stk.map (ab_cv (ab_ad sa wa B))))) tg := fun tg h => hstep tg fun acts => by
    have hi := hinv acts
    rw [show (doInvoke e ((T.setVm vm').setTop { F0 m pc ls (stk.map (ab_cv (ab_ad sa wa B))) with stack := rest.map (ab_cv (ab_ad sa wa B)) }) acts mk (vs.map (ab_cv (ab_ad sa wa B))).toArray).1 = _ from hi]
    exact (ab_weak hsteps).trans h
  have hc1 : S.2.2.2.2.1 - n0 + (r.2.2.2.2.2.1 - S.2.2.2.2.1) = r.2.2.2.2.2.1 - n0 := by omega
  have hc2 : S.2.2.2.2.2 - z0 + (r.2.2.2.2.2.2 - S.2.2.2.2.2) = r.2.2.2.2.2.2 - z0 := by omega
  have hXr : ∀ T' : State, T'.heap = t.heap → ab_X D q sa wa B n0 z0 k Hb s r.2 T'.heap (locs ++ L') := fun T' he => by
    rw [he]
    refine ⟨b7.moved hal.symm, fun h => b8 (hmk h), b9, fun x hx => ?_, by omega, by omega⟩
    rcases List.mem_append.mp hx with h | h
    · exact hX.2.2.2.1 x h
    · exact b6 x h
  rcases b3 with ⟨ho, hout⟩ | ⟨ho, a, hout, hexc⟩
  · subst hout
    obtain ⟨T', X', hW', -, ht⟩ := X1.outOf (g := F0 m pc ls (rest.map (ab_cv (ab_ad sa wa B)))) rfl (by rw [hF.2.1]; exact hd) b2 b4 b5
    have hh : T'.heap = t.heap := by rw [ht]; rfl
    rw [hc1, hc2] at X'
    obtain ⟨t', s1, s2⟩ := hcont ho T'.heap _ ls hL hl (hXr T' hh) T' rfl X'
    refine ⟨t', hstep' _ ?_, s2⟩
    rw [ht]
    rw [ab_push_cv] at s1
    exact s1
  · subst hout
    obtain ⟨T', X', hW', -, ht⟩ := X1.outOfThrown (g := F0 m pc ls (rest.map (ab_cv (ab_ad sa wa B)))) rfl b2 b4 b5
    have hh : T'.heap = t.heap := by rw [ht]; exact (Stand.throwing_heap T' _ a).symm
    have hv : T'.vm = t.vm := by rw [ht]; exact (Stand.throwing_vm T' _ a).symm
    rw [hc1, hc2] at X'
    obtain ⟨t', s1, s2⟩ := hthr ho T'.heap _ ls T' a rfl hL hl (hXr T' hh) X' (by obtain ⟨cell, g1, g2, g3⟩ := hexc; exact ⟨cell, by rw [hh]; exact g1, by rw [hv]; exact g2, g3⟩)
    refine ⟨t', hstep' _ ?_, s2⟩
    rw [ht]
    exact s1
end ab_main
