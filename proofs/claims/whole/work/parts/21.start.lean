-- The claim out of one run of the abstract machine.
def ab_wo (j : Nat) : Int64 := ([6148914691236517205, 3689348814741910323, 1085102592571150095, 71777214294589695, 281470681808895, 4294967295] : List Int64).getD j 0
def ab_S0 (xs : Nat → Int32) : ab_S := (fun r j => if r = 1 then xs j else 0, fun r j => if r = 2 then ab_wo j else 0, fun _ _ => 0, 3, 0, 0)
/-- what is to be shown of the abstract machine: on every script the law's run ends, and answers 1 -/
def ab_Law : Prop := ∀ (q : Nat) (xs : Nat → Int32), q ≤ 2048 → ∃ (n : Nat) (S' : ab_S), ab_run q n 600 133 0 (ab_ent 133 [.inr (.inr 1)]) [] (ab_S0 xs) = some ((0, 1, 0, 0), S') ∧ S'.2.2.2.2.1 ≤ 601024 ∧ S'.2.2.2.2.2 ≤ 7293034
/-- words that stay true where the tables grow warmer and the old cells stay -/
def ab_gw (w : Jvm.Cond) : Bool := goodWord w || (w.onTables && w.keepsFace) || match w with
  | .methodLinkNest _ _ _ _ => true
  | .stringRef _ _ _ => true
  | .laysStatic _ _ _ => true
  | .arrayOver (.object _) => true
  | _ => false
theorem ab_good : lw_tbl.all ab_gw = true := by decide +kernel
theorem ab_warm {w : Jvm.Cond} (hg : ab_gw w = true) {args a' : Array Value} {s U : State} (hW : s.WarmedH U.vm) (hh : ∀ a, a < s.heap.size → U.heap[a]? = s.heap[a]?) (h : w.before args s = true) : w.before a' U = true := by
  simp only [ab_gw, Bool.or_eq_true] at hg
  rcases hg with (hg | hg) | hg
  · exact word_at hW (good_of_word hg) h
  · obtain ⟨h1, h2⟩ := ab_ctE hg
    have h3 := Cond.before_shiftedFace (State.Shifted.of_warmed hW) w h2 h
    have h4 := (Cond.onTables_vm (A := a') (A' := args) (U := U) (U' := s) U.vm w h1).trans h3
    rwa [State.setVm_self] at h4
  · split at hg
    · exact va_Nw.use rfl (va_Nw.warmM hW (va_Nw.of rfl h))
    · rename_i own k tx
      have hcur : ∃ cur, s.vm.findClass own = some cur := by
        have h1 := h
        simp only [Cond.before, Cond.holds, Cond.value] at h1
        cases hc : s.vm.findClass own with
        | none => simp [hc] at h1
        | some cur => exact ⟨cur, rfl⟩
      obtain ⟨cur, hcur⟩ := hcur
      obtain ⟨ks, cfs, is, adr, -, -, -, -, -, hev⟩ := Cond.stringRef_spec hcur h
      exact (vk_R.warm hW (vk_R.of h hev)).1
    · rename_i owner name desc
      obtain ⟨c, k, i, f, a, cell, hc, hi, hst, ha, hcell, hs, hcls, hlt, hty⟩ := Cond.laysStatic_spec h
      obtain ⟨k', hi', hek⟩ := State.fieldFound?_setVm hW.alike hi
      exact Cond.laysStatic_of (s := U) (c := c) (k := k') (i := i) (f := f) (a := a) (cell := cell) (by rw [hW.alike.findClass]; exact hc) hi' hst (by rw [hek]; exact ha) (by rw [hh a (Array.getElem?_eq_some_iff.mp hcell).1]; exact hcell) hs hcls hlt (by rw [hek]; exact hty)
    · exact va_AO.use (va_AO.moved hW.alike (va_AO.of h))
    · cases hg
theorem ab_insC : ∀ c, c < 7 → ∃ x ∈ ab_cl0, x.2.2.2.1 = c := by decide +kernel
def R_law : String := "ShapedItemsLaw"
def lw_P (b : Addr) (xs : List Int32) (args : Array Value) (s : State) : Prop := args = #[.ref b] ∧ s.IntsAt b xs ∧ xs.length ≤ 2048 ∧ (Jvm.Cond.and given_1 narrow_1).before args s = true
def lw_Q (_ : Array Value) (s : State) (o : Outcome) (t : State) : Prop := o = .returned (some (.int 1)) ∧ Framed s o t [] 601024 7293034
def lw_Z (below : List Frame) (a : Array Value) (s : State) : State → Prop := fun t => ∃ o, t.status = .running ∧ Ended t below o ∧ lw_Q a s o t
def lw_At (p : Program) (s : State) (m : MethodId) (meth : Method) (c : Code) (b L : Nat) (xs : Nat → Int32) : Prop :=
  p.tables.exec = Jvm.exec ∧ c.code = code ∧ meth.sig.returnType = ret ∧ c.maxLocals = 8 ∧ s.vm.findClass R_law = some m.cls ∧ (∀ w ∈ lw_tbl, w.before #[Value.ref b] s = true) ∧ va_X b L xs s s.heap ∧ b < s.heap.size ∧ meth.locks = false ∧ (Jvm.Cond.and given_1 narrow_1).before #[Value.ref b] s = true ∧ meth.name = "law" ∧ c.exceptionTable.isEmpty = true
theorem ab_ncN : ab_ncl.all (fun y => decide (Jvm.Cond.not (.castable (ab_xn y.1) (ab_xn y.2)) ∈ flatC (Jvm.Cond.and given_1 narrow_1))) = true := by decide +kernel
theorem ab_woF : ∀ j, j < 6 → Jvm.Cond.eq (.elem (.static "ShapedItems$Matcher" "WITHOUT" "[J") (.int (Int32.ofNat j))) (.long (ab_wo j)) ∈ flatC (Jvm.Cond.and given_1 narrow_1) := by decide +kernel
set_option maxHeartbeats 1000000 in
theorem whole_start (hLaw : ab_Law) {p : Program} {e : Env} {s : State} {m : MethodId} {below : List Frame} {meth : Method} {c : Code} (l : Launch) (hfl : l.flags = flags0) {b L : Nat} {xs : Nat → Int32} (hL : L ≤ 2048) (C0 : lw_At p s m meth c b L xs) : W p l e room_1 s m #[Value.ref b] below meth c s.heap [] 0 0 (lw_Z below #[Value.ref b] s) (entryFrame m ([Value.ref b] : List Value).toArray 8) := by
  obtain ⟨hexec, hcode, hret, hml, hown, hts, hscr, hbl, hlocks, hgv, hnm, hex⟩ := C0
  have hflat := flat_of_before _ hgv
  have hA0 : ∀ a : Nat, a < s.heap.size → ¬ s.heap.size ≤ a := fun a h => by omega
  -- the static array
  have hw1 : Jvm.Cond.laysStatic "ShapedItems$Matcher" "WITHOUT" "[J" ∈ lw_tbl := List.mem_append_right _ (List.mem_of_getElem? (i := 662) (by decide +kernel))
  have hw2 : Jvm.Cond.initialized "ShapedItems$Matcher" ∈ lw_tbl := by
    obtain ⟨x, hx, h5⟩ := ab_insC 5 (by decide)
    have := ab_w3W x hx
    unfold ab_w3 at this
    rw [h5] at this
    exact this
  obtain ⟨wa, hwa, hwT⟩ := va_Tof (args := #[Value.ref b]) (s := s) (tm := .static "ShapedItems$Matcher" "WITHOUT" "[J") (ty := .long) (N := 6) (f := fun j => .long (ab_wo j)) (A := fun a => s.heap.size ≤ a) (by decide) (hflat _ (by decide +kernel)) (va_eqt (z := 6) (hflat _ (by decide +kernel))) (fun j hj => va_eqtl (hflat _ (ab_woF j hj))) hA0
  have hZ := va_Zref (A := fun a => s.heap.size ≤ a) (hts _ hw1) (hts _ hw2) hwa hA0
  have hT1 := va_Zqof (args := #[Value.ref b]) (s := s) (C := "java/lang/Throwable") (n := "UNASSIGNED_STACK") (d := "[Ljava/lang/StackTraceElement;") (A := fun a => s.heap.size ≤ a) (hts _ (ab_taW _ (by decide +kernel))) (hts _ (ab_taW _ (by decide +kernel))) (hflat _ (by decide +kernel)) hA0
  have hT2 := va_Zqof (args := #[Value.ref b]) (s := s) (C := "java/lang/Throwable") (n := "SUPPRESSED_SENTINEL") (d := "Ljava/util/List;") (A := fun a => s.heap.size ≤ a) (hts _ (ab_taW _ (by decide +kernel))) (hts _ (ab_taW _ (by decide +kernel))) (hflat _ (by decide +kernel)) hA0
  -- the classes
  have hD : ∀ c : Nat, ∃ (cC : ClassId) (iS : Nat → Nat), c < 7 → u_Kn s (ab_cn c) (ab_ft c) (ab_nf c) cC iS := by
    intro c
    by_cases hc : c < 7
    · obtain ⟨x, hx, hxc⟩ := ab_insC c hc
      have hi := ab_w2W x hx
      unfold ab_w2 at hi
      rw [hxc] at hi
      obtain ⟨cC, iS, h⟩ := u_known hts (ab_uws hc) (hts _ hi)
      exact ⟨cC, iS, fun _ => h⟩
    · exact ⟨0, fun _ => 0, fun h => absurd h hc⟩
  obtain ⟨D1, hD1⟩ := Classical.axiomOfChoice hD
  obtain ⟨D2, hD2⟩ := Classical.axiomOfChoice hD1
  have hK : va_K (D1, D2) ab_cl [] s := by
    refine ⟨fun c q hq => ?_, fun k q hk => by cases hk⟩
    have hc : c < 7 := by
      have := (List.getElem?_eq_some_iff.mp hq).1
      simpa [ab_cl] using this
    rw [ab_cl_at hc] at hq
    cases hq
    exact hD2 c hc
  have hE : ab_E (D1, D2) wa s.heap.size s.heap s := by
    refine ⟨⟨fun _ _ => rfl, fun w hw a' U hU hh => ab_warm (List.all_eq_true.mp ab_good w hw) hU hh (hts w hw)⟩, hK, hZ, hT1, hT2, fun x y hxy => ?_⟩
    exact va_Nc.of (hflat _ (by simpa using List.all_eq_true.mp ab_ncN (x, y) hxy))
  obtain ⟨cw, w1, w2, w3, w4, w5, w6, w7⟩ := hwT
  obtain ⟨scr, r1, r2, r3, r4, r5⟩ := hscr
  have hwl : wa < s.heap.size := (Array.getElem?_eq_some_iff.mp w1).1
  have hne : b ≠ wa := by
    rintro rfl
    cases r1.symm.trans w1
    obtain ⟨-, k1, q1, c1, q2⟩ := r2
    obtain ⟨-, k2, q3, c2, q4⟩ := w2
    cases q1.symm.trans q3
    rw [q2] at q4
    cases q4
  have hF : ab_F 133 p s m meth c := by
    refine ⟨hexec, hcode, hml, hret, hlocks, hnm, hown, ?_⟩
    have : c.exceptionTable = #[] := by simpa using hex
    rw [this]
    rfl
  obtain ⟨n, S', hrun, hc, hsl⟩ := hLaw L xs hL
  have hst : ∀ e, l.admits e → e.platform.stackTraces = false := fun e he => by
    have h1 : e.platform.stackTraces = l.stackTraces := by rw [he.platform]
    rw [h1, Launch.stackTraces, hfl]
    decide +kernel
  have hA : b < s.heap.size ∧ wa < s.heap.size ∧ b ≠ wa := ⟨hbl, hwl, hne⟩
  have hG := ab_sound (l := l) (D := (D1, D2)) (q := L) (sa := b) (wa := wa) (B := s.heap.size) (Hb := s.heap) (ab_HTof hst hA) ab_HCof hA n 600 133 0 _ [] _ _ _ hrun p e room_1 s m #[Value.ref b] below meth c 0 0 hF hE (by decide) (by decide) (by show S'.2.2.2.2.1 - 0 ≤ 601024; omega) (by show S'.2.2.2.2.2 - 0 ≤ 7293034; omega)
  have hent := ab_ent_LR (ad := ab_ad b wa s.heap.size) (vs := [.inr (.inr 1)]) (j := 133) (by decide)
  have hX : ab_X (D1, D2) L b wa s.heap.size 0 0 133 s.heap s (ab_S0 xs) s.heap [] := by
    refine ⟨⟨fun r h0 h3 => ?_, Nat.le_refl _, (by decide : 3 ≤ 148), by show s.heap.size + (3 - 3) ≤ _; omega, fun _ => by show _ = s.heap.size + (3 - 3); omega, fun r k hr => ?_⟩, fun h => (by cases h), fun _ _ => rfl, fun x hx => (by cases hx), Nat.le_refl _, Nat.le_refl _⟩
    · have h3 : r < 3 := h3
      match r, h0, h3 with
      | 1, _, _ =>
        refine ⟨fun h => absurd h (by decide), fun _ => ⟨scr, r1, r2, r3, ⟨?_, ?_⟩, fun j hj => ?_, fun h => absurd h (by decide)⟩⟩
        · show L ≤ _; omega
        · rw [r4]; rfl
        · exact r5 j hj
      | 2, _, _ =>
        refine ⟨fun h => absurd h (by decide), fun _ => ⟨cw, w1, w2, w3, ⟨w4, w5⟩, fun j hj => ?_, fun h => absurd h (by decide)⟩⟩
        exact w6 j hj
    · have hr : 3 ≤ r := hr
      refine ⟨?_, ?_, rfl⟩
      · show (if r = 1 then xs k else 0) = 0
        rw [if_neg (by omega)]
      · show (if r = 2 then ab_wo k else 0) = 0
        rw [if_neg (by omega)]
  have hW := hG s.heap [] _ hent.1 hent.2 hX
  have he : entryFrame m ([Value.ref b] : List Value).toArray 8 = F0 m 0 ((lg_sl (([.inr (.inr 1)] : List ab_V).map (ab_cv (ab_ad b wa s.heap.size))) ++ List.replicate (ab_mxl 133 - (lg_sl (([.inr (.inr 1)] : List ab_V).map (ab_cv (ab_ad b wa s.heap.size)))).length) Slot.unset).toArray) (([] : List ab_V).map (ab_cv (ab_ad b wa s.heap.size))) := lg_entry_eq m [Value.ref b] 8
  rw [he]
  intro T hT X
  obtain ⟨t, s1, out, b1, b2, b3, b4, ⟨L', b5, b6⟩, -⟩ := hW T hT X
  refine ⟨t, s1, out, b1, b2, ?_⟩
  rcases b3 with ⟨-, ho⟩ | ⟨h, -⟩
  · refine ⟨ho, ⟨_, ho⟩, b4, b5.weaken (fun x hx hlt => absurd (b6 x hx) (Nat.not_le.mpr hlt)) (by omega) (by omega)⟩
  · exact absurd rfl h
set_option maxHeartbeats 4000000 in
theorem lw_walk (hLaw : ab_Law) (l : Launch) (hfl : l.flags = flags0) (b : Addr) (xs : List Int32) : MetFree l x (headSpec (Jvm.Cond.code x code maxLocals ret :: tables_1) room_1) (lw_P b xs) (fun _ _ _ _ _ => True) lw_Q := by
  refine MetFree.of_bodyS (code := code) (maxLocals := maxLocals) (ret := ret) (by decide) ?_ ?_
  · intro args s m h hn
    obtain ⟨meth, c, h1, h2, h3, h4, h5, h6, -, -⟩ := Cond.code_spec hn (atoms_spec (ws := Jvm.Cond.code x code maxLocals ret :: tables_1) h _ List.mem_cons_self)
    exact ⟨meth, c, h1, h2, h3, h4, h5, h6⟩
  · intro p e s m args below meth c s₁ B hml0 hP _
    obtain ⟨rfl, hx, hbd, hgv⟩ := hP
    obtain ⟨scr, harrAt, hlist, hof, hsmall⟩ := hx
    obtain ⟨hcb, hkn, -, -⟩ := State.arrayAt?_spec harrAt
    have hown : s.vm.findClass R_law = some m.cls := findClass_of_methodNamed B.named
    have hts0 : ∀ c ∈ (Jvm.Cond.code x code maxLocals ret :: tables_1), c.before #[Value.ref b] s = true := atoms_spec (ws := Jvm.Cond.code x code maxLocals ret :: tables_1) B.pre
    have hts : ∀ w ∈ lw_tbl, w.before #[Value.ref b] s = true := k2_hts_sels lw_privs (fun w hw => hts0 w (List.mem_cons_of_mem _ hw)) lw_privs_ok
    have hml : c.maxLocals = 8 := B.maxLocals_eq (hts0 _ List.mem_cons_self)
    have X₀ : Stand p l e room_1 s m #[Value.ref b] below meth c s₁ [] 0 0 := Stand.of_body B
    have hh0 : s₁.heap = s.heap := by rw [B.state]; rfl
    have hsz : scr.slots.size = xs.length := by rw [← Array.length_toList, hlist, List.length_map]
    have hval : ∀ j : Nat, j < xs.length → scr.slots[j]? = some (.int (xs.getD j 0)) := fun j hj => by
      rw [← Array.getElem?_toList, hlist]
      simp [hj]
    have hbl : b < s.heap.size := (Array.getElem?_eq_some_iff.mp hcb).1
    have hX : va_X b xs.length (fun j => xs.getD j 0) s s.heap := ⟨scr, hcb, hof, hkn, hsz, hval⟩
    have hnm : meth.name = "law" := (name_of_methodNamed B.named B.method).1
    have hex := B.noHandlers (hts0 _ List.mem_cons_self)
    have K : W p l e room_1 s m #[Value.ref b] below meth c s₁.heap [] 0 0 (lw_Z below #[Value.ref b] s) (entryFrame m ([Value.ref b] : List Value).toArray 8) := by
      rw [hh0]
      exact whole_start hLaw l hfl hbd ⟨B.exec, B.bytes, B.returns, hml, hown, hts, hX, hbl, B.notSynchronized, hgv, hnm, hex⟩
    obtain ⟨t, a1, o, b1, b2, b3⟩ := K s₁ rfl X₀
    exact ⟨t, o, a1, b1, b2, b3⟩
theorem lw_pre_spec {args : Array Value} {s : State} (h : (Jvm.Cond.and given_1 narrow_1).before args s = true) (hr : rest_1_c.before args s = true) : ∃ (b : Addr) (xs : List Int32), lw_P b xs args s := by
  have hs := flat_of_before _ h
  have hq := flat_of_before _ hr
  have hc : (Cond.count 1).before args s = true := hs _ (by decide +kernel)
  have harr : (Cond.arrayOf (.arg 0) .int).before args s = true := hs _ (by decide +kernel)
  have hle : (Cond.le (.length (.arg 0)) (.int 2048)).before args s = true := hs _ (by decide +kernel)
  have hlen : (Cond.isInt (.length (.arg 0))).before args s = true := hq _ (by decide +kernel)
  have hall : (Cond.all (.arg 0) (.isInt (.elem (.arg 0) (.index 0)))).before args s = true := hq _ (by decide +kernel)
  obtain ⟨b, xs, hb, hx⟩ := State.ints_of_pre rfl harr hlen hall
  have hsm : xs.length < 2 ^ 31 := hx.choose_spec.2.2.2
  have hev : (Term.length (.arg 0)).eval args s none [] s = some (.int xs.length.toInt32) := hx.length_eval hb
  have hv := Cond.le_ints hev (show (Term.int 2048).eval args s none [] s = some (.int 2048) from rfl)
  have hd : xs.length.toInt32 ≤ 2048 := by
    simpa [Cond.before, Cond.holds, hv] using hle
  have hN : xs.length ≤ 2048 := (Int32.ofNat_le_ofNat hsm (by decide)).mp (show Int32.ofNat xs.length ≤ Int32.ofNat 2048 from hd)
  exact ⟨b, xs, Cond.one_arg hc (show args[0]? = some (.ref b) from hb), hx, hN, h⟩
theorem lw_comes (hLaw : ab_Law) (l : Launch) (hfl : l.flags = flags0) : Comes l x (Jvm.Cond.code x code maxLocals ret :: tables_1) room_1 (fun tb e args s => Calls_1 tb e args s ∧ rest_1 tb e args s ∧ Pre_1 tb e args s)
    (fun _ _ args s o t => lw_Q args s o t) := by
  intro p e ha hc hk s m args below hf hfit hheap happ hpre
  obtain ⟨b, xs, hP⟩ := lw_pre_spec hpre.2.2 hpre.2.1
  obtain ⟨k, o, h1, h2, h3, hQ⟩ := lw_walk hLaw l hfl b xs p e ha hc hk s m args below hf ((Spec.applies_iff_loose hf).mp happ).1 hP trivial
  exact ⟨k, o, h1, h2, h3, hQ⟩
theorem lw_frame {s t : State} {o : Outcome} {args : Array Value} (h : Framed s o t [] 601024 7293034) :
    Framed s o t (fieldLocs frame_1_writes args s ++ arrayLocs frame_1_arrays args s ++ staticLocs frame_1_statics s) 601024 7293034 := h
theorem lw_limb (hLaw : ab_Law) (L : Cond) (hL : ∀ (args : Array Value) (s t : State), L.after args s (.returned (some (.int 1))) t = true) :
    ArmFor flags0 classFile x code maxLocals ret World_1 tables_1 room_1 Calls_1 rest_1 Pre_1
      (fun tb e a s o t => postC L tb e a s o t ∧ Framed s o t (fieldLocs frame_1_writes a s ++ arrayLocs frame_1_arrays a s ++ staticLocs frame_1_statics s) 601024 7293034) := by
  intro l hfl _ _ p e ha hc hk s m args below hf hfit hheap happ hpre
  obtain ⟨k, o, h1, h2, h3, rfl, hF⟩ := lw_comes hLaw l hfl p e ha hc hk s m args below hf hfit hheap happ hpre
  exact ⟨k, _, h1, h2, h3, hL args s _, lw_frame hF⟩
theorem ab_vc (hLaw : ab_Law) : Claimed_1_1 ∧ Claimed_1_2 := ⟨lw_limb hLaw limb_1_1 (fun args s t => by simp [limb_1_1, Cond.after, Cond.holds, Cond.value]), lw_limb hLaw limb_1_2 (fun args s t => Cond.after_iff.mpr (by
  first | (rw [show limb_1_2 = Cond.eq .result (.int 1) from rfl, Cond.eq_ints (x := 1) (y := 1) rfl rfl]; simp; done) | (simp [limb_1_2, Cond.value, Term.eval]; done)))⟩
