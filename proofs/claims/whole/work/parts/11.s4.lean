-- The abstract machine is sound: ends, new cells.
section ab_ends
variable {p : Program} {l : Launch} {e : Env} {R : Room} {s : State} {m : MethodId} {args : Array Value} {below : List Frame} {meth : Method} {c : Code} {Q : State → Prop} {D : va_G} {q sa wa B n0 z0 k pc : Nat} {Hb : Heap} {L : ab_L} {st : List ab_V} {S : ab_S}
def ab_ov (k : Nat) (ad : Nat → Nat) (o : ab_O) : Option Value := match ab_ret k with
  | 0 => none
  | 2 => some (.long o.2.2.1)
  | 3 => some (ab_cv ad (.inr (.inr o.2.2.2)))
  | _ => some (.int o.2.1)
def ab_exc (x : Nat) (a : Addr) (t : State) : Prop := ∃ cell : Cell, t.heap[a]? = some cell ∧ t.vm.findClass (ab_xn x) = some cell.cls ∧ ∀ z, cell.vm ≠ .statics z
def ab_out (k : Nat) (ad : Nat → Nat) (o : ab_O) (t : State) (out : Outcome) : Prop := (o.1 = 0 ∧ out = .returned (ab_ov k ad o)) ∨ (o.1 ≠ 0 ∧ ∃ a, out = .threw a ∧ ab_exc o.1 a t)
def ab_Q (s : State) (below : List Frame) (D : va_G) (q sa wa B n0 z0 k : Nat) (Hb : Heap) (o : ab_O) (S' : ab_S) : State → Prop := fun t =>
  ∃ out, t.status = .running ∧ Ended t below out ∧ ab_out k (ab_ad sa wa B) o t out ∧ s.WarmedH t.vm ∧ (∃ L, s.sameButNew ({ t with vm := s.vm } : State) L (S'.2.2.2.2.1 - n0) (S'.2.2.2.2.2 - z0) ∧ ∀ x ∈ L, B ≤ x.base) ∧
    ab_Wd D q sa wa B S' s t.heap ∧ (ab_md k = true → ab_inv S' = true) ∧ (∀ a, a < B → t.heap[a]? = Hb[a]?) ∧ n0 ≤ S'.2.2.2.2.1 ∧ z0 ≤ S'.2.2.2.2.2
theorem ab_ofMQ {H : Heap} {locs : List Loc} {g : JFrame} {v : Option Value} {o : ab_O} (hX : ab_X D q sa wa B n0 z0 k Hb s S H locs) (ho : o.1 = 0) (hv : ab_ov k (ab_ad sa wa B) o = v)
    (w : W p l e R s m args below meth c H locs (S.2.2.2.2.1 - n0) (S.2.2.2.2.2 - z0) (MQ below (fun _ _ oc t => oc = .returned v ∧ t.heap = H) args s (S.2.2.2.2.1 - n0) (S.2.2.2.2.2 - z0) (fun a => B ≤ a)) g) :
    W p l e R s m args below meth c H locs (S.2.2.2.2.1 - n0) (S.2.2.2.2.2 - z0) (ab_Q s below D q sa wa B n0 z0 k Hb o S) g := by
  intro T hT X
  obtain ⟨t, a1, oc, b1, b2, ⟨b3, b4⟩, L', ⟨-, b5, b6⟩, b7⟩ := w T hT X
  refine ⟨t, a1, oc, b1, b2, Or.inl ⟨ho, by rw [b3, hv]⟩, b5, ⟨L', b6, b7⟩, by rw [b4]; exact hX.1, hX.2.1, by rw [b4]; exact hX.2.2.1, hX.2.2.2.2⟩
theorem ab_zret {cc : ByteArray} {H : Heap} {locs : List Loc} {cells slots : Nat} {Qc : Array Value → State → Outcome → State → Prop} {free : Addr → Prop} {x v : Int32} {ty : FieldType} (hexec : p.tables.exec = Jvm.exec) (hb : c.code = cc) (hr : meth.sig.returnType = some ty) (hn : narrow ty (.int x) = .int v)
    (hq : ∀ t : State, t.heap = H → s.WarmedH t.vm → Qc args s (.returned (some (.int v))) t) (hf : ∀ q ∈ locs, free q.base)
    {pc : Nat} {ls : Array Slot} (hdg : decode cc pc = .ok (.ireturn, 1)) (hlocks : meth.locks = false) : W p l e R s m args below meth c H locs cells slots (MQ below Qc args s cells slots free) (F0 m pc ls [.int x]) := by
  intro T hT X
  obtain ⟨fs, hret, hrun, hended, hW, hframe⟩ := X.leave (v := some (.int v)) (fun h => by rw [hr] at h; cases h)
  have hmeth' : T.vm.method? m = some meth := X.method'
  refine ⟨T.setFrames fs, ?_, .returned (some (.int v)), hrun, hended, hq _ hT hW, locs, ⟨⟨_, rfl⟩, hW, hframe⟩, hf⟩
  jvm_step X.here [X.here.top, hexec, hb, hdg, hmeth', hr, hn]
  (try refine ⟨rfl, ?_⟩); (try refine ⟨rfl, ?_⟩)
  first | (intro acts; rw [hret _ acts rfl rfl rfl]) | rw [hret _ _ rfl rfl rfl]
  exact Steps.refl _
theorem ab_xiret {x : Int32} {o : ab_O} (hF : ab_F k p s m meth c) (hd : decode (ab_by k) pc = .ok (.ireturn, 1)) {y : Int32} {ty : FieldType} (hr : ab_rty k = some ty) (hn : narrow ty (.int x) = .int y) (ho : o.1 = 0) (hv : ab_ov k (ab_ad sa wa B) o = some (.int y)) :
    ab_G p l e R s m args below meth c (ab_Q s below D q sa wa B n0 z0 k Hb o S) D q sa wa B n0 z0 k Hb pc L [.inl x] S := by
  intro H locs ls hL hl hX
  exact ab_ofMQ hX ho hv (ab_zret hF.1 hF.2.1 (by rw [hF.2.2.2.1]; exact hr) hn (fun t h _ => ⟨rfl, h⟩) hX.2.2.2.1 hd hF.2.2.2.2.1)
theorem ab_xlret {x : Int64} {o : ab_O} (hF : ab_F k p s m meth c) (hd : decode (ab_by k) pc = .ok (.lreturn, 1)) (hr : ab_rty k = some .long) (ho : o.1 = 0) (hv : ab_ov k (ab_ad sa wa B) o = some (.long x)) :
    ab_G p l e R s m args below meth c (ab_Q s below D q sa wa B n0 z0 k Hb o S) D q sa wa B n0 z0 k Hb pc L [.inr (.inl x)] S := by
  intro H locs ls hL hl hX
  exact ab_ofMQ hX ho hv (W.lret hF.1 hF.2.1 (by rw [hF.2.2.2.1]; exact hr) (fun t h _ => ⟨rfl, h⟩) hX.2.2.2.1 hd hF.2.2.2.2.1)
theorem ab_xaret {x : Nat} {o : ab_O} {C : String} (hF : ab_F k p s m meth c) (hd : decode (ab_by k) pc = .ok (.areturn, 1)) (hr : ab_rty k = some (.object C)) (ho : o.1 = 0) (hv : ab_ov k (ab_ad sa wa B) o = some (ab_cv (ab_ad sa wa B) (.inr (.inr x)))) :
    ab_G p l e R s m args below meth c (ab_Q s below D q sa wa B n0 z0 k Hb o S) D q sa wa B n0 z0 k Hb pc L [.inr (.inr x)] S := by
  intro H locs ls hL hl hX
  exact ab_ofMQ hX ho hv (W.aret hF.1 hF.2.1 (by rw [hF.2.2.2.1]; exact hr) (Or.inl ⟨C, rfl⟩) (by cases x with | zero => exact Or.inl rfl | succ x => exact Or.inr ⟨_, rfl⟩) (fun t h _ => ⟨rfl, h⟩) hX.2.2.2.1 hd hF.2.2.2.2.1)
theorem ab_xvret {o : ab_O} (hF : ab_F k p s m meth c) (hd : decode (ab_by k) pc = .ok (.return_, 1)) (hr : ab_rty k = none) (ho : o.1 = 0) (hv : ab_ov k (ab_ad sa wa B) o = none) :
    ab_G p l e R s m args below meth c (ab_Q s below D q sa wa B n0 z0 k Hb o S) D q sa wa B n0 z0 k Hb pc L [] S := by
  intro H locs ls hL hl hX
  exact ab_ofMQ hX ho hv (W.vret hF.1 hF.2.1 (by rw [hF.2.2.2.1]; exact hr) (fun t h _ => ⟨rfl, h⟩) hX.2.2.2.1 hd hF.2.2.2.2.1)
/-- a cell more: the world behind it -/
theorem ab_X.push {H H' : Heap} {locs : List Loc} {n : Nat} (hX : ab_X D q sa wa B n0 z0 k Hb s S H locs) (hm : ab_md k = false) (hlt : S.2.2.2.1 < ab_C) (hz : H'.size = H.size + 1) (ho : ∀ a, a < H.size → H'[a]? = H[a]?) (hc : ab_ce D q (ab_ad sa wa B) (ab_wn S n) s H' S.2.2.2.1) (hA : sa < B ∧ wa < B ∧ sa ≠ wa) :
    ab_X D q sa wa B n0 z0 k Hb s (ab_wn S n) H' locs := by
  obtain ⟨⟨w1, w2, w3, w4, w5, w6⟩, -, x3, x4, x5, x6⟩ := hX
  have hH := w5 hlt
  refine ⟨⟨fun r a b => ?_, by show 3 ≤ _ + 1; omega, by show _ + 1 ≤ _; omega, by show _ + (_ + 1 - 3) ≤ _; omega, fun _ => by show _ = _ + (_ + 1 - 3); omega, fun r j hr => w6 r j (by have : S.2.2.2.1 + 1 ≤ r := hr; omega)⟩, fun h => (by rw [hm] at h; cases h), fun a ha => ?_, x4, by show n0 ≤ _ + 1; omega, by show z0 ≤ _ + n; omega⟩
  · have b' : r < S.2.2.2.1 + 1 := b
    by_cases e : r = S.2.2.2.1
    · subst e
      exact hc
    · refine (w1 r a (by omega)).kept (ho _ ?_) (fun _ => rfl) (fun _ => rfl) (fun _ => rfl)
      match r, a with
      | 1, _ => show sa < _; omega
      | 2, _ => show wa < _; omega
      | r + 3, _ => show B + r < _; omega
  · rw [ho a (by omega)]
    exact x3 a ha
theorem ab_xnew {i : Nat} {f : Nat × Nat × Nat} (hF : ab_F k p s m meth c) (hE : ab_E D wa B Hb s) (hA : sa < B ∧ wa < B ∧ sa ≠ wa) (hd : decode (ab_by k) pc = .ok (.new i, 3)) (hres : (ab_own k, i, f) ∈ ab_cll) (hf0 : f.1 = 0) (hm : ab_md k = false) (hlt : S.2.2.2.1 < ab_C) (hT : ab_T S.2.2.2.1 = 10 + f.2.1)
    (hc : S.2.2.2.2.1 + 1 - n0 ≤ R.cells) (hs : S.2.2.2.2.2 + f.2.2 - z0 ≤ R.slots)
    (hK : ab_G p l e R s m args below meth c Q D q sa wa B n0 z0 k Hb (pc + 3) L (.inr (.inr S.2.2.2.1) :: st) (ab_wn S f.2.2)) : ab_G p l e R s m args below meth c Q D q sa wa B n0 z0 k Hb pc L st S := by
  intro H locs ls hL hl hX
  obtain ⟨hc7, w1, w2, w3⟩ := ab_cll_ok _ hres hf0
  obtain ⟨hS, hfc, kC0, hkC0, hkind⟩ := hE.2.1.1 f.2.1 _ (ab_cl_at hc7)
  have h5 := hX.2.2.2.2.1
  have h6 := hX.2.2.2.2.2
  refine W.newcK hF.1 hF.2.1 hF.2.2.2.2.2.2.1 (hE.word w1 args) (hE.word w2 args) (hE.word w3 args) rfl hd (by omega) (by omega) hfc rfl fun H' kC hkC e1 e2 e3 => ?_
  have h3 : 2 < S.2.2.2.1 := hX.1.2.1
  have had : ab_ad sa wa B S.2.2.2.1 = H.size := by rw [ab_ad_eq h3, hX.1.2.2.2.2.1 hlt]
  have hce : ab_ce D q (ab_ad sa wa B) (ab_wn S f.2.2) s H' S.2.2.2.1 := by
    refine ⟨fun _ => ?_, fun h => by omega⟩
    obtain ⟨cell, q1, q2, q3, q4⟩ := u_born (ab_fty f.2.1) (fun w hw => hE.word hw args) (ab_uws hc7) (hE.2.1.1 f.2.1 _ (ab_cl_at hc7)) hkC e1 (ab_tyF hc7)
    rw [hT, Nat.add_sub_cancel_left, had]
    refine ⟨cell, q1, q2, q3, fun g hg => ?_⟩
    rw [q4 g hg]
    congr 1
    obtain ⟨z1, -, z3⟩ := hX.1.2.2.2.2.2 S.2.2.2.1 g (Nat.le_refl _)
    show _ = ab_fv _ S f.2.1 S.2.2.2.1 g
    unfold ab_fv
    rw [z1, z3]
    exact ab_dfl hc7 hg
  have := hK H' locs ls hL hl (hX.push hm hlt e2 e3 hce hA)
  rw [List.map_cons, ab_cvr (by omega), had] at this
  exact W.cs (by show _ = _ + 1 - n0; omega) (by show _ = _ + f.2.2 - z0; omega) this
theorem ab_xnewa {n : Int32} {t : ArrayType} (hF : ab_F k p s m meth c) (hE : ab_E D wa B Hb s) (hA : sa < B ∧ wa < B ∧ sa ≠ wa) (hd : decode (ab_by k) pc = .ok (.newarray t, 2)) (hm : ab_md k = false) (hlt : S.2.2.2.1 < ab_C) (hT : ab_T S.2.2.2.1 = ab_atc t) (ht : ab_atc t = 1 ∨ ab_atc t = 2 ∨ ab_atc t = 3 ∨ ab_atc t = 4) (hn : ¬ n < 0) (hN : n.toNatClampNeg = ab_N q S.2.2.2.1) (hb : n.toNatClampNeg ≤ 20000)
    (hc : S.2.2.2.2.1 + 1 - n0 ≤ R.cells) (hs : S.2.2.2.2.2 + n.toNatClampNeg - z0 ≤ R.slots)
    (hK : ab_G p l e R s m args below meth c Q D q sa wa B n0 z0 k Hb (pc + 2) L (.inr (.inr S.2.2.2.1) :: st) (ab_wn S n.toNatClampNeg)) : ab_G p l e R s m args below meth c Q D q sa wa B n0 z0 k Hb pc L (.inl n :: st) S := by
  intro H locs ls hL hl hX
  have h5 := hX.2.2.2.2.1
  have h6 := hX.2.2.2.2.2
  obtain ⟨w1, hty, hcb, hdv⟩ := ab_atc_ok t ht
  refine W.newaK hF.1 hF.2.1 (hE.word w1 args) rfl hd rfl hn rfl (Nat.le_trans (Nat.mul_le_mul hb hcb) (by decide)) (by omega) (by omega) rfl fun H' cA e1 e2 e3 hA' => ?_
  have h3 : 2 < S.2.2.2.1 := hX.1.2.1
  have had : ab_ad sa wa B S.2.2.2.1 = H.size := by rw [ab_ad_eq h3, hX.1.2.2.2.2.1 hlt]
  have hce : ab_ce D q (ab_ad sa wa B) (ab_wn S n.toNatClampNeg) s H' S.2.2.2.1 := by
    refine ⟨fun h => by omega, fun _ => ?_⟩
    rw [had, hT]
    refine ⟨_, e1, by rw [← hty]; exact hA' _ _, fun h => (by cases h), ⟨by rw [arrV_size]; omega, by rw [arrV_size, ← hN]⟩, fun j hj => ?_, fun h => by omega⟩
    rw [arrV_read _ _ (by omega), hdv]
    congr 1
    obtain ⟨z1, z2, -⟩ := hX.1.2.2.2.2.2 S.2.2.2.1 j (Nat.le_refl _)
    show _ = ab_xv _ S (ab_atc t) S.2.2.2.1 j
    unfold ab_xv
    rw [z1, z2]
    rcases ht with h | h | h | h <;> (rw [h]; try rfl)
  have := hK H' locs ls hL hl (hX.push hm hlt e2 e3 hce hA)
  rw [List.map_cons, ab_cvr (by omega), had] at this
  exact W.cs (by show _ = _ + 1 - n0; omega) (by show _ = _ + n.toNatClampNeg - z0; omega) this
theorem ab_xanew {n : Int32} {i : Nat} {f : Nat × Nat × Nat} (hF : ab_F k p s m meth c) (hE : ab_E D wa B Hb s) (hA : sa < B ∧ wa < B ∧ sa ≠ wa) (hd : decode (ab_by k) pc = .ok (.anewarray i, 3)) (hres : (ab_own k, i, f) ∈ ab_cll) (hf2 : f.1 = 0 ∧ f.2.1 = 2) (hm : ab_md k = false) (hlt : S.2.2.2.1 < ab_C) (hT : ab_T S.2.2.2.1 = 5) (hn : ¬ n < 0) (hN : n.toNatClampNeg = ab_N q S.2.2.2.1) (hb : n.toNatClampNeg ≤ 20000)
    (hc : S.2.2.2.2.1 + 1 - n0 ≤ R.cells) (hs : S.2.2.2.2.2 + n.toNatClampNeg - z0 ≤ R.slots)
    (hK : ab_G p l e R s m args below meth c Q D q sa wa B n0 z0 k Hb (pc + 3) L (.inr (.inr S.2.2.2.1) :: st) (ab_wn S n.toNatClampNeg)) : ab_G p l e R s m args below meth c Q D q sa wa B n0 z0 k Hb pc L (.inl n :: st) S := by
  intro H locs ls hL hl hX
  have h5 := hX.2.2.2.2.1
  have h6 := hX.2.2.2.2.2
  obtain ⟨w1, w2⟩ := ab_cll_ar _ hres hf2
  refine W.anew hF.1 hF.2.1 hF.2.2.2.2.2.2.1 (hE.word w1 args) (hE.word w2 args) rfl hd rfl hn (by omega) (by omega) (by omega) fun cA kA comp g1 g2 g3 g4 => ?_
  have h3 : 2 < S.2.2.2.1 := hX.1.2.1
  have had : ab_ad sa wa B S.2.2.2.1 = H.size := by rw [ab_ad_eq h3, hX.1.2.2.2.2.1 hlt]
  obtain ⟨-, hfc, -⟩ := hE.2.1.1 2 _ (ab_cl_at (by decide))
  have hcomp : comp = D.1 2 := Option.some.inj (g4.symm.trans hfc)
  have hce : ab_ce D q (ab_ad sa wa B) (ab_wn S n.toNatClampNeg) s (H.push { cls := cA, slots := Array.replicate n.toNatClampNeg .null, vm := .none }) S.2.2.2.1 := by
    refine ⟨fun h => by omega, fun _ => ?_⟩
    rw [had, hT]
    refine ⟨{ cls := cA, slots := Array.replicate n.toNatClampNeg .null, vm := .none }, by simp, ⟨fun z h => (by cases h), kA, g2, comp, g3⟩, fun h => (by cases h), ⟨by simp; omega, by simp [← hN]⟩, fun j hj => ?_, fun _ => ⟨kA, g2, by rw [g3, hcomp]⟩⟩
    obtain ⟨-, -, z3⟩ := hX.1.2.2.2.2.2 S.2.2.2.1 j (Nat.le_refl _)
    show _ = some (ab_cv _ (.inr (.inr (S.2.2.1 S.2.2.2.1 j))))
    rw [z3]
    have : j < n.toNatClampNeg := by omega
    simp [this, ab_cv]
  have := hK _ locs ls hL hl (hX.push hm hlt (by simp) (fun a ha => by rw [Array.getElem?_push, if_neg (Nat.ne_of_lt ha)]) hce hA)
  rw [List.map_cons, ab_cvr (by omega), had] at this
  exact W.cs (by show _ = _ + 1 - n0; omega) (by show _ = _ + n.toNatClampNeg - z0; omega) this
end ab_ends
