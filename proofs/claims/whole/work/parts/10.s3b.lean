section ab_more
variable {p : Program} {l : Launch} {e : Env} {R : Room} {s : State} {m : MethodId} {args : Array Value} {below : List Frame} {meth : Method} {c : Code} {Q : State → Prop} {D : va_G} {q sa wa B n0 z0 k pc : Nat} {Hb : Heap} {L : ab_L} {st : List ab_V} {S : ab_S} {H : Heap} {locs : List Loc} {cells slots : Nat} {ls : Array Slot} {rest : List Value}
theorem ab_swF {α : Type} {x : Int32} {df : Nat} {f : Nat → Option α} {r : Option α} : ∀ (cs : List (Int × Nat)), ab_sw x df f cs = r → (∃ (n : Nat) (v : Int × Nat), cs[n]? = some v ∧ x = Int32.ofInt v.1 ∧ f v.2 = r ∧ ∀ (j : Nat) (w : Int × Nat), j < n → cs[j]? = some w → x ≠ Int32.ofInt w.1) ∨ (f df = r ∧ ∀ w ∈ cs, x ≠ Int32.ofInt w.1)
  | [], h => Or.inr ⟨h, fun w hw => by cases hw⟩
  | v :: cs, h => by
    unfold ab_sw at h
    split at h
    · rename_i hx
      exact Or.inl ⟨0, v, rfl, hx, h, fun j w hj => by omega⟩
    · rename_i hx
      rcases ab_swF cs h with ⟨n, w, a1, a2, a3, a4⟩ | ⟨a1, a2⟩
      · refine Or.inl ⟨n + 1, w, a1, a2, a3, fun j u hj hu => ?_⟩
        cases j with
        | zero => cases hu; exact hx
        | succ j => exact a4 j u (by omega) hu
      · refine Or.inr ⟨a1, fun w hw => ?_⟩
        rcases List.mem_cons.mp hw with rfl | hw
        · exact hx
        · exact a2 w hw
theorem ab_xtab {df lo hi : Int} {offs : Array Int} {len : Nat} {x : Int32} {α : Type} {f : Nat → Option α} {r : Option α} (hF : ab_F k p s m meth c) (hd : decode (ab_by k) pc = .ok (.tableswitch df lo hi offs, len)) (ht : ab_tok pc (.tableswitch df lo hi offs) = true) (h : ab_sw x (ab_tg pc df) f (ab_tcs pc lo offs) = r)
    (hK : ∀ t, f t = r → W p l e R s m args below meth c H locs cells slots Q (F0 m t ls rest)) : W p l e R s m args below meth c H locs cells slots Q (F0 m pc ls (.int x :: rest)) := by
  simp only [ab_tok, Bool.and_eq_true, List.all_eq_true, decide_eq_true_eq] at ht
  obtain ⟨t1, t2, t3, t4, t5⟩ := ht
  have hlo : ∀ n : Nat, n < offs.size → (Int32.ofInt (lo + n)).toInt = lo + n := fun n hn => Int32.toInt_ofInt_of_le (by omega) (by omega)
  rcases ab_swF _ h with ⟨n, v, a1, a2, a3, -⟩ | ⟨a1, a2⟩
  · have hn : n < offs.size := by
      have := (List.getElem?_eq_some_iff.mp a1).1
      simpa [ab_tcs] using this
    have hv : v = (lo + n, ab_tg pc offs[n]) := by
      have : (ab_tcs pc lo offs)[n]? = some (lo + n, ab_tg pc offs[n]) := by simp [ab_tcs, hn]
      exact Option.some.inj (a1.symm.trans this)
    subst hv
    have hx : x.toInt = lo + n := by rw [a2]; exact hlo n hn
    refine lv_tableIn hF.1 hF.2.1 hd (by omega) (by omega) (off := offs[n]) (tgt := ab_tg pc offs[n]) ?_ ?_ (hK _ a3)
    · rw [hx, show (lo + (n : Int) - lo).toNat = n by omega]
      exact Array.getElem?_eq_getElem hn
    · exact ab_tgE (decide_eq_true (t2 offs[n] (by simp)))
  · refine lv_tableOut hF.1 hF.2.1 hd ?_ (ab_tgE (decide_eq_true t1)) (hK _ a1)
    by_cases h1 : x.toInt < lo
    · exact Or.inl h1
    by_cases h2 : hi < x.toInt
    · exact Or.inr h2
    exfalso
    have hn : (x.toInt - lo).toNat < offs.size := by omega
    refine a2 (lo + ((x.toInt - lo).toNat : Nat), ab_tg pc offs[(x.toInt - lo).toNat]) (List.mem_of_getElem? (i := (x.toInt - lo).toNat) (by simp [ab_tcs, hn])) ?_
    show x = Int32.ofInt (lo + _)
    rw [show lo + (((x.toInt - lo).toNat : Nat) : Int) = x.toInt by omega, Int32.ofInt_toInt]
theorem ab_xlook {df : Int} {ps : Array (Int × Int)} {len : Nat} {x : Int32} {α : Type} {f : Nat → Option α} {r : Option α} (hF : ab_F k p s m meth c) (hd : decode (ab_by k) pc = .ok (.lookupswitch df ps, len)) (ht : ab_tok pc (.lookupswitch df ps) = true) (h : ab_sw x (ab_tg pc df) f (ab_lcs pc ps) = r)
    (hK : ∀ t, f t = r → W p l e R s m args below meth c H locs cells slots Q (F0 m t ls rest)) : W p l e R s m args below meth c H locs cells slots Q (F0 m pc ls (.int x :: rest)) := by
  obtain ⟨t1, ht⟩ := ab_ctE ht
  obtain ⟨t2, t3⟩ := ab_ctE ht
  have t1 := of_decide_eq_true t1
  simp only [Bool.and_eq_true, List.all_eq_true, decide_eq_true_eq] at t2
  have key : ∀ (qs : List (Int × Int)), (∀ o ∈ qs, 0 ≤ (pc : Int) + o.2 ∧ -2147483648 ≤ o.1 ∧ o.1 ≤ 2147483647) → ab_sw x (ab_tg pc df) f (qs.map fun o => (o.1, ab_tg pc o.2)) = r → ∃ tgt : Nat, (pc : Int) + Op.lookupswitch.offset qs df x.toInt = (tgt : Int) ∧ f tgt = r := by
    intro qs
    induction qs with
    | nil => intro _ h; exact ⟨_, ab_tgE (decide_eq_true t1), h⟩
    | cons a qs ih =>
      intro hq h
      obtain ⟨b1, b2, b3⟩ := hq a List.mem_cons_self
      have hax : (Int32.ofInt a.1).toInt = a.1 := Int32.toInt_ofInt_of_le (by omega) (by omega)
      simp only [List.map_cons, ab_sw] at h
      rcases a with ⟨a, o⟩
      rw [Op.lookupswitch.offset_cons]
      split at h
      · rename_i hx
        have : x.toInt = a := by rw [hx]; exact hax
        first | rw [if_pos this.symm] | rw [if_pos this] | simp only [this, if_true]
        exact ⟨_, ab_tgE (decide_eq_true b1), h⟩
      · rename_i hx
        have : ¬ x.toInt = a := fun q => hx (by rw [← q, Int32.ofInt_toInt])
        first | rw [if_neg (fun q => this q.symm)] | rw [if_neg this]
        exact ih (fun o ho => hq o (List.mem_cons_of_mem _ ho)) h
  obtain ⟨tgt, e1, e2⟩ := key ps.toList (fun o ho => by have := t2 o ho; exact ⟨this.1, this.2.1, this.2.2⟩) h
  exact lv_lookup hF.1 hF.2.1 hd t3 rfl e1 (hK _ e2)
theorem ab_xsta {i : Nat} (hF : ab_F k p s m meth c) (hE : ab_E D wa B Hb s) (hd : decode (ab_by k) pc = .ok (.getstatic i, 3)) (hres : (ab_own k, i) ∈ ab_stl) (hK : ab_G p l e R s m args below meth c Q D q sa wa B n0 z0 k Hb (pc + 3) L (.inr (.inr 2) :: st) S) : ab_G p l e R s m args below meth c Q D q sa wa B n0 z0 k Hb pc L st S := by
  intro H locs ls hL hl hX
  obtain ⟨cf, kf, fi, f, a, cell, h1, h2, h3, h4, h5, h6, h7, h8⟩ := hE.2.2.1
  exact W.gets hF.1 hF.2.1 hF.2.2.2.2.2.2.1 (hE.word (ab_stl_ok hres) args) h1 h2 h3 h4 (by rw [hX.2.2.1 a (Nat.not_le.mp h8)]; exact h5) (fun e => by rw [e] at h6; cases h6) h7 rfl (hd) (hK H locs ls hL hl hX)
theorem ab_thkE {j n : Nat} {ad : Nat → Nat} (h : ab_thk k S j (st.drop (n - 1)) = true) (hn : n ≤ st.length) (hp : 1 ≤ n) : ∃ r, (st.take n).reverse = .inr (.inr r) :: (st.take (n - 1)).reverse ∧ st.map (ab_cv ad) = ((st.take (n - 1)).reverse.map (ab_cv ad)).reverse ++ ab_cv ad (.inr (.inr r)) :: (st.drop n).map (ab_cv ad) ∧ ab_ok k S r (10 + ab_own j) = true := by
  have hd : st.drop (n - 1) = st[n - 1]'(by omega) :: st.drop n := by
    rw [List.drop_eq_getElem_cons (by omega), show n - 1 + 1 = n by omega]
  rw [hd] at h
  have ht : st.take n = st.take (n - 1) ++ [st[n - 1]'(by omega)] := by
    conv => lhs; rw [show n = (n - 1) + 1 by omega]
    rw [List.take_add_one]
    simp [List.getElem?_eq_getElem (show n - 1 < st.length by omega)]
  match hv : st[n - 1]'(by omega), h with
  | .inr (.inr r), h =>
    refine ⟨r, by rw [ht, hv]; simp, ?_, h⟩
    rw [← List.map_reverse, List.reverse_reverse, ← List.map_cons, ← List.map_append]
    congr 1
    conv => lhs; rw [← List.take_append_drop (n - 1) st, hd, hv]
theorem ab_cats (ad : Nat → Nat) : ∀ (vs : List ab_V), ((vs.map (ab_cv ad)).map fun v => v.category).sum ≤ 2 * vs.length
  | [] => Nat.le_refl _
  | v :: r => by
    have := ab_cats ad r
    have h2 : (ab_cv ad v).category ≤ 2 := by rcases lv_cat (ab_cv ad v) with h | h <;> omega
    simp only [List.map_cons, List.sum_cons, List.length_cons]
    omega
theorem ab_pairs (at_ : Nat) : ∀ (xs : List Value) (i : Nat) (c : Cell), (c.storePairs at_ (xs.zipIdx i)).cls = c.cls ∧ (c.storePairs at_ (xs.zipIdx i)).vm = c.vm ∧ (c.storePairs at_ (xs.zipIdx i)).slots.size = c.slots.size ∧
    ∀ k, k < c.slots.size → (c.storePairs at_ (xs.zipIdx i)).slots[k]? = if at_ + i ≤ k ∧ k < at_ + i + xs.length then some (xs.getD (k - (at_ + i)) .null) else c.slots[k]?
  | [], i, c => ⟨rfl, rfl, rfl, fun k _ => by rw [if_neg (by simp only [List.length_nil]; omega)]; rfl⟩
  | x :: xs, i, c => by
    rw [List.zipIdx_cons]
    obtain ⟨h1, h2, h3, h4⟩ := ab_pairs at_ xs (i + 1) (c.setSlot (at_ + i) x)
    refine ⟨h1, h2, h3.trans (k2_slotsz _ _ _), fun k hk => ?_⟩
    show ((c.setSlot (at_ + i) x).storePairs at_ (xs.zipIdx (i + 1))).slots[k]? = _
    rw [h4 k (by rw [k2_slotsz]; exact hk)]
    by_cases e : k = at_ + i
    · subst e
      rw [if_neg (by omega), if_pos (by simp only [List.length_cons]; omega)]
      simp [Cell.setSlot, hk]
    · rw [slot_ne _ _ (Ne.symm e)]
      by_cases h : at_ + (i + 1) ≤ k ∧ k < at_ + (i + 1) + xs.length
      · rw [if_pos h, if_pos (by simp only [List.length_cons]; omega)]
        have e : k - (at_ + i) = (k - (at_ + (i + 1))) + 1 := by omega
        rw [e, List.getD_cons_succ]
      · rw [if_neg h, if_neg (by simp only [List.length_cons]; omega)]
theorem ab_nn {z : Int32} (hz : ¬ z < 0) : z.toInt = (z.toNatClampNeg : Int) := by
  have hz0 : (0 : Int) ≤ z.toInt := by
    have := Int32.not_lt.mp hz
    simpa using Int32.le_iff_toInt_le.mp this
  show z.toInt = ((z.toInt.toNat : Nat) : Int)
  omega
theorem ab_xcopy {i : Nat} {n dp sp : Int32} {o a : Nat} {f : Nat × Nat} (hF : ab_F k p s m meth c) (hE : ab_E D wa B Hb s) (hA : sa < B ∧ wa < B ∧ sa ≠ wa) (hd : decode (ab_by k) pc = .ok (.invokestatic i, 3)) (hres : (ab_own k, i, 9, f) ∈ ab_mtl) (hfr : 1 ≤ R.frames) (hlo : 200 ≤ R.locals)
    (hg1 : (ab_ok k S a 3 && (ab_ok k S o 3 && (Nat.blt 2 o && (!Nat.beq a o && Nat.ble st.length 8)))) = true)
    (hg2 : (!decide (n < 0) && (!decide (sp < 0) && (!decide (dp < 0) && (Nat.ble (sp.toNatClampNeg + n.toNatClampNeg) (ab_N q a) && (Nat.ble (dp.toNatClampNeg + n.toNatClampNeg) (ab_N q o) && ab_cf S a sp.toNatClampNeg n.toNatClampNeg))))) = true)
    (hK : ab_G p l e R s m args below meth c Q D q sa wa B n0 z0 k Hb (pc + 3) L st (ab_wc S a sp.toNatClampNeg o dp.toNatClampNeg n.toNatClampNeg)) : ab_G p l e R s m args below meth c Q D q sa wa B n0 z0 k Hb pc L (.inl n :: .inl dp :: .inr (.inr o) :: .inl sp :: .inr (.inr a) :: st) S := by
  intro H locs ls hL hl hX T hT X
  simp only [Bool.and_eq_true, Bool.not_eq_true', decide_eq_false_iff_not] at hg1 hg2
  obtain ⟨hoa, hoo, ho2, hao, h8⟩ := hg1
  obtain ⟨hn, hsp, hdp, hb1, hb2, hcf⟩ := hg2
  have ho2 := ab_blt ho2
  have h8 := Nat.le_of_ble_eq_true h8
  have hb1 := Nat.le_of_ble_eq_true hb1
  have hb2 := Nat.le_of_ble_eq_true hb2
  obtain ⟨hTa, ha0, halt⟩ := ab_okE hoa hX.2.1
  obtain ⟨hTo, ho0, holt⟩ := ab_okE hoo hX.2.1
  obtain ⟨ca, a1, a2, a3, a4, a5, -⟩ := (hX.1.1 a ha0 halt).2 (by omega)
  obtain ⟨co, o1, o2, o3, o4, o5, o6⟩ := (hX.1.1 o ho0 holt).2 (by omega)
  rw [hTa] at a2 a5
  rw [hTo] at o2 o5
  obtain ⟨a6, ka, hka, cma, hkka⟩ := a2
  obtain ⟨o7, ko, hko, cmo, hkko⟩ := id o2
  obtain ⟨w1, w2, w3, w4⟩ := ab_mtl_a (j := f.1) (n := f.2) hres
  have hcat := ab_cats (ab_ad sa wa B) st
  have hval : ∀ i, i < n.toNatClampNeg → ca.slots.getD (sp.toNatClampNeg + i) .null = .int (S.1 a (sp.toNatClampNeg + i)) := fun i hi => by
    rw [Array.getD_eq_getD_getElem?, a5 _ (by omega)]
    rfl
  have q4 := a4.1
  have q5 := o4.1
  obtain ⟨vm', X', step⟩ := X.arraycopy hF.1 hF.2.2.2.2.2.2.1 (hE.word w1 args) (hE.word w2 args) (hE.word w3 args) (hE.word w4 args) (src := ab_ad sa wa B a) (dst := ab_ad sa wa B o) (cs := ca) (cd := co) (srcPos := sp) (destPos := dp) (n := n) (by rw [hT]; exact a1) (by rw [hT]; exact o1)
    a6 o7 a3 o3 hka hko hkka hkko (by decide) hsp hdp hn (by rw [ab_nn hsp, ab_nn hn]; omega) (by rw [ab_nn hdp, ab_nn hn]; omega)
    (fun vm₁ _ i hi => by
      rw [hval i hi]
      exact ⟨List.all_eq_true.mp hcf i (List.mem_range.mpr hi), trivial⟩)
    (g := F0 m pc ls ((.inl n :: .inl dp :: .inr (.inr o) :: .inl sp :: .inr (.inr a) :: st : List ab_V).map (ab_cv (ab_ad sa wa B)))) rfl (by rw [hF.2.2.1, ← hl]; exact hL.1) (rest := st.map (ab_cv (ab_ad sa wa B))) (by show List.map _ _ = _; simp only [List.map_cons]; rw [ab_cvr ha0, ab_cvr ho0]; rfl) (by rw [hF.2.1]; exact hd) hfr
    (by show 2 * 0 + _ + (nativeFrameWords "java/lang/System" "arraycopy" 5 + 11) ≤ _; have : nativeFrameWords "java/lang/System" "arraycopy" 5 ≤ 100 := by decide +kernel
        omega)
  obtain ⟨e1, e2, e3, e4⟩ := ab_pairs dp.toNatClampNeg (ca.stretch sp.toNatClampNeg n.toNatClampNeg) 0 co
  have hlen : (ca.stretch sp.toNatClampNeg n.toNatClampNeg).length = n.toNatClampNeg := by simp [Cell.stretch]
  have hlo' : ab_ad sa wa B o < H.size := (Array.getElem?_eq_some_iff.mp o1).1
  have oq : ∀ b : Nat, b ≠ ab_ad sa wa B o → (H.setIfInBounds (ab_ad sa wa B o) (copied ca co sp dp n))[b]? = H[b]? := fun b hb => by simp [Array.getElem?_setIfInBounds, Ne.symm hb]
  have hce : ab_ce D q (ab_ad sa wa B) (ab_wc S a sp.toNatClampNeg o dp.toNatClampNeg n.toNatClampNeg) s (H.setIfInBounds (ab_ad sa wa B o) (copied ca co sp dp n)) o := by
    refine ⟨fun h => by omega, fun _ => ?_⟩
    rw [hTo]
    refine ⟨copied ca co sp dp n, by simp [Array.getElem?_setIfInBounds, hlo'], ⟨fun z hz => o7 z (by rw [← hz]; exact e2.symm), ko, by show s.vm.classes[(copied ca co sp dp n).cls]? = _; rw [show (copied ca co sp dp n).cls = co.cls from e1]; exact hko, cmo, hkko⟩, by rw [show (copied ca co sp dp n).vm = co.vm from e2]; exact o3, by rw [show (copied ca co sp dp n).slots.size = co.slots.size from e3]; exact o4, fun j hj => ?_, fun h => by omega⟩
    show (co.storePairs dp.toNatClampNeg ((ca.stretch sp.toNatClampNeg n.toNatClampNeg).zipIdx 0)).slots[j]? = _
    rw [e4 j (by omega), hlen, Nat.add_zero]
    show _ = some (Value.int (if o = o ∧ dp.toNatClampNeg ≤ j ∧ j < dp.toNatClampNeg + n.toNatClampNeg then S.1 a (sp.toNatClampNeg + (j - dp.toNatClampNeg)) else S.1 o j))
    by_cases hj2 : dp.toNatClampNeg ≤ j ∧ j < dp.toNatClampNeg + n.toNatClampNeg
    · rw [if_pos hj2, if_pos ⟨rfl, hj2⟩, List.getD_eq_getElem?_getD]
      unfold Cell.stretch
      rw [List.getElem?_map, List.getElem?_range (by omega)]
      simp only [Option.map_some, Option.getD_some]
      rw [hval _ (by omega)]
    · rw [if_neg hj2, if_neg (fun h => hj2 h.2)]
      exact o5 j hj
  have hW := hX.1.set (S' := ab_wc S a sp.toNatClampNeg o dp.toNatClampNeg n.toNatClampNeg) hA.1 hA.2.1 hA.2.2 ho0 holt (by simp) oq rfl (fun x j hx => by show (if _ then _ else _) = _; rw [if_neg (fun h => hx h.1)]) (fun _ _ _ => rfl) (fun _ _ _ => rfl) hce
  have hXX := hX.locs (L := (ca.stretch sp.toNatClampNeg n.toNatClampNeg).zipIdx.map fun q => ⟨ab_ad sa wa B o, dp.toNatClampNeg + q.2⟩) ho2 hW (fun hm => ab_inv_of (hX.2.1 hm) rfl fun _ _ => rfl) oq (fun x hx => by obtain ⟨z, -, hz⟩ := List.mem_map.mp hx; rw [← hz]) rfl
  obtain ⟨t, s1, s2⟩ := hK _ _ ls hL hl hXX _ (by rw [← hT]; rfl) X'
  exact ⟨t, step t s1, s2⟩
end ab_more
