-- The abstract machine is sound: instructions on the heap.
/-- exceptions that a method of the law passes by before it catches -/
def ab_ncl : List (Nat × Nat) := [(1, 2), (2, 1), (3, 2), (4, 2), (4, 3), (1, 3), (1, 4)]
section ab_heap
variable {p : Program} {l : Launch} {e : Env} {R : Room} {s : State} {m : MethodId} {args : Array Value} {below : List Frame} {meth : Method} {c : Code} {Q : State → Prop} {D : va_G} {q sa wa B n0 z0 k pc : Nat} {Hb : Heap} {L : ab_L} {st : List ab_V} {S : ab_S}
def ab_F (k : Nat) (p : Program) (s : State) (m : MethodId) (meth : Method) (c : Code) : Prop :=
  p.tables.exec = Jvm.exec ∧ c.code = ab_by k ∧ c.maxLocals = ab_mxl k ∧ meth.sig.returnType = ab_rty k ∧ meth.locks = false ∧ meth.name = (ab_nm k).name ∧ s.vm.findClass (ab_cn (ab_own k)) = some m.cls ∧ c.exceptionTable.toList.map (fun h => (h.startPc, h.endPc, h.handlerPc, h.catchType)) = ab_ht k
/-- what the Statement says beside the tables: two statics of Throwable, and what is no kind of what -/
def ab_Na (B : Nat) (Hb : Heap) (s : State) : Prop := va_Zq "java/lang/Throwable" "UNASSIGNED_STACK" "[Ljava/lang/StackTraceElement;" (fun a => B ≤ a) s Hb ∧ va_Zq "java/lang/Throwable" "SUPPRESSED_SENTINEL" "Ljava/util/List;" (fun a => B ≤ a) s Hb ∧ ∀ x y, (x, y) ∈ ab_ncl → va_Nc (ab_xn x) (ab_xn y) s
theorem ab_Na.moved {B : Nat} {Hb : Heap} {s s' : State} (hvm : s.vm.Alike s'.vm) (h : ab_Na B Hb s) : ab_Na B Hb s' := ⟨h.1.moved hvm, h.2.1.moved hvm, fun x y hx => (h.2.2 x y hx).moved hvm⟩
def ab_E (D : va_G) (wa B : Nat) (Hb : Heap) (s : State) : Prop := ((∀ a, a < B → s.heap[a]? = Hb[a]?) ∧ ∀ w ∈ lw_tbl, ∀ (a' : Array Value) (U : State), s.WarmedH U.vm → (∀ a, a < B → U.heap[a]? = Hb[a]?) → w.before a' U = true) ∧ va_K D ab_cl [] s ∧ va_Z "ShapedItems$Matcher" "WITHOUT" "[J" (.ref wa) (fun a => B ≤ a) s Hb ∧ ab_Na B Hb s
theorem ab_E.word {D : va_G} {wa B : Nat} {Hb : Heap} {s : State} (h : ab_E D wa B Hb s) {w : Jvm.Cond} (hw : w ∈ lw_tbl) (a' : Array Value) : w.before a' s = true := h.1.2 w hw a' s (State.WarmedH.refl s) h.1.1
def ab_G (p : Program) (l : Launch) (e : Env) (R : Room) (s : State) (m : MethodId) (args : Array Value) (below : List Frame) (meth : Method) (c : Code) (Q : State → Prop) (D : va_G) (q sa wa B n0 z0 k : Nat) (Hb : Heap) (pc : Nat) (L : ab_L) (st : List ab_V) (S : ab_S) : Prop :=
  ∀ (H : Heap) (locs : List Loc) (ls : Array Slot), ab_LR (ab_ad sa wa B) L ls → L.length = ab_mxl k → ab_X D q sa wa B n0 z0 k Hb s S H locs →
    W p l e R s m args below meth c H locs (S.2.2.2.2.1 - n0) (S.2.2.2.2.2 - z0) Q (F0 m pc ls (st.map (ab_cv (ab_ad sa wa B))))
theorem ab_inv_of {S S' : ab_S} (h : ab_inv S = true) (hf : S'.2.2.2 = S.2.2.2) (hr : ∀ x ∈ ab_finl, S'.2.2.1 x.1 x.2.1 = S.2.2.1 x.1 x.2.1) : ab_inv S' = true := by
  simp only [ab_inv, Bool.and_eq_true, List.all_eq_true] at h ⊢
  refine ⟨by rw [hf]; exact h.1, fun x hx => ?_⟩
  rw [hr x hx]
  exact h.2 x hx
theorem ab_inE {i : Int32} {n : Nat} (h : ab_in i n = true) : ¬ i < 0 ∧ i.toNatClampNeg < n := by
  simp only [ab_in, Bool.and_eq_true, Bool.not_eq_true', decide_eq_false_iff_not] at h
  exact ⟨h.1, ab_blt h.2⟩
theorem ab_xget {i : Nat} {f : Nat × Nat × Nat} {r : Nat} (hF : ab_F k p s m meth c) (hE : ab_E D wa B Hb s) (hd : decode (ab_by k) pc = .ok (.getfield i, 3)) (hres : (ab_own k, i, f) ∈ ab_fll) (hok : ab_ok k S r (10 + f.1) = true)
    (hK : ab_G p l e R s m args below meth c Q D q sa wa B n0 z0 k Hb (pc + 3) L (ab_rd k S f r :: st) S) : ab_G p l e R s m args below meth c Q D q sa wa B n0 z0 k Hb pc L (.inr (.inr r) :: st) S := by
  intro H locs ls hL hl hX
  obtain ⟨hT, h0, hlt⟩ := ab_okE hok hX.2.1
  obtain ⟨cell, q1, q2, q3, q4⟩ := (hX.1.1 r h0 hlt).1 (by omega)
  rw [hT, Nat.add_sub_cancel_left] at q2 q4
  obtain ⟨hc7, hfk, hknd, hmem⟩ := ab_fll_ok _ hres
  obtain ⟨hS, hfc, kC, hkC, hkind⟩ := hE.2.1.1 f.1 _ (ab_cl_at hc7)
  obtain ⟨cf, kf, fi, fd, hi, hsl⟩ := hS f.2.1 hfk
  have hi' : s.fieldFound? (ab_cn f.1) (ab_ft f.1 f.2.1).2.1 (ab_ft f.1 f.2.1).2.2.1 = some (cf, kf, fi, fd) := by rw [← ab_ft_cn hc7 hfk]; exact hi
  rw [List.map_cons, ab_cvr h0]
  refine W.getf hF.1 hF.2.1 hF.2.2.2.2.2.2.1 (hE.word hmem args) hi' (u_facts hfc hkC (u_lays (fun w hw => hE.word hw args) (ab_uws hc7) hfk) hi).1 q1 (by rw [q3]; exact fun h => by cases h) (v := ab_cv (ab_ad sa wa B) (ab_rd k S f r)) ?_ rfl rfl hd (hK H locs ls hL hl hX)
  rw [hsl, q4 _ hfk]
  congr 1
  simp only [ab_fv, hknd, ab_rd]
  rcases f with ⟨fc, fk, fn⟩
  match fn, hknd with
  | 0, _ => rfl
  | 1, _ => rfl
  | 2, _ => rfl
  | 3, _ =>
    cases hm : ab_md k with
    | false => rfl
    | true =>
      show ab_cv _ (.inr (.inr (S.2.2.1 r fk))) = ab_cv _ (.inr (.inr (ab_fin fc fk r)))
      rw [ab_fin_ok hT h0 (hX.2.1 hm) hres]
  | n + 4, hn => exact absurd (ab_knd_lt fc fk) (by have hn : ab_knd fc fk = n + 4 := hn; omega)
theorem ab_slot {r fk ci : Nat} {cell : Cell} {v : Value} (hE : ab_E D wa B Hb s) (hc7 : ci < 7) (hfk : fk < ab_nf ci) (hT : ab_T r = 10 + ci) {ad : Nat → Nat} {U : State} {H' : Heap} {S S' : ab_S} (q2 : cell.cls = D.1 ci) (q3 : cell.vm = .none)
    (q4 : ∀ f, f < ab_nf ci → cell.slots[D.2 ci f]? = some (ab_fv ad S ci r f)) (e1 : H'[ad r]? = some (cell.setSlot (D.2 ci fk) v)) (hv : ab_fv ad S' ci r fk = v) (ho : ∀ f, f ≠ fk → ab_fv ad S' ci r f = ab_fv ad S ci r f) : ab_ce D q ad S' U H' r := by
  refine ⟨fun _ => ?_, fun h => by omega⟩
  rw [hT, Nat.add_sub_cancel_left]
  refine ⟨_, e1, q2, q3, fun f hf => ?_⟩
  have hap := va_apart (own := "") (args := #[]) (fun w hw => hE.word hw #[]) (ab_uws hc7) (ab_fty ci) (ab_tyF hc7) (ab_nmF hc7) hE.2.1 (ab_cl_at hc7)
  by_cases hq : f = fk
  · subst hq
    rw [hv]
    have := k2_hasslot (q4 f hf)
    simp [Cell.setSlot, this]
  · rw [ho f hq, slot_ne _ _ (hap fk f hfk hf (Ne.symm hq))]
    exact q4 f hf
/-- putfield: what is alike for all kinds -/
theorem ab_xput {i : Nat} {f : Nat × Nat × Nat} {r : Nat} {v : ab_V} {S' : ab_S} (hF : ab_F k p s m meth c) (hE : ab_E D wa B Hb s) (hA : sa < B ∧ wa < B ∧ sa ≠ wa) (hd : decode (ab_by k) pc = .ok (.putfield i, 3)) (hres : (ab_own k, i, f) ∈ ab_fll) (hok : ab_ok k S r (10 + f.1) = true)
    (hn : narrow (ab_fty f.1 f.2.1) (ab_cv (ab_ad sa wa B) v) = ab_cv (ab_ad sa wa B) v) (hfit : fits (ab_fty f.1 f.2.1) (ab_cv (ab_ad sa wa B) v) = true) (hfin : (ab_ft f.1 f.2.1).2.2.2 = false ∨ (meth.name = "<init>" ∧ f.1 = ab_own k))
    (hv : ab_fv (ab_ad sa wa B) S' f.1 r f.2.1 = ab_cv (ab_ad sa wa B) v) (ho : ∀ g, g ≠ f.2.1 → ab_fv (ab_ad sa wa B) S' f.1 r g = ab_fv (ab_ad sa wa B) S f.1 r g)
    (hf : S'.2.2.2 = S.2.2.2) (h1 : ∀ x k, x ≠ r → S'.1 x k = S.1 x k) (h2 : ∀ x k, x ≠ r → S'.2.1 x k = S.2.1 x k) (h3 : ∀ x k, x ≠ r → S'.2.2.1 x k = S.2.2.1 x k) (hinv : ab_md k = true → ab_inv S = true → ab_inv S' = true)
    (hK : ab_G p l e R s m args below meth c Q D q sa wa B n0 z0 k Hb (pc + 3) L st S') : ab_G p l e R s m args below meth c Q D q sa wa B n0 z0 k Hb pc L (v :: .inr (.inr r) :: st) S := by
  intro H locs ls hL hl hX
  obtain ⟨hT, h0, hlt⟩ := ab_okE hok hX.2.1
  have hr2 : 2 < r := ab_obj hT
  obtain ⟨cell, q1, q2, q3, q4⟩ := (hX.1.1 r h0 hlt).1 (by omega)
  rw [hT, Nat.add_sub_cancel_left] at q2 q4
  obtain ⟨hc7, hfk, hknd, hmem⟩ := ab_fll_ok _ hres
  obtain ⟨hS, hfc, kC, hkC, hkind⟩ := hE.2.1.1 f.1 _ (ab_cl_at hc7)
  obtain ⟨cf, kf, fi, fd, hi, hsl⟩ := hS f.2.1 hfk
  have hi' : s.fieldFound? (ab_cn f.1) (ab_ft f.1 f.2.1).2.1 (ab_ft f.1 f.2.1).2.2.1 = some (cf, kf, fi, fd) := by rw [← ab_ft_cn hc7 hfk]; exact hi
  have hts : ∀ w ∈ lw_tbl, w.before args s = true := fun w hw => hE.word hw args
  have hst := (u_facts hfc hkC (u_lays hts (ab_uws hc7) hfk) hi).1
  have hlay := hts _ (ab_uws hc7 _ (u_in_lay hfk))
  have hend : ∀ H' : Heap, H'[ab_ad sa wa B r]? = some (cell.setSlot fd.slot (ab_cv (ab_ad sa wa B) v)) → H'.size = H.size → (∀ a, a ≠ ab_ad sa wa B r → H'[a]? = H[a]?) →
      W p l e R s m args below meth c H' (locs ++ [⟨ab_ad sa wa B r, fd.slot⟩]) (S.2.2.2.2.1 - n0) (S.2.2.2.2.2 - z0) Q (F0 m (pc + 3) ls (st.map (ab_cv (ab_ad sa wa B)))) := by
    intro H' e1 e2 e3
    rw [hsl] at e1
    have hW := hX.1.set hA.1 hA.2.1 hA.2.2 h0 hlt e2 e3 hf h1 h2 h3 (ab_slot hE hc7 hfk hT q2 q3 q4 e1 hv ho)
    have := hK H' _ ls hL hl (hX.locs (L := [⟨ab_ad sa wa B r, fd.slot⟩]) hr2 hW (fun hm => hinv hm (hX.2.1 hm)) e3 (fun x hx => by rw [List.mem_singleton.mp hx]) hf)
    rw [hf] at this
    exact this
  rw [List.map_cons, List.map_cons, ab_cvr h0]
  have hlt' : fd.slot < cell.slots.size := by rw [hsl]; exact k2_hasslot (q4 _ hfk)
  unfold u_lay at hlay
  by_cases hb : (ab_ft f.1 f.2.1).2.2.2 = true
  · rw [if_pos hb] at hlay
    rcases hfin with h | ⟨hin2, hown⟩
    · rw [hb] at h; cases h
    have hcf : m.cls = cf := by
      obtain ⟨_, _, c', _, _, _, -, -, hf', -, -, -, hown2, -⟩ := Cond.laysFinal_spec hlay
      have e1 : c' = cf := by have := hi.symm.trans hf'; simp at this; exact this.1.symm
      rw [← e1]
      have h2 : s.vm.findClass (ab_cn (ab_own k)) = some m.cls := hF.2.2.2.2.2.2.1
      rw [← hown, ← ab_ft_cn hc7 hfk] at h2
      exact Option.some.inj (h2.symm.trans hown2)
    exact W.putFinK hF.1 hF.2.1 hF.2.2.2.2.2.2.1 (hE.word hmem args) hi' hst hcf hin2 (by rw [q2]; exact u_fits hfc hkC hkind (Or.inr hlay) hi (ab_tyF hc7 _ hfk) hn hfit) q1 q3 hlt' rfl rfl hd hend
  · rw [if_neg hb] at hlay
    exact W.putK hF.1 hF.2.1 (f := fd) ⟨hF.2.2.2.2.2.2.1, hE.word hmem args, ⟨_, _, _, hi'⟩, hst⟩ (by rw [q2]; exact u_store hfc hkC hkind hlay hi (ab_tyF hc7 _ hfk) hn hfit) q1 q3 hlt' rfl rfl hd hend
theorem ab_arr {r t : Nat} {i : Int32} {H : Heap} {locs : List Loc} (hX : ab_X D q sa wa B n0 z0 k Hb s S H locs) (hok : ab_ok k S r t = true) (ht : t < 10) (hin : ab_in i (ab_N q r) = true) : ∃ cell : Cell, H[ab_ad sa wa B r]? = some cell ∧ s.isArrayOf cell (ab_aty t) ∧ cell.vm ≠ .unknown ∧
    ¬ (i < 0 ∨ cell.slots.size ≤ i.toNatClampNeg) ∧ cell.slots[i.toNatClampNeg]? = some (ab_xv (ab_ad sa wa B) S t r i.toNatClampNeg) ∧ (ab_N q r ≤ cell.slots.size ∧ cell.slots.size.toInt32 = Int32.ofNat (ab_N q r)) ∧ (∀ j, j < ab_N q r → cell.slots[j]? = some (ab_xv (ab_ad sa wa B) S t r j)) ∧
    (t = 5 → ∃ kA : Class, s.vm.classes[cell.cls]? = some kA ∧ kA.kind = .array (D.1 2) (.object "ShapedItems$Shape")) ∧ ab_T r = t ∧ 0 < r ∧ r < S.2.2.2.1 := by
  obtain ⟨hT, h0, hlt⟩ := ab_okE hok hX.2.1
  obtain ⟨cell, q1, q2, q3, q4, q5, q6⟩ := (hX.1.1 r h0 hlt).2 (by omega)
  rw [hT] at q2 q5 q6
  obtain ⟨i1, i2⟩ := ab_inE hin
  have q4' := q4.1
  exact ⟨cell, q1, q2, q3, fun h => by
    rcases h with h | h
    · exact i1 h
    · omega, q5 _ i2, q4, q5, q6, hT, h0, hlt⟩
theorem ab_ast {r t j : Nat} {cell : Cell} {v : Value} {ad : Nat → Nat} {U : State} {H' : Heap} {S S' : ab_S} (hT : ab_T r = t) (ht : t < 10) (q2 : U.isArrayOf cell (ab_aty t)) (q3 : cell.vm ≠ .unknown) (q4 : (ab_N q r ≤ cell.slots.size ∧ cell.slots.size.toInt32 = Int32.ofNat (ab_N q r))) (q5 : ∀ j, j < ab_N q r → cell.slots[j]? = some (ab_xv ad S t r j))
    (q6 : t = 5 → ∃ kA : Class, U.vm.classes[cell.cls]? = some kA ∧ kA.kind = .array (D.1 2) (.object "ShapedItems$Shape")) (e1 : H'[ad r]? = some (cell.setSlot j v)) (hv : ab_xv ad S' t r j = v) (ho : ∀ i, i ≠ j → ab_xv ad S' t r i = ab_xv ad S t r i) : ab_ce D q ad S' U H' r := by
  refine ⟨fun h => by omega, fun _ => ?_⟩
  rw [hT]
  refine ⟨_, e1, q2, q3, by rw [k2_slotsz]; exact q4, fun i hi => ?_, q6⟩
  by_cases hq : i = j
  · subst hq
    rw [hv]
    have q4' := q4.1
    have : i < cell.slots.size := by omega
    simp [Cell.setSlot, this]
  · rw [ho i hq, slot_ne _ _ (Ne.symm hq)]
    exact q5 i hi
/-- the end of every array store -/
theorem ab_xst {r t j n : Nat} {cell : Cell} {v : Value} {H H' : Heap} {locs : List Loc} {ls : Array Slot} {S' : ab_S} (hA : sa < B ∧ wa < B ∧ sa ≠ wa) (hX : ab_X D q sa wa B n0 z0 k Hb s S H locs) (hr2 : 2 < r) (hlt : r < S.2.2.2.1) (hT : ab_T r = t) (ht : t < 10) (q2 : s.isArrayOf cell (ab_aty t)) (q3 : cell.vm ≠ .unknown) (q4 : (ab_N q r ≤ cell.slots.size ∧ cell.slots.size.toInt32 = Int32.ofNat (ab_N q r)))
    (q5 : ∀ j, j < ab_N q r → cell.slots[j]? = some (ab_xv (ab_ad sa wa B) S t r j)) (q6 : t = 5 → ∃ kA : Class, s.vm.classes[cell.cls]? = some kA ∧ kA.kind = .array (D.1 2) (.object "ShapedItems$Shape"))
    (e1 : H'[ab_ad sa wa B r]? = some (cell.setSlot j v)) (e2 : H'.size = H.size) (e3 : ∀ a, a ≠ ab_ad sa wa B r → H'[a]? = H[a]?) (hv : ab_xv (ab_ad sa wa B) S' t r j = v) (ho : ∀ i, i ≠ j → ab_xv (ab_ad sa wa B) S' t r i = ab_xv (ab_ad sa wa B) S t r i)
    (hf : S'.2.2.2 = S.2.2.2) (h1 : ∀ x k, x ≠ r → S'.1 x k = S.1 x k) (h2 : ∀ x k, x ≠ r → S'.2.1 x k = S.2.1 x k) (h3 : ∀ x k, x ≠ r → S'.2.2.1 x k = S.2.2.1 x k) (hinv : ab_md k = true → ab_inv S = true → ab_inv S' = true) (hL : ab_LR (ab_ad sa wa B) L ls) (hl : L.length = ab_mxl k)
    (hK : ab_G p l e R s m args below meth c Q D q sa wa B n0 z0 k Hb n L st S') : W p l e R s m args below meth c H' (locs ++ [⟨ab_ad sa wa B r, j⟩]) (S.2.2.2.2.1 - n0) (S.2.2.2.2.2 - z0) Q (F0 m n ls (st.map (ab_cv (ab_ad sa wa B)))) := by
  have hW := hX.1.set hA.1 hA.2.1 hA.2.2 (by omega : 0 < r) hlt e2 e3 hf h1 h2 h3 (ab_ast hT ht q2 q3 q4 q5 q6 e1 hv ho)
  have := hK H' _ ls hL hl (hX.locs (L := [⟨ab_ad sa wa B r, j⟩]) hr2 hW (fun hm => hinv hm (hX.2.1 hm)) e3 (fun x hx => by rw [List.mem_singleton.mp hx]) hf)
  rw [hf] at this
  exact this
end ab_heap
