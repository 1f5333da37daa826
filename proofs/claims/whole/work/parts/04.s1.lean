-- The abstract machine is sound: values, locals, the world; instructions that leave the heap alone.
theorem ab_gE {α : Type} {b : Bool} {x : Option α} {v : α} (h : ab_g b x = some v) : b = true ∧ x = some v := by
  cases b with
  | false => exact absurd h (by simp [ab_g])
  | true => exact ⟨rfl, h⟩
theorem ab_blt {a b : Nat} (h : Nat.blt a b = true) : a < b := Nat.le_of_ble_eq_true h
theorem ab_piE {α : Type} {st : List ab_V} {f : Int32 → List ab_V → Option α} {v : α} (h : ab_pi st f = some v) : ∃ x r, st = .inl x :: r ∧ f x r = some v := by
  unfold ab_pi at h
  split at h
  · exact ⟨_, _, rfl, h⟩
  · cases h
theorem ab_plE {α : Type} {st : List ab_V} {f : Int64 → List ab_V → Option α} {v : α} (h : ab_pl st f = some v) : ∃ x r, st = .inr (.inl x) :: r ∧ f x r = some v := by
  unfold ab_pl at h
  split at h
  · exact ⟨_, _, rfl, h⟩
  · cases h
theorem ab_prE {α : Type} {st : List ab_V} {f : Nat → List ab_V → Option α} {v : α} (h : ab_pr st f = some v) : ∃ x r, st = .inr (.inr x) :: r ∧ f x r = some v := by
  unfold ab_pr at h
  split at h
  · exact ⟨_, _, rfl, h⟩
  · cases h
theorem ab_liE {α : Type} {L : ab_L} {i : Nat} {f : Int32 → Option α} {v : α} (h : ab_li L i f = some v) : ∃ x, L[i]? = some (some (.inl x)) ∧ f x = some v := by
  unfold ab_li at h
  split at h
  · exact ⟨_, by assumption, h⟩
  · cases h
theorem ab_llE {α : Type} {L : ab_L} {i : Nat} {f : Int64 → Option α} {v : α} (h : ab_ll L i f = some v) : ∃ x, L[i]? = some (some (.inr (.inl x))) ∧ f x = some v := by
  unfold ab_ll at h
  split at h
  · exact ⟨_, by assumption, h⟩
  · cases h
theorem ab_lrE {α : Type} {L : ab_L} {i : Nat} {f : Nat → Option α} {v : α} (h : ab_lr L i f = some v) : ∃ x, L[i]? = some (some (.inr (.inr x))) ∧ f x = some v := by
  unfold ab_lr at h
  split at h
  · exact ⟨_, by assumption, h⟩
  · cases h
def ab_cv (ad : Nat → Nat) : ab_V → Value
  | .inl x => .int x
  | .inr (.inl x) => .long x
  | .inr (.inr x) => match x with
    | 0 => .null
    | r + 1 => .ref (ad (r + 1))
theorem ab_cvr {ad : Nat → Nat} {r : Nat} (h : 0 < r) : ab_cv ad (.inr (.inr r)) = .ref (ad r) := by
  cases r with
  | zero => cases h
  | succ r => rfl
def ab_LR (ad : Nat → Nat) (L : ab_L) (ls : Array Slot) : Prop := ls.size = L.length ∧ lv_wf ls ∧ ∀ (i : Nat) (v : ab_V), L[i]? = some (some v) → ls[i]? = some (.val (ab_cv ad v))
def ab_tb (ad : Nat → Nat) (L : ab_L) : List (Nat × Value) := (List.range L.length).filterMap fun i => match L[i]? with
  | some (some v) => some (i, ab_cv ad v)
  | _ => none
theorem ab_tb_mem {ad : Nat → Nat} {L : ab_L} {i : Nat} {v : ab_V} (h : L[i]? = some (some v)) : (i, ab_cv ad v) ∈ ab_tb ad L := by
  have hi : i < L.length := (List.getElem?_eq_some_iff.mp h).1
  refine List.mem_filterMap.mpr ⟨i, List.mem_range.mpr hi, ?_⟩
  simp [h]
theorem ab_tb_of {ad : Nat → Nat} {L : ab_L} {q : Nat × Value} (h : q ∈ ab_tb ad L) : ∃ v, L[q.1]? = some (some v) ∧ q.2 = ab_cv ad v := by
  obtain ⟨i, -, hi⟩ := List.mem_filterMap.mp h
  split at hi
  · rename_i v hv
    cases hi
    exact ⟨v, hv, rfl⟩
  · cases hi
theorem ab_LR.has {ad : Nat → Nat} {L : ab_L} {ls : Array Slot} {n : Nat} (h : ab_LR ad L ls) (hn : L.length = n) : lv_has ls n (ab_tb ad L) := by
  refine ⟨h.1.trans hn, h.2.1, fun q hq => ?_⟩
  obtain ⟨v, h1, h2⟩ := ab_tb_of hq
  rw [h2]
  exact h.2.2 _ _ h1
theorem ab_clr_len (L : ab_L) (i : Nat) : (ab_clr L i).length = L.length := by
  cases i with
  | zero => rfl
  | succ i =>
    simp only [ab_clr]
    split
    · simp
    · rfl
theorem ab_clr_of {L : ab_L} {i j : Nat} {w : ab_V} (h : (ab_clr L i)[j]? = some (some w)) : L[j]? = some (some w) ∧ (j + 1 = i → ∀ x, w ≠ .inr (.inl x)) := by
  cases i with
  | zero => exact ⟨h, fun q => by omega⟩
  | succ i =>
    simp only [ab_clr] at h
    split at h
    · rename_i x hx
      by_cases hj : i = j
      · subst hj
        rw [List.getElem?_set_self (List.getElem?_eq_some_iff.mp hx).1] at h
        cases h
      · rw [List.getElem?_set_ne hj] at h
        exact ⟨h, fun q => absurd (by omega) hj⟩
    · rename_i hx
      refine ⟨h, fun q x hw => ?_⟩
      have : j = i := by omega
      subst this
      subst hw
      exact hx _ h
theorem ab_cat1 {ad : Nat → Nat} {v : ab_V} (h : ∀ x, v ≠ .inr (.inl x)) : (ab_cv ad v).category = 1 := by
  rcases v with x | x | x
  · rfl
  · exact absurd rfl (h x)
  · cases x <;> rfl
theorem ab_st1_LR {ad : Nat → Nat} {L : ab_L} {ls ls' : Array Slot} {n i : Nat} {v : ab_V} (hn : L.length = n) (h : lv_has ls' n ((i, ab_cv ad v) :: (ab_tb ad L).filter (fun q => !(q.1 == i) && !(q.1 + 1 == i && q.2.category == 2)))) : ab_LR ad (ab_st1 L i v) ls' := by
  refine ⟨?_, h.2.1, fun j w hj => ?_⟩
  · rw [h.1, ab_st1, List.length_set, ab_clr_len, hn]
  · by_cases e : i = j
    · subst e
      by_cases hi : i < (ab_clr L i).length
      · rw [ab_st1, List.getElem?_set_self hi] at hj
        cases hj
        exact h.2.2 (i, ab_cv ad v) List.mem_cons_self
      · rw [ab_st1, List.getElem?_eq_none (by simp; omega)] at hj
        cases hj
    · rw [ab_st1, List.getElem?_set_ne e] at hj
      obtain ⟨h1, h2⟩ := ab_clr_of hj
      refine h.2.2 (j, ab_cv ad w) (List.mem_cons_of_mem _ (List.mem_filter.mpr ⟨ab_tb_mem h1, ?_⟩))
      simp only [Bool.and_eq_true, Bool.not_eq_true', beq_eq_false_iff_ne, ne_eq, Bool.and_eq_false_iff]
      refine ⟨fun q => e q.symm, ?_⟩
      by_cases q : j + 1 = i
      · right
        rw [ab_cat1 (h2 q)]
        decide
      · exact Or.inl q
theorem ab_st2_LR {ad : Nat → Nat} {L : ab_L} {ls ls' : Array Slot} {n i : Nat} {v : ab_V} (hn : L.length = n) (h : lv_has ls' n ((i, ab_cv ad v) :: (ab_tb ad L).filter (fun q => !(q.1 == i) && (!(q.1 == i + 1) && !(q.1 + 1 == i && q.2.category == 2))))) : ab_LR ad (ab_st2 L i v) ls' := by
  refine ⟨?_, h.2.1, fun j w hj => ?_⟩
  · rw [h.1, ab_st2, List.length_set, List.length_set, ab_clr_len, hn]
  · by_cases e1 : i + 1 = j
    · subst e1
      by_cases hi : i + 1 < ((ab_clr L i).set i (some v)).length
      · rw [ab_st2, List.getElem?_set_self hi] at hj
        cases hj
      · rw [ab_st2, List.getElem?_eq_none (by simp at hi ⊢; omega)] at hj
        cases hj
    · rw [ab_st2, List.getElem?_set_ne e1] at hj
      by_cases e : i = j
      · subst e
        by_cases hi : i < (ab_clr L i).length
        · rw [List.getElem?_set_self hi] at hj
          cases hj
          exact h.2.2 (i, ab_cv ad v) List.mem_cons_self
        · rw [List.getElem?_eq_none (by simp; omega)] at hj
          cases hj
      · rw [List.getElem?_set_ne e] at hj
        obtain ⟨h1, h2⟩ := ab_clr_of hj
        refine h.2.2 (j, ab_cv ad w) (List.mem_cons_of_mem _ (List.mem_filter.mpr ⟨ab_tb_mem h1, ?_⟩))
        simp only [Bool.and_eq_true, Bool.not_eq_true', beq_eq_false_iff_ne, ne_eq, Bool.and_eq_false_iff]
        refine ⟨fun q => e q.symm, fun q => e1 q.symm, ?_⟩
        by_cases q : j + 1 = i
        · right
          rw [ab_cat1 (h2 q)]
          decide
        · exact Or.inl q
theorem ab_st1_len (L : ab_L) (i : Nat) (v : ab_V) : (ab_st1 L i v).length = L.length := by rw [ab_st1, List.length_set, ab_clr_len]
theorem ab_st2_len (L : ab_L) (i : Nat) (v : ab_V) : (ab_st2 L i v).length = L.length := by rw [ab_st2, List.length_set, List.length_set, ab_clr_len]
theorem ab_zip_len : ∀ (bs : List Bool) (L : ab_L), (ab_zip bs L).length = L.length
  | [], L => by cases L <;> rfl
  | _ :: _, [] => rfl
  | b :: bs, v :: vs => by simp [ab_zip, ab_zip_len bs vs]
theorem ab_zip_of : ∀ (bs : List Bool) (L : ab_L) (j : Nat) (w : ab_V), (ab_zip bs L)[j]? = some (some w) → L[j]? = some (some w)
  | [], L, j, w, h => by cases L <;> exact h
  | _ :: _, [], j, w, h => h
  | b :: bs, v :: vs, 0, w, h => by
    cases b with
    | false => simp [ab_zip] at h
    | true => simpa [ab_zip] using h
  | b :: bs, v :: vs, j + 1, w, h => by
    simp only [ab_zip, List.getElem?_cons_succ] at h ⊢
    exact ab_zip_of bs vs j w h
theorem ab_LR.zip {ad : Nat → Nat} {L : ab_L} {ls : Array Slot} (bs : List Bool) (h : ab_LR ad L ls) : ab_LR ad (ab_zip bs L) ls := ⟨by rw [ab_zip_len]; exact h.1, h.2.1, fun i v hi => h.2.2 i v (ab_zip_of bs L i v hi)⟩
def ab_ln : Instr → Nat
  | .bipush _ | .iload _ | .lload _ | .aload _ | .istore _ | .lstore _ | .astore _ | .newarray _ | .ldc _ => 2
  | .sipush _ | .ldc2_w _ | .ldc_w _ | .iinc _ _ | .goto _ | .ifCond _ _ | .if_icmp _ _ | .getfield _ | .putfield _ | .getstatic _ | .invokevirtual _ | .invokestatic _ | .invokespecial _ | .new _ | .anewarray _ => 3
  | _ => 1
