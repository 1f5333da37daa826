theorem ab_zipW {α : Type} (P : α → Jvm.Cond) : ∀ (l : List α) (ps : List Nat), l.length = ps.length → (l.zip ps).all (fun y => decide (tables_1[y.2]? = some (P y.1))) = true → ∀ x ∈ l, P x ∈ lw_tbl
  | [], _, _, _, _, hx => by cases hx
  | _ :: _, [], h, _, _, _ => by cases h
  | a :: l, p :: ps, h, hc, x, hx => by
    simp only [List.zip_cons_cons, List.all_cons, Bool.and_eq_true, decide_eq_true_eq] at hc
    rcases List.mem_cons.mp hx with rfl | hx
    · exact List.mem_append_right _ (List.mem_of_getElem? hc.1)
    · exact ab_zipW P l ps (by simpa using h) hc.2 x hx
def ab_fw (x : Nat × Nat × Nat × Nat × Nat) : Jvm.Cond := .fieldLink (ab_cn x.1) x.2.1 (ab_cn x.2.2.1) (ab_ft x.2.2.1 x.2.2.2.1).2.1 (ab_ft x.2.2.1 x.2.2.2.1).2.2.1
theorem ab_fllW : ∀ x ∈ ab_fll, ab_fw x ∈ lw_tbl := ab_zipW _ _ [210, 212, 213, 214, 215, 211, 168, 122, 47, 36, 39, 41, 32, 34, 37, 40, 42, 44, 48, 50, 46, 49, 51, 91, 94, 97, 100, 103, 106, 108, 111, 114, 117, 120, 124, 126, 129, 132, 181, 92, 125, 182, 127, 121, 98, 183, 96, 102, 105, 131, 134, 119, 107, 113, 110, 116, 167, 133, 130, 123, 199, 200, 197, 198, 169, 128, 99, 35, 95, 38, 101, 104, 33, 43, 93, 45, 118, 112, 109, 115, 678, 680, 682, 683, 684, 685, 686, 687, 688, 689, 690, 691, 696, 697, 698, 699, 700, 701, 702, 704, 705, 706, 707, 708, 709, 710, 711, 712, 713, 677, 679, 681, 692, 694, 693, 695, 703] (by decide +kernel) (by decide +kernel)
theorem ab_fllC : ab_fll.all (fun x => Nat.blt x.2.2.1 7 && (Nat.blt x.2.2.2.1 (ab_nf x.2.2.1) && Nat.beq (ab_knd x.2.2.1 x.2.2.2.1) x.2.2.2.2)) = true := by decide +kernel
theorem ab_fll_ok {o i : Nat} (f : Nat × Nat × Nat) (h : (o, i, f) ∈ ab_fll) : f.1 < 7 ∧ f.2.1 < ab_nf f.1 ∧ ab_knd f.1 f.2.1 = f.2.2 ∧ Jvm.Cond.fieldLink (ab_cn o) i (ab_cn f.1) (ab_ft f.1 f.2.1).2.1 (ab_ft f.1 f.2.1).2.2.1 ∈ lw_tbl := by
  have h1 := List.all_eq_true.mp ab_fllC _ h
  simp only [Bool.and_eq_true] at h1
  exact ⟨ab_blt h1.1, ab_blt h1.2.1, Nat.eq_of_beq_eq_true h1.2.2, ab_fllW _ h⟩
theorem ab_cl_at {c : Nat} (h : c < 7) : ab_cl[c]? = some (ab_cn c, ab_ft c, ab_nf c) := by simp [ab_cl, h]
def ab_cfl : List (Nat × Nat) := [(0, 0), (0, 1), (0, 2), (0, 3), (0, 4), (0, 5), (1, 0), (1, 1), (1, 2), (1, 3), (1, 4), (1, 5), (1, 6), (1, 7), (1, 8), (1, 9), (1, 10), (2, 0), (2, 1), (2, 2), (2, 3), (2, 4), (2, 5), (2, 6), (2, 7), (2, 8), (2, 9), (2, 10), (2, 11), (2, 12), (2, 13), (2, 14), (3, 0), (3, 1), (3, 2), (4, 0), (5, 0), (5, 1), (5, 2), (5, 3), (6, 0), (6, 1), (6, 2), (6, 3), (6, 4), (6, 5), (6, 6), (6, 7), (6, 8), (6, 9), (6, 10), (6, 11), (6, 12), (6, 13), (6, 14), (6, 15), (6, 16), (6, 17), (6, 18), (6, 19), (6, 20), (6, 21), (6, 22), (6, 23), (6, 24), (6, 25), (6, 26), (6, 27), (6, 28), (6, 29), (6, 30), (6, 31), (6, 32), (6, 33), (6, 34), (6, 35), (6, 36)]
def ab_lw (x : Nat × Nat) : Jvm.Cond := u_lay (ab_cn x.1) (ab_ft x.1) x.2
theorem ab_cflW : ∀ x ∈ ab_cfl, ab_lw x ∈ lw_tbl := ab_zipW _ _ [216, 218, 220, 222, 224, 226, 52, 54, 56, 58, 60, 62, 64, 66, 68, 70, 72, 135, 137, 139, 141, 143, 145, 147, 149, 151, 153, 155, 157, 159, 161, 163, 184, 186, 188, 170, 201, 203, 205, 207, 714, 716, 718, 720, 722, 724, 726, 728, 730, 732, 734, 736, 738, 740, 742, 744, 746, 748, 750, 752, 754, 756, 758, 760, 762, 764, 766, 768, 770, 772, 774, 776, 778, 780, 782, 784, 786] (by decide +kernel) (by decide +kernel)
theorem ab_cflC : ∀ c, c < 7 → ∀ f, f < ab_nf c → (c, f) ∈ ab_cfl := by decide +kernel
theorem ab_uws {c : Nat} (h : c < 7) : ∀ w ∈ u_ws (ab_cn c) (ab_ft c) (ab_nf c), w ∈ lw_tbl := by
  intro w hw
  obtain ⟨f, hf, rfl⟩ := List.mem_map.mp hw
  exact ab_cflW (c, f) (ab_cflC c h f (List.mem_range.mp hf))
theorem ab_tyF0 : ∀ c, c < 7 → ∀ k, k < ab_nf c → parseFieldDescriptor (ab_ft c k).2.2.1 = some (ab_fty c k) := by decide +kernel
theorem ab_tyF {c : Nat} (h : c < 7) : ∀ k, k < ab_nf c → parseFieldDescriptor (ab_ft c k).2.2.1 = some (ab_fty c k) := ab_tyF0 c h
theorem ab_nmF0 : ∀ c, c < 7 → ∀ a, a < ab_nf c → ∀ b, b < ab_nf c → a ≠ b → (ab_ft c a).2.1 ≠ (ab_ft c b).2.1 := by decide +kernel
theorem ab_nmF {c : Nat} (h : c < 7) : ∀ a, a < ab_nf c → ∀ b, b < ab_nf c → a ≠ b → (ab_ft c a).2.1 ≠ (ab_ft c b).2.1 := ab_nmF0 c h
theorem ab_ft_cn0 : ∀ c, c < 7 → ∀ f, f < ab_nf c → (ab_ft c f).1 = ab_cn c := by decide +kernel
theorem ab_ft_cn {c f : Nat} (h : c < 7) (hf : f < ab_nf c) : (ab_ft c f).1 = ab_cn c := ab_ft_cn0 c h f hf
theorem ab_T0 {r : Nat} (h : 148 ≤ r) : ab_T r = 0 := by
  unfold ab_T ab_br ab_le0
  simp only [Nat.blt]
  have hb : ∀ n, n ≤ 148 → Nat.ble (r + 1) n = false := fun n hn => by
    cases hq : Nat.ble (r + 1) n with
    | false => rfl
    | true => have := Nat.le_of_ble_eq_true hq; omega
  have he : ∀ n, n < 148 → Nat.beq r n = false := fun n hn => by
    cases hq : Nat.beq r n with
    | false => rfl
    | true => have := Nat.eq_of_beq_eq_true hq; omega
  simp [hb, he]
theorem ab_knd_lt (c f : Nat) : ab_knd c f < 4 := by
  have hb : ∀ (i n : Nat) (a b : Nat), a < 4 → b < 4 → ab_br i n a b < 4 := fun i n a b ha hb => by unfold ab_br; cases Nat.blt i n <;> assumption
  have hl : ∀ (i n : Nat) (a b : Nat), a < 4 → b < 4 → ab_le0 i n a b < 4 := fun i n a b ha hb => by unfold ab_le0; cases Nat.beq i n <;> assumption
  unfold ab_knd
  repeat (first | decide | apply hb | apply hl)
theorem ab_obj0 : ∀ r, r < 3 → ab_T r < 10 := by decide +kernel
theorem ab_obj {r c : Nat} (h : ab_T r = 10 + c) : 2 < r := by
  by_cases hr : r < 3
  · have := ab_obj0 r hr
    omega
  · omega
theorem ab_finB : ((List.range 148).all fun r => (List.range 7).all fun c => (List.range (ab_nf c)).all fun f => !(Nat.beq (ab_T r) (10 + c) && Nat.beq (ab_knd c f) 3) || ab_finl.contains (r, f, ab_fin c f r)) = true := by decide +kernel
theorem ab_finC {r c f : Nat} (hr : r < 148) (hc : c < 7) (hf : f < ab_nf c) (hT : ab_T r = 10 + c) (hk : ab_knd c f = 3) : (r, f, ab_fin c f r) ∈ ab_finl := by
  have h := List.all_eq_true.mp (List.all_eq_true.mp (List.all_eq_true.mp ab_finB r (List.mem_range.mpr hr)) c (List.mem_range.mpr hc)) f (List.mem_range.mpr hf)
  rw [hT, hk] at h
  simpa using h
theorem ab_fin_ok {r c f o i : Nat} {S : ab_S} (hT : ab_T r = 10 + c) (h0 : 0 < r) (hi : ab_inv S = true) (hres : (o, i, c, f, 3) ∈ ab_fll) : ab_fin c f r = S.2.2.1 r f := by
  obtain ⟨h1, h2, h3, -⟩ := ab_fll_ok (c, f, 3) hres
  have hr : r < 148 := by
    by_cases h : r < 148
    · exact h
    · have := ab_T0 (r := r) (by omega)
      omega
  have hm := ab_finC hr h1 h2 hT h3
  simp only [ab_inv, Bool.and_eq_true, List.all_eq_true] at hi
  exact (Nat.eq_of_beq_eq_true (hi.2 _ hm)).symm
theorem ab_finD : ab_finl.all (fun x => Nat.ble 10 (ab_T x.1) && Nat.beq (ab_knd (ab_T x.1 - 10) x.2.1) 3) = true := by decide +kernel
theorem ab_fin_no {x : Nat × Nat × Nat} {c f : Nat} (h : x ∈ ab_finl) (hT : ab_T x.1 = 10 + c) (hf : x.2.1 = f) : ¬ ab_knd c f = 2 := by
  have h1 := List.all_eq_true.mp ab_finD _ h
  simp only [Bool.and_eq_true] at h1
  have := Nat.eq_of_beq_eq_true h1.2
  rw [hT, Nat.add_sub_cancel_left, hf] at this
  omega
theorem ab_fin_ob {x : Nat × Nat × Nat} (h : x ∈ ab_finl) : ¬ ab_T x.1 = 5 := by
  have h1 := List.all_eq_true.mp ab_finD _ h
  simp only [Bool.and_eq_true] at h1
  have := Nat.le_of_ble_eq_true h1.1
  omega
theorem ab_kind0C : ∀ c, c < 7 → ∀ f, f < ab_nf c → ab_knd c f = 0 → ab_fty c f = .int ∧ (ab_ft c f).2.2.2 = false := by decide +kernel
theorem ab_kind0 {c f : Nat} (h : c < 7) (hf : f < ab_nf c) (hk : ab_knd c f = 0) : ab_fty c f = .int ∧ (ab_ft c f).2.2.2 = false := ab_kind0C c h f hf hk
theorem ab_kind1C : ∀ c, c < 7 → ∀ f, f < ab_nf c → ab_knd c f = 1 → ab_fty c f = .boolean ∧ (ab_ft c f).2.2.2 = false := by decide +kernel
theorem ab_kind1 {c f : Nat} (h : c < 7) (hf : f < ab_nf c) (hk : ab_knd c f = 1) : ab_fty c f = .boolean ∧ (ab_ft c f).2.2.2 = false := ab_kind1C c h f hf hk
theorem ab_kind2C : ∀ c, c < 7 → ∀ f, f < ab_nf c → ab_knd c f = 2 → ab_fty c f = .object "ShapedItems$Shape" ∧ (ab_ft c f).2.2.2 = false := by decide +kernel
theorem ab_kind2 {c f : Nat} (h : c < 7) (hf : f < ab_nf c) (hk : ab_knd c f = 2) : (∃ C, ab_fty c f = .object C) ∧ (ab_ft c f).2.2.2 = false := ⟨⟨_, (ab_kind2C c h f hf hk).1⟩, (ab_kind2C c h f hf hk).2⟩
def ab_isr (t : FieldType) : Bool := match t with | .object _ => true | .array _ => true | _ => false
theorem ab_kind3C : ∀ c, c < 7 → ∀ f, f < ab_nf c → ab_knd c f = 3 → ab_isr (ab_fty c f) = true := by decide +kernel
theorem ab_kind3 {c f : Nat} (h : c < 7) (hf : f < ab_nf c) (hk : ab_knd c f = 3) : ab_isr (ab_fty c f) = true := ab_kind3C c h f hf hk
theorem ab_nrw {t : FieldType} {ad : Nat → Nat} (h : ab_isr t = true) (x : Nat) : narrow t (ab_cv ad (.inr (.inr x))) = ab_cv ad (.inr (.inr x)) := by
  cases t <;> first | (cases h; done) | (cases x <;> rfl)
theorem ab_fit {t : FieldType} {ad : Nat → Nat} (h : ab_isr t = true) (x : Nat) : fits t (ab_cv ad (.inr (.inr x))) = true := by
  cases t <;> first | (cases h; done) | (cases x <;> rfl)
theorem ab_dflC : ∀ c, c < 7 → ∀ f, f < ab_nf c → (Nat.blt (ab_knd c f) 2 = true ∧ defaultValue (ab_fty c f) = .int 0) ∨ (Nat.blt (ab_knd c f) 2 = false ∧ defaultValue (ab_fty c f) = .null) := by decide +kernel
theorem ab_dfl {c f : Nat} {ad : Nat → Nat} (h : c < 7) (hf : f < ab_nf c) : defaultValue (ab_fty c f) = (bif Nat.blt (ab_knd c f) 2 then .int 0 else ab_cv ad (.inr (.inr 0))) := by
  rcases ab_dflC c h f hf with ⟨a, b⟩ | ⟨a, b⟩ <;> rw [a, b] <;> rfl
def ab_cl0 : List (Nat × Nat × Nat × Nat × Nat) := ab_cll.filter fun x => Nat.beq x.2.2.1 0
def ab_w1 (x : Nat × Nat × Nat × Nat × Nat) : Jvm.Cond := .classLink (ab_cn x.1) x.2.1 (ab_cn x.2.2.2.1)
theorem ab_w1W : ∀ x ∈ ab_cl0, ab_w1 x ∈ lw_tbl := ab_zipW _ _ [26, 78, 173, 191, 179, 84, 18, 671] (by decide +kernel) (by decide +kernel)
def ab_w2 (x : Nat × Nat × Nat × Nat × Nat) : Jvm.Cond := .instantiable (ab_cn x.2.2.2.1) x.2.2.2.2
theorem ab_w2W : ∀ x ∈ ab_cl0, ab_w2 x ∈ lw_tbl := ab_zipW _ _ [27, 79, 174, 192, 86, 86, 19, 672] (by decide +kernel) (by decide +kernel)
def ab_w3 (x : Nat × Nat × Nat × Nat × Nat) : Jvm.Cond := .initialized (ab_cn x.2.2.2.1)
theorem ab_w3W : ∀ x ∈ ab_cl0, ab_w3 x ∈ lw_tbl := ab_zipW _ _ [2, 3, 5, 6, 4, 4, 1, 7] (by decide +kernel) (by decide +kernel)
theorem ab_cl0C : ab_cl0.all (fun x => Nat.blt x.2.2.2.1 7) = true := by decide +kernel
theorem ab_cll_ok {o i : Nat} (f : Nat × Nat × Nat) (h : (o, i, f) ∈ ab_cll) (h0 : f.1 = 0) : f.2.1 < 7 ∧ Jvm.Cond.classLink (ab_cn o) i (ab_cn f.2.1) ∈ lw_tbl ∧ Jvm.Cond.instantiable (ab_cn f.2.1) f.2.2 ∈ lw_tbl ∧ Jvm.Cond.initialized (ab_cn f.2.1) ∈ lw_tbl := by
  have hm : (o, i, f) ∈ ab_cl0 := List.mem_filter.mpr ⟨h, by simp [h0]⟩
  exact ⟨ab_blt (List.all_eq_true.mp ab_cl0C _ hm), ab_w1W _ hm, ab_w2W _ hm, ab_w3W _ hm⟩
theorem ab_cll_ar {o i : Nat} (f : Nat × Nat × Nat) (h : (o, i, f) ∈ ab_cll) (h2 : f.1 = 0 ∧ f.2.1 = 2) : Jvm.Cond.classLink (ab_cn o) i "ShapedItems$Shape" ∈ lw_tbl ∧ Jvm.Cond.arrayOver (.object "ShapedItems$Shape") ∈ lw_tbl := by
  have hm := (ab_cll_ok f h h2.1).2.1
  rw [h2.2] at hm
  exact ⟨hm, List.mem_append_right _ (List.mem_of_getElem? (i := 85) (by decide +kernel))⟩
theorem ab_atc_ok (t : ArrayType) (h : ab_atc t = 1 ∨ ab_atc t = 2 ∨ ab_atc t = 3 ∨ ab_atc t = 4) : Jvm.Cond.arrayClass (newarray.typeOf t) ∈ lw_tbl ∧ newarray.typeOf t = ab_aty (ab_atc t) ∧ componentBytes (newarray.typeOf t) ≤ 8 ∧ defaultValue (newarray.typeOf t) = (match ab_atc t with | 2 => .long 0 | 5 => ab_cv id (.inr (.inr 0)) | _ => .int 0) := by
  cases t with
  | int => exact ⟨List.mem_append_right _ (List.mem_of_getElem? (i := 76) (by decide +kernel)), rfl, by decide, rfl⟩
  | long => exact ⟨List.mem_append_right _ (List.mem_of_getElem? (i := 77) (by decide +kernel)), rfl, by decide, rfl⟩
  | char => exact ⟨List.mem_append_right _ (List.mem_of_getElem? (i := 75) (by decide +kernel)), rfl, by decide, rfl⟩
  | boolean => exact ⟨List.mem_append_right _ (List.mem_of_getElem? (i := 166) (by decide +kernel)), rfl, by decide, rfl⟩
  | _ => exact absurd h (by decide)
theorem ab_atC : ∀ r, r < 148 → 3 ≤ r → ab_T r < 10 → ab_T r = 5 ∨ (ab_T r = 1 ∨ ab_T r = 2 ∨ ab_T r = 3 ∨ ab_T r = 4) := by decide +kernel
theorem ab_atF {r : Nat} {t : ArrayType} (h3 : 3 ≤ r) (h : r < ab_C) (hT : ab_T r = ab_atc t) : ab_atc t = 1 ∨ ab_atc t = 2 ∨ ab_atc t = 3 ∨ ab_atc t = 4 := by
  have hl : ab_atc t < 5 := by cases t <;> decide
  rcases ab_atC r h h3 (by omega) with q | q
  · omega
  · rw [← hT]; exact q
theorem ab_NC : ∀ r, r < 148 → ab_N0 r ≤ 20000 := by decide +kernel
theorem ab_NF (q : Nat) {r : Nat} (h3 : 3 ≤ r) (h : r < ab_C) : ab_N q r ≤ 20000 := by
  have e : Nat.beq r 1 = false := by
    cases hq : Nat.beq r 1 with
    | false => rfl
    | true => have := Nat.eq_of_beq_eq_true hq; omega
  unfold ab_N
  rw [e]
  exact ab_NC r h
def ab_csk : List (Nat × Nat) := [(1, 60), (1, 66), (1, 76), (1, 81), (5, 75), (5, 134), (6, 109), (6, 198), (6, 204), (6, 215), (6, 225), (7, 71)]
def ab_csw (x : Nat × Nat) : Jvm.Cond := .constantLong (ab_cn x.1) x.2 ((ab_cst x.1 x.2).getD 0)
theorem ab_cskW : ∀ x ∈ ab_csk, ab_csw x ∈ lw_tbl := ab_zipW _ _ [479, 480, 495, 494, 624, 663, 801, 907, 912, 950, 945, 979] (by decide +kernel) (by decide +kernel)
def ab_cik : List (Nat × Nat) := [(8, 265), (8, 266), (8, 267)]
def ab_ciw (x : Nat × Nat) : Jvm.Cond := .constant (ab_cn x.1) x.2 ((ab_csi x.1 x.2).getD 0)
theorem ab_cikW : ∀ x ∈ ab_cik, ab_ciw x ∈ lw_tbl := ab_zipW _ _ [591, 592, 593] (by decide +kernel) (by decide +kernel)
theorem ab_stl_ok {o i : Nat} (h : (o, i) ∈ ab_stl) : Jvm.Cond.fieldLink (ab_cn o) i "ShapedItems$Matcher" "WITHOUT" "[J" ∈ lw_tbl := by
  have : (o, i) = (5, 131) := by simpa [ab_stl] using h
  cases this
  exact List.mem_append_right _ (List.mem_of_getElem? (i := 661) (by decide +kernel))
def ab_noh : List Nat := [0, 1, 2, 3, 4, 5, 6, 7, 8, 9, 10, 11, 12, 13, 14, 15, 16, 17, 18, 19, 20, 21, 22, 23, 24, 25, 26, 27, 28, 29, 30, 31, 32, 33, 34, 35, 36, 37, 38, 39, 40, 41, 42, 43, 44, 45, 46, 47, 48, 49, 50, 51, 52, 53, 54, 55, 56, 57, 58, 59, 60, 61, 62, 63, 64, 65, 66, 67, 68, 69, 70, 71, 72, 73, 74, 75, 76, 77, 78, 79, 80, 81, 82, 83, 84, 85, 86, 87, 88, 89, 90, 91, 92, 93, 94, 95, 96, 97, 98, 99, 100, 101, 102, 103, 104, 105, 106, 107, 108, 109, 110, 111, 112, 113, 114, 115, 116, 117, 118, 119, 120, 131, 132]
def ab_yeh : List Nat := [121, 122, 123, 124, 125, 126, 127, 128, 129, 130]
def ab_cw (j : Nat) : Jvm.Cond := .code (ab_nm j) (ab_by j) (ab_mxl j) (ab_rty j)
def ab_cx (j : Nat) : Jvm.Cond := .codeWith (ab_nm j) (ab_by j) (ab_mxl j) (ab_rty j) (ab_ht j)
theorem ab_tw {w : Jvm.Cond} (p : Nat) (h : tables_1[p]? = some w) : w ∈ lw_tbl := List.mem_append_right _ (List.mem_of_getElem? h)
theorem ab_fc {α : Type} {P : α → Prop} {a : α} {l : List α} (h1 : P a) (h2 : ∀ x ∈ l, P x) : ∀ x ∈ a :: l, P x := List.forall_mem_cons.mpr ⟨h1, h2⟩
set_option maxRecDepth 100000 in
theorem ab_nohW : ∀ x ∈ ab_noh, ab_cw x ∈ lw_tbl := by
  refine ab_fc (ab_tw 22 rfl) ?_
  refine ab_fc (ab_tw 255 rfl) ?_
  refine ab_fc (ab_tw 339 rfl) ?_
  refine ab_fc (ab_tw 454 rfl) ?_
  refine ab_fc (ab_tw 232 rfl) ?_
  refine ab_fc (ab_tw 243 rfl) ?_
  refine ab_fc (ab_tw 462 rfl) ?_
  refine ab_fc (ab_tw 503 rfl) ?_
  refine ab_fc (ab_tw 515 rfl) ?_
  refine ab_fc (ab_tw 522 rfl) ?_
  refine ab_fc (ab_tw 531 rfl) ?_
  refine ab_fc (ab_tw 600 rfl) ?_
  refine ab_fc (ab_tw 670 rfl) ?_
  refine ab_fc (ab_tw 239 rfl) ?_
  refine ab_fc (ab_tw 262 rfl) ?_
  refine ab_fc (ab_tw 258 rfl) ?_
  refine ab_fc (ab_tw 342 rfl) ?_
  refine ab_fc (ab_tw 466 rfl) ?_
  refine ab_fc (ab_tw 507 rfl) ?_
  refine ab_fc (ab_tw 535 rfl) ?_
  refine ab_fc (ab_tw 30 rfl) ?_
  refine ab_fc (ab_tw 236 rfl) ?_
  refine ab_fc (ab_tw 247 rfl) ?_
  refine ab_fc (ab_tw 470 rfl) ?_
  refine ab_fc (ab_tw 474 rfl) ?_
  refine ab_fc (ab_tw 478 rfl) ?_
  refine ab_fc (ab_tw 484 rfl) ?_
  refine ab_fc (ab_tw 488 rfl) ?_
  refine ab_fc (ab_tw 493 rfl) ?_
  refine ab_fc (ab_tw 623 rfl) ?_
  refine ab_fc (ab_tw 632 rfl) ?_
  refine ab_fc (ab_tw 89 rfl) ?_
  refine ab_fc (ab_tw 366 rfl) ?_
  refine ab_fc (ab_tw 652 rfl) ?_
  refine ab_fc (ab_tw 648 rfl) ?_
  refine ab_fc (ab_tw 177 rfl) ?_
  refine ab_fc (ab_tw 362 rfl) ?_
  refine ab_fc (ab_tw 447 rfl) ?_
  refine ab_fc (ab_tw 443 rfl) ?_
  refine ab_fc (ab_tw 392 rfl) ?_
  refine ab_fc (ab_tw 381 rfl) ?_
  refine ab_fc (ab_tw 389 rfl) ?_
  refine ab_fc (ab_tw 419 rfl) ?_
  refine ab_fc (ab_tw 373 rfl) ?_
  refine ab_fc (ab_tw 377 rfl) ?_
  refine ab_fc (ab_tw 385 rfl) ?_
  refine ab_fc (ab_tw 415 rfl) ?_
  refine ab_fc (ab_tw 423 rfl) ?_
  refine ab_fc (ab_tw 427 rfl) ?_
  refine ab_fc (ab_tw 431 rfl) ?_
  refine ab_fc (ab_tw 435 rfl) ?_
  refine ab_fc (ab_tw 439 rfl) ?_
  refine ab_fc (ab_tw 399 rfl) ?_
  refine ab_fc (ab_tw 403 rfl) ?_
  refine ab_fc (ab_tw 407 rfl) ?_
  refine ab_fc (ab_tw 411 rfl) ?_
  refine ab_fc (ab_tw 82 rfl) ?_
  refine ab_fc (ab_tw 539 rfl) ?_
  refine ab_fc (ab_tw 543 rfl) ?_
  refine ab_fc (ab_tw 550 rfl) ?_
  refine ab_fc (ab_tw 570 rfl) ?_
  refine ab_fc (ab_tw 546 rfl) ?_
  refine ab_fc (ab_tw 195 rfl) ?_
  refine ab_fc (ab_tw 604 rfl) ?_
  refine ab_fc (ab_tw 611 rfl) ?_
  refine ab_fc (ab_tw 615 rfl) ?_
  refine ab_fc (ab_tw 619 rfl) ?_
  refine ab_fc (ab_tw 628 rfl) ?_
  refine ab_fc (ab_tw 636 rfl) ?_
  refine ab_fc (ab_tw 640 rfl) ?_
  refine ab_fc (ab_tw 644 rfl) ?_
  refine ab_fc (ab_tw 656 rfl) ?_
  refine ab_fc (ab_tw 660 rfl) ?_
  refine ab_fc (ab_tw 675 rfl) ?_
  refine ab_fc (ab_tw 792 rfl) ?_
  refine ab_fc (ab_tw 796 rfl) ?_
  refine ab_fc (ab_tw 800 rfl) ?_
  refine ab_fc (ab_tw 805 rfl) ?_
  refine ab_fc (ab_tw 829 rfl) ?_
  refine ab_fc (ab_tw 847 rfl) ?_
  refine ab_fc (ab_tw 835 rfl) ?_
  refine ab_fc (ab_tw 821 rfl) ?_
  refine ab_fc (ab_tw 871 rfl) ?_
  refine ab_fc (ab_tw 817 rfl) ?_
  refine ab_fc (ab_tw 875 rfl) ?_
  refine ab_fc (ab_tw 863 rfl) ?_
  refine ab_fc (ab_tw 859 rfl) ?_
  refine ab_fc (ab_tw 843 rfl) ?_
  refine ab_fc (ab_tw 839 rfl) ?_
  refine ab_fc (ab_tw 851 rfl) ?_
  refine ab_fc (ab_tw 855 rfl) ?_
  refine ab_fc (ab_tw 832 rfl) ?_
  refine ab_fc (ab_tw 825 rfl) ?_
  refine ab_fc (ab_tw 867 rfl) ?_
  refine ab_fc (ab_tw 879 rfl) ?_
  refine ab_fc (ab_tw 813 rfl) ?_
  refine ab_fc (ab_tw 809 rfl) ?_
  refine ab_fc (ab_tw 883 rfl) ?_
  refine ab_fc (ab_tw 895 rfl) ?_
  refine ab_fc (ab_tw 891 rfl) ?_
  refine ab_fc (ab_tw 887 rfl) ?_
  refine ab_fc (ab_tw 906 rfl) ?_
  refine ab_fc (ab_tw 903 rfl) ?_
  refine ab_fc (ab_tw 911 rfl) ?_
  refine ab_fc (ab_tw 916 rfl) ?_
  refine ab_fc (ab_tw 899 rfl) ?_
  refine ab_fc (ab_tw 924 rfl) ?_
  refine ab_fc (ab_tw 920 rfl) ?_
  refine ab_fc (ab_tw 928 rfl) ?_
  refine ab_fc (ab_tw 932 rfl) ?_
  refine ab_fc (ab_tw 962 rfl) ?_
  refine ab_fc (ab_tw 954 rfl) ?_
  refine ab_fc (ab_tw 949 rfl) ?_
  refine ab_fc (ab_tw 958 rfl) ?_
  refine ab_fc (ab_tw 970 rfl) ?_
  refine ab_fc (ab_tw 966 rfl) ?_
  refine ab_fc (ab_tw 974 rfl) ?_
  refine ab_fc (ab_tw 944 rfl) ?_
  refine ab_fc (ab_tw 940 rfl) ?_
  refine ab_fc (ab_tw 936 rfl) ?_
  refine ab_fc (ab_tw 978 rfl) ?_
  refine ab_fc (ab_tw 590 rfl) ?_
  refine ab_fc (ab_tw 607 rfl) ?_
  exact fun x hx => by cases hx
set_option maxRecDepth 100000 in
theorem ab_yehW : ∀ x ∈ ab_yeh, ab_cx x ∈ lw_tbl := by
  refine ab_fc (ab_tw 250 rfl) ?_
  refine ab_fc (ab_tw 334 rfl) ?_
  refine ab_fc (ab_tw 450 rfl) ?_
  refine ab_fc (ab_tw 458 rfl) ?_
  refine ab_fc (ab_tw 499 rfl) ?_
  refine ab_fc (ab_tw 511 rfl) ?_
  refine ab_fc (ab_tw 518 rfl) ?_
  refine ab_fc (ab_tw 525 rfl) ?_
  refine ab_fc (ab_tw 596 rfl) ?_
  refine ab_fc (ab_tw 666 rfl) ?_
  exact fun x hx => by cases hx
theorem ab_nohC : ∀ j, j < ab_M → (ab_ht j = [] ∧ j ∈ ab_noh) ∨ j ∈ ab_yeh := by decide +kernel
theorem ab_code_ok {j : Nat} (hj : j < ab_M) : (ab_ht j = [] ∧ Jvm.Cond.code (ab_nm j) (ab_by j) (ab_mxl j) (ab_rty j) ∈ lw_tbl) ∨ Jvm.Cond.codeWith (ab_nm j) (ab_by j) (ab_mxl j) (ab_rty j) (ab_ht j) ∈ lw_tbl := by
  rcases ab_nohC j hj with ⟨a, b⟩ | b
  · exact Or.inl ⟨a, ab_nohW j b⟩
  · exact Or.inr (ab_yehW j b)
theorem ab_cnF0 : ∀ j, j < ab_M + 1 → ab_cn (ab_own j) = (ab_nm j).cls := by decide +kernel
theorem ab_cnF {j : Nat} (h : j < ab_M) : ab_cn (ab_own j) = (ab_nm j).cls := ab_cnF0 j (by omega)
theorem ab_plF0 : ∀ c, c < 10 → plainName (ab_cn c) = true ∧ (ab_cn c ≠ "java/lang/invoke/MethodHandle" ∧ ab_cn c ≠ "java/lang/invoke/VarHandle") := by decide +kernel
theorem ab_owF : ∀ j, j < ab_M → ab_own j < 10 := by decide +kernel
theorem ab_plF {j : Nat} (h : j < ab_M) : plainName (ab_nm j).cls = true := by rw [← ab_cnF h]; exact (ab_plF0 _ (ab_owF j h)).1
theorem ab_nmh {j : Nat} (h : j < ab_M) : (ab_nm j).cls ≠ "java/lang/invoke/MethodHandle" ∧ (ab_nm j).cls ≠ "java/lang/invoke/VarHandle" := by rw [← ab_cnF h]; exact (ab_plF0 _ (ab_owF j h)).2
theorem ab_mxF0 : ∀ j, j < ab_M → ab_mxl j ≤ 20 := by decide +kernel
theorem ab_mxF {j : Nat} (h : j < ab_M) : ab_mxl j ≤ 20 := ab_mxF0 j h
def ab_nsl : List (Nat × Nat) := [(0, 15), (0, 29), (1, 35), (1, 78), (3, 11), (4, 17)]
def ab_lk (x : Nat × Nat × Nat × Nat × Nat) : Jvm.Cond := bif ab_nsl.contains (x.1, x.2.1) then .methodLinkNest (ab_cn x.1) x.2.1 (ab_nm x.2.2.2.1) "ShapedItems" else .methodLink (ab_cn x.1) x.2.1 (ab_nm x.2.2.2.1)
def ab_mt0 : List (Nat × Nat × Nat × Nat × Nat) := ab_mtl.filter fun x => Nat.beq x.2.2.1 0
theorem ab_lk0 : ∀ x ∈ ab_mt0, ab_lk x ∈ lw_tbl := ab_zipW _ _ [359, 444, 455, 233, 244, 463, 504, 532, 601, 467, 536, 547, 567, 471, 475, 481, 485, 490, 363, 370, 440, 378, 374, 386, 382, 396, 412, 420, 416, 424, 432, 436, 428, 400, 404, 408, 540, 571, 608, 612, 616, 620, 625, 633, 637, 653, 629, 641, 649, 645, 657, 826, 818, 814, 844, 840, 856, 836, 848, 852, 860, 868, 872, 822, 864, 876, 810, 892, 888, 908, 913, 900, 921, 959, 967, 946, 951, 955, 963, 971, 941, 937, 252, 336, 451, 459, 500, 512, 519, 528, 597, 667, 793, 789, 806, 880, 229, 797, 240, 802, 896, 917, 925, 929, 884, 933, 975] (by decide +kernel) (by decide +kernel)
def ab_js0 : List Nat := [1, 2, 3, 4, 5, 6, 7, 8, 9, 10, 11, 12, 17, 18, 19, 21, 22, 23, 24, 25, 26, 27, 28, 29, 30, 32, 33, 34, 36, 37, 38, 40, 41, 42, 43, 44, 45, 46, 47, 48, 49, 50, 51, 52, 53, 54, 55, 57, 58, 59, 60, 63, 64, 65, 66, 67, 68, 69, 70, 71, 72, 74, 75, 76, 77, 78, 79, 81, 82, 83, 84, 85, 86, 87, 88, 89, 90, 92, 93, 94, 95, 96, 97, 98, 99, 100, 102, 103, 104, 105, 106, 107, 108, 109, 110, 111, 112, 113, 114, 115, 116, 117, 118, 119, 120]
theorem ab_mt0C : ab_mt0.all (fun x => Nat.blt x.2.2.2.1 ab_M && (ab_js0.contains x.2.2.2.1 && (match parseMethodDescriptor (ab_nm x.2.2.2.1).desc with | some g => Nat.beq x.2.2.2.2 (g.parameters.length + 1) | none => false))) = true := by decide +kernel
def ab_iw0 (j : Nat) : Jvm.Cond := .instanceMethod (ab_nm j)
theorem ab_iw0W : ∀ x ∈ ab_js0, ab_iw0 x ∈ lw_tbl := ab_zipW _ _ [253, 337, 452, 230, 241, 460, 501, 513, 520, 529, 598, 668, 465, 506, 534, 234, 245, 468, 473, 477, 483, 487, 492, 621, 630, 364, 650, 646, 360, 445, 442, 380, 388, 418, 372, 376, 384, 414, 422, 426, 430, 434, 438, 398, 402, 406, 410, 537, 542, 548, 568, 602, 610, 614, 618, 627, 635, 639, 643, 655, 659, 790, 794, 798, 803, 828, 846, 820, 870, 816, 874, 862, 858, 842, 838, 850, 854, 824, 866, 878, 812, 807, 881, 894, 890, 885, 902, 910, 915, 897, 923, 918, 926, 930, 961, 953, 948, 957, 969, 965, 973, 943, 939, 934, 976] (by decide +kernel) (by decide +kernel)
def ab_pub : List Nat := [1, 2, 3, 4, 5, 6, 7, 8, 9, 10, 11, 12, 21, 22, 23, 29, 30, 32, 33, 34, 36, 37, 57, 59, 60, 63, 74, 75, 76, 77, 96, 97, 100, 105, 107, 108, 109, 119, 120]
def ab_prv : List Nat := [17, 18, 19, 24, 25, 26, 27, 28, 38, 40, 41, 42, 43, 44, 45, 46, 47, 48, 49, 50, 51, 52, 53, 54, 55, 58, 64, 65, 66, 67, 68, 69, 70, 71, 72, 78, 79, 81, 82, 83, 84, 85, 86, 87, 88, 89, 90, 92, 93, 94, 95, 98, 99, 102, 103, 104, 106, 110, 111, 112, 113, 114, 115, 116, 117, 118]
def ab_vw (j : Nat) : Jvm.Cond := .selects (ab_nm j).cls (ab_nm j) (ab_nm j)
theorem ab_pubW : ∀ x ∈ ab_pub, ab_vw x ∈ lw_tbl := ab_zipW _ _ [254, 338, 453, 231, 242, 461, 502, 514, 521, 530, 599, 669, 235, 246, 469, 622, 631, 365, 651, 647, 361, 446, 538, 549, 569, 603, 791, 795, 799, 804, 808, 882, 886, 898, 919, 927, 931, 935, 977] (by decide +kernel) (by decide +kernel)
theorem ab_prvC : (ab_prv.zip [18, 24, 25, 19, 20, 21, 22, 23, 17, 3, 5, 11, 1, 2, 4, 10, 12, 13, 14, 15, 16, 6, 7, 8, 9, 26, 27, 28, 29, 30, 31, 32, 33, 34, 35, 40, 43, 38, 49, 37, 50, 47, 46, 42, 41, 44, 45, 39, 48, 51, 36, 53, 52, 54, 55, 56, 57, 63, 61, 60, 62, 65, 64, 66, 59, 58]).all (fun y => decide ((k2_sels lw_privs)[y.2]? = some (ab_vw y.1))) = true := by decide +kernel
theorem ab_prvW : ∀ j ∈ ab_prv, ab_vw j ∈ lw_tbl := by
  have key : ∀ (l ps : List Nat), l.length = ps.length → (l.zip ps).all (fun y => decide ((k2_sels lw_privs)[y.2]? = some (ab_vw y.1))) = true → ∀ x ∈ l, ab_vw x ∈ lw_tbl := by
    intro l
    induction l with
    | nil => intro _ _ _ x hx; cases hx
    | cons a l ih =>
      intro ps h hc x hx
      cases ps with
      | nil => cases h
      | cons p ps =>
        simp only [List.zip_cons_cons, List.all_cons, Bool.and_eq_true, decide_eq_true_eq] at hc
        rcases List.mem_cons.mp hx with rfl | hx
        · exact List.mem_append_left _ (List.mem_of_getElem? hc.1)
        · exact ih ps (by simpa using h) hc.2 x hx
  exact key _ _ (by decide +kernel) ab_prvC
theorem ab_js0C : ∀ j ∈ ab_js0, j ∈ ab_pub ∨ j ∈ ab_prv := by decide +kernel
def ab_mt1 : List (Nat × Nat × Nat × Nat × Nat) := ab_mtl.filter fun x => Nat.beq x.2.2.1 1
theorem ab_lk1 : ∀ x ∈ ab_mt1, ab_lk x ∈ lw_tbl := ab_zipW _ _ [256, 259, 340, 588, 260, 237, 489, 390, 544, 605, 833, 830, 904, 248, 332, 448, 456, 497, 509, 516, 523, 594, 664] (by decide +kernel) (by decide +kernel)
def ab_js1 : List Nat := [13, 14, 15, 16, 39, 61, 80, 91, 101, 121, 122, 123, 124, 125, 126, 127, 128, 129, 130, 131, 132]
theorem ab_mt1C : ab_mt1.all (fun x => Nat.blt x.2.2.2.1 ab_M && (ab_js1.contains x.2.2.2.1 && (match parseMethodDescriptor (ab_nm x.2.2.2.1).desc with | some g => Nat.beq x.2.2.2.2 (g.parameters.length + 0) | none => false))) = true := by decide +kernel
def ab_sw1 (j : Nat) : Jvm.Cond := .static (ab_nm j)
theorem ab_sw1W : ∀ x ∈ ab_js1, ab_sw1 x ∈ lw_tbl := ab_zipW _ _ [238, 261, 257, 341, 391, 545, 834, 831, 905, 249, 333, 449, 457, 498, 510, 517, 524, 595, 665, 589, 606] (by decide +kernel) (by decide +kernel)
def ab_sw2 (j : Nat) : Jvm.Cond := .initialized (ab_nm j).cls
theorem ab_sw2W : ∀ x ∈ ab_js1, ab_sw2 x ∈ lw_tbl := ab_zipW _ _ [1, 1, 1, 1, 5, 3, 7, 7, 7, 0, 0, 0, 0, 0, 0, 0, 0, 0, 0, 16, 17] (by decide +kernel) (by decide +kernel)
def ab_mt2 : List (Nat × Nat × Nat × Nat × Nat) := ab_mtl.filter fun x => Nat.beq x.2.2.1 2
theorem ab_lk2 : ∀ x ∈ ab_mt2, ab_lk x ∈ lw_tbl := ab_zipW _ _ [28, 80, 175, 193, 180, 87, 20, 673] (by decide +kernel) (by decide +kernel)
def ab_js2 : List Nat := [0, 20, 31, 35, 56, 62, 73]
theorem ab_mt2C : ab_mt2.all (fun x => Nat.blt x.2.2.2.1 ab_M && (ab_js2.contains x.2.2.2.1 && (match parseMethodDescriptor (ab_nm x.2.2.2.1).desc with | some g => Nat.beq x.2.2.2.2 (g.parameters.length + 1) | none => false))) = true := by decide +kernel
def ab_iw2 (j : Nat) : Jvm.Cond := .instanceMethod (ab_nm j)
theorem ab_iw2W : ∀ x ∈ ab_js2, ab_iw2 x ∈ lw_tbl := ab_zipW _ _ [21, 29, 88, 176, 81, 194, 674] (by decide +kernel) (by decide +kernel)
theorem ab_lkE {o i kd j n : Nat} (h : ab_lk (o, i, kd, j, n) ∈ lw_tbl) : Jvm.Cond.methodLink (ab_cn o) i (ab_nm j) ∈ lw_tbl ∨ ∃ host, Jvm.Cond.methodLinkNest (ab_cn o) i (ab_nm j) host ∈ lw_tbl := by
  unfold ab_lk at h
  cases hb : ab_nsl.contains (o, i) with
  | true => rw [hb] at h; exact Or.inr ⟨_, h⟩
  | false => rw [hb] at h; exact Or.inl h
theorem ab_sgE {d : String} {n m : Nat} (h : (match parseMethodDescriptor d with | some g => Nat.beq n (g.parameters.length + m) | none => false) = true) : ∀ sig, parseMethodDescriptor d = some sig → n = sig.parameters.length + m := by
  intro sig hs
  rw [hs] at h
  exact Nat.eq_of_beq_eq_true h
theorem ab_mtl_s {o i j n : Nat} (h : (o, i, 1, j, n) ∈ ab_mtl) : j < ab_M ∧ (Jvm.Cond.methodLink (ab_cn o) i (ab_nm j) ∈ lw_tbl ∨ ∃ host, Jvm.Cond.methodLinkNest (ab_cn o) i (ab_nm j) host ∈ lw_tbl) ∧ Jvm.Cond.static (ab_nm j) ∈ lw_tbl ∧ Jvm.Cond.initialized (ab_nm j).cls ∈ lw_tbl ∧ (∀ sig, parseMethodDescriptor (ab_nm j).desc = some sig → n = sig.parameters.length) ∧ ((ab_nm j).cls ≠ "java/lang/invoke/MethodHandle" ∧ (ab_nm j).cls ≠ "java/lang/invoke/VarHandle") := by
  have hm : (o, i, 1, j, n) ∈ ab_mt1 := List.mem_filter.mpr ⟨h, rfl⟩
  have hc := List.all_eq_true.mp ab_mt1C _ hm
  simp only [Bool.and_eq_true] at hc
  have hj : j < ab_M := ab_blt hc.1
  have hs : j ∈ ab_js1 := by simpa using hc.2.1
  exact ⟨hj, ab_lkE (ab_lk1 _ hm), ab_sw1W j hs, ab_sw2W j hs, ab_sgE hc.2.2, ab_nmh hj⟩
theorem ab_mtl_v {o i j n : Nat} (h : (o, i, 0, j, n) ∈ ab_mtl) : j < ab_M ∧ (Jvm.Cond.methodLink (ab_cn o) i (ab_nm j) ∈ lw_tbl ∨ ∃ host, Jvm.Cond.methodLinkNest (ab_cn o) i (ab_nm j) host ∈ lw_tbl) ∧ Jvm.Cond.instanceMethod (ab_nm j) ∈ lw_tbl ∧ Jvm.Cond.selects (ab_nm j).cls (ab_nm j) (ab_nm j) ∈ lw_tbl ∧ (∀ sig, parseMethodDescriptor (ab_nm j).desc = some sig → n = sig.parameters.length + 1) ∧ ((ab_nm j).cls ≠ "java/lang/invoke/MethodHandle" ∧ (ab_nm j).cls ≠ "java/lang/invoke/VarHandle") := by
  have hm : (o, i, 0, j, n) ∈ ab_mt0 := List.mem_filter.mpr ⟨h, rfl⟩
  have hc := List.all_eq_true.mp ab_mt0C _ hm
  simp only [Bool.and_eq_true] at hc
  have hj : j < ab_M := ab_blt hc.1
  have hs : j ∈ ab_js0 := by simpa using hc.2.1
  exact ⟨hj, ab_lkE (ab_lk0 _ hm), ab_iw0W j hs, (ab_js0C j hs).elim (ab_pubW j) (ab_prvW j), ab_sgE hc.2.2, ab_nmh hj⟩
theorem ab_js2C : ∀ j ∈ ab_js2, (ab_nm j).name = "<init>" ∧ ab_rty j = none ∧ j ∈ ab_noh := by decide +kernel
theorem ab_mtl_i {o i j n : Nat} (h : (o, i, 2, j, n) ∈ ab_mtl) : j < ab_M ∧ (Jvm.Cond.methodLink (ab_cn o) i (ab_nm j) ∈ lw_tbl ∨ ∃ host, Jvm.Cond.methodLinkNest (ab_cn o) i (ab_nm j) host ∈ lw_tbl) ∧ Jvm.Cond.instanceMethod (ab_nm j) ∈ lw_tbl ∧ Jvm.Cond.code (ab_nm j) (ab_by j) (ab_mxl j) none ∈ lw_tbl ∧ (ab_nm j).name = "<init>" ∧ (∀ sig, parseMethodDescriptor (ab_nm j).desc = some sig → n = sig.parameters.length + 1) ∧ ((ab_nm j).cls ≠ "java/lang/invoke/MethodHandle" ∧ (ab_nm j).cls ≠ "java/lang/invoke/VarHandle") := by
  have hm : (o, i, 2, j, n) ∈ ab_mt2 := List.mem_filter.mpr ⟨h, rfl⟩
  have hc := List.all_eq_true.mp ab_mt2C _ hm
  simp only [Bool.and_eq_true] at hc
  have hj : j < ab_M := ab_blt hc.1
  have hs : j ∈ ab_js2 := by simpa using hc.2.1
  obtain ⟨a, b, c⟩ := ab_js2C j hs
  exact ⟨hj, ab_lkE (ab_lk2 _ hm), ab_iw2W j hs, b ▸ ab_nohW j c, a, ab_sgE hc.2.2, ab_nmh hj⟩
theorem ab_mtl_p0 : ab_mtl.all (fun x => (!(Nat.beq x.2.2.1 0) && !(Nat.beq x.2.2.1 2)) || (Nat.ble 1 x.2.2.2.2 && Nat.blt (ab_own x.2.2.2.1) 7)) = true := by decide +kernel
theorem ab_mtl_p {o i kd j n : Nat} (h : (o, i, kd, j, n) ∈ ab_mtl) (hk : kd = 0 ∨ kd = 2) : 1 ≤ n := by
  have := List.all_eq_true.mp ab_mtl_p0 _ h
  rcases hk with rfl | rfl <;> (simp at this; omega)
theorem ab_mtl_c {o i kd j n : Nat} (h : (o, i, kd, j, n) ∈ ab_mtl) (hk : kd = 0 ∨ kd = 2) : ab_own j < 7 := by
  have := List.all_eq_true.mp ab_mtl_p0 _ h
  rcases hk with rfl | rfl <;> (simp [Nat.blt] at this; omega)
def ab_mt8 : List (Nat × Nat × Nat × Nat × Nat) := ab_mtl.filter fun x => Nat.beq x.2.2.1 8
def ab_ow (x : Nat × Nat × Nat × Nat × Nat) : Jvm.Cond := .methodLink (ab_cn x.1) x.2.1 Lib.objectInit
theorem ab_owW : ∀ x ∈ ab_mt8, ab_ow x ∈ lw_tbl := ab_zipW _ _ [23, 31, 90, 178, 83, 196, 676] (by decide +kernel) (by decide +kernel)
theorem ab_mtl_o {o i j n : Nat} (h : (o, i, 8, j, n) ∈ ab_mtl) : Jvm.Cond.methodLink (ab_cn o) i Lib.objectInit ∈ lw_tbl ∧ Jvm.Cond.instanceMethod Lib.objectInit ∈ lw_tbl ∧ Jvm.Cond.code Lib.objectInit ⟨#[0xb1]⟩ 1 none ∈ lw_tbl :=
  ⟨ab_owW _ (List.mem_filter.mpr ⟨h, rfl⟩), List.mem_append_right _ (List.mem_of_getElem? (i := 24) (by decide +kernel)), List.mem_append_right _ (List.mem_of_getElem? (i := 25) (by decide +kernel))⟩
def ab_mt9 : List (Nat × Nat × Nat × Nat × Nat) := ab_mtl.filter fun x => Nat.beq x.2.2.1 9
def ab_aw (x : Nat × Nat × Nat × Nat × Nat) : Jvm.Cond := .methodLink (ab_cn x.1) x.2.1 arraycopyName
theorem ab_awW : ∀ x ∈ ab_mt9, ab_aw x ∈ lw_tbl := ab_zipW _ _ [367] (by decide +kernel) (by decide +kernel)
theorem ab_mtl_a {o i j n : Nat} (h : (o, i, 9, j, n) ∈ ab_mtl) : Jvm.Cond.methodLink (ab_cn o) i arraycopyName ∈ lw_tbl ∧ Jvm.Cond.native arraycopyName ∈ lw_tbl ∧ Jvm.Cond.static arraycopyName ∈ lw_tbl ∧ Jvm.Cond.initialized "java/lang/System" ∈ lw_tbl :=
  ⟨ab_awW _ (List.mem_filter.mpr ⟨h, rfl⟩), List.mem_append_right _ (List.mem_of_getElem? (i := 369) (by decide +kernel)), List.mem_append_right _ (List.mem_of_getElem? (i := 368) (by decide +kernel)), List.mem_append_right _ (List.mem_of_getElem? (i := 13) (by decide +kernel))⟩
theorem ab_mdC : ∀ k, k < ab_M + 1 → ab_md k = false → ab_own k < 7 → (ab_nm k).name = "<init>" := by decide +kernel
theorem ab_ret0C : ∀ k, k < ab_M + 1 → ab_ret k = 0 → ab_rty k = none := by decide +kernel
theorem ab_ret1C : ∀ k, k < ab_M + 1 → ab_ret k = 1 → ab_rty k = some .int := by decide +kernel
theorem ab_ret2C : ∀ k, k < ab_M + 1 → ab_ret k = 2 → ab_rty k = some .long := by decide +kernel
theorem ab_ret4C : ∀ k, k < ab_M + 1 → ab_ret k = 4 → ab_rty k = some .boolean := by decide +kernel
theorem ab_ret5C : ∀ k, k < ab_M + 1 → ab_ret k = 5 → ab_rty k = some .char := by decide +kernel
theorem ab_ret3C : ∀ k, k < ab_M + 1 → ab_ret k = 3 → ab_rty k = some (.object "ShapedItems$Shape") := by decide +kernel
