-- The abstract machine is sound: every instruction, every run.
section ab_all
variable {p : Program} {l : Launch} {e : Env} {R : Room} {s : State} {m : MethodId} {args : Array Value} {below : List Frame} {meth : Method} {c : Code} {D : va_G} {q sa wa B n0 z0 k pc : Nat} {Hb : Heap} {L : ab_L} {st : List ab_V} {S : ab_S}
/-- a method throws an exception of its own making -/
def ab_HT (l : Launch) (D : va_G) (q sa wa B : Nat) (Hb : Heap) : Prop := ∀ (p : Program) (e : Env) (R : Room) (s : State) (m : MethodId) (args : Array Value) (below : List Frame) (meth : Method) (c : Code) (n0 z0 k pc i : Nat) (f : Nat × Nat × Nat) (L : ab_L) (st : List ab_V) (S : ab_S),
  ab_F k p s m meth c → ab_E D wa B Hb s → ab_chk k pc (.new i) f = true → f.1 = 1 → ab_md k = true → st.length ≤ 4 → 8 ≤ R.frames → 200 ≤ R.locals → (ab_wx S).2.2.2.2.1 - n0 ≤ R.cells → (ab_wx S).2.2.2.2.2 - z0 ≤ R.slots →
    ab_G p l e R s m args below meth c (ab_Q s below D q sa wa B n0 z0 k Hb (f.2.1, 0, 0, 0) (ab_wx S)) D q sa wa B n0 z0 k Hb pc L st S
/-- a method of the law catches -/
def ab_HC (l : Launch) (D : va_G) (q sa wa B : Nat) (Hb : Heap) : Prop := ∀ (p : Program) (e : Env) (R : Room) (s : State) (m : MethodId) (args : Array Value) (below : List Frame) (meth : Method) (c : Code) (n0 z0 k pc x : Nat) (v : Int32) (i : Instr) (f : Nat × Nat × Nat) (S : ab_S) (L : ab_L) (ls : Array Slot) (locs : List Loc) (T : State) (a : Addr) (stk : List Value),
  ab_F k p s m meth c → ab_E D wa B Hb s → ab_chk k pc i f = true → ab_iv1 i = true → ab_hnd k x = some v → ab_LR (ab_ad sa wa B) L ls → L.length = ab_mxl k → ab_X D q sa wa B n0 z0 k Hb s S T.heap locs → Stand p l e R s m args below meth c T locs (S.2.2.2.2.1 - n0) (S.2.2.2.2.2 - z0) → ab_exc x a T →
    ∃ t, Steps p.tables e below ((T.setTop (F0 m pc ls stk)).pushFrame (.throwing a)) t ∧ ab_Q s below D q sa wa B n0 z0 k Hb (0, v, 0, 0) S t
theorem ab_fvi {ad : Nat → Nat} {S : ab_S} {c r f : Nat} (h : ab_knd c f < 2) : ab_fv ad S c r f = .int (S.1 r f) := by
  unfold ab_fv
  rw [show Nat.blt (ab_knd c f) 2 = true from Nat.ble_eq_true_of_le h]
  rfl
theorem ab_fvr {ad : Nat → Nat} {S : ab_S} {c r f : Nat} (h : 2 ≤ ab_knd c f) : ab_fv ad S c r f = ab_cv ad (.inr (.inr (S.2.2.1 r f))) := by
  unfold ab_fv
  rw [show Nat.blt (ab_knd c f) 2 = false from by
    cases hb : Nat.blt (ab_knd c f) 2 with
    | false => rfl
    | true => have := ab_blt hb; omega]
  rfl
theorem ab_doW {nn d j n : Nat} {ig : Instr} {f : Nat × Nat × Nat} {r : ab_O × ab_S} {K : Nat → ab_L → List ab_V → ab_S → ab_R} (hHC : ab_HC l D q sa wa B Hb) (hF : ab_F k p s m meth c) (hE : ab_E D wa B Hb s) (hA : sa < B ∧ wa < B ∧ sa ≠ wa) (ih : ab_Snd l D q sa wa B Hb nn) (hch : ab_chk k pc ig f = true) (hi1 : ab_iv1 ig = true) (hd : decode (ab_by k) pc = .ok (ig, 3)) (hj : j < ab_M)
    (hin : ∀ (H : Heap) (locs : List Loc) (ls : Array Slot), ab_X D q sa wa B n0 z0 k Hb s S H locs → ls.size = c.maxLocals → ∀ T : State, T.heap = H → Stand p l e R s m args below meth c T locs (S.2.2.2.2.1 - n0) (S.2.2.2.2.2 - z0) → n ≤ st.length →
      ab_iv p l e R s m args below meth c T locs (S.2.2.2.2.1 - n0) (S.2.2.2.2.2 - z0) (F0 m pc ls (st.map (ab_cv (ab_ad sa wa B)))) (ab_nm j) ((st.take n).reverse.map (ab_cv (ab_ad sa wa B))) ((st.drop n).map (ab_cv (ab_ad sa wa B))))
    (h : ab_do k pc K (fun j L' S' => match d with | 0 => none | d + 1 => ab_run q nn d j 0 L' [] S') L st S j n = some r)
    (hfr : d + 8 ≤ R.frames) (hlo : 64 * d + 200 ≤ R.locals) (hce : r.2.2.2.2.2.1 - n0 ≤ R.cells) (hsl : r.2.2.2.2.2.2 - z0 ≤ R.slots) (hKm : ∀ pc' L' st' S', K pc' L' st' S' = some r → ab_le S' r.2)
    (hK : ∀ pc' L' st' S', K pc' L' st' S' = some r → ab_G p l e R s m args below meth c (ab_Q s below D q sa wa B n0 z0 k Hb r.1 r.2) D q sa wa B n0 z0 k Hb pc' L' st' S') : ab_G p l e R s m args below meth c (ab_Q s below D q sa wa B n0 z0 k Hb r.1 r.2) D q sa wa B n0 z0 k Hb pc L st S := by
  unfold ab_do at h
  obtain ⟨hg, h⟩ := ab_gE h
  simp only [Bool.and_eq_true] at hg
  obtain ⟨g1, g2, g3, g4⟩ := hg
  have g1 := Nat.le_of_ble_eq_true g1
  have g2 := Nat.le_of_ble_eq_true g2
  have g3 := Nat.le_of_ble_eq_true g3
  cases d with
  | zero => exact nomatch (show (none : ab_R) = some r from h)
  | succ d =>
    obtain ⟨r1, hr1, h⟩ := ab_bdE h
    · have hr1 : ab_run q nn d j 0 (ab_ent j (st.take n).reverse) [] S = some r1 := hr1
      have hm := ab_mono q nn _ _ _ _ _ _ _ hr1
      have hmd : (ab_md j = true → ab_inv S = true ∨ ab_md k = true) ∧ (ab_md k = true → ab_md j = true) := by
        cases hk : ab_md k with
        | true =>
          rw [hk] at g4
          exact ⟨fun _ => Or.inr rfl, fun _ => g4⟩
        | false =>
          rw [hk] at g4
          refine ⟨fun hj => Or.inl ?_, fun h => by cases h⟩
          simp only [cond_false, hj, Bool.not_true, Bool.false_or] at g4
          exact g4
      by_cases ho : r1.1.1 = 0
      · rw [if_pos ho] at h
        have hm2 := hKm _ _ _ _ h
        exact ab_xcall (fin := r) hF hE ih hj (fun H locs ls a b T c' d' => hin H locs ls a b T c' d' g1) hd hr1 g3 (ab_mxF hj) g2 hmd.1 hmd.2 hfr hlo hce hsl hm.1 hm.2 hm2.1 hm2.2 (fun _ => hK _ _ _ _ h) (fun h0 => absurd ho h0)
      · rw [if_neg ho] at h
        unfold ab_th at h
        split at h
        · rename_i hn
          cases hb : ab_hh k with
          | true => rw [hb] at h; cases h
          | false =>
            rw [hb] at h
            cases h
            refine ab_xcall (fin := r) hF hE ih hj (fun H locs ls a b T c' d' => hin H locs ls a b T c' d' g1) hd hr1 g3 (ab_mxF hj) g2 hmd.1 hmd.2 hfr hlo hce hsl hm.1 hm.2 (Nat.le_refl _) (Nat.le_refl _) (fun h0 => absurd h0 ho) (fun _ H locs ls T a hT hL hl hX X hexc => ?_)
            subst hT
            have hemp : c.exceptionTable.toList = [] := by
              have h8 := hF.2.2.2.2.2.2.2
              have : ab_ht k = [] := by simpa [ab_hh] using hb
              rw [this] at h8
              exact List.map_eq_nil_iff.mp h8
            obtain ⟨s1, s2, s3, s4, s5⟩ := X.leaveThrown a (g := F0 m pc ls ((st.drop n).map (ab_cv (ab_ad sa wa B)))) rfl rfl rfl (fun x hx => by rw [hemp] at hx; cases hx) hF.2.2.2.2.1
            exact ⟨_, s1, .threw a, s2, s3, Or.inr ⟨ho, a, rfl, hexc⟩, s4, ⟨locs, s5, hX.2.2.2.1⟩, hX.1, hX.2.1, hX.2.2.1, hX.2.2.2.2⟩
        · rename_i v hv
          cases h
          refine ab_xcall (fin := ((0, v, 0, 0), r1.2)) hF hE ih hj (fun H locs ls a b T c' d' => hin H locs ls a b T c' d' g1) hd hr1 g3 (ab_mxF hj) g2 hmd.1 hmd.2 hfr hlo hce hsl hm.1 hm.2 (Nat.le_refl _) (Nat.le_refl _) (fun h0 => absurd h0 ho) (fun _ H locs ls T a hT hL hl hX X hexc => ?_)
          subst hT
          exact hHC p e R s m args below meth c n0 z0 k pc r1.1.1 v ig f r1.2 L ls locs T a _ hF hE hch hi1 hv hL hl hX X hexc

theorem ab_exW {nn d : Nat} {i : Instr} {f : Nat × Nat × Nat} {r : ab_O × ab_S} {K : Nat → ab_L → List ab_V → ab_S → ab_R} (hHT : ab_HT l D q sa wa B Hb) (hHC : ab_HC l D q sa wa B Hb) (hF : ab_F k p s m meth c) (hE : ab_E D wa B Hb s) (hA : sa < B ∧ wa < B ∧ sa ≠ wa) (ih : ab_Snd l D q sa wa B Hb nn) (hk : k < ab_M + 1) (hch : ab_chk k pc i f = true)
    (h : ab_ex q k pc K (fun j L' S' => match d with | 0 => none | d + 1 => ab_run q nn d j 0 L' [] S') L st S i f = some r)
    (hfr : d + 8 ≤ R.frames) (hlo : 64 * d + 200 ≤ R.locals) (hce : r.2.2.2.2.2.1 - n0 ≤ R.cells) (hsl : r.2.2.2.2.2.2 - z0 ≤ R.slots) (hKm : ∀ pc' L' st' S', K pc' L' st' S' = some r → ab_le S' r.2)
    (hK : ∀ pc' L' st' S', K pc' L' st' S' = some r → ab_G p l e R s m args below meth c (ab_Q s below D q sa wa B n0 z0 k Hb r.1 r.2) D q sa wa B n0 z0 k Hb pc' L' st' S') : ab_G p l e R s m args below meth c (ab_Q s below D q sa wa B n0 z0 k Hb r.1 r.2) D q sa wa B n0 z0 k Hb pc L st S := by
  obtain ⟨len, hd0, hdl, htk, hrv⟩ := ab_chkE hch
  have hd : ab_isw i = false → decode (ab_by k) pc = .ok (i, ab_ln i) := fun hz => by
    rcases hdl with h | h
    · rw [hd0, h]
    · rw [hz] at h; cases h
  cases i with
  | iconst n => intro H locs ls hL hl hX; exact lv_iconst hF.1 hF.2.1 (hd rfl) rfl (hK _ _ _ _ h H locs ls hL hl hX)
  | bipush n => intro H locs ls hL hl hX; exact lv_bipush hF.1 hF.2.1 (hd rfl) rfl (hK _ _ _ _ h H locs ls hL hl hX)
  | sipush n => intro H locs ls hL hl hX; exact lv_sipush hF.1 hF.2.1 (hd rfl) rfl (hK _ _ _ _ h H locs ls hL hl hX)
  | lconst n => intro H locs ls hL hl hX; exact lv_lconst hF.1 hF.2.1 (hd rfl) rfl (hK _ _ _ _ h H locs ls hL hl hX)
  | iload i => obtain ⟨x, hx, h_2⟩ := ab_liE h; intro H locs ls hL hl hX; exact lv_iload hF.1 hF.2.1 (hd rfl) (hL.2.2 _ _ hx) (hK _ _ _ _ h_2 H locs ls hL hl hX)
  | iload_n i => obtain ⟨x, hx, h_3⟩ := ab_liE h; intro H locs ls hL hl hX; exact lv_iload_n hF.1 hF.2.1 (hd rfl) rfl (hL.2.2 _ _ hx) (hK _ _ _ _ h_3 H locs ls hL hl hX)
  | lload i => obtain ⟨x, hx, h_4⟩ := ab_llE h; intro H locs ls hL hl hX; exact lv_lload hF.1 hF.2.1 (hd rfl) (hL.2.2 _ _ hx) (hK _ _ _ _ h_4 H locs ls hL hl hX)
  | lload_n i => obtain ⟨x, hx, h_5⟩ := ab_llE h; intro H locs ls hL hl hX; exact lv_lload_n hF.1 hF.2.1 (hd rfl) rfl (hL.2.2 _ _ hx) (hK _ _ _ _ h_5 H locs ls hL hl hX)
  | aload i =>
    obtain ⟨x, hx, h_6⟩ := ab_lrE h
    intro H locs ls hL hl hX
    have hz := hL.2.2 _ _ hx
    have hk := hK _ _ _ _ h_6 H locs ls hL hl hX
    cases x with
    | zero => exact lv_aloadN hF.1 hF.2.1 (hd rfl) hz hk
    | succ x => exact lv_aload hF.1 hF.2.1 (hd rfl) hz hk
  | aload_n i =>
    obtain ⟨x, hx, h_7⟩ := ab_lrE h
    intro H locs ls hL hl hX
    have hz := hL.2.2 _ _ hx
    have hk := hK _ _ _ _ h_7 H locs ls hL hl hX
    cases x with
    | zero => exact lv_aload_nN hF.1 hF.2.1 (hd rfl) rfl hz hk
    | succ x => exact lv_aload_n hF.1 hF.2.1 (hd rfl) rfl hz hk
  | istore i => obtain ⟨x, st, rfl, h_8⟩ := ab_piE h; obtain ⟨hb, h_9⟩ := ab_gE h_8; intro H locs ls hL hl hX; exact lv_istore hF.1 hF.2.1 (hd rfl) (hL.has hl) (by rw [← hl]; exact ab_blt hb) rfl fun ls' h' => hK _ _ _ _ h_9 H locs ls' (ab_st1_LR (ls := ls) (v := .inl x) hl h') ((ab_st1_len _ _ _).trans hl) hX
  | istore_n i => obtain ⟨x, st, rfl, h_10⟩ := ab_piE h; obtain ⟨hb, h_11⟩ := ab_gE h_10; intro H locs ls hL hl hX; exact lv_istore_n hF.1 hF.2.1 (hd rfl) rfl (hL.has hl) (by rw [← hl]; exact ab_blt hb) rfl fun ls' h' => hK _ _ _ _ h_11 H locs ls' (ab_st1_LR (ls := ls) (v := .inl x) hl h') ((ab_st1_len _ _ _).trans hl) hX
  | lstore i => obtain ⟨x, st, rfl, h_12⟩ := ab_plE h; obtain ⟨hb, h_13⟩ := ab_gE h_12; intro H locs ls hL hl hX; exact lv_lstore hF.1 hF.2.1 (hd rfl) (hL.has hl) (by rw [← hl]; exact ab_blt hb) rfl fun ls' h' => hK _ _ _ _ h_13 H locs ls' (ab_st2_LR (ls := ls) (v := .inr (.inl x)) hl h') ((ab_st2_len _ _ _).trans hl) hX
  | lstore_n i => obtain ⟨x, st, rfl, h_14⟩ := ab_plE h; obtain ⟨hb, h_15⟩ := ab_gE h_14; intro H locs ls hL hl hX; exact lv_lstore_n hF.1 hF.2.1 (hd rfl) rfl (hL.has hl) (by rw [← hl]; exact ab_blt hb) rfl fun ls' h' => hK _ _ _ _ h_15 H locs ls' (ab_st2_LR (ls := ls) (v := .inr (.inl x)) hl h') ((ab_st2_len _ _ _).trans hl) hX
  | astore i =>
    obtain ⟨x, st, rfl, h_16⟩ := ab_prE h
    obtain ⟨hb, h_17⟩ := ab_gE h_16
    intro H locs ls hL hl hX
    have hi : i < ab_mxl k := by rw [← hl]; exact ab_blt hb
    cases x with
    | zero => exact lv_astoreN hF.1 hF.2.1 (hd rfl) (hL.has hl) hi rfl fun ls' h' => hK _ _ _ _ h_17 H locs ls' (ab_st1_LR (ls := ls) (v := .inr (.inr 0)) hl h') ((ab_st1_len _ _ _).trans hl) hX
    | succ x => exact lv_astore hF.1 hF.2.1 (hd rfl) (hL.has hl) hi rfl fun ls' h' => hK _ _ _ _ h_17 H locs ls' (ab_st1_LR (ls := ls) (v := .inr (.inr (x + 1))) hl h') ((ab_st1_len _ _ _).trans hl) hX
  | astore_n i =>
    obtain ⟨x, st, rfl, h_18⟩ := ab_prE h
    obtain ⟨hb, h_19⟩ := ab_gE h_18
    intro H locs ls hL hl hX
    have hi : i.val < ab_mxl k := by rw [← hl]; exact ab_blt hb
    cases x with
    | zero => exact lv_astore_nN hF.1 hF.2.1 (hd rfl) rfl (hL.has hl) hi rfl fun ls' h' => hK _ _ _ _ h_19 H locs ls' (ab_st1_LR (ls := ls) (v := .inr (.inr 0)) hl h') ((ab_st1_len _ _ _).trans hl) hX
    | succ x => exact lv_astore_n hF.1 hF.2.1 (hd rfl) rfl (hL.has hl) hi rfl fun ls' h' => hK _ _ _ _ h_19 H locs ls' (ab_st1_LR (ls := ls) (v := .inr (.inr (x + 1))) hl h') ((ab_st1_len _ _ _).trans hl) hX
  | iinc i n =>
    obtain ⟨x, hx, h_20⟩ := ab_liE h
    intro H locs ls hL hl hX
    obtain ⟨kk, hkk⟩ := List.getElem?_of_mem (ab_tb_mem (ad := ab_ad sa wa B) hx)
    have hi : i < ab_mxl k := by rw [← hl]; exact (List.getElem?_eq_some_iff.mp hx).1
    exact lv_iinc hF.1 hF.2.1 (hd rfl) (hL.has hl) hkk rfl hi rfl fun ls' h' => hK _ _ _ _ h_20 H locs ls' (ab_st1_LR (ls := ls) (v := .inl (x + Int32.ofInt n)) hl h') ((ab_st1_len _ _ _).trans hl) hX
  | iadd => obtain ⟨y, st, rfl, h_21⟩ := ab_piE h; obtain ⟨x, st, rfl, h_22⟩ := ab_piE h_21; intro H locs ls hL hl hX; exact lv_iadd hF.1 hF.2.1 (hd rfl) (hK _ _ _ _ h_22 H locs ls hL hl hX)
  | isub => obtain ⟨y, st, rfl, h_23⟩ := ab_piE h; obtain ⟨x, st, rfl, h_24⟩ := ab_piE h_23; intro H locs ls hL hl hX; exact lv_isub hF.1 hF.2.1 (hd rfl) (hK _ _ _ _ h_24 H locs ls hL hl hX)
  | imul => obtain ⟨y, st, rfl, h_25⟩ := ab_piE h; obtain ⟨x, st, rfl, h_26⟩ := ab_piE h_25; intro H locs ls hL hl hX; exact lv_imul hF.1 hF.2.1 (hd rfl) (hK _ _ _ _ h_26 H locs ls hL hl hX)
  | iand => obtain ⟨y, st, rfl, h_27⟩ := ab_piE h; obtain ⟨x, st, rfl, h_28⟩ := ab_piE h_27; intro H locs ls hL hl hX; exact lv_iand hF.1 hF.2.1 (hd rfl) (hK _ _ _ _ h_28 H locs ls hL hl hX)
  | ior => obtain ⟨y, st, rfl, h_29⟩ := ab_piE h; obtain ⟨x, st, rfl, h_30⟩ := ab_piE h_29; intro H locs ls hL hl hX; exact lv_ior hF.1 hF.2.1 (hd rfl) (hK _ _ _ _ h_30 H locs ls hL hl hX)
  | ishl => obtain ⟨y, st, rfl, h_31⟩ := ab_piE h; obtain ⟨x, st, rfl, h_32⟩ := ab_piE h_31; intro H locs ls hL hl hX; exact lv_ishl hF.1 hF.2.1 (hd rfl) (hK _ _ _ _ h_32 H locs ls hL hl hX)
  | ishr => obtain ⟨y, st, rfl, h_33⟩ := ab_piE h; obtain ⟨x, st, rfl, h_34⟩ := ab_piE h_33; intro H locs ls hL hl hX; exact lv_ishr hF.1 hF.2.1 (hd rfl) (hK _ _ _ _ h_34 H locs ls hL hl hX)
  | iushr => obtain ⟨y, st, rfl, h_35⟩ := ab_piE h; obtain ⟨x, st, rfl, h_36⟩ := ab_piE h_35; intro H locs ls hL hl hX; exact lv_iushr hF.1 hF.2.1 (hd rfl) rfl (hK _ _ _ _ h_36 H locs ls hL hl hX)
  | idiv => obtain ⟨y, st, rfl, h_37⟩ := ab_piE h; obtain ⟨x, st, rfl, h_38⟩ := ab_piE h_37; obtain ⟨hy, h_39⟩ := ab_gE h_38; intro H locs ls hL hl hX; exact lv_idiv hF.1 hF.2.1 (hd rfl) (by simpa using hy) (hK _ _ _ _ h_39 H locs ls hL hl hX)
  | ineg => obtain ⟨x, st, rfl, h_40⟩ := ab_piE h; intro H locs ls hL hl hX; exact lv_ineg hF.1 hF.2.1 (hd rfl) (hK _ _ _ _ h_40 H locs ls hL hl hX)
  | i2l => obtain ⟨x, st, rfl, h_41⟩ := ab_piE h; intro H locs ls hL hl hX; exact lv_i2l hF.1 hF.2.1 (hd rfl) rfl (hK _ _ _ _ h_41 H locs ls hL hl hX)
  | i2c => obtain ⟨x, st, rfl, h_42⟩ := ab_piE h; intro H locs ls hL hl hX; exact lv_i2c hF.1 hF.2.1 (hd rfl) rfl (hK _ _ _ _ h_42 H locs ls hL hl hX)
  | l2i => obtain ⟨x, st, rfl, h_43⟩ := ab_plE h; intro H locs ls hL hl hX; exact lv_l2i hF.1 hF.2.1 (hd rfl) rfl (hK _ _ _ _ h_43 H locs ls hL hl hX)
  | ladd => obtain ⟨y, st, rfl, h_44⟩ := ab_plE h; obtain ⟨x, st, rfl, h_45⟩ := ab_plE h_44; intro H locs ls hL hl hX; exact lv_ladd hF.1 hF.2.1 (hd rfl) (hK _ _ _ _ h_45 H locs ls hL hl hX)
  | lsub => obtain ⟨y, st, rfl, h_46⟩ := ab_plE h; obtain ⟨x, st, rfl, h_47⟩ := ab_plE h_46; intro H locs ls hL hl hX; exact lv_lsub hF.1 hF.2.1 (hd rfl) (hK _ _ _ _ h_47 H locs ls hL hl hX)
  | lmul => obtain ⟨y, st, rfl, h_48⟩ := ab_plE h; obtain ⟨x, st, rfl, h_49⟩ := ab_plE h_48; intro H locs ls hL hl hX; exact lv_lmul hF.1 hF.2.1 (hd rfl) (hK _ _ _ _ h_49 H locs ls hL hl hX)
  | land => obtain ⟨y, st, rfl, h_50⟩ := ab_plE h; obtain ⟨x, st, rfl, h_51⟩ := ab_plE h_50; intro H locs ls hL hl hX; exact lv_land hF.1 hF.2.1 (hd rfl) (hK _ _ _ _ h_51 H locs ls hL hl hX)
  | lor => obtain ⟨y, st, rfl, h_52⟩ := ab_plE h; obtain ⟨x, st, rfl, h_53⟩ := ab_plE h_52; intro H locs ls hL hl hX; exact lv_lor hF.1 hF.2.1 (hd rfl) (hK _ _ _ _ h_53 H locs ls hL hl hX)
  | lxor => obtain ⟨y, st, rfl, h_54⟩ := ab_plE h; obtain ⟨x, st, rfl, h_55⟩ := ab_plE h_54; intro H locs ls hL hl hX; exact lv_lxor hF.1 hF.2.1 (hd rfl) (hK _ _ _ _ h_55 H locs ls hL hl hX)
  | lshl => obtain ⟨y, st, rfl, h_56⟩ := ab_piE h; obtain ⟨x, st, rfl, h_57⟩ := ab_plE h_56; intro H locs ls hL hl hX; exact lv_lshl hF.1 hF.2.1 (hd rfl) rfl (hK _ _ _ _ h_57 H locs ls hL hl hX)
  | lshr => obtain ⟨y, st, rfl, h_58⟩ := ab_piE h; obtain ⟨x, st, rfl, h_59⟩ := ab_plE h_58; intro H locs ls hL hl hX; exact lv_lshr hF.1 hF.2.1 (hd rfl) rfl (hK _ _ _ _ h_59 H locs ls hL hl hX)
  | lushr => obtain ⟨y, st, rfl, h_60⟩ := ab_piE h; obtain ⟨x, st, rfl, h_61⟩ := ab_plE h_60; intro H locs ls hL hl hX; exact lv_lushr hF.1 hF.2.1 (hd rfl) rfl (hK _ _ _ _ h_61 H locs ls hL hl hX)
  | lcmp => obtain ⟨y, st, rfl, h_62⟩ := ab_plE h; obtain ⟨x, st, rfl, h_63⟩ := ab_plE h_62; intro H locs ls hL hl hX; exact W.lcmp hF.1 hF.2.1 (hd rfl) (hK _ _ _ _ h_63 H locs ls hL hl hX)
  | dup2 => obtain ⟨y, st, rfl, h_64⟩ := ab_piE h; obtain ⟨x, st, rfl, h_65⟩ := ab_prE h_64; intro H locs ls hL hl hX; exact lv_dup2_11 hF.1 hF.2.1 (hd rfl) rfl (ab_cat1 fun z hz => by cases hz) (hK _ _ _ _ h_65 H locs ls hL hl hX)
  | goto o => intro H locs ls hL hl hX; exact lv_goto hF.1 hF.2.1 (hd rfl) (ab_tgE htk) (hK _ _ _ _ h H locs ls hL hl hX)
  | ldc_w i =>
    unfold ab_ex at h
    dsimp only at h
    split at h
    · cases h
    · rename_i v hv
      intro H locs ls hL hl hX
      exact lv_ldcw hF.1 hF.2.1 hF.2.2.2.2.2.2.1 (hE.word (ab_csi_ok hv hrv) args) (hd rfl) (hK _ _ _ _ h H locs ls hL hl hX)
  | ldc2_w i =>
    unfold ab_ex at h
    dsimp only at h
    split at h
    · cases h
    · rename_i v hv
      intro H locs ls hL hl hX
      exact lv_ldc2 hF.1 hF.2.1 hF.2.2.2.2.2.2.1 (hE.word (ab_cst_ok hv hrv) args) (hd rfl) (hK _ _ _ _ h H locs ls hL hl hX)
  | dup =>
    unfold ab_ex at h
    dsimp only at h
    split at h
    · intro H locs ls hL hl hX
      exact lv_dup hF.1 hF.2.1 (hd rfl) rfl (hK _ _ _ _ h H locs ls hL hl hX)
    · intro H locs ls hL hl hX
      exact lv_dup hF.1 hF.2.1 (hd rfl) (ab_cat1 fun z hz => by cases hz) (hK _ _ _ _ h H locs ls hL hl hX)
    · cases h
  | pop =>
    unfold ab_ex at h
    dsimp only at h
    split at h
    · intro H locs ls hL hl hX
      exact lv_pop hF.1 hF.2.1 (hd rfl) rfl (hK _ _ _ _ h H locs ls hL hl hX)
    · intro H locs ls hL hl hX
      exact lv_pop hF.1 hF.2.1 (hd rfl) (ab_cat1 fun z hz => by cases hz) (hK _ _ _ _ h H locs ls hL hl hX)
    · cases h
  | ifCond cd o =>
    obtain ⟨x, st, rfl, h_66⟩ := ab_piE h
    intro H locs ls hL hl hX
    have ht := ab_tgE htk
    unfold ab_cz at h_66
    cases cd with
    | eq => exact lv_if_eq hF.1 hF.2.1 (hd rfl) ht (fun hx => hK _ _ _ _ (by dsimp only at h_66; rw [if_pos hx] at h_66; exact h_66) H locs ls hL hl hX) (fun hx => hK _ _ _ _ (by dsimp only at h_66; rw [if_neg hx] at h_66; exact h_66) H locs ls hL hl hX)
    | ne => exact lv_if_ne hF.1 hF.2.1 (hd rfl) ht (fun hx => hK _ _ _ _ (by dsimp only at h_66; rw [if_neg hx] at h_66; exact h_66) H locs ls hL hl hX) (fun hx => hK _ _ _ _ (by dsimp only at h_66; rw [if_pos hx] at h_66; exact h_66) H locs ls hL hl hX)
    | lt => exact lv_if_lt hF.1 hF.2.1 (hd rfl) ht (fun hx => hK _ _ _ _ (by dsimp only at h_66; rw [if_pos hx] at h_66; exact h_66) H locs ls hL hl hX) (fun hx => hK _ _ _ _ (by dsimp only at h_66; rw [if_neg hx] at h_66; exact h_66) H locs ls hL hl hX)
    | ge => exact lv_if_ge hF.1 hF.2.1 (hd rfl) ht (fun hx => hK _ _ _ _ (by dsimp only at h_66; rw [if_neg (Int32.not_lt.mpr hx)] at h_66; exact h_66) H locs ls hL hl hX) (fun hx => hK _ _ _ _ (by dsimp only at h_66; rw [if_pos (Int32.not_le.mp hx)] at h_66; exact h_66) H locs ls hL hl hX)
    | gt => exact lv_if_gt hF.1 hF.2.1 (hd rfl) ht (fun hx => hK _ _ _ _ (by dsimp only at h_66; rw [if_pos hx] at h_66; exact h_66) H locs ls hL hl hX) (fun hx => hK _ _ _ _ (by dsimp only at h_66; rw [if_neg hx] at h_66; exact h_66) H locs ls hL hl hX)
    | le => exact lv_if_le hF.1 hF.2.1 (hd rfl) ht (fun hx => hK _ _ _ _ (by dsimp only at h_66; rw [if_neg (Int32.not_lt.mpr hx)] at h_66; exact h_66) H locs ls hL hl hX) (fun hx => hK _ _ _ _ (by dsimp only at h_66; rw [if_pos (Int32.not_le.mp hx)] at h_66; exact h_66) H locs ls hL hl hX)
  | if_icmp cd o =>
    obtain ⟨y, st, rfl, h_67⟩ := ab_piE h
    obtain ⟨x, st, rfl, h_68⟩ := ab_piE h_67
    intro H locs ls hL hl hX
    have ht := ab_tgE htk
    unfold ab_cz at h_68
    cases cd with
    | eq => exact lv_icmp_eq hF.1 hF.2.1 (hd rfl) ht (fun hx => hK _ _ _ _ (by dsimp only at h_68; rw [if_pos hx] at h_68; exact h_68) H locs ls hL hl hX) (fun hx => hK _ _ _ _ (by dsimp only at h_68; rw [if_neg hx] at h_68; exact h_68) H locs ls hL hl hX)
    | ne => exact lv_icmp_ne hF.1 hF.2.1 (hd rfl) ht (fun hx => hK _ _ _ _ (by dsimp only at h_68; rw [if_neg hx] at h_68; exact h_68) H locs ls hL hl hX) (fun hx => hK _ _ _ _ (by dsimp only at h_68; rw [if_pos hx] at h_68; exact h_68) H locs ls hL hl hX)
    | lt => exact lv_icmp_lt hF.1 hF.2.1 (hd rfl) ht (fun hx => hK _ _ _ _ (by dsimp only at h_68; rw [if_pos hx] at h_68; exact h_68) H locs ls hL hl hX) (fun hx => hK _ _ _ _ (by dsimp only at h_68; rw [if_neg hx] at h_68; exact h_68) H locs ls hL hl hX)
    | ge => exact lv_icmp_ge hF.1 hF.2.1 (hd rfl) ht (fun hx => hK _ _ _ _ (by dsimp only at h_68; rw [if_neg (Int32.not_lt.mpr hx)] at h_68; exact h_68) H locs ls hL hl hX) (fun hx => hK _ _ _ _ (by dsimp only at h_68; rw [if_pos (Int32.not_le.mp hx)] at h_68; exact h_68) H locs ls hL hl hX)
    | gt => exact lv_icmp_gt hF.1 hF.2.1 (hd rfl) ht (fun hx => hK _ _ _ _ (by dsimp only at h_68; rw [if_pos hx] at h_68; exact h_68) H locs ls hL hl hX) (fun hx => hK _ _ _ _ (by dsimp only at h_68; rw [if_neg hx] at h_68; exact h_68) H locs ls hL hl hX)
    | le => exact lv_icmp_le hF.1 hF.2.1 (hd rfl) ht (fun hx => hK _ _ _ _ (by dsimp only at h_68; rw [if_neg (Int32.not_lt.mpr hx)] at h_68; exact h_68) H locs ls hL hl hX) (fun hx => hK _ _ _ _ (by dsimp only at h_68; rw [if_pos (Int32.not_le.mp hx)] at h_68; exact h_68) H locs ls hL hl hX)
  | tableswitch df lo hi offs =>
    obtain ⟨x, st, rfl, h_69⟩ := ab_piE h
    intro H locs ls hL hl hX
    exact ab_xtab hF hd0 htk h_69 fun t ht => hK _ _ _ _ ht H locs ls hL hl hX
  | lookupswitch df ps =>
    obtain ⟨x, st, rfl, h_70⟩ := ab_piE h
    intro H locs ls hL hl hX
    exact ab_xlook hF hd0 htk h_70 fun t ht => hK _ _ _ _ ht H locs ls hL hl hX
  | getfield i =>
    obtain ⟨r, st, rfl, h_71⟩ := ab_prE h
    obtain ⟨hok, h_72⟩ := ab_gE h_71
    exact ab_xget hF hE (hd rfl) (ab_rvF (pc := pc) hrv) hok (hK _ _ _ _ h_72)
  | putfield i =>
    have hres := ab_rvF (pc := pc) hrv
    obtain ⟨hc7, hfk, hknd, -⟩ := ab_fll_ok _ hres
    unfold ab_ex at h
    dsimp only at h
    split at h
    · rename_i h2
      obtain ⟨x, st, rfl, h_73⟩ := ab_piE h
      obtain ⟨r, st, rfl, h_74⟩ := ab_prE h_73
      obtain ⟨hok, h_75⟩ := ab_gE h_74
      have h0 : ab_knd f.1 f.2.1 = 0 := hknd.trans h2
      have hty := ab_kind0 hc7 hfk h0
      exact ab_xput (S' := ab_wi S r f.2.1 x) hF hE hA (hd rfl) hres hok (by rw [hty.1]; rfl) (by rw [hty.1]; rfl) (Or.inl hty.2) (by rw [ab_fvi (by omega)]; show Value.int (ab_up _ _ _ _ _ _) = _; rw [ab_up_eq]; rfl) (fun g hg => by simp only [ab_fv, ab_wi, ab_up_nk _ _ hg]) rfl (fun x' k' hx => ab_up_ne _ _ hx) (fun _ _ _ => rfl) (fun _ _ _ => rfl) (fun _ hi => ab_inv_of hi rfl fun _ _ => rfl) (hK _ _ _ _ h_75)
    · rename_i h2
      obtain ⟨x, st, rfl, h_76⟩ := ab_piE h
      obtain ⟨r, st, rfl, h_77⟩ := ab_prE h_76
      obtain ⟨hok, h_78⟩ := ab_gE h_77
      obtain ⟨hok, hz⟩ := ab_ctE hok
      have h0 : ab_knd f.1 f.2.1 = 1 := hknd.trans h2
      have hty := ab_kind1 hc7 hfk h0
      have hx01 : x = 0 ∨ x = 1 := by simpa [ab_zb] using hz
      exact ab_xput (S' := ab_wi S r f.2.1 x) (v := .inl x) hF hE hA (hd rfl) hres hok (by rw [hty.1]; rcases hx01 with rfl | rfl <;> rfl) (by rw [hty.1]; rcases hx01 with rfl | rfl <;> rfl) (Or.inl hty.2) (by rw [ab_fvi (by omega)]; show Value.int (ab_up _ _ _ _ _ _) = _; rw [ab_up_eq]; rfl) (fun g hg => by simp only [ab_fv, ab_wi, ab_up_nk _ _ hg]) rfl (fun x' k' hx => ab_up_ne _ _ hx) (fun _ _ _ => rfl) (fun _ _ _ => rfl) (fun _ hi => ab_inv_of hi rfl fun _ _ => rfl) (hK _ _ _ _ h_78)
    · rename_i h2
      obtain ⟨x, st, rfl, h_79⟩ := ab_prE h
      obtain ⟨r, st, rfl, h_80⟩ := ab_prE h_79
      obtain ⟨hok, h_81⟩ := ab_gE h_80
      have h0 : ab_knd f.1 f.2.1 = 2 := hknd.trans h2
      obtain ⟨⟨C, hty⟩, hnf⟩ := ab_kind2 hc7 hfk h0
      exact ab_xput (S' := ab_wr S r f.2.1 x) (v := .inr (.inr x)) hF hE hA (hd rfl) hres hok (by rw [hty]; cases x <;> rfl) (by rw [hty]; cases x <;> rfl) (Or.inl hnf) (by rw [ab_fvr (by omega)]; show ab_cv _ (.inr (.inr (ab_up _ _ _ _ _ _))) = _; rw [ab_up_eq]) (fun g hg => by simp only [ab_fv, ab_wr, ab_up_nk _ _ hg]) rfl (fun _ _ _ => rfl) (fun _ _ _ => rfl) (fun x' k' hx => ab_up_ne _ _ hx) (fun hm hi => ab_inv_of hi rfl fun y hy => by
          by_cases e1 : y.1 = r
          · by_cases e2 : y.2.1 = f.2.1
            · have hT := (ab_okE hok (fun _ => hi)).1
              exact absurd h0 (ab_fin_no hy (e1 ▸ hT) e2)
            · show ab_up _ _ _ _ _ _ = _
              rw [e1]
              exact ab_up_nk _ _ e2
          · exact ab_up_ne _ _ e1) (hK _ _ _ _ h_81)
    · rename_i h20 h21 h22
      obtain ⟨x, st, rfl, h_82⟩ := ab_prE h
      obtain ⟨r, st, rfl, h_83⟩ := ab_prE h_82
      obtain ⟨hok, h_84⟩ := ab_gE h_83
      simp only [Bool.and_eq_true, Bool.not_eq_true'] at hok
      obtain ⟨hm, hown, hok⟩ := hok
      have h0 : ab_knd f.1 f.2.1 = 3 := by
        have := ab_knd_lt f.1 f.2.1
        have : ab_knd f.1 f.2.1 ≠ 0 := fun q => h20 (hknd.symm.trans q)
        have : ab_knd f.1 f.2.1 ≠ 1 := fun q => h21 (hknd.symm.trans q)
        have : ab_knd f.1 f.2.1 ≠ 2 := fun q => h22 (hknd.symm.trans q)
        omega
      have hty := ab_kind3 hc7 hfk h0
      have hown := Nat.eq_of_beq_eq_true hown
      exact ab_xput (S' := ab_wr S r f.2.1 x) (v := .inr (.inr x)) hF hE hA (hd rfl) hres hok (ab_nrw hty x) (ab_fit hty x) (Or.inr ⟨by rw [hF.2.2.2.2.2.1]; exact ab_mdC k hk hm (by rw [← hown]; exact hc7), hown⟩) (by rw [ab_fvr (by omega)]; show ab_cv _ (.inr (.inr (ab_up _ _ _ _ _ _))) = _; rw [ab_up_eq]) (fun g hg => by simp only [ab_fv, ab_wr, ab_up_nk _ _ hg]) rfl (fun _ _ _ => rfl) (fun _ _ _ => rfl) (fun x' k' hx => ab_up_ne _ _ hx) (fun hm' => by rw [hm] at hm'; cases hm') (hK _ _ _ _ h_84)
  | getstatic i =>
    exact ab_xsta hF hE (hd rfl) (by simpa [ab_rsv] using hrv) (hK _ _ _ _ h)
  | arraylength =>
    obtain ⟨r, st, rfl, h_85⟩ := ab_prE h
    obtain ⟨hok, h_86⟩ := ab_gE h_85
    intro H locs ls hL hl hX
    obtain ⟨hT, h0, hlt⟩ := ab_okE hok hX.2.1
    obtain ⟨cell, q1, q2, q3, q4, q5, q6⟩ := (hX.1.1 r h0 hlt).2 (by omega)
    rw [hT] at q2
    rw [List.map_cons, ab_cvr h0]
    exact W.alen hF.1 hF.2.1 q1 q2 q4.2 rfl rfl (hd rfl) (hK _ _ _ _ h_86 H locs ls hL hl hX)
  | iaload =>
    obtain ⟨i, st, rfl, h_87⟩ := ab_piE h
    obtain ⟨r, st, rfl, h_88⟩ := ab_prE h_87
    obtain ⟨hok, h_89⟩ := ab_gE h_88
    obtain ⟨hin, h_90⟩ := ab_gE h_89
    intro H locs ls hL hl hX
    obtain ⟨cell, q1, q2, q3, q4, q5, q6, q7, q8, hT, h0, hlt⟩ := ab_arr hX hok (by decide) hin
    rw [List.map_cons, List.map_cons, ab_cvr h0]
    exact W.iald hF.1 hF.2.1 q1 q2 q3 q4 q5 rfl rfl (hd rfl) (hK _ _ _ _ h_90 H locs ls hL hl hX)
  | laload =>
    obtain ⟨i, st, rfl, h_91⟩ := ab_piE h
    obtain ⟨r, st, rfl, h_92⟩ := ab_prE h_91
    obtain ⟨hok, h_93⟩ := ab_gE h_92
    obtain ⟨hin, h_94⟩ := ab_gE h_93
    intro H locs ls hL hl hX
    obtain ⟨cell, q1, q2, q3, q4, q5, q6, q7, q8, hT, h0, hlt⟩ := ab_arr hX hok (by decide) hin
    rw [List.map_cons, List.map_cons, ab_cvr h0]
    exact W.lald hF.1 hF.2.1 q1 q2 q3 q4 q5 rfl rfl (hd rfl) (hK _ _ _ _ h_94 H locs ls hL hl hX)
  | caload =>
    obtain ⟨i, st, rfl, h_95⟩ := ab_piE h
    obtain ⟨r, st, rfl, h_96⟩ := ab_prE h_95
    obtain ⟨hok, h_97⟩ := ab_gE h_96
    obtain ⟨hin, h_98⟩ := ab_gE h_97
    intro H locs ls hL hl hX
    obtain ⟨cell, q1, q2, q3, q4, q5, q6, q7, q8, hT, h0, hlt⟩ := ab_arr hX hok (by decide) hin
    rw [List.map_cons, List.map_cons, ab_cvr h0]
    exact W.cald hF.1 hF.2.1 q1 q2 q3 q4 q5 rfl rfl (hd rfl) (hK _ _ _ _ h_98 H locs ls hL hl hX)
  | baload =>
    obtain ⟨i, st, rfl, h_99⟩ := ab_piE h
    obtain ⟨r, st, rfl, h_100⟩ := ab_prE h_99
    obtain ⟨hok, h_101⟩ := ab_gE h_100
    obtain ⟨hin, h_102⟩ := ab_gE h_101
    intro H locs ls hL hl hX
    obtain ⟨cell, q1, q2, q3, q4, q5, q6, q7, q8, hT, h0, hlt⟩ := ab_arr hX hok (by decide) hin
    rw [List.map_cons, List.map_cons, ab_cvr h0]
    exact W.zald hF.1 hF.2.1 q1 q2 q3 q4 q5 rfl rfl (hd rfl) (hK _ _ _ _ h_102 H locs ls hL hl hX)
  | aaload =>
    obtain ⟨i, st, rfl, h_103⟩ := ab_piE h
    obtain ⟨r, st, rfl, h_104⟩ := ab_prE h_103
    obtain ⟨hok, h_105⟩ := ab_gE h_104
    obtain ⟨hin, h_106⟩ := ab_gE h_105
    intro H locs ls hL hl hX
    obtain ⟨cell, q1, q2, q3, q4, q5, q6, q7, q8, hT, h0, hlt⟩ := ab_arr hX hok (by decide) hin
    rw [List.map_cons, List.map_cons, ab_cvr h0]
    exact W.aald hF.1 hF.2.1 q1 q2 rfl q3 q4 q5 rfl rfl (hd rfl) (hK _ _ _ _ h_106 H locs ls hL hl hX)
  | iastore =>
    obtain ⟨x, st, rfl, h_107⟩ := ab_piE h
    obtain ⟨i, st, rfl, h_108⟩ := ab_piE h_107
    obtain ⟨r, st, rfl, h_109⟩ := ab_prE h_108
    obtain ⟨hok, h_110⟩ := ab_gE h_109
    obtain ⟨hok, hr2⟩ := ab_ctE hok
    obtain ⟨hin, h_111⟩ := ab_gE h_110
    have hr2 : 2 < r := ab_blt hr2
    intro H locs ls hL hl hX
    obtain ⟨cell, q1, q2, q3, q4, q5, q6, q7, q8, hT, h0, hlt⟩ := ab_arr hX hok (by decide) hin
    rw [List.map_cons, List.map_cons, List.map_cons, ab_cvr h0]
    refine W.iast hF.1 hF.2.1 q1 q2 q3 q4 rfl rfl (hd rfl) fun H' e1 e2 e3 => ?_
    exact ab_xst (S' := ab_wi S r i.toNatClampNeg x) hA hX hr2 hlt hT (by decide) q2 q3 q6 q7 q8 e1 e2 e3 (by simp [ab_xv, ab_wi, ab_up_eq]; try rfl) (fun j hj => by simp only [ab_xv, ab_wi, ab_up_nk _ _ hj]) rfl (fun _ _ hx => ab_up_ne _ _ hx) (fun _ _ _ => rfl) (fun _ _ _ => rfl) (fun _ hi => ab_inv_of hi rfl fun _ _ => rfl) hL hl (hK _ _ _ _ h_111)
  | lastore =>
    obtain ⟨x, st, rfl, h_112⟩ := ab_plE h
    obtain ⟨i, st, rfl, h_113⟩ := ab_piE h_112
    obtain ⟨r, st, rfl, h_114⟩ := ab_prE h_113
    obtain ⟨hok, h_115⟩ := ab_gE h_114
    obtain ⟨hok, hr2⟩ := ab_ctE hok
    obtain ⟨hin, h_116⟩ := ab_gE h_115
    have hr2 : 2 < r := ab_blt hr2
    intro H locs ls hL hl hX
    obtain ⟨cell, q1, q2, q3, q4, q5, q6, q7, q8, hT, h0, hlt⟩ := ab_arr hX hok (by decide) hin
    rw [List.map_cons, List.map_cons, List.map_cons, ab_cvr h0]
    refine W.last hF.1 hF.2.1 q1 q2 q3 q4 rfl rfl (hd rfl) fun H' e1 e2 e3 => ?_
    exact ab_xst (S' := ab_wl S r i.toNatClampNeg x) hA hX hr2 hlt hT (by decide) q2 q3 q6 q7 q8 e1 e2 e3 (by simp [ab_xv, ab_wl, ab_up_eq]; try rfl) (fun j hj => by simp only [ab_xv, ab_wl, ab_up_nk _ _ hj]) rfl (fun _ _ _ => rfl) (fun _ _ hx => ab_up_ne _ _ hx) (fun _ _ _ => rfl) (fun _ hi => ab_inv_of hi rfl fun _ _ => rfl) hL hl (hK _ _ _ _ h_116)
  | castore =>
    obtain ⟨x, st, rfl, h_117⟩ := ab_piE h
    obtain ⟨i, st, rfl, h_118⟩ := ab_piE h_117
    obtain ⟨r, st, rfl, h_119⟩ := ab_prE h_118
    obtain ⟨hok, h_120⟩ := ab_gE h_119
    obtain ⟨hok, hr2⟩ := ab_ctE hok
    obtain ⟨hin, h_121⟩ := ab_gE h_120
    have hr2 : 2 < r := ab_blt hr2
    intro H locs ls hL hl hX
    obtain ⟨cell, q1, q2, q3, q4, q5, q6, q7, q8, hT, h0, hlt⟩ := ab_arr hX hok (by decide) hin
    rw [List.map_cons, List.map_cons, List.map_cons, ab_cvr h0]
    refine W.cast hF.1 hF.2.1 q1 q2 q3 q4 rfl rfl (hd rfl) fun H' e1 e2 e3 => ?_
    exact ab_xst (S' := ab_wi S r i.toNatClampNeg (ab_nc x)) hA hX hr2 hlt hT (by decide) q2 q3 q6 q7 q8 e1 e2 e3 (by simp [ab_xv, ab_wi, ab_up_eq]; try rfl) (fun j hj => by simp only [ab_xv, ab_wi, ab_up_nk _ _ hj]) rfl (fun _ _ hx => ab_up_ne _ _ hx) (fun _ _ _ => rfl) (fun _ _ _ => rfl) (fun _ hi => ab_inv_of hi rfl fun _ _ => rfl) hL hl (hK _ _ _ _ h_121)
  | bastore =>
    obtain ⟨x, st, rfl, h_122⟩ := ab_piE h
    obtain ⟨i, st, rfl, h_123⟩ := ab_piE h_122
    obtain ⟨r, st, rfl, h_124⟩ := ab_prE h_123
    obtain ⟨hok, h_125⟩ := ab_gE h_124
    obtain ⟨hok, hr2⟩ := ab_ctE hok
    obtain ⟨hin, h_126⟩ := ab_gE h_125
    have hr2 : 2 < r := ab_blt hr2
    intro H locs ls hL hl hX
    obtain ⟨cell, q1, q2, q3, q4, q5, q6, q7, q8, hT, h0, hlt⟩ := ab_arr hX hok (by decide) hin
    rw [List.map_cons, List.map_cons, List.map_cons, ab_cvr h0]
    refine W.zast hF.1 hF.2.1 q1 q2 q3 q4 rfl rfl (hd rfl) fun H' e1 e2 e3 => ?_
    exact ab_xst (S' := ab_wi S r i.toNatClampNeg (ab_nz x)) hA hX hr2 hlt hT (by decide) q2 q3 q6 q7 q8 e1 e2 e3 (by simp [ab_xv, ab_wi, ab_up_eq]; try rfl) (fun j hj => by simp only [ab_xv, ab_wi, ab_up_nk _ _ hj]) rfl (fun _ _ hx => ab_up_ne _ _ hx) (fun _ _ _ => rfl) (fun _ _ _ => rfl) (fun _ hi => ab_inv_of hi rfl fun _ _ => rfl) hL hl (hK _ _ _ _ h_126)
  | aastore =>
    obtain ⟨x, st, rfl, h_127⟩ := ab_prE h
    obtain ⟨i, st, rfl, h_128⟩ := ab_piE h_127
    obtain ⟨r, st, rfl, h_129⟩ := ab_prE h_128
    obtain ⟨hok, h_130⟩ := ab_gE h_129
    simp only [Bool.and_eq_true] at hok
    obtain ⟨hok, hr2, hokx⟩ := hok
    obtain ⟨hin, h_131⟩ := ab_gE h_130
    have hr2 : 2 < r := ab_blt hr2
    intro H locs ls hL hl hX
    obtain ⟨cell, q1, q2, q3, q4, q5, q6, q7, q8, hT, h0, hlt⟩ := ab_arr hX hok (by decide) hin
    obtain ⟨hTx, hx0, hxlt⟩ := ab_okE hokx hX.2.1
    obtain ⟨cellV, v1, v2, v3, -⟩ := (hX.1.1 x hx0 hxlt).1 (by rw [hTx]; decide)
    rw [hTx] at v2
    obtain ⟨kA, g1, g2⟩ := q8 rfl
    have hcls := (hE.2.1.1 2 _ (ab_cl_at (by decide))).2
    obtain ⟨kC, hkC, -⟩ := hcls.2
    rw [List.map_cons, List.map_cons, List.map_cons, ab_cvr h0, ab_cvr hx0]
    have q4' : ¬ i < 0 ∧ i.toNatClampNeg < cell.slots.size := ⟨fun z => q4 (Or.inl z), Nat.not_le.mp fun z => q4 (Or.inr z)⟩
    refine W.aast hF.1 hF.2.1 q1 q2.1 q3 g1 g2 rfl hkC q4' v1 (fun z hz => by rw [v3] at hz; cases hz) (by rw [v2]; exact hkC) (by rw [v2]; exact va_assign hcls) rfl rfl (hd rfl) fun H' e1 e2 e3 => ?_
    exact ab_xst (S' := ab_wr S r i.toNatClampNeg x) hA hX hr2 hlt hT (by decide) q2 q3 q6 q7 q8 e1 e2 e3 (by show ab_cv _ (.inr (.inr (ab_up _ _ _ _ _ _))) = _; rw [ab_up_eq, ab_cvr hx0]) (fun j hj => by show ab_cv _ (.inr (.inr (ab_up _ _ _ _ _ _))) = _; rw [ab_up_nk _ _ hj]; rfl) rfl (fun _ _ _ => rfl) (fun _ _ _ => rfl) (fun _ _ hx => ab_up_ne _ _ hx) (fun _ hi => ab_inv_of hi rfl fun y hy => ab_up_ne _ _ fun e1 => absurd hT (by rw [← e1]; exact ab_fin_ob hy)) hL hl (hK _ _ _ _ h_131)
  | new i =>
    unfold ab_ex at h
    dsimp only at h
    split at h
    · rename_i hf0
      obtain ⟨hg, h_132⟩ := ab_gE h
      simp only [Bool.and_eq_true, Bool.not_eq_true'] at hg
      have hmm := hKm _ _ _ _ h_132
      have m1 : S.2.2.2.2.1 + 1 ≤ r.2.2.2.2.2.1 := hmm.1
      have m2 : S.2.2.2.2.2 + f.2.2 ≤ r.2.2.2.2.2.2 := hmm.2
      exact ab_xnew hF hE hA (hd rfl) (ab_rvC (ab_ctE hrv).1) hf0 hg.1 (ab_blt hg.2.1) (Nat.eq_of_beq_eq_true hg.2.2) (by omega) (by omega) (hK _ _ _ _ h_132)
    · rename_i hf1
      obtain ⟨hg, h_133⟩ := ab_gE h
      simp only [Bool.and_eq_true] at hg
      cases h_133
      exact hHT p e R s m args below meth c n0 z0 k pc i f L st S hF hE hch hf1 hg.1 (Nat.le_of_ble_eq_true hg.2) (by omega) (by omega) hce hsl
    · cases h
  | newarray t =>
    obtain ⟨n, st, rfl, h_134⟩ := ab_piE h
    obtain ⟨hg, h_135⟩ := ab_gE h_134
    simp only [Bool.and_eq_true, Bool.not_eq_true', decide_eq_false_iff_not] at hg
    obtain ⟨hm, hlt, hT, hn, hN⟩ := hg
    have hlt : S.2.2.2.1 < ab_C := ab_blt hlt
    have hT := Nat.eq_of_beq_eq_true hT
    have hN := Nat.eq_of_beq_eq_true hN
    have hmm := hKm _ _ _ _ h_135
    have m1 : S.2.2.2.2.1 + 1 ≤ r.2.2.2.2.2.1 := hmm.1
    have m2 : S.2.2.2.2.2 + n.toNatClampNeg ≤ r.2.2.2.2.2.2 := hmm.2
    intro H locs ls hL hl hX
    have h3 := hX.1.2.1
    exact ab_xnewa hF hE hA (hd rfl) hm hlt hT (ab_atF h3 hlt hT) hn hN (by rw [hN]; exact ab_NF q h3 hlt) (by omega) (by omega) (hK _ _ _ _ h_135) H locs ls hL hl hX
  | anewarray i =>
    obtain ⟨n, st, rfl, h_136⟩ := ab_piE h
    obtain ⟨hg, h_137⟩ := ab_gE h_136
    simp only [Bool.and_eq_true, Bool.not_eq_true', decide_eq_false_iff_not] at hg
    obtain ⟨hf2, hm, hlt, hT, hn, hN⟩ := hg
    have hlt : S.2.2.2.1 < ab_C := ab_blt hlt
    have hT := Nat.eq_of_beq_eq_true hT
    have hN := Nat.eq_of_beq_eq_true hN
    have hmm := hKm _ _ _ _ h_137
    have m1 : S.2.2.2.2.1 + 1 ≤ r.2.2.2.2.2.1 := hmm.1
    have m2 : S.2.2.2.2.2 + n.toNatClampNeg ≤ r.2.2.2.2.2.2 := hmm.2
    intro H locs ls hL hl hX
    have h3 := hX.1.2.1
    exact ab_xanew hF hE hA (hd rfl) (ab_rvC hrv) ⟨Nat.eq_of_beq_eq_true hf2.1, Nat.eq_of_beq_eq_true hf2.2⟩ hm hlt hT hn hN (by rw [hN]; exact ab_NF q h3 hlt) (by omega) (by omega) (hK _ _ _ _ h_137) H locs ls hL hl hX
  | invokevirtual i =>
    obtain ⟨hf0, h_138⟩ := ab_gE h
    obtain ⟨hth, h_139⟩ := ab_gE h_138
    have hf0 := Nat.eq_of_beq_eq_true hf0
    have hres : (ab_own k, i, 0, f.2.1, f.2.2) ∈ ab_mtl := by have := ab_rvM hrv (by omega); rw [← hf0]; exact this
    refine ab_doW hHC hF hE hA ih hch rfl (hd rfl) (ab_mtl_v hres).1 (fun H locs ls hX hls T hT X hn => ?_) h_139 hfr hlo hce hsl hKm hK
    obtain ⟨r', e1, e2, e3⟩ := ab_thkE hth hn (ab_mtl_p hres (by decide))
    obtain ⟨hTr, h0, hlt⟩ := ab_okE e3 hX.2.1
    have hj := (ab_mtl_v hres).1
    obtain ⟨cell, q1, q2, q3, -⟩ := (hX.1.1 r' h0 hlt).1 (by omega)
    rw [hTr, Nat.add_sub_cancel_left] at q2
    rw [e1, List.map_cons, ab_cvr h0]
    refine ab_inV hF hE X hres rfl (b := ab_ad sa wa B r') (by have := ab_mtl_p hres (by decide); simp; omega) ?_ (by rw [hF.2.1]; exact hd rfl) (by rw [hT]; exact q1) q3 ?_
    · show st.map _ = _
      rw [e2, ab_cvr h0]
    · rw [q2, ← ab_cnF hj]
      exact ((hE.2.1.1 (ab_own f.2.1) _ (ab_cl_at (ab_mtl_c hres (by decide)))).2).1
  | invokestatic i =>
    unfold ab_ex at h
    dsimp only at h
    split at h
    · rename_i hf1
      have hres : (ab_own k, i, 1, f.2.1, f.2.2) ∈ ab_mtl := by have := ab_rvM hrv (by omega); rw [← hf1]; exact this
      refine ab_doW hHC hF hE hA ih hch rfl (hd rfl) (ab_mtl_s hres).1 (fun H locs ls hX hls T hT X hn => ?_) h hfr hlo hce hsl hKm hK
      refine ab_inS hF hE X hres rfl (by simp; omega) ?_ (by rw [hF.2.1]; exact hd rfl)
      show st.map _ = _
      rw [← List.map_reverse, List.reverse_reverse, ← List.map_append, List.take_append_drop]
    · rename_i hf9
      obtain ⟨n, st, rfl, h_140⟩ := ab_piE h
      obtain ⟨dp, st, rfl, h_141⟩ := ab_piE h_140
      obtain ⟨o, st, rfl, h_142⟩ := ab_prE h_141
      obtain ⟨sp, st, rfl, h_143⟩ := ab_piE h_142
      obtain ⟨a, st, rfl, h_144⟩ := ab_prE h_143
      obtain ⟨hg1, h_145⟩ := ab_gE h_144
      obtain ⟨hg2, h_146⟩ := ab_gE h_145
      exact ab_xcopy hF hE hA (hd rfl) (by have := ab_rvM hrv (by omega); rw [← hf9]; exact this) (by omega) (by omega) hg1 hg2 (hK _ _ _ _ h_146)
    · cases h
  | invokespecial i =>
    unfold ab_ex at h
    dsimp only at h
    split at h
    · rename_i hf2
      obtain ⟨hth, h_147⟩ := ab_gE h
      have hres : (ab_own k, i, 2, f.2.1, f.2.2) ∈ ab_mtl := by have := ab_rvM hrv (by omega); rw [← hf2]; exact this
      refine ab_doW hHC hF hE hA ih hch rfl (hd rfl) (ab_mtl_i hres).1 (fun H locs ls hX hls T hT X hn => ?_) h_147 hfr hlo hce hsl hKm hK
      obtain ⟨r', e1, e2, e3⟩ := ab_thkE hth hn (ab_mtl_p hres (by decide))
      obtain ⟨hTr, h0, hlt⟩ := ab_okE e3 hX.2.1
      rw [e1, List.map_cons, ab_cvr h0]
      refine ab_inI hF hE X hres rfl (b := ab_ad sa wa B r') (by have := ab_mtl_p hres (by decide); simp; omega) ?_ (by rw [hF.2.1]; exact hd rfl)
      show st.map _ = _
      rw [e2, ab_cvr h0]
    · rename_i hf8
      obtain ⟨r', st, rfl, h_148⟩ := ab_prE h
      obtain ⟨hg, h_149⟩ := ab_gE h_148
      simp only [Bool.and_eq_true] at hg
      have h0 : 0 < r' := ab_blt hg.1
      intro H locs ls hL hl hX
      obtain ⟨w1, w2, w3⟩ := ab_mtl_o (by have := ab_rvM hrv (by omega); rw [← hf8]; exact this)
      rw [List.map_cons, ab_cvr h0]
      have hcat := ab_cats (ab_ad sa wa B) st
      have h8 := Nat.le_of_ble_eq_true hg.2
      exact W.objInit hF.1 hF.2.1 hF.2.2.2.2.2.2.1 (hE.word w1 args) (hE.word w2 args) (hE.word w3 args) rfl (by rw [hF.2.2.1, ← hl]; exact hL.1) rfl (hd rfl) (by omega) (by show 2 * 0 + _ + 12 ≤ _; omega) (hK _ _ _ _ h_149 H locs ls hL hl hX)
    · cases h
  | ireturn =>
    unfold ab_ex at h
    dsimp only at h
    split at h
    · split at h
      · rename_i hr
        cases h
        exact ab_xiret hF (hd rfl) (ab_ret1C k hk hr) rfl rfl (by unfold ab_ov; rw [hr]; rfl)
      · rename_i hr
        cases h
        exact ab_xiret hF (hd rfl) (ab_ret4C k hk hr) rfl rfl (by unfold ab_ov; rw [hr]; rfl)
      · rename_i hr
        cases h
        exact ab_xiret hF (hd rfl) (ab_ret5C k hk hr) rfl rfl (by unfold ab_ov; rw [hr]; rfl)
      · cases h
    · cases h
  | lreturn =>
    unfold ab_ex at h
    dsimp only at h
    split at h
    · cases hb : Nat.beq (ab_ret k) 2 with
      | true =>
        rw [hb] at h
        cases h
        have hr := Nat.eq_of_beq_eq_true hb
        exact ab_xlret hF (hd rfl) (ab_ret2C k hk hr) rfl (by simp [ab_ov, hr])
      | false => rw [hb] at h; cases h
    · cases h
  | areturn =>
    unfold ab_ex at h
    dsimp only at h
    split at h
    · cases hb : Nat.beq (ab_ret k) 3 with
      | true =>
        rw [hb] at h
        cases h
        have hr := Nat.eq_of_beq_eq_true hb
        exact ab_xaret hF (hd rfl) (ab_ret3C k hk hr) rfl (by simp [ab_ov, hr])
      | false => rw [hb] at h; cases h
    · cases h
  | return_ =>
    unfold ab_ex at h
    dsimp only at h
    split at h
    · cases hb : Nat.beq (ab_ret k) 0 with
      | true =>
        rw [hb] at h
        cases h
        have hr := Nat.eq_of_beq_eq_true hb
        exact ab_xvret hF (hd rfl) (ab_ret0C k hk hr) rfl (by simp [ab_ov, hr])
      | false => rw [hb] at h; cases h
    · cases h
  | _ => exact nomatch (show (none : ab_R) = some r from h)
end ab_all
