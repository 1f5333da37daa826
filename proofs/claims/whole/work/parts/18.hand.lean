-- Catching: where, what, and the int that is answered: method, exception, entry, place, local, length of the store, answer.
def ab_hdl : List (Nat × Nat × Nat × Nat × Nat × Nat × Int32) := [(121, 1, 0, 19, 3, 1, 1), (122, 2, 0, 12, 3, 1, 1), (122, 1, 1, 15, 3, 1, 2), (123, 2, 0, 19, 3, 1, 1), (124, 1, 0, 11, 2, 1, 1), (125, 1, 0, 12, 3, 1, 1), (125, 2, 1, 15, 3, 1, 2), (126, 1, 0, 11, 3, 1, 1), (126, 2, 1, 14, 3, 1, 2), (127, 1, 0, 12, 3, 1, 1), (127, 2, 1, 15, 3, 1, 2), (128, 2, 0, 12, 3, 1, 1), (128, 3, 1, 15, 3, 1, 2), (128, 4, 2, 18, 3, 1, 3), (129, 2, 0, 19, 3, 1, 1), (129, 3, 1, 22, 3, 1, 2), (129, 4, 2, 25, 3, 1, 3), (129, 1, 3, 28, 3, 1, 4), (130, 2, 0, 20, 4, 2, 1), (130, 3, 1, 24, 4, 2, 2), (130, 4, 2, 28, 4, 2, 3), (130, 1, 3, 32, 4, 2, 4)]
def ab_hx (k : Nat) : List Nat := (ab_br k 126 (ab_br k 123 (ab_br k 122 (ab_le0 k 121 [1] []) (ab_le0 k 122 [2, 1] [])) (ab_br k 124 (ab_le0 k 123 [2] []) (ab_br k 125 (ab_le0 k 124 [1] []) (ab_le0 k 125 [1, 2] [])))) (ab_br k 128 (ab_br k 127 (ab_le0 k 126 [1, 2] []) (ab_le0 k 127 [1, 2] [])) (ab_br k 129 (ab_le0 k 128 [2, 3, 4] []) (ab_br k 130 (ab_le0 k 129 [2, 3, 4, 1] []) (ab_le0 k 130 [2, 3, 4, 1] [])))))
theorem ab_brE {α : Type} {i c : Nat} {a b : Option α} {v : α} (h : ab_br i c a b = some v) : a = some v ∨ b = some v := by
  unfold ab_br at h
  cases hb : Nat.blt i c with
  | true => rw [hb] at h; exact Or.inl h
  | false => rw [hb] at h; exact Or.inr h
theorem ab_leE {α : Type} {i c : Nat} {a b : Option α} {v : α} (h : ab_le0 i c a b = some v) : (i = c ∧ a = some v) ∨ b = some v := by
  unfold ab_le0 at h
  cases hb : Nat.beq i c with
  | true => rw [hb] at h; exact Or.inl ⟨Nat.eq_of_beq_eq_true hb, h⟩
  | false => rw [hb] at h; exact Or.inr h
theorem ab_hndE {k x : Nat} {v : Int32} (h : ab_hnd k x = some v) : ∃ n hp ai sz, (k, x, n, hp, ai, sz, v) ∈ ab_hdl := by
  unfold ab_hnd at h
  rcases ab_brE h with h_1 | h_2
  · skip
    rcases ab_brE h_1 with h_3 | h_4
    · skip
      rcases ab_brE h_3 with h_5 | h_6
      · skip
        rcases ab_leE h_5 with ⟨e_7, h_8⟩ | h_9
        · skip
          rcases ab_leE h_8 with ⟨e_10, h_11⟩ | h_12
          · skip
            have := Option.some.inj h_11
            exact ⟨0, 19, 3, 1, by rw [e_7, e_10, ← this]; simp [ab_hdl]⟩
          · exact nomatch h_12
        · exact nomatch h_9
      · skip
        rcases ab_leE h_6 with ⟨e_13, h_14⟩ | h_15
        · skip
          rcases ab_brE h_14 with h_16 | h_17
          · skip
            rcases ab_leE h_16 with ⟨e_18, h_19⟩ | h_20
            · skip
              have := Option.some.inj h_19
              exact ⟨1, 15, 3, 1, by rw [e_13, e_18, ← this]; simp [ab_hdl]⟩
            · exact nomatch h_20
          · skip
            rcases ab_leE h_17 with ⟨e_21, h_22⟩ | h_23
            · skip
              have := Option.some.inj h_22
              exact ⟨0, 12, 3, 1, by rw [e_13, e_21, ← this]; simp [ab_hdl]⟩
            · exact nomatch h_23
        · exact nomatch h_15
    · skip
      rcases ab_brE h_4 with h_24 | h_25
      · skip
        rcases ab_leE h_24 with ⟨e_26, h_27⟩ | h_28
        · skip
          rcases ab_leE h_27 with ⟨e_29, h_30⟩ | h_31
          · skip
            have := Option.some.inj h_30
            exact ⟨0, 19, 3, 1, by rw [e_26, e_29, ← this]; simp [ab_hdl]⟩
          · exact nomatch h_31
        · exact nomatch h_28
      · skip
        rcases ab_brE h_25 with h_32 | h_33
        · skip
          rcases ab_leE h_32 with ⟨e_34, h_35⟩ | h_36
          · skip
            rcases ab_leE h_35 with ⟨e_37, h_38⟩ | h_39
            · skip
              have := Option.some.inj h_38
              exact ⟨0, 11, 2, 1, by rw [e_34, e_37, ← this]; simp [ab_hdl]⟩
            · exact nomatch h_39
          · exact nomatch h_36
        · skip
          rcases ab_leE h_33 with ⟨e_40, h_41⟩ | h_42
          · skip
            rcases ab_brE h_41 with h_43 | h_44
            · skip
              rcases ab_leE h_43 with ⟨e_45, h_46⟩ | h_47
              · skip
                have := Option.some.inj h_46
                exact ⟨0, 12, 3, 1, by rw [e_40, e_45, ← this]; simp [ab_hdl]⟩
              · exact nomatch h_47
            · skip
              rcases ab_leE h_44 with ⟨e_48, h_49⟩ | h_50
              · skip
                have := Option.some.inj h_49
                exact ⟨1, 15, 3, 1, by rw [e_40, e_48, ← this]; simp [ab_hdl]⟩
              · exact nomatch h_50
          · exact nomatch h_42
  · skip
    rcases ab_brE h_2 with h_51 | h_52
    · skip
      rcases ab_brE h_51 with h_53 | h_54
      · skip
        rcases ab_leE h_53 with ⟨e_55, h_56⟩ | h_57
        · skip
          rcases ab_brE h_56 with h_58 | h_59
          · skip
            rcases ab_leE h_58 with ⟨e_60, h_61⟩ | h_62
            · skip
              have := Option.some.inj h_61
              exact ⟨0, 11, 3, 1, by rw [e_55, e_60, ← this]; simp [ab_hdl]⟩
            · exact nomatch h_62
          · skip
            rcases ab_leE h_59 with ⟨e_63, h_64⟩ | h_65
            · skip
              have := Option.some.inj h_64
              exact ⟨1, 14, 3, 1, by rw [e_55, e_63, ← this]; simp [ab_hdl]⟩
            · exact nomatch h_65
        · exact nomatch h_57
      · skip
        rcases ab_leE h_54 with ⟨e_66, h_67⟩ | h_68
        · skip
          rcases ab_brE h_67 with h_69 | h_70
          · skip
            rcases ab_leE h_69 with ⟨e_71, h_72⟩ | h_73
            · skip
              have := Option.some.inj h_72
              exact ⟨0, 12, 3, 1, by rw [e_66, e_71, ← this]; simp [ab_hdl]⟩
            · exact nomatch h_73
          · skip
            rcases ab_leE h_70 with ⟨e_74, h_75⟩ | h_76
            · skip
              have := Option.some.inj h_75
              exact ⟨1, 15, 3, 1, by rw [e_66, e_74, ← this]; simp [ab_hdl]⟩
            · exact nomatch h_76
        · exact nomatch h_68
    · skip
      rcases ab_brE h_52 with h_77 | h_78
      · skip
        rcases ab_leE h_77 with ⟨e_79, h_80⟩ | h_81
        · skip
          rcases ab_brE h_80 with h_82 | h_83
          · skip
            rcases ab_leE h_82 with ⟨e_84, h_85⟩ | h_86
            · skip
              have := Option.some.inj h_85
              exact ⟨0, 12, 3, 1, by rw [e_79, e_84, ← this]; simp [ab_hdl]⟩
            · exact nomatch h_86
          · skip
            rcases ab_brE h_83 with h_87 | h_88
            · skip
              rcases ab_leE h_87 with ⟨e_89, h_90⟩ | h_91
              · skip
                have := Option.some.inj h_90
                exact ⟨1, 15, 3, 1, by rw [e_79, e_89, ← this]; simp [ab_hdl]⟩
              · exact nomatch h_91
            · skip
              rcases ab_leE h_88 with ⟨e_92, h_93⟩ | h_94
              · skip
                have := Option.some.inj h_93
                exact ⟨2, 18, 3, 1, by rw [e_79, e_92, ← this]; simp [ab_hdl]⟩
              · exact nomatch h_94
        · exact nomatch h_81
      · skip
        rcases ab_brE h_78 with h_95 | h_96
        · skip
          rcases ab_leE h_95 with ⟨e_97, h_98⟩ | h_99
          · skip
            rcases ab_brE h_98 with h_100 | h_101
            · skip
              rcases ab_brE h_100 with h_102 | h_103
              · skip
                rcases ab_leE h_102 with ⟨e_104, h_105⟩ | h_106
                · skip
                  have := Option.some.inj h_105
                  exact ⟨3, 28, 3, 1, by rw [e_97, e_104, ← this]; simp [ab_hdl]⟩
                · exact nomatch h_106
              · skip
                rcases ab_leE h_103 with ⟨e_107, h_108⟩ | h_109
                · skip
                  have := Option.some.inj h_108
                  exact ⟨0, 19, 3, 1, by rw [e_97, e_107, ← this]; simp [ab_hdl]⟩
                · exact nomatch h_109
            · skip
              rcases ab_brE h_101 with h_110 | h_111
              · skip
                rcases ab_leE h_110 with ⟨e_112, h_113⟩ | h_114
                · skip
                  have := Option.some.inj h_113
                  exact ⟨1, 22, 3, 1, by rw [e_97, e_112, ← this]; simp [ab_hdl]⟩
                · exact nomatch h_114
              · skip
                rcases ab_leE h_111 with ⟨e_115, h_116⟩ | h_117
                · skip
                  have := Option.some.inj h_116
                  exact ⟨2, 25, 3, 1, by rw [e_97, e_115, ← this]; simp [ab_hdl]⟩
                · exact nomatch h_117
          · exact nomatch h_99
        · skip
          rcases ab_leE h_96 with ⟨e_118, h_119⟩ | h_120
          · skip
            rcases ab_brE h_119 with h_121 | h_122
            · skip
              rcases ab_brE h_121 with h_123 | h_124
              · skip
                rcases ab_leE h_123 with ⟨e_125, h_126⟩ | h_127
                · skip
                  have := Option.some.inj h_126
                  exact ⟨3, 32, 4, 2, by rw [e_118, e_125, ← this]; simp [ab_hdl]⟩
                · exact nomatch h_127
              · skip
                rcases ab_leE h_124 with ⟨e_128, h_129⟩ | h_130
                · skip
                  have := Option.some.inj h_129
                  exact ⟨0, 20, 4, 2, by rw [e_118, e_128, ← this]; simp [ab_hdl]⟩
                · exact nomatch h_130
            · skip
              rcases ab_brE h_122 with h_131 | h_132
              · skip
                rcases ab_leE h_131 with ⟨e_133, h_134⟩ | h_135
                · skip
                  have := Option.some.inj h_134
                  exact ⟨1, 24, 4, 2, by rw [e_118, e_133, ← this]; simp [ab_hdl]⟩
                · exact nomatch h_135
              · skip
                rcases ab_leE h_132 with ⟨e_136, h_137⟩ | h_138
                · skip
                  have := Option.some.inj h_137
                  exact ⟨2, 28, 4, 2, by rw [e_118, e_136, ← this]; simp [ab_hdl]⟩
                · exact nomatch h_138
          · exact nomatch h_120
theorem ab_hdD : ∀ y ∈ ab_hdl, (y.2.2.2.2.2.1 = 1 ∨ y.2.2.2.2.2.1 = 2) ∧ y.2.2.2.2.1 < ab_mxl y.1 ∧ (ab_hx y.1)[y.2.2.1]? = some y.2.1 ∧ (ab_hx y.1).length = (ab_ht y.1).length ∧ ((ab_ht y.1)[y.2.2.1]?).map (fun h => h.2.2.1) = some y.2.2.2.1 ∧ ab_ret y.1 = 1 ∧ (1 ≤ y.2.1 ∧ y.2.1 < 5) ∧
    (∀ i, i < y.2.2.1 → ∀ z ∈ (ab_hx y.1)[i]?, (y.2.1, z) ∈ ab_ncl) := by decide +kernel
theorem ab_hdE : ∀ y ∈ ab_hdl, (match decode (ab_by y.1) y.2.2.2.1 with | .ok (.astore_n i, 1) => Nat.beq y.2.2.2.2.2.1 1 && Nat.beq i.val y.2.2.2.2.1 | .ok (.astore i, 2) => Nat.beq y.2.2.2.2.2.1 2 && Nat.beq i y.2.2.2.2.1 | _ => false) = true ∧
    (match decode (ab_by y.1) (y.2.2.2.1 + y.2.2.2.2.2.1) with | .ok (.iconst n, 1) => decide (Int32.ofInt n = y.2.2.2.2.2.2) | _ => false) = true ∧ decode (ab_by y.1) (y.2.2.2.1 + y.2.2.2.2.2.1 + 1) = .ok (.ireturn, 1) := by decide +kernel
def ab_hlk : List (Nat × Nat × Nat) := [(121, 0, 1), (122, 0, 2), (122, 1, 1), (123, 0, 2), (124, 0, 1), (125, 0, 1), (125, 1, 2), (126, 0, 1), (126, 1, 2), (127, 0, 1), (127, 1, 2), (128, 0, 2), (128, 1, 3), (128, 2, 4), (129, 0, 2), (129, 1, 3), (129, 2, 4), (129, 3, 1), (130, 0, 2), (130, 1, 3), (130, 2, 4), (130, 3, 1)]
def ab_hw (y : Nat × Nat × Nat) : Jvm.Cond := .classLink "ShapedItemsLaw" (((ab_ht y.1)[y.2.1]?).map (fun h => h.2.2.2)).get! (ab_xn y.2.2)
theorem ab_hwW : ∀ y ∈ ab_hlk, ab_hw y ∈ lw_tbl := ab_zipW _ _ [251, 335, 251, 335, 251, 251, 335, 251, 335, 251, 335, 335, 526, 527, 335, 526, 527, 251, 335, 526, 527, 251] (by decide +kernel) (by decide +kernel)
theorem ab_hlC : ∀ k, k < ab_M + 1 → ∀ n, n < (ab_hx k).length → ab_hlk.contains (k, n, ((ab_hx k)[n]?).getD 0) = true ∧ ab_own k = 7 ∧ ¬ (((ab_ht k)[n]?).map (fun h => h.2.2.2)).get! = 0 := by decide +kernel
