-- The code tables are the code: checked.
def ab_c1 (k pc : Nat) : Bool := match ab_int k pc with
  | none => true
  | some x => ab_chk k pc x.1 x.2
def ab_ck (k a n : Nat) : Bool := (List.range n).all fun i => ab_c1 k (a + i)
theorem ab_ckE {k a n pc : Nat} (h : ab_ck k a n = true) (h1 : a ≤ pc) (h2 : pc < a + n) : ab_c1 k pc = true := by
  have := List.all_eq_true.mp h (pc - a) (List.mem_range.mpr (by omega))
  rwa [show a + (pc - a) = pc by omega] at this
theorem ab_k0_0 : ab_ck 0 0 65 = true := by decide +kernel
theorem ab_k1_0 : ab_ck 1 0 61 = true := by decide +kernel
theorem ab_k2_0 : ab_ck 2 0 54 = true := by decide +kernel
theorem ab_k3_0 : ab_ck 3 0 31 = true := by decide +kernel
theorem ab_k4_0 : ab_ck 4 0 10 = true := by decide +kernel
theorem ab_k5_0 : ab_ck 5 0 8 = true := by decide +kernel
theorem ab_k6_0 : ab_ck 6 0 12 = true := by decide +kernel
theorem ab_k7_0 : ab_ck 7 0 15 = true := by decide +kernel
theorem ab_k8_0 : ab_ck 8 0 15 = true := by decide +kernel
theorem ab_k9_0 : ab_ck 9 0 15 = true := by decide +kernel
theorem ab_k10_0 : ab_ck 10 0 9 = true := by decide +kernel
theorem ab_k11_0 : ab_ck 11 0 20 = true := by decide +kernel
theorem ab_k12_0 : ab_ck 12 0 21 = true := by decide +kernel
theorem ab_k13_0 : ab_ck 13 0 12 = true := by decide +kernel
theorem ab_k14_0 : ab_ck 14 0 18 = true := by decide +kernel
theorem ab_k15_0 : ab_ck 15 0 45 = true := by decide +kernel
theorem ab_k16_0 : ab_ck 16 0 21 = true := by decide +kernel
theorem ab_k17_0 : ab_ck 17 0 21 = true := by decide +kernel
theorem ab_k18_0 : ab_ck 18 0 30 = true := by decide +kernel
theorem ab_k19_0 : ab_ck 19 0 62 = true := by decide +kernel
theorem ab_k20_0 : ab_ck 20 0 53 = true := by decide +kernel
theorem ab_k21_0 : ab_ck 21 0 77 = true := by decide +kernel
theorem ab_k22_0 : ab_ck 22 0 17 = true := by decide +kernel
theorem ab_k23_0 : ab_ck 23 0 55 = true := by decide +kernel
theorem ab_k24_0 : ab_ck 24 0 64 = true := by decide +kernel
theorem ab_k24_64 : ab_ck 24 64 64 = true := by decide +kernel
theorem ab_k24_128 : ab_ck 24 128 53 = true := by decide +kernel
theorem ab_k25_0 : ab_ck 25 0 64 = true := by decide +kernel
theorem ab_k25_64 : ab_ck 25 64 29 = true := by decide +kernel
theorem ab_k26_0 : ab_ck 26 0 64 = true := by decide +kernel
theorem ab_k26_64 : ab_ck 26 64 22 = true := by decide +kernel
theorem ab_k27_0 : ab_ck 27 0 71 = true := by decide +kernel
theorem ab_k28_0 : ab_ck 28 0 39 = true := by decide +kernel
theorem ab_k29_0 : ab_ck 29 0 25 = true := by decide +kernel
theorem ab_k30_0 : ab_ck 30 0 29 = true := by decide +kernel
theorem ab_k31_0 : ab_ck 31 0 64 = true := by decide +kernel
theorem ab_k31_64 : ab_ck 31 64 21 = true := by decide +kernel
theorem ab_k32_0 : ab_ck 32 0 26 = true := by decide +kernel
theorem ab_k33_0 : ab_ck 33 0 28 = true := by decide +kernel
theorem ab_k34_0 : ab_ck 34 0 28 = true := by decide +kernel
theorem ab_k35_0 : ab_ck 35 0 16 = true := by decide +kernel
theorem ab_k36_0 : ab_ck 36 0 83 = true := by decide +kernel
theorem ab_k37_0 : ab_ck 37 0 12 = true := by decide +kernel
theorem ab_k38_0 : ab_ck 38 0 33 = true := by decide +kernel
theorem ab_k39_0 : ab_ck 39 0 15 = true := by decide +kernel
theorem ab_k40_0 : ab_ck 40 0 31 = true := by decide +kernel
theorem ab_k41_0 : ab_ck 41 0 22 = true := by decide +kernel
theorem ab_k42_0 : ab_ck 42 0 24 = true := by decide +kernel
theorem ab_k43_0 : ab_ck 43 0 56 = true := by decide +kernel
theorem ab_k44_0 : ab_ck 44 0 64 = true := by decide +kernel
theorem ab_k44_64 : ab_ck 44 64 64 = true := by decide +kernel
theorem ab_k44_128 : ab_ck 44 128 53 = true := by decide +kernel
theorem ab_k45_0 : ab_ck 45 0 42 = true := by decide +kernel
theorem ab_k46_0 : ab_ck 46 0 75 = true := by decide +kernel
theorem ab_k47_0 : ab_ck 47 0 64 = true := by decide +kernel
theorem ab_k47_64 : ab_ck 47 64 37 = true := by decide +kernel
theorem ab_k48_0 : ab_ck 48 0 64 = true := by decide +kernel
theorem ab_k48_64 : ab_ck 48 64 20 = true := by decide +kernel
theorem ab_k49_0 : ab_ck 49 0 70 = true := by decide +kernel
theorem ab_k50_0 : ab_ck 50 0 64 = true := by decide +kernel
theorem ab_k50_64 : ab_ck 50 64 36 = true := by decide +kernel
theorem ab_k51_0 : ab_ck 51 0 73 = true := by decide +kernel
theorem ab_k52_0 : ab_ck 52 0 64 = true := by decide +kernel
theorem ab_k52_64 : ab_ck 52 64 64 = true := by decide +kernel
theorem ab_k52_128 : ab_ck 52 128 32 = true := by decide +kernel
theorem ab_k53_0 : ab_ck 53 0 51 = true := by decide +kernel
theorem ab_k54_0 : ab_ck 54 0 38 = true := by decide +kernel
theorem ab_k55_0 : ab_ck 55 0 80 = true := by decide +kernel
theorem ab_k56_0 : ab_ck 56 0 41 = true := by decide +kernel
theorem ab_k57_0 : ab_ck 57 0 48 = true := by decide +kernel
theorem ab_k58_0 : ab_ck 58 0 59 = true := by decide +kernel
theorem ab_k59_0 : ab_ck 59 0 38 = true := by decide +kernel
theorem ab_k60_0 : ab_ck 60 0 39 = true := by decide +kernel
theorem ab_k61_0 : ab_ck 61 0 14 = true := by decide +kernel
theorem ab_k62_0 : ab_ck 62 0 33 = true := by decide +kernel
theorem ab_k63_0 : ab_ck 63 0 24 = true := by decide +kernel
theorem ab_k64_0 : ab_ck 64 0 64 = true := by decide +kernel
theorem ab_k64_64 : ab_ck 64 64 48 = true := by decide +kernel
theorem ab_k65_0 : ab_ck 65 0 60 = true := by decide +kernel
theorem ab_k66_0 : ab_ck 66 0 64 = true := by decide +kernel
theorem ab_k66_64 : ab_ck 66 64 64 = true := by decide +kernel
theorem ab_k66_128 : ab_ck 66 128 64 = true := by decide +kernel
theorem ab_k66_192 : ab_ck 66 192 64 = true := by decide +kernel
theorem ab_k66_256 : ab_ck 66 256 64 = true := by decide +kernel
theorem ab_k66_320 : ab_ck 66 320 79 = true := by decide +kernel
theorem ab_k67_0 : ab_ck 67 0 45 = true := by decide +kernel
theorem ab_k68_0 : ab_ck 68 0 64 = true := by decide +kernel
theorem ab_k68_64 : ab_ck 68 64 26 = true := by decide +kernel
theorem ab_k69_0 : ab_ck 69 0 64 = true := by decide +kernel
theorem ab_k69_64 : ab_ck 69 64 36 = true := by decide +kernel
theorem ab_k70_0 : ab_ck 70 0 78 = true := by decide +kernel
theorem ab_k71_0 : ab_ck 71 0 64 = true := by decide +kernel
theorem ab_k71_64 : ab_ck 71 64 64 = true := by decide +kernel
theorem ab_k71_128 : ab_ck 71 128 26 = true := by decide +kernel
theorem ab_k72_0 : ab_ck 72 0 64 = true := by decide +kernel
theorem ab_k72_64 : ab_ck 72 64 64 = true := by decide +kernel
theorem ab_k72_128 : ab_ck 72 128 32 = true := by decide +kernel
theorem ab_k73_0 : ab_ck 73 0 64 = true := by decide +kernel
theorem ab_k73_64 : ab_ck 73 64 64 = true := by decide +kernel
theorem ab_k73_128 : ab_ck 73 128 64 = true := by decide +kernel
theorem ab_k73_192 : ab_ck 73 192 52 = true := by decide +kernel
theorem ab_k74_0 : ab_ck 74 0 5 = true := by decide +kernel
theorem ab_k75_0 : ab_ck 75 0 64 = true := by decide +kernel
theorem ab_k75_64 : ab_ck 75 64 64 = true := by decide +kernel
theorem ab_k75_128 : ab_ck 75 128 33 = true := by decide +kernel
theorem ab_k76_0 : ab_ck 76 0 80 = true := by decide +kernel
theorem ab_k77_0 : ab_ck 77 0 17 = true := by decide +kernel
theorem ab_k78_0 : ab_ck 78 0 25 = true := by decide +kernel
theorem ab_k79_0 : ab_ck 79 0 22 = true := by decide +kernel
theorem ab_k80_0 : ab_ck 80 0 18 = true := by decide +kernel
theorem ab_k81_0 : ab_ck 81 0 67 = true := by decide +kernel
theorem ab_k82_0 : ab_ck 82 0 64 = true := by decide +kernel
theorem ab_k82_64 : ab_ck 82 64 31 = true := by decide +kernel
theorem ab_k83_0 : ab_ck 83 0 31 = true := by decide +kernel
theorem ab_k84_0 : ab_ck 84 0 64 = true := by decide +kernel
theorem ab_k84_64 : ab_ck 84 64 64 = true := by decide +kernel
theorem ab_k84_128 : ab_ck 84 128 81 = true := by decide +kernel
theorem ab_k85_0 : ab_ck 85 0 64 = true := by decide +kernel
theorem ab_k85_64 : ab_ck 85 64 32 = true := by decide +kernel
theorem ab_k86_0 : ab_ck 86 0 41 = true := by decide +kernel
theorem ab_k87_0 : ab_ck 87 0 64 = true := by decide +kernel
theorem ab_k87_64 : ab_ck 87 64 26 = true := by decide +kernel
theorem ab_k88_0 : ab_ck 88 0 64 = true := by decide +kernel
theorem ab_k88_64 : ab_ck 88 64 24 = true := by decide +kernel
theorem ab_k89_0 : ab_ck 89 0 64 = true := by decide +kernel
theorem ab_k89_64 : ab_ck 89 64 37 = true := by decide +kernel
theorem ab_k90_0 : ab_ck 90 0 64 = true := by decide +kernel
theorem ab_k90_64 : ab_ck 90 64 32 = true := by decide +kernel
theorem ab_k91_0 : ab_ck 91 0 62 = true := by decide +kernel
theorem ab_k92_0 : ab_ck 92 0 64 = true := by decide +kernel
theorem ab_k92_64 : ab_ck 92 64 64 = true := by decide +kernel
theorem ab_k93_0 : ab_ck 93 0 64 = true := by decide +kernel
theorem ab_k93_64 : ab_ck 93 64 64 = true := by decide +kernel
theorem ab_k93_128 : ab_ck 93 128 64 = true := by decide +kernel
theorem ab_k93_192 : ab_ck 93 192 64 = true := by decide +kernel
theorem ab_k93_256 : ab_ck 93 256 78 = true := by decide +kernel
theorem ab_k94_0 : ab_ck 94 0 64 = true := by decide +kernel
theorem ab_k94_64 : ab_ck 94 64 64 = true := by decide +kernel
theorem ab_k94_128 : ab_ck 94 128 64 = true := by decide +kernel
theorem ab_k94_192 : ab_ck 94 192 27 = true := by decide +kernel
theorem ab_k95_0 : ab_ck 95 0 64 = true := by decide +kernel
theorem ab_k95_64 : ab_ck 95 64 81 = true := by decide +kernel
theorem ab_k96_0 : ab_ck 96 0 64 = true := by decide +kernel
theorem ab_k96_64 : ab_ck 96 64 64 = true := by decide +kernel
theorem ab_k96_128 : ab_ck 96 128 64 = true := by decide +kernel
theorem ab_k96_192 : ab_ck 96 192 64 = true := by decide +kernel
theorem ab_k96_256 : ab_ck 96 256 64 = true := by decide +kernel
theorem ab_k96_320 : ab_ck 96 320 53 = true := by decide +kernel
theorem ab_k97_0 : ab_ck 97 0 44 = true := by decide +kernel
theorem ab_k98_0 : ab_ck 98 0 80 = true := by decide +kernel
theorem ab_k99_0 : ab_ck 99 0 64 = true := by decide +kernel
theorem ab_k99_64 : ab_ck 99 64 48 = true := by decide +kernel
theorem ab_k100_0 : ab_ck 100 0 49 = true := by decide +kernel
theorem ab_k101_0 : ab_ck 101 0 42 = true := by decide +kernel
theorem ab_k102_0 : ab_ck 102 0 64 = true := by decide +kernel
theorem ab_k102_64 : ab_ck 102 64 64 = true := by decide +kernel
theorem ab_k102_128 : ab_ck 102 128 64 = true := by decide +kernel
theorem ab_k102_192 : ab_ck 102 192 64 = true := by decide +kernel
theorem ab_k102_256 : ab_ck 102 256 64 = true := by decide +kernel
theorem ab_k102_320 : ab_ck 102 320 58 = true := by decide +kernel
theorem ab_k103_0 : ab_ck 103 0 55 = true := by decide +kernel
theorem ab_k104_0 : ab_ck 104 0 80 = true := by decide +kernel
theorem ab_k105_0 : ab_ck 105 0 32 = true := by decide +kernel
theorem ab_k106_0 : ab_ck 106 0 45 = true := by decide +kernel
theorem ab_k107_0 : ab_ck 107 0 19 = true := by decide +kernel
theorem ab_k108_0 : ab_ck 108 0 19 = true := by decide +kernel
theorem ab_k109_0 : ab_ck 109 0 19 = true := by decide +kernel
theorem ab_k110_0 : ab_ck 110 0 32 = true := by decide +kernel
theorem ab_k111_0 : ab_ck 111 0 64 = true := by decide +kernel
theorem ab_k111_64 : ab_ck 111 64 41 = true := by decide +kernel
theorem ab_k112_0 : ab_ck 112 0 29 = true := by decide +kernel
theorem ab_k113_0 : ab_ck 113 0 64 = true := by decide +kernel
theorem ab_k113_64 : ab_ck 113 64 64 = true := by decide +kernel
theorem ab_k113_128 : ab_ck 113 128 56 = true := by decide +kernel
theorem ab_k114_0 : ab_ck 114 0 64 = true := by decide +kernel
theorem ab_k114_64 : ab_ck 114 64 64 = true := by decide +kernel
theorem ab_k114_128 : ab_ck 114 128 29 = true := by decide +kernel
theorem ab_k115_0 : ab_ck 115 0 64 = true := by decide +kernel
theorem ab_k115_64 : ab_ck 115 64 64 = true := by decide +kernel
theorem ab_k115_128 : ab_ck 115 128 64 = true := by decide +kernel
theorem ab_k115_192 : ab_ck 115 192 64 = true := by decide +kernel
theorem ab_k115_256 : ab_ck 115 256 64 = true := by decide +kernel
theorem ab_k115_320 : ab_ck 115 320 80 = true := by decide +kernel
theorem ab_k116_0 : ab_ck 116 0 54 = true := by decide +kernel
theorem ab_k117_0 : ab_ck 117 0 64 = true := by decide +kernel
theorem ab_k117_64 : ab_ck 117 64 64 = true := by decide +kernel
theorem ab_k117_128 : ab_ck 117 128 64 = true := by decide +kernel
theorem ab_k117_192 : ab_ck 117 192 64 = true := by decide +kernel
theorem ab_k117_256 : ab_ck 117 256 64 = true := by decide +kernel
theorem ab_k117_320 : ab_ck 117 320 44 = true := by decide +kernel
theorem ab_k118_0 : ab_ck 118 0 64 = true := by decide +kernel
theorem ab_k118_64 : ab_ck 118 64 64 = true := by decide +kernel
theorem ab_k118_128 : ab_ck 118 128 32 = true := by decide +kernel
theorem ab_k119_0 : ab_ck 119 0 60 = true := by decide +kernel
theorem ab_k120_0 : ab_ck 120 0 64 = true := by decide +kernel
theorem ab_k120_64 : ab_ck 120 64 27 = true := by decide +kernel
theorem ab_k121_0 : ab_ck 121 0 24 = true := by decide +kernel
theorem ab_k122_0 : ab_ck 122 0 20 = true := by decide +kernel
theorem ab_k123_0 : ab_ck 123 0 24 = true := by decide +kernel
theorem ab_k124_0 : ab_ck 124 0 16 = true := by decide +kernel
theorem ab_k125_0 : ab_ck 125 0 20 = true := by decide +kernel
theorem ab_k126_0 : ab_ck 126 0 19 = true := by decide +kernel
theorem ab_k127_0 : ab_ck 127 0 20 = true := by decide +kernel
theorem ab_k128_0 : ab_ck 128 0 23 = true := by decide +kernel
theorem ab_k129_0 : ab_ck 129 0 33 = true := by decide +kernel
theorem ab_k130_0 : ab_ck 130 0 38 = true := by decide +kernel
theorem ab_k131_0 : ab_ck 131 0 53 = true := by decide +kernel
theorem ab_k132_0 : ab_ck 132 0 21 = true := by decide +kernel
theorem ab_k133_0 : ab_ck 133 0 64 = true := by decide +kernel
theorem ab_k133_64 : ab_ck 133 64 64 = true := by decide +kernel
theorem ab_k133_128 : ab_ck 133 128 64 = true := by decide +kernel
theorem ab_k133_192 : ab_ck 133 192 64 = true := by decide +kernel
theorem ab_k133_256 : ab_ck 133 256 64 = true := by decide +kernel
theorem ab_k133_320 : ab_ck 133 320 64 = true := by decide +kernel
theorem ab_k133_384 : ab_ck 133 384 64 = true := by decide +kernel
theorem ab_k133_448 : ab_ck 133 448 64 = true := by decide +kernel
theorem ab_k133_512 : ab_ck 133 512 64 = true := by decide +kernel
theorem ab_k133_576 : ab_ck 133 576 64 = true := by decide +kernel
theorem ab_k133_640 : ab_ck 133 640 64 = true := by decide +kernel
theorem ab_k133_704 : ab_ck 133 704 73 = true := by decide +kernel
theorem ab_ckA : ∀ k, k < ab_M + 1 → ∀ pc, pc < ab_sz k → ab_c1 k pc = true := by
  intro k hk pc hp
  have hk : k < 134 := hk
  by_cases k67 : k < 67
  · skip
    by_cases k33 : k < 33
    · skip
      by_cases k16 : k < 16
      · skip
        by_cases k8 : k < 8
        · skip
          by_cases k4 : k < 4
          · skip
            by_cases k2 : k < 2
            · skip
              by_cases k1 : k < 1
              · skip
                have e : k = 0 := by omega
                subst e
                have hp : pc < 65 := hp
                exact ab_ckE ab_k0_0 (by omega) (by omega)
              · skip
                have e : k = 1 := by omega
                subst e
                have hp : pc < 61 := hp
                exact ab_ckE ab_k1_0 (by omega) (by omega)
            · skip
              by_cases k3 : k < 3
              · skip
                have e : k = 2 := by omega
                subst e
                have hp : pc < 54 := hp
                exact ab_ckE ab_k2_0 (by omega) (by omega)
              · skip
                have e : k = 3 := by omega
                subst e
                have hp : pc < 31 := hp
                exact ab_ckE ab_k3_0 (by omega) (by omega)
          · skip
            by_cases k6 : k < 6
            · skip
              by_cases k5 : k < 5
              · skip
                have e : k = 4 := by omega
                subst e
                have hp : pc < 10 := hp
                exact ab_ckE ab_k4_0 (by omega) (by omega)
              · skip
                have e : k = 5 := by omega
                subst e
                have hp : pc < 8 := hp
                exact ab_ckE ab_k5_0 (by omega) (by omega)
            · skip
              by_cases k7 : k < 7
              · skip
                have e : k = 6 := by omega
                subst e
                have hp : pc < 12 := hp
                exact ab_ckE ab_k6_0 (by omega) (by omega)
              · skip
                have e : k = 7 := by omega
                subst e
                have hp : pc < 15 := hp
                exact ab_ckE ab_k7_0 (by omega) (by omega)
        · skip
          by_cases k12 : k < 12
          · skip
            by_cases k10 : k < 10
            · skip
              by_cases k9 : k < 9
              · skip
                have e : k = 8 := by omega
                subst e
                have hp : pc < 15 := hp
                exact ab_ckE ab_k8_0 (by omega) (by omega)
              · skip
                have e : k = 9 := by omega
                subst e
                have hp : pc < 15 := hp
                exact ab_ckE ab_k9_0 (by omega) (by omega)
            · skip
              by_cases k11 : k < 11
              · skip
                have e : k = 10 := by omega
                subst e
                have hp : pc < 9 := hp
                exact ab_ckE ab_k10_0 (by omega) (by omega)
              · skip
                have e : k = 11 := by omega
                subst e
                have hp : pc < 20 := hp
                exact ab_ckE ab_k11_0 (by omega) (by omega)
          · skip
            by_cases k14 : k < 14
            · skip
              by_cases k13 : k < 13
              · skip
                have e : k = 12 := by omega
                subst e
                have hp : pc < 21 := hp
                exact ab_ckE ab_k12_0 (by omega) (by omega)
              · skip
                have e : k = 13 := by omega
                subst e
                have hp : pc < 12 := hp
                exact ab_ckE ab_k13_0 (by omega) (by omega)
            · skip
              by_cases k15 : k < 15
              · skip
                have e : k = 14 := by omega
                subst e
                have hp : pc < 18 := hp
                exact ab_ckE ab_k14_0 (by omega) (by omega)
              · skip
                have e : k = 15 := by omega
                subst e
                have hp : pc < 45 := hp
                exact ab_ckE ab_k15_0 (by omega) (by omega)
      · skip
        by_cases k24 : k < 24
        · skip
          by_cases k20 : k < 20
          · skip
            by_cases k18 : k < 18
            · skip
              by_cases k17 : k < 17
              · skip
                have e : k = 16 := by omega
                subst e
                have hp : pc < 21 := hp
                exact ab_ckE ab_k16_0 (by omega) (by omega)
              · skip
                have e : k = 17 := by omega
                subst e
                have hp : pc < 21 := hp
                exact ab_ckE ab_k17_0 (by omega) (by omega)
            · skip
              by_cases k19 : k < 19
              · skip
                have e : k = 18 := by omega
                subst e
                have hp : pc < 30 := hp
                exact ab_ckE ab_k18_0 (by omega) (by omega)
              · skip
                have e : k = 19 := by omega
                subst e
                have hp : pc < 62 := hp
                exact ab_ckE ab_k19_0 (by omega) (by omega)
          · skip
            by_cases k22 : k < 22
            · skip
              by_cases k21 : k < 21
              · skip
                have e : k = 20 := by omega
                subst e
                have hp : pc < 53 := hp
                exact ab_ckE ab_k20_0 (by omega) (by omega)
              · skip
                have e : k = 21 := by omega
                subst e
                have hp : pc < 77 := hp
                exact ab_ckE ab_k21_0 (by omega) (by omega)
            · skip
              by_cases k23 : k < 23
              · skip
                have e : k = 22 := by omega
                subst e
                have hp : pc < 17 := hp
                exact ab_ckE ab_k22_0 (by omega) (by omega)
              · skip
                have e : k = 23 := by omega
                subst e
                have hp : pc < 55 := hp
                exact ab_ckE ab_k23_0 (by omega) (by omega)
        · skip
          by_cases k28 : k < 28
          · skip
            by_cases k26 : k < 26
            · skip
              by_cases k25 : k < 25
              · skip
                have e : k = 24 := by omega
                subst e
                have hp : pc < 181 := hp
                by_cases q64 : pc < 64
                · exact ab_ckE ab_k24_0 (by omega) (by omega)
                by_cases q128 : pc < 128
                · exact ab_ckE ab_k24_64 (by omega) (by omega)
                exact ab_ckE ab_k24_128 (by omega) (by omega)
              · skip
                have e : k = 25 := by omega
                subst e
                have hp : pc < 93 := hp
                by_cases q64 : pc < 64
                · exact ab_ckE ab_k25_0 (by omega) (by omega)
                exact ab_ckE ab_k25_64 (by omega) (by omega)
            · skip
              by_cases k27 : k < 27
              · skip
                have e : k = 26 := by omega
                subst e
                have hp : pc < 86 := hp
                by_cases q64 : pc < 64
                · exact ab_ckE ab_k26_0 (by omega) (by omega)
                exact ab_ckE ab_k26_64 (by omega) (by omega)
              · skip
                have e : k = 27 := by omega
                subst e
                have hp : pc < 71 := hp
                exact ab_ckE ab_k27_0 (by omega) (by omega)
          · skip
            by_cases k30 : k < 30
            · skip
              by_cases k29 : k < 29
              · skip
                have e : k = 28 := by omega
                subst e
                have hp : pc < 39 := hp
                exact ab_ckE ab_k28_0 (by omega) (by omega)
              · skip
                have e : k = 29 := by omega
                subst e
                have hp : pc < 25 := hp
                exact ab_ckE ab_k29_0 (by omega) (by omega)
            · skip
              by_cases k31 : k < 31
              · skip
                have e : k = 30 := by omega
                subst e
                have hp : pc < 29 := hp
                exact ab_ckE ab_k30_0 (by omega) (by omega)
              · skip
                by_cases k32 : k < 32
                · skip
                  have e : k = 31 := by omega
                  subst e
                  have hp : pc < 85 := hp
                  by_cases q64 : pc < 64
                  · exact ab_ckE ab_k31_0 (by omega) (by omega)
                  exact ab_ckE ab_k31_64 (by omega) (by omega)
                · skip
                  have e : k = 32 := by omega
                  subst e
                  have hp : pc < 26 := hp
                  exact ab_ckE ab_k32_0 (by omega) (by omega)
    · skip
      by_cases k50 : k < 50
      · skip
        by_cases k41 : k < 41
        · skip
          by_cases k37 : k < 37
          · skip
            by_cases k35 : k < 35
            · skip
              by_cases k34 : k < 34
              · skip
                have e : k = 33 := by omega
                subst e
                have hp : pc < 28 := hp
                exact ab_ckE ab_k33_0 (by omega) (by omega)
              · skip
                have e : k = 34 := by omega
                subst e
                have hp : pc < 28 := hp
                exact ab_ckE ab_k34_0 (by omega) (by omega)
            · skip
              by_cases k36 : k < 36
              · skip
                have e : k = 35 := by omega
                subst e
                have hp : pc < 16 := hp
                exact ab_ckE ab_k35_0 (by omega) (by omega)
              · skip
                have e : k = 36 := by omega
                subst e
                have hp : pc < 83 := hp
                exact ab_ckE ab_k36_0 (by omega) (by omega)
          · skip
            by_cases k39 : k < 39
            · skip
              by_cases k38 : k < 38
              · skip
                have e : k = 37 := by omega
                subst e
                have hp : pc < 12 := hp
                exact ab_ckE ab_k37_0 (by omega) (by omega)
              · skip
                have e : k = 38 := by omega
                subst e
                have hp : pc < 33 := hp
                exact ab_ckE ab_k38_0 (by omega) (by omega)
            · skip
              by_cases k40 : k < 40
              · skip
                have e : k = 39 := by omega
                subst e
                have hp : pc < 15 := hp
                exact ab_ckE ab_k39_0 (by omega) (by omega)
              · skip
                have e : k = 40 := by omega
                subst e
                have hp : pc < 31 := hp
                exact ab_ckE ab_k40_0 (by omega) (by omega)
        · skip
          by_cases k45 : k < 45
          · skip
            by_cases k43 : k < 43
            · skip
              by_cases k42 : k < 42
              · skip
                have e : k = 41 := by omega
                subst e
                have hp : pc < 22 := hp
                exact ab_ckE ab_k41_0 (by omega) (by omega)
              · skip
                have e : k = 42 := by omega
                subst e
                have hp : pc < 24 := hp
                exact ab_ckE ab_k42_0 (by omega) (by omega)
            · skip
              by_cases k44 : k < 44
              · skip
                have e : k = 43 := by omega
                subst e
                have hp : pc < 56 := hp
                exact ab_ckE ab_k43_0 (by omega) (by omega)
              · skip
                have e : k = 44 := by omega
                subst e
                have hp : pc < 181 := hp
                by_cases q64 : pc < 64
                · exact ab_ckE ab_k44_0 (by omega) (by omega)
                by_cases q128 : pc < 128
                · exact ab_ckE ab_k44_64 (by omega) (by omega)
                exact ab_ckE ab_k44_128 (by omega) (by omega)
          · skip
            by_cases k47 : k < 47
            · skip
              by_cases k46 : k < 46
              · skip
                have e : k = 45 := by omega
                subst e
                have hp : pc < 42 := hp
                exact ab_ckE ab_k45_0 (by omega) (by omega)
              · skip
                have e : k = 46 := by omega
                subst e
                have hp : pc < 75 := hp
                exact ab_ckE ab_k46_0 (by omega) (by omega)
            · skip
              by_cases k48 : k < 48
              · skip
                have e : k = 47 := by omega
                subst e
                have hp : pc < 101 := hp
                by_cases q64 : pc < 64
                · exact ab_ckE ab_k47_0 (by omega) (by omega)
                exact ab_ckE ab_k47_64 (by omega) (by omega)
              · skip
                by_cases k49 : k < 49
                · skip
                  have e : k = 48 := by omega
                  subst e
                  have hp : pc < 84 := hp
                  by_cases q64 : pc < 64
                  · exact ab_ckE ab_k48_0 (by omega) (by omega)
                  exact ab_ckE ab_k48_64 (by omega) (by omega)
                · skip
                  have e : k = 49 := by omega
                  subst e
                  have hp : pc < 70 := hp
                  exact ab_ckE ab_k49_0 (by omega) (by omega)
      · skip
        by_cases k58 : k < 58
        · skip
          by_cases k54 : k < 54
          · skip
            by_cases k52 : k < 52
            · skip
              by_cases k51 : k < 51
              · skip
                have e : k = 50 := by omega
                subst e
                have hp : pc < 100 := hp
                by_cases q64 : pc < 64
                · exact ab_ckE ab_k50_0 (by omega) (by omega)
                exact ab_ckE ab_k50_64 (by omega) (by omega)
              · skip
                have e : k = 51 := by omega
                subst e
                have hp : pc < 73 := hp
                exact ab_ckE ab_k51_0 (by omega) (by omega)
            · skip
              by_cases k53 : k < 53
              · skip
                have e : k = 52 := by omega
                subst e
                have hp : pc < 160 := hp
                by_cases q64 : pc < 64
                · exact ab_ckE ab_k52_0 (by omega) (by omega)
                by_cases q128 : pc < 128
                · exact ab_ckE ab_k52_64 (by omega) (by omega)
                exact ab_ckE ab_k52_128 (by omega) (by omega)
              · skip
                have e : k = 53 := by omega
                subst e
                have hp : pc < 51 := hp
                exact ab_ckE ab_k53_0 (by omega) (by omega)
          · skip
            by_cases k56 : k < 56
            · skip
              by_cases k55 : k < 55
              · skip
                have e : k = 54 := by omega
                subst e
                have hp : pc < 38 := hp
                exact ab_ckE ab_k54_0 (by omega) (by omega)
              · skip
                have e : k = 55 := by omega
                subst e
                have hp : pc < 80 := hp
                exact ab_ckE ab_k55_0 (by omega) (by omega)
            · skip
              by_cases k57 : k < 57
              · skip
                have e : k = 56 := by omega
                subst e
                have hp : pc < 41 := hp
                exact ab_ckE ab_k56_0 (by omega) (by omega)
              · skip
                have e : k = 57 := by omega
                subst e
                have hp : pc < 48 := hp
                exact ab_ckE ab_k57_0 (by omega) (by omega)
        · skip
          by_cases k62 : k < 62
          · skip
            by_cases k60 : k < 60
            · skip
              by_cases k59 : k < 59
              · skip
                have e : k = 58 := by omega
                subst e
                have hp : pc < 59 := hp
                exact ab_ckE ab_k58_0 (by omega) (by omega)
              · skip
                have e : k = 59 := by omega
                subst e
                have hp : pc < 38 := hp
                exact ab_ckE ab_k59_0 (by omega) (by omega)
            · skip
              by_cases k61 : k < 61
              · skip
                have e : k = 60 := by omega
                subst e
                have hp : pc < 39 := hp
                exact ab_ckE ab_k60_0 (by omega) (by omega)
              · skip
                have e : k = 61 := by omega
                subst e
                have hp : pc < 14 := hp
                exact ab_ckE ab_k61_0 (by omega) (by omega)
          · skip
            by_cases k64 : k < 64
            · skip
              by_cases k63 : k < 63
              · skip
                have e : k = 62 := by omega
                subst e
                have hp : pc < 33 := hp
                exact ab_ckE ab_k62_0 (by omega) (by omega)
              · skip
                have e : k = 63 := by omega
                subst e
                have hp : pc < 24 := hp
                exact ab_ckE ab_k63_0 (by omega) (by omega)
            · skip
              by_cases k65 : k < 65
              · skip
                have e : k = 64 := by omega
                subst e
                have hp : pc < 112 := hp
                by_cases q64 : pc < 64
                · exact ab_ckE ab_k64_0 (by omega) (by omega)
                exact ab_ckE ab_k64_64 (by omega) (by omega)
              · skip
                by_cases k66 : k < 66
                · skip
                  have e : k = 65 := by omega
                  subst e
                  have hp : pc < 60 := hp
                  exact ab_ckE ab_k65_0 (by omega) (by omega)
                · skip
                  have e : k = 66 := by omega
                  subst e
                  have hp : pc < 399 := hp
                  by_cases q64 : pc < 64
                  · exact ab_ckE ab_k66_0 (by omega) (by omega)
                  by_cases q128 : pc < 128
                  · exact ab_ckE ab_k66_64 (by omega) (by omega)
                  by_cases q192 : pc < 192
                  · exact ab_ckE ab_k66_128 (by omega) (by omega)
                  by_cases q256 : pc < 256
                  · exact ab_ckE ab_k66_192 (by omega) (by omega)
                  by_cases q320 : pc < 320
                  · exact ab_ckE ab_k66_256 (by omega) (by omega)
                  exact ab_ckE ab_k66_320 (by omega) (by omega)
  · skip
    by_cases k100 : k < 100
    · skip
      by_cases k83 : k < 83
      · skip
        by_cases k75 : k < 75
        · skip
          by_cases k71 : k < 71
          · skip
            by_cases k69 : k < 69
            · skip
              by_cases k68 : k < 68
              · skip
                have e : k = 67 := by omega
                subst e
                have hp : pc < 45 := hp
                exact ab_ckE ab_k67_0 (by omega) (by omega)
              · skip
                have e : k = 68 := by omega
                subst e
                have hp : pc < 90 := hp
                by_cases q64 : pc < 64
                · exact ab_ckE ab_k68_0 (by omega) (by omega)
                exact ab_ckE ab_k68_64 (by omega) (by omega)
            · skip
              by_cases k70 : k < 70
              · skip
                have e : k = 69 := by omega
                subst e
                have hp : pc < 100 := hp
                by_cases q64 : pc < 64
                · exact ab_ckE ab_k69_0 (by omega) (by omega)
                exact ab_ckE ab_k69_64 (by omega) (by omega)
              · skip
                have e : k = 70 := by omega
                subst e
                have hp : pc < 78 := hp
                exact ab_ckE ab_k70_0 (by omega) (by omega)
          · skip
            by_cases k73 : k < 73
            · skip
              by_cases k72 : k < 72
              · skip
                have e : k = 71 := by omega
                subst e
                have hp : pc < 154 := hp
                by_cases q64 : pc < 64
                · exact ab_ckE ab_k71_0 (by omega) (by omega)
                by_cases q128 : pc < 128
                · exact ab_ckE ab_k71_64 (by omega) (by omega)
                exact ab_ckE ab_k71_128 (by omega) (by omega)
              · skip
                have e : k = 72 := by omega
                subst e
                have hp : pc < 160 := hp
                by_cases q64 : pc < 64
                · exact ab_ckE ab_k72_0 (by omega) (by omega)
                by_cases q128 : pc < 128
                · exact ab_ckE ab_k72_64 (by omega) (by omega)
                exact ab_ckE ab_k72_128 (by omega) (by omega)
            · skip
              by_cases k74 : k < 74
              · skip
                have e : k = 73 := by omega
                subst e
                have hp : pc < 244 := hp
                by_cases q64 : pc < 64
                · exact ab_ckE ab_k73_0 (by omega) (by omega)
                by_cases q128 : pc < 128
                · exact ab_ckE ab_k73_64 (by omega) (by omega)
                by_cases q192 : pc < 192
                · exact ab_ckE ab_k73_128 (by omega) (by omega)
                exact ab_ckE ab_k73_192 (by omega) (by omega)
              · skip
                have e : k = 74 := by omega
                subst e
                have hp : pc < 5 := hp
                exact ab_ckE ab_k74_0 (by omega) (by omega)
        · skip
          by_cases k79 : k < 79
          · skip
            by_cases k77 : k < 77
            · skip
              by_cases k76 : k < 76
              · skip
                have e : k = 75 := by omega
                subst e
                have hp : pc < 161 := hp
                by_cases q64 : pc < 64
                · exact ab_ckE ab_k75_0 (by omega) (by omega)
                by_cases q128 : pc < 128
                · exact ab_ckE ab_k75_64 (by omega) (by omega)
                exact ab_ckE ab_k75_128 (by omega) (by omega)
              · skip
                have e : k = 76 := by omega
                subst e
                have hp : pc < 80 := hp
                exact ab_ckE ab_k76_0 (by omega) (by omega)
            · skip
              by_cases k78 : k < 78
              · skip
                have e : k = 77 := by omega
                subst e
                have hp : pc < 17 := hp
                exact ab_ckE ab_k77_0 (by omega) (by omega)
              · skip
                have e : k = 78 := by omega
                subst e
                have hp : pc < 25 := hp
                exact ab_ckE ab_k78_0 (by omega) (by omega)
          · skip
            by_cases k81 : k < 81
            · skip
              by_cases k80 : k < 80
              · skip
                have e : k = 79 := by omega
                subst e
                have hp : pc < 22 := hp
                exact ab_ckE ab_k79_0 (by omega) (by omega)
              · skip
                have e : k = 80 := by omega
                subst e
                have hp : pc < 18 := hp
                exact ab_ckE ab_k80_0 (by omega) (by omega)
            · skip
              by_cases k82 : k < 82
              · skip
                have e : k = 81 := by omega
                subst e
                have hp : pc < 67 := hp
                exact ab_ckE ab_k81_0 (by omega) (by omega)
              · skip
                have e : k = 82 := by omega
                subst e
                have hp : pc < 95 := hp
                by_cases q64 : pc < 64
                · exact ab_ckE ab_k82_0 (by omega) (by omega)
                exact ab_ckE ab_k82_64 (by omega) (by omega)
      · skip
        by_cases k91 : k < 91
        · skip
          by_cases k87 : k < 87
          · skip
            by_cases k85 : k < 85
            · skip
              by_cases k84 : k < 84
              · skip
                have e : k = 83 := by omega
                subst e
                have hp : pc < 31 := hp
                exact ab_ckE ab_k83_0 (by omega) (by omega)
              · skip
                have e : k = 84 := by omega
                subst e
                have hp : pc < 209 := hp
                by_cases q64 : pc < 64
                · exact ab_ckE ab_k84_0 (by omega) (by omega)
                by_cases q128 : pc < 128
                · exact ab_ckE ab_k84_64 (by omega) (by omega)
                exact ab_ckE ab_k84_128 (by omega) (by omega)
            · skip
              by_cases k86 : k < 86
              · skip
                have e : k = 85 := by omega
                subst e
                have hp : pc < 96 := hp
                by_cases q64 : pc < 64
                · exact ab_ckE ab_k85_0 (by omega) (by omega)
                exact ab_ckE ab_k85_64 (by omega) (by omega)
              · skip
                have e : k = 86 := by omega
                subst e
                have hp : pc < 41 := hp
                exact ab_ckE ab_k86_0 (by omega) (by omega)
          · skip
            by_cases k89 : k < 89
            · skip
              by_cases k88 : k < 88
              · skip
                have e : k = 87 := by omega
                subst e
                have hp : pc < 90 := hp
                by_cases q64 : pc < 64
                · exact ab_ckE ab_k87_0 (by omega) (by omega)
                exact ab_ckE ab_k87_64 (by omega) (by omega)
              · skip
                have e : k = 88 := by omega
                subst e
                have hp : pc < 88 := hp
                by_cases q64 : pc < 64
                · exact ab_ckE ab_k88_0 (by omega) (by omega)
                exact ab_ckE ab_k88_64 (by omega) (by omega)
            · skip
              by_cases k90 : k < 90
              · skip
                have e : k = 89 := by omega
                subst e
                have hp : pc < 101 := hp
                by_cases q64 : pc < 64
                · exact ab_ckE ab_k89_0 (by omega) (by omega)
                exact ab_ckE ab_k89_64 (by omega) (by omega)
              · skip
                have e : k = 90 := by omega
                subst e
                have hp : pc < 96 := hp
                by_cases q64 : pc < 64
                · exact ab_ckE ab_k90_0 (by omega) (by omega)
                exact ab_ckE ab_k90_64 (by omega) (by omega)
        · skip
          by_cases k95 : k < 95
          · skip
            by_cases k93 : k < 93
            · skip
              by_cases k92 : k < 92
              · skip
                have e : k = 91 := by omega
                subst e
                have hp : pc < 62 := hp
                exact ab_ckE ab_k91_0 (by omega) (by omega)
              · skip
                have e : k = 92 := by omega
                subst e
                have hp : pc < 128 := hp
                by_cases q64 : pc < 64
                · exact ab_ckE ab_k92_0 (by omega) (by omega)
                exact ab_ckE ab_k92_64 (by omega) (by omega)
            · skip
              by_cases k94 : k < 94
              · skip
                have e : k = 93 := by omega
                subst e
                have hp : pc < 334 := hp
                by_cases q64 : pc < 64
                · exact ab_ckE ab_k93_0 (by omega) (by omega)
                by_cases q128 : pc < 128
                · exact ab_ckE ab_k93_64 (by omega) (by omega)
                by_cases q192 : pc < 192
                · exact ab_ckE ab_k93_128 (by omega) (by omega)
                by_cases q256 : pc < 256
                · exact ab_ckE ab_k93_192 (by omega) (by omega)
                exact ab_ckE ab_k93_256 (by omega) (by omega)
              · skip
                have e : k = 94 := by omega
                subst e
                have hp : pc < 219 := hp
                by_cases q64 : pc < 64
                · exact ab_ckE ab_k94_0 (by omega) (by omega)
                by_cases q128 : pc < 128
                · exact ab_ckE ab_k94_64 (by omega) (by omega)
                by_cases q192 : pc < 192
                · exact ab_ckE ab_k94_128 (by omega) (by omega)
                exact ab_ckE ab_k94_192 (by omega) (by omega)
          · skip
            by_cases k97 : k < 97
            · skip
              by_cases k96 : k < 96
              · skip
                have e : k = 95 := by omega
                subst e
                have hp : pc < 145 := hp
                by_cases q64 : pc < 64
                · exact ab_ckE ab_k95_0 (by omega) (by omega)
                exact ab_ckE ab_k95_64 (by omega) (by omega)
              · skip
                have e : k = 96 := by omega
                subst e
                have hp : pc < 373 := hp
                by_cases q64 : pc < 64
                · exact ab_ckE ab_k96_0 (by omega) (by omega)
                by_cases q128 : pc < 128
                · exact ab_ckE ab_k96_64 (by omega) (by omega)
                by_cases q192 : pc < 192
                · exact ab_ckE ab_k96_128 (by omega) (by omega)
                by_cases q256 : pc < 256
                · exact ab_ckE ab_k96_192 (by omega) (by omega)
                by_cases q320 : pc < 320
                · exact ab_ckE ab_k96_256 (by omega) (by omega)
                exact ab_ckE ab_k96_320 (by omega) (by omega)
            · skip
              by_cases k98 : k < 98
              · skip
                have e : k = 97 := by omega
                subst e
                have hp : pc < 44 := hp
                exact ab_ckE ab_k97_0 (by omega) (by omega)
              · skip
                by_cases k99 : k < 99
                · skip
                  have e : k = 98 := by omega
                  subst e
                  have hp : pc < 80 := hp
                  exact ab_ckE ab_k98_0 (by omega) (by omega)
                · skip
                  have e : k = 99 := by omega
                  subst e
                  have hp : pc < 112 := hp
                  by_cases q64 : pc < 64
                  · exact ab_ckE ab_k99_0 (by omega) (by omega)
                  exact ab_ckE ab_k99_64 (by omega) (by omega)
    · skip
      by_cases k117 : k < 117
      · skip
        by_cases k108 : k < 108
        · skip
          by_cases k104 : k < 104
          · skip
            by_cases k102 : k < 102
            · skip
              by_cases k101 : k < 101
              · skip
                have e : k = 100 := by omega
                subst e
                have hp : pc < 49 := hp
                exact ab_ckE ab_k100_0 (by omega) (by omega)
              · skip
                have e : k = 101 := by omega
                subst e
                have hp : pc < 42 := hp
                exact ab_ckE ab_k101_0 (by omega) (by omega)
            · skip
              by_cases k103 : k < 103
              · skip
                have e : k = 102 := by omega
                subst e
                have hp : pc < 378 := hp
                by_cases q64 : pc < 64
                · exact ab_ckE ab_k102_0 (by omega) (by omega)
                by_cases q128 : pc < 128
                · exact ab_ckE ab_k102_64 (by omega) (by omega)
                by_cases q192 : pc < 192
                · exact ab_ckE ab_k102_128 (by omega) (by omega)
                by_cases q256 : pc < 256
                · exact ab_ckE ab_k102_192 (by omega) (by omega)
                by_cases q320 : pc < 320
                · exact ab_ckE ab_k102_256 (by omega) (by omega)
                exact ab_ckE ab_k102_320 (by omega) (by omega)
              · skip
                have e : k = 103 := by omega
                subst e
                have hp : pc < 55 := hp
                exact ab_ckE ab_k103_0 (by omega) (by omega)
          · skip
            by_cases k106 : k < 106
            · skip
              by_cases k105 : k < 105
              · skip
                have e : k = 104 := by omega
                subst e
                have hp : pc < 80 := hp
                exact ab_ckE ab_k104_0 (by omega) (by omega)
              · skip
                have e : k = 105 := by omega
                subst e
                have hp : pc < 32 := hp
                exact ab_ckE ab_k105_0 (by omega) (by omega)
            · skip
              by_cases k107 : k < 107
              · skip
                have e : k = 106 := by omega
                subst e
                have hp : pc < 45 := hp
                exact ab_ckE ab_k106_0 (by omega) (by omega)
              · skip
                have e : k = 107 := by omega
                subst e
                have hp : pc < 19 := hp
                exact ab_ckE ab_k107_0 (by omega) (by omega)
        · skip
          by_cases k112 : k < 112
          · skip
            by_cases k110 : k < 110
            · skip
              by_cases k109 : k < 109
              · skip
                have e : k = 108 := by omega
                subst e
                have hp : pc < 19 := hp
                exact ab_ckE ab_k108_0 (by omega) (by omega)
              · skip
                have e : k = 109 := by omega
                subst e
                have hp : pc < 19 := hp
                exact ab_ckE ab_k109_0 (by omega) (by omega)
            · skip
              by_cases k111 : k < 111
              · skip
                have e : k = 110 := by omega
                subst e
                have hp : pc < 32 := hp
                exact ab_ckE ab_k110_0 (by omega) (by omega)
              · skip
                have e : k = 111 := by omega
                subst e
                have hp : pc < 105 := hp
                by_cases q64 : pc < 64
                · exact ab_ckE ab_k111_0 (by omega) (by omega)
                exact ab_ckE ab_k111_64 (by omega) (by omega)
          · skip
            by_cases k114 : k < 114
            · skip
              by_cases k113 : k < 113
              · skip
                have e : k = 112 := by omega
                subst e
                have hp : pc < 29 := hp
                exact ab_ckE ab_k112_0 (by omega) (by omega)
              · skip
                have e : k = 113 := by omega
                subst e
                have hp : pc < 184 := hp
                by_cases q64 : pc < 64
                · exact ab_ckE ab_k113_0 (by omega) (by omega)
                by_cases q128 : pc < 128
                · exact ab_ckE ab_k113_64 (by omega) (by omega)
                exact ab_ckE ab_k113_128 (by omega) (by omega)
            · skip
              by_cases k115 : k < 115
              · skip
                have e : k = 114 := by omega
                subst e
                have hp : pc < 157 := hp
                by_cases q64 : pc < 64
                · exact ab_ckE ab_k114_0 (by omega) (by omega)
                by_cases q128 : pc < 128
                · exact ab_ckE ab_k114_64 (by omega) (by omega)
                exact ab_ckE ab_k114_128 (by omega) (by omega)
              · skip
                by_cases k116 : k < 116
                · skip
                  have e : k = 115 := by omega
                  subst e
                  have hp : pc < 400 := hp
                  by_cases q64 : pc < 64
                  · exact ab_ckE ab_k115_0 (by omega) (by omega)
                  by_cases q128 : pc < 128
                  · exact ab_ckE ab_k115_64 (by omega) (by omega)
                  by_cases q192 : pc < 192
                  · exact ab_ckE ab_k115_128 (by omega) (by omega)
                  by_cases q256 : pc < 256
                  · exact ab_ckE ab_k115_192 (by omega) (by omega)
                  by_cases q320 : pc < 320
                  · exact ab_ckE ab_k115_256 (by omega) (by omega)
                  exact ab_ckE ab_k115_320 (by omega) (by omega)
                · skip
                  have e : k = 116 := by omega
                  subst e
                  have hp : pc < 54 := hp
                  exact ab_ckE ab_k116_0 (by omega) (by omega)
      · skip
        by_cases k125 : k < 125
        · skip
          by_cases k121 : k < 121
          · skip
            by_cases k119 : k < 119
            · skip
              by_cases k118 : k < 118
              · skip
                have e : k = 117 := by omega
                subst e
                have hp : pc < 364 := hp
                by_cases q64 : pc < 64
                · exact ab_ckE ab_k117_0 (by omega) (by omega)
                by_cases q128 : pc < 128
                · exact ab_ckE ab_k117_64 (by omega) (by omega)
                by_cases q192 : pc < 192
                · exact ab_ckE ab_k117_128 (by omega) (by omega)
                by_cases q256 : pc < 256
                · exact ab_ckE ab_k117_192 (by omega) (by omega)
                by_cases q320 : pc < 320
                · exact ab_ckE ab_k117_256 (by omega) (by omega)
                exact ab_ckE ab_k117_320 (by omega) (by omega)
              · skip
                have e : k = 118 := by omega
                subst e
                have hp : pc < 160 := hp
                by_cases q64 : pc < 64
                · exact ab_ckE ab_k118_0 (by omega) (by omega)
                by_cases q128 : pc < 128
                · exact ab_ckE ab_k118_64 (by omega) (by omega)
                exact ab_ckE ab_k118_128 (by omega) (by omega)
            · skip
              by_cases k120 : k < 120
              · skip
                have e : k = 119 := by omega
                subst e
                have hp : pc < 60 := hp
                exact ab_ckE ab_k119_0 (by omega) (by omega)
              · skip
                have e : k = 120 := by omega
                subst e
                have hp : pc < 91 := hp
                by_cases q64 : pc < 64
                · exact ab_ckE ab_k120_0 (by omega) (by omega)
                exact ab_ckE ab_k120_64 (by omega) (by omega)
          · skip
            by_cases k123 : k < 123
            · skip
              by_cases k122 : k < 122
              · skip
                have e : k = 121 := by omega
                subst e
                have hp : pc < 24 := hp
                exact ab_ckE ab_k121_0 (by omega) (by omega)
              · skip
                have e : k = 122 := by omega
                subst e
                have hp : pc < 20 := hp
                exact ab_ckE ab_k122_0 (by omega) (by omega)
            · skip
              by_cases k124 : k < 124
              · skip
                have e : k = 123 := by omega
                subst e
                have hp : pc < 24 := hp
                exact ab_ckE ab_k123_0 (by omega) (by omega)
              · skip
                have e : k = 124 := by omega
                subst e
                have hp : pc < 16 := hp
                exact ab_ckE ab_k124_0 (by omega) (by omega)
        · skip
          by_cases k129 : k < 129
          · skip
            by_cases k127 : k < 127
            · skip
              by_cases k126 : k < 126
              · skip
                have e : k = 125 := by omega
                subst e
                have hp : pc < 20 := hp
                exact ab_ckE ab_k125_0 (by omega) (by omega)
              · skip
                have e : k = 126 := by omega
                subst e
                have hp : pc < 19 := hp
                exact ab_ckE ab_k126_0 (by omega) (by omega)
            · skip
              by_cases k128 : k < 128
              · skip
                have e : k = 127 := by omega
                subst e
                have hp : pc < 20 := hp
                exact ab_ckE ab_k127_0 (by omega) (by omega)
              · skip
                have e : k = 128 := by omega
                subst e
                have hp : pc < 23 := hp
                exact ab_ckE ab_k128_0 (by omega) (by omega)
          · skip
            by_cases k131 : k < 131
            · skip
              by_cases k130 : k < 130
              · skip
                have e : k = 129 := by omega
                subst e
                have hp : pc < 33 := hp
                exact ab_ckE ab_k129_0 (by omega) (by omega)
              · skip
                have e : k = 130 := by omega
                subst e
                have hp : pc < 38 := hp
                exact ab_ckE ab_k130_0 (by omega) (by omega)
            · skip
              by_cases k132 : k < 132
              · skip
                have e : k = 131 := by omega
                subst e
                have hp : pc < 53 := hp
                exact ab_ckE ab_k131_0 (by omega) (by omega)
              · skip
                by_cases k133 : k < 133
                · skip
                  have e : k = 132 := by omega
                  subst e
                  have hp : pc < 21 := hp
                  exact ab_ckE ab_k132_0 (by omega) (by omega)
                · skip
                  have e : k = 133 := by omega
                  subst e
                  have hp : pc < 777 := hp
                  by_cases q64 : pc < 64
                  · exact ab_ckE ab_k133_0 (by omega) (by omega)
                  by_cases q128 : pc < 128
                  · exact ab_ckE ab_k133_64 (by omega) (by omega)
                  by_cases q192 : pc < 192
                  · exact ab_ckE ab_k133_128 (by omega) (by omega)
                  by_cases q256 : pc < 256
                  · exact ab_ckE ab_k133_192 (by omega) (by omega)
                  by_cases q320 : pc < 320
                  · exact ab_ckE ab_k133_256 (by omega) (by omega)
                  by_cases q384 : pc < 384
                  · exact ab_ckE ab_k133_320 (by omega) (by omega)
                  by_cases q448 : pc < 448
                  · exact ab_ckE ab_k133_384 (by omega) (by omega)
                  by_cases q512 : pc < 512
                  · exact ab_ckE ab_k133_448 (by omega) (by omega)
                  by_cases q576 : pc < 576
                  · exact ab_ckE ab_k133_512 (by omega) (by omega)
                  by_cases q640 : pc < 640
                  · exact ab_ckE ab_k133_576 (by omega) (by omega)
                  by_cases q704 : pc < 704
                  · exact ab_ckE ab_k133_640 (by omega) (by omega)
                  exact ab_ckE ab_k133_704 (by omega) (by omega)
theorem ab_ins_ok {k pc : Nat} {x : Instr × Nat × Nat × Nat} (h : ab_ins k pc = some x) : ab_chk k pc x.1 x.2 = true ∧ k < ab_M + 1 := by
  unfold ab_ins at h
  cases hb : (Nat.blt k (ab_M + 1) && Nat.blt pc (ab_sz k)) with
  | false => rw [hb] at h; cases h
  | true =>
    rw [hb] at h
    simp only [Bool.and_eq_true] at hb
    have hk := ab_blt hb.1
    have := ab_ckA k hk pc (ab_blt hb.2)
    unfold ab_c1 at this
    rw [show ab_int k pc = some x from h] at this
    exact ⟨this, hk⟩
