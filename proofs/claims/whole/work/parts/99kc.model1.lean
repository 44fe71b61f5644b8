/-! the reference's cells at the beginning -/
theorem mm0_z {c : Nat} (h0 : c ≠ 0) (h1 : c ≠ 1) (h2 : c ≠ 77) (h3 : c ≠ 79) (j : Int) : mm0.1 c j = 0 := by
  show (if c = 0 then _ else if c = 1 then _ else if c = 77 then _ else if c = 79 then _ else (0 : Int)) = 0
  rw [if_neg h0, if_neg h1, if_neg h2, if_neg h3]
theorem zar_u (u : Nat → Nat) (g : Geo) (t n : Nat) : zar (u, g.2) t n = zar g t n := rfl
theorem ent_z {g : Geo} {c t n : Nat} (hs : shapes[c]? = some (.inr (t, n))) (ht : t ≠ 3) (h0 : c ≠ 0) (h1 : c ≠ 1) (h2 : c ≠ 77) (h3 : c ≠ 79) : ent g mm0 c = zar g t n := by
  rw [ent_a hs ht]
  unfold zar
  congr 3
  congr 1
  funext j
  rw [mm0_z h0 h1 h2 h3]
theorem ez_80 (g : Geo) : ent g mm0 80 = zar g 0 8 := ent_z rfl (by decide) (by decide) (by decide) (by decide) (by decide)
theorem ez_81 (g : Geo) : ent g mm0 81 = zar g 0 8 := ent_z rfl (by decide) (by decide) (by decide) (by decide) (by decide)
theorem ez_82 (g : Geo) : ent g mm0 82 = zar g 0 8 := ent_z rfl (by decide) (by decide) (by decide) (by decide) (by decide)
theorem ez_83 (g : Geo) : ent g mm0 83 = zar g 0 12 := ent_z rfl (by decide) (by decide) (by decide) (by decide) (by decide)
theorem ez_84 (g : Geo) : ent g mm0 84 = zar g 0 12 := ent_z rfl (by decide) (by decide) (by decide) (by decide) (by decide)
theorem ez_85 (g : Geo) : ent g mm0 85 = zar g 0 12 := ent_z rfl (by decide) (by decide) (by decide) (by decide) (by decide)
theorem ez_86 (g : Geo) : ent g mm0 86 = zar g 0 12 := ent_z rfl (by decide) (by decide) (by decide) (by decide) (by decide)
theorem ez_87 (g : Geo) : ent g mm0 87 = zar g 0 4 := ent_z rfl (by decide) (by decide) (by decide) (by decide) (by decide)
theorem ez_88 (g : Geo) : ent g mm0 88 = zar g 0 4 := ent_z rfl (by decide) (by decide) (by decide) (by decide) (by decide)
theorem ez_89 (g : Geo) : ent g mm0 89 = zar g 0 4 := ent_z rfl (by decide) (by decide) (by decide) (by decide) (by decide)
theorem ez_90 (g : Geo) : ent g mm0 90 = zar g 0 4 := ent_z rfl (by decide) (by decide) (by decide) (by decide) (by decide)
theorem ez_91 (g : Geo) : ent g mm0 91 = zar g 0 4 := ent_z rfl (by decide) (by decide) (by decide) (by decide) (by decide)
theorem ez_92 (g : Geo) : ent g mm0 92 = zar g 0 4 := ent_z rfl (by decide) (by decide) (by decide) (by decide) (by decide)
theorem ez_93 (g : Geo) : ent g mm0 93 = zar g 0 4 := ent_z rfl (by decide) (by decide) (by decide) (by decide) (by decide)
theorem ez_94 (g : Geo) : ent g mm0 94 = zar g 0 4 := ent_z rfl (by decide) (by decide) (by decide) (by decide) (by decide)
theorem ez_95 (g : Geo) : ent g mm0 95 = zar g 0 12 := ent_z rfl (by decide) (by decide) (by decide) (by decide) (by decide)
theorem ez_96 (g : Geo) : ent g mm0 96 = zar g 2 12 := ent_z rfl (by decide) (by decide) (by decide) (by decide) (by decide)
theorem ez_97 (g : Geo) : ent g mm0 97 = zar g 2 12 := ent_z rfl (by decide) (by decide) (by decide) (by decide) (by decide)
theorem ez_98 (g : Geo) : ent g mm0 98 = zar g 0 4 := ent_z rfl (by decide) (by decide) (by decide) (by decide) (by decide)
theorem ez_99 (g : Geo) : ent g mm0 99 = zar g 0 4 := ent_z rfl (by decide) (by decide) (by decide) (by decide) (by decide)
theorem ez_100 (g : Geo) : ent g mm0 100 = zar g 0 4 := ent_z rfl (by decide) (by decide) (by decide) (by decide) (by decide)
theorem ez_101 (g : Geo) : ent g mm0 101 = zar g 0 4 := ent_z rfl (by decide) (by decide) (by decide) (by decide) (by decide)
theorem ez_102 (g : Geo) : ent g mm0 102 = zar g 0 4 := ent_z rfl (by decide) (by decide) (by decide) (by decide) (by decide)
theorem ez_103 (g : Geo) : ent g mm0 103 = zar g 0 4 := ent_z rfl (by decide) (by decide) (by decide) (by decide) (by decide)
theorem ez_104 (g : Geo) : ent g mm0 104 = zar g 2 4 := ent_z rfl (by decide) (by decide) (by decide) (by decide) (by decide)
theorem ez_105 (g : Geo) : ent g mm0 105 = zar g 0 200 := ent_z rfl (by decide) (by decide) (by decide) (by decide) (by decide)
theorem ez_106 (g : Geo) : ent g mm0 106 = zar g 0 200 := ent_z rfl (by decide) (by decide) (by decide) (by decide) (by decide)
theorem ez_107 (g : Geo) : ent g mm0 107 = zar g 0 500 := ent_z rfl (by decide) (by decide) (by decide) (by decide) (by decide)
theorem ez_108 (g : Geo) : ent g mm0 108 = zar g 0 8 := ent_z rfl (by decide) (by decide) (by decide) (by decide) (by decide)
theorem ez_109 (g : Geo) : ent g mm0 109 = zar g 0 8 := ent_z rfl (by decide) (by decide) (by decide) (by decide) (by decide)
theorem ez_110 (g : Geo) : ent g mm0 110 = zar g 0 8 := ent_z rfl (by decide) (by decide) (by decide) (by decide) (by decide)
theorem ez_111 (g : Geo) : ent g mm0 111 = zar g 0 12 := ent_z rfl (by decide) (by decide) (by decide) (by decide) (by decide)
theorem ez_112 (g : Geo) : ent g mm0 112 = zar g 0 12 := ent_z rfl (by decide) (by decide) (by decide) (by decide) (by decide)
theorem ez_113 (g : Geo) : ent g mm0 113 = zar g 0 12 := ent_z rfl (by decide) (by decide) (by decide) (by decide) (by decide)
theorem ez_114 (g : Geo) : ent g mm0 114 = zar g 0 12 := ent_z rfl (by decide) (by decide) (by decide) (by decide) (by decide)
theorem ez_115 (g : Geo) : ent g mm0 115 = zar g 0 4 := ent_z rfl (by decide) (by decide) (by decide) (by decide) (by decide)
theorem ez_116 (g : Geo) : ent g mm0 116 = zar g 0 4 := ent_z rfl (by decide) (by decide) (by decide) (by decide) (by decide)
theorem ez_117 (g : Geo) : ent g mm0 117 = zar g 0 4 := ent_z rfl (by decide) (by decide) (by decide) (by decide) (by decide)
theorem ez_118 (g : Geo) : ent g mm0 118 = zar g 0 4 := ent_z rfl (by decide) (by decide) (by decide) (by decide) (by decide)
theorem ez_119 (g : Geo) : ent g mm0 119 = zar g 0 4 := ent_z rfl (by decide) (by decide) (by decide) (by decide) (by decide)
theorem ez_120 (g : Geo) : ent g mm0 120 = zar g 0 4 := ent_z rfl (by decide) (by decide) (by decide) (by decide) (by decide)
theorem ez_121 (g : Geo) : ent g mm0 121 = zar g 0 4 := ent_z rfl (by decide) (by decide) (by decide) (by decide) (by decide)
theorem ez_122 (g : Geo) : ent g mm0 122 = zar g 0 4 := ent_z rfl (by decide) (by decide) (by decide) (by decide) (by decide)
theorem ez_123 (g : Geo) : ent g mm0 123 = zar g 0 8 := ent_z rfl (by decide) (by decide) (by decide) (by decide) (by decide)
theorem ez_124 (g : Geo) : ent g mm0 124 = zar g 0 648 := ent_z rfl (by decide) (by decide) (by decide) (by decide) (by decide)
theorem ez_125 (g : Geo) : ent g mm0 125 = zar g 0 64 := ent_z rfl (by decide) (by decide) (by decide) (by decide) (by decide)
theorem ez_126 (g : Geo) : ent g mm0 126 = zar g 0 4 := ent_z rfl (by decide) (by decide) (by decide) (by decide) (by decide)
theorem ez_127 (g : Geo) : ent g mm0 127 = zar g 0 4 := ent_z rfl (by decide) (by decide) (by decide) (by decide) (by decide)
theorem ez_128 (g : Geo) : ent g mm0 128 = zar g 0 64 := ent_z rfl (by decide) (by decide) (by decide) (by decide) (by decide)
theorem ez_129 (g : Geo) : ent g mm0 129 = zar g 0 20 := ent_z rfl (by decide) (by decide) (by decide) (by decide) (by decide)
theorem ez_130 (g : Geo) : ent g mm0 130 = zar g 0 20 := ent_z rfl (by decide) (by decide) (by decide) (by decide) (by decide)
theorem ez_131 (g : Geo) : ent g mm0 131 = zar g 0 20 := ent_z rfl (by decide) (by decide) (by decide) (by decide) (by decide)
theorem ez_132 (g : Geo) : ent g mm0 132 = zar g 0 1000 := ent_z rfl (by decide) (by decide) (by decide) (by decide) (by decide)
theorem ez_133 (g : Geo) : ent g mm0 133 = zar g 2 2 := ent_z rfl (by decide) (by decide) (by decide) (by decide) (by decide)
theorem fv_0 (g : Geo) : tr g (fval mm0 79 8 0) = .int (iI (0)) := rfl
theorem fv_1 (g : Geo) : tr g (fval mm0 79 8 1) = .ref (g.1 80) := rfl
theorem fv_2 (g : Geo) : tr g (fval mm0 79 8 2) = .ref (g.1 81) := rfl
theorem fv_3 (g : Geo) : tr g (fval mm0 79 8 3) = .ref (g.1 82) := rfl
theorem fv_4 (g : Geo) : tr g (fval mm0 79 8 4) = .int (iI (0)) := rfl
theorem fv_5 (g : Geo) : tr g (fval mm0 79 8 5) = .ref (g.1 83) := rfl
theorem fv_6 (g : Geo) : tr g (fval mm0 79 8 6) = .ref (g.1 84) := rfl
theorem fv_7 (g : Geo) : tr g (fval mm0 79 8 7) = .ref (g.1 85) := rfl
theorem fv_8 (g : Geo) : tr g (fval mm0 79 8 8) = .ref (g.1 86) := rfl
theorem fv_9 (g : Geo) : tr g (fval mm0 79 8 9) = .int (iI (0)) := rfl
theorem fv_10 (g : Geo) : tr g (fval mm0 79 8 10) = .ref (g.1 87) := rfl
theorem fv_11 (g : Geo) : tr g (fval mm0 79 8 11) = .ref (g.1 88) := rfl
theorem fv_12 (g : Geo) : tr g (fval mm0 79 8 12) = .ref (g.1 89) := rfl
theorem fv_13 (g : Geo) : tr g (fval mm0 79 8 13) = .int (iI (0)) := rfl
theorem fv_14 (g : Geo) : tr g (fval mm0 79 8 14) = .ref (g.1 90) := rfl
theorem fv_15 (g : Geo) : tr g (fval mm0 79 8 15) = .ref (g.1 91) := rfl
theorem fv_16 (g : Geo) : tr g (fval mm0 79 8 16) = .ref (g.1 92) := rfl
theorem fv_17 (g : Geo) : tr g (fval mm0 79 8 17) = .ref (g.1 93) := rfl
theorem fv_18 (g : Geo) : tr g (fval mm0 79 8 18) = .ref (g.1 94) := rfl
theorem fv_19 (g : Geo) : tr g (fval mm0 79 8 19) = .ref (g.1 95) := rfl
theorem fv_20 (g : Geo) : tr g (fval mm0 79 8 20) = .ref (g.1 96) := rfl
theorem fv_21 (g : Geo) : tr g (fval mm0 79 8 21) = .ref (g.1 97) := rfl
theorem fv_22 (g : Geo) : tr g (fval mm0 79 8 22) = .ref (g.1 98) := rfl
theorem fv_23 (g : Geo) : tr g (fval mm0 79 8 23) = .ref (g.1 99) := rfl
theorem fv_24 (g : Geo) : tr g (fval mm0 79 8 24) = .ref (g.1 100) := rfl
theorem fv_25 (g : Geo) : tr g (fval mm0 79 8 25) = .ref (g.1 101) := rfl
theorem fv_26 (g : Geo) : tr g (fval mm0 79 8 26) = .ref (g.1 102) := rfl
theorem fv_27 (g : Geo) : tr g (fval mm0 79 8 27) = .ref (g.1 103) := rfl
theorem fv_28 (g : Geo) : tr g (fval mm0 79 8 28) = .ref (g.1 104) := rfl
theorem fv_29 (g : Geo) : tr g (fval mm0 79 8 29) = .int (iI (0)) := rfl
theorem fv_30 (g : Geo) : tr g (fval mm0 79 8 30) = .int (iI (0)) := rfl
theorem fv_31 (g : Geo) : tr g (fval mm0 79 8 31) = .int (iI (0)) := rfl
theorem fv_32 (g : Geo) : tr g (fval mm0 79 8 32) = .ref (g.1 105) := rfl
theorem fv_33 (g : Geo) : tr g (fval mm0 79 8 33) = .ref (g.1 106) := rfl
theorem fv_34 (g : Geo) : tr g (fval mm0 79 8 34) = .int (iI (0)) := rfl
theorem fv_35 (g : Geo) : tr g (fval mm0 79 8 35) = .ref (g.1 107) := rfl
theorem fv_36 (g : Geo) : tr g (fval mm0 79 8 36) = .int (iI (0)) := rfl
theorem fv_37 (g : Geo) : tr g (fval mm0 79 8 37) = .int (iI (-1)) := rfl
theorem fv_38 (g : Geo) : tr g (fval mm0 79 8 38) = .int (iI (0)) := rfl
theorem fv_39 (g : Geo) : tr g (fval mm0 79 8 39) = .long (lI 0) := rfl
theorem fv_40 (g : Geo) : tr g (fval mm0 79 8 40) = .int (iI (0)) := rfl
theorem fv_41 (g : Geo) : tr g (fval mm0 79 8 41) = .int (iI (0)) := rfl
theorem fv_42 (g : Geo) : tr g (fval mm0 79 8 42) = .int (iI (0)) := rfl
theorem fv_43 (g : Geo) : tr g (fval mm0 79 8 43) = .int (iI (0)) := rfl
theorem fv_44 (g : Geo) : tr g (fval mm0 79 8 44) = .ref (g.1 108) := rfl
theorem fv_45 (g : Geo) : tr g (fval mm0 79 8 45) = .ref (g.1 109) := rfl
theorem fv_46 (g : Geo) : tr g (fval mm0 79 8 46) = .ref (g.1 110) := rfl
theorem fv_47 (g : Geo) : tr g (fval mm0 79 8 47) = .int (iI (0)) := rfl
theorem fv_48 (g : Geo) : tr g (fval mm0 79 8 48) = .ref (g.1 111) := rfl
theorem fv_49 (g : Geo) : tr g (fval mm0 79 8 49) = .ref (g.1 112) := rfl
theorem fv_50 (g : Geo) : tr g (fval mm0 79 8 50) = .ref (g.1 113) := rfl
theorem fv_51 (g : Geo) : tr g (fval mm0 79 8 51) = .ref (g.1 114) := rfl
theorem fv_52 (g : Geo) : tr g (fval mm0 79 8 52) = .int (iI (0)) := rfl
theorem fv_53 (g : Geo) : tr g (fval mm0 79 8 53) = .ref (g.1 115) := rfl
theorem fv_54 (g : Geo) : tr g (fval mm0 79 8 54) = .ref (g.1 116) := rfl
theorem fv_55 (g : Geo) : tr g (fval mm0 79 8 55) = .ref (g.1 117) := rfl
theorem fv_56 (g : Geo) : tr g (fval mm0 79 8 56) = .int (iI (0)) := rfl
theorem fv_57 (g : Geo) : tr g (fval mm0 79 8 57) = .ref (g.1 118) := rfl
theorem fv_58 (g : Geo) : tr g (fval mm0 79 8 58) = .ref (g.1 119) := rfl
theorem fv_59 (g : Geo) : tr g (fval mm0 79 8 59) = .ref (g.1 120) := rfl
theorem fv_60 (g : Geo) : tr g (fval mm0 79 8 60) = .ref (g.1 121) := rfl
theorem fv_61 (g : Geo) : tr g (fval mm0 79 8 61) = .ref (g.1 122) := rfl
theorem fv_62 (g : Geo) : tr g (fval mm0 79 8 62) = .ref (g.1 123) := rfl
theorem fv_63 (g : Geo) : tr g (fval mm0 79 8 63) = .ref (g.1 124) := rfl
theorem fv_64 (g : Geo) : tr g (fval mm0 79 8 64) = .ref (g.1 125) := rfl
theorem fv_65 (g : Geo) : tr g (fval mm0 79 8 65) = .ref (g.1 126) := rfl
theorem fv_66 (g : Geo) : tr g (fval mm0 79 8 66) = .ref (g.1 127) := rfl
theorem fv_67 (g : Geo) : tr g (fval mm0 79 8 67) = .ref (g.1 128) := rfl
theorem fv_68 (g : Geo) : tr g (fval mm0 79 8 68) = .int (iI (0)) := rfl
theorem fv_69 (g : Geo) : tr g (fval mm0 79 8 69) = .ref (g.1 129) := rfl
theorem fv_70 (g : Geo) : tr g (fval mm0 79 8 70) = .ref (g.1 130) := rfl
theorem fv_71 (g : Geo) : tr g (fval mm0 79 8 71) = .ref (g.1 131) := rfl
theorem fv_72 (g : Geo) : tr g (fval mm0 79 8 72) = .ref (g.1 132) := rfl
theorem fv_73 (g : Geo) : tr g (fval mm0 79 8 73) = .ref (g.1 133) := rfl
theorem rg74 : List.range 74 = [0, 1, 2, 3, 4, 5, 6, 7, 8, 9, 10, 11, 12, 13, 14, 15, 16, 17, 18, 19, 20, 21, 22, 23, 24, 25, 26, 27, 28, 29, 30, 31, 32, 33, 34, 35, 36, 37, 38, 39, 40, 41, 42, 43, 44, 45, 46, 47, 48, 49, 50, 51, 52, 53, 54, 55, 56, 57, 58, 59, 60, 61, 62, 63, 64, 65, 66, 67, 68, 69, 70, 71, 72, 73] := by decide +kernel
theorem eo_79 (g : Geo) : ent g mm0 79 = .inr (8, [.int (iI (0)), .ref (g.1 80), .ref (g.1 81), .ref (g.1 82), .int (iI (0)), .ref (g.1 83), .ref (g.1 84), .ref (g.1 85), .ref (g.1 86), .int (iI (0)), .ref (g.1 87), .ref (g.1 88), .ref (g.1 89), .int (iI (0)), .ref (g.1 90), .ref (g.1 91), .ref (g.1 92), .ref (g.1 93), .ref (g.1 94), .ref (g.1 95), .ref (g.1 96), .ref (g.1 97), .ref (g.1 98), .ref (g.1 99), .ref (g.1 100), .ref (g.1 101), .ref (g.1 102), .ref (g.1 103), .ref (g.1 104), .int (iI (0)), .int (iI (0)), .int (iI (0)), .ref (g.1 105), .ref (g.1 106), .int (iI (0)), .ref (g.1 107), .int (iI (0)), .int (iI (-1)), .int (iI (0)), .long (lI 0), .int (iI (0)), .int (iI (0)), .int (iI (0)), .int (iI (0)), .ref (g.1 108), .ref (g.1 109), .ref (g.1 110), .int (iI (0)), .ref (g.1 111), .ref (g.1 112), .ref (g.1 113), .ref (g.1 114), .int (iI (0)), .ref (g.1 115), .ref (g.1 116), .ref (g.1 117), .int (iI (0)), .ref (g.1 118), .ref (g.1 119), .ref (g.1 120), .ref (g.1 121), .ref (g.1 122), .ref (g.1 123), .ref (g.1 124), .ref (g.1 125), .ref (g.1 126), .ref (g.1 127), .ref (g.1 128), .int (iI (0)), .ref (g.1 129), .ref (g.1 130), .ref (g.1 131), .ref (g.1 132), .ref (g.1 133)]) := by
  rw [ent_o (ci := 8) rfl]
  unfold flds
  rw [show nfld 8 = 74 from rfl, rg74]
  simp only [List.map, fv_0, fv_1, fv_2, fv_3, fv_4, fv_5, fv_6, fv_7, fv_8, fv_9, fv_10, fv_11, fv_12, fv_13, fv_14, fv_15, fv_16, fv_17, fv_18, fv_19, fv_20, fv_21, fv_22, fv_23, fv_24, fv_25, fv_26, fv_27, fv_28, fv_29, fv_30, fv_31, fv_32, fv_33, fv_34, fv_35, fv_36, fv_37, fv_38, fv_39, fv_40, fv_41, fv_42, fv_43, fv_44, fv_45, fv_46, fv_47, fv_48, fv_49, fv_50, fv_51, fv_52, fv_53, fv_54, fv_55, fv_56, fv_57, fv_58, fv_59, fv_60, fv_61, fv_62, fv_63, fv_64, fv_65, fv_66, fv_67, fv_68, fv_69, fv_70, fv_71, fv_72, fv_73]
theorem rg55 : List.range' 79 55 = [79, 80, 81, 82, 83, 84, 85, 86, 87, 88, 89, 90, 91, 92, 93, 94, 95, 96, 97, 98, 99, 100, 101, 102, 103, 104, 105, 106, 107, 108, 109, 110, 111, 112, 113, 114, 115, 116, 117, 118, 119, 120, 121, 122, 123, 124, 125, 126, 127, 128, 129, 130, 131, 132, 133] := by decide +kernel
