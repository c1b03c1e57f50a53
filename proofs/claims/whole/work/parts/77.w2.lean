/-! THE FIRST WORLD, 3 (rows il_a printed): the cells laid by both constructors are the layout's world. -/
section W2
variable {ks : Nat → Nat} {tA : Nat → ClassId} {b : Nat}
theorem adr_lo {a : Nat} (h1 : a < 76) : adrF ks b a = b + a := by unfold adrF; rw [if_pos h1]
def InL (ks : Nat → Nat) (tA : Nat → ClassId) (b a : Nat) : Prop := ∃ i, ((Lf11 tA b)[i]? = some (cel tA (adrF ks b) M00 a) ∧ adrF ks b a = b + i) ∨ ((Lf12 ks tA (b + 156))[i]? = some (cel tA (adrF ks b) M00 a) ∧ adrF ks b a = b + 156 + i)
theorem inS {P : Nat → Prop} {n : Nat} (h : ∀ a, a < n → P a) (h1 : P n) : ∀ a, a < n + 1 → P a := fun a ha => by
  rcases Nat.lt_succ_iff_lt_or_eq.mp ha with z | z
  · exact h a z
  · exact z ▸ h1
theorem il_0 : InL ks tA b 0 := ⟨0, .inl ⟨w0_0, adr_lo (by decide)⟩⟩
theorem il_1 : InL ks tA b 1 := ⟨1, .inl ⟨w0_1, adr_lo (by decide)⟩⟩
theorem il_2 : InL ks tA b 2 := ⟨2, .inl ⟨w0_2, adr_lo (by decide)⟩⟩
theorem il_3 : InL ks tA b 3 := ⟨3, .inl ⟨w0_3, adr_lo (by decide)⟩⟩
theorem il_4 : InL ks tA b 4 := ⟨4, .inl ⟨w0_4, adr_lo (by decide)⟩⟩
theorem il_5 : InL ks tA b 5 := ⟨5, .inl ⟨w0_5, adr_lo (by decide)⟩⟩
theorem il_6 : InL ks tA b 6 := ⟨6, .inl ⟨w0_6, adr_lo (by decide)⟩⟩
theorem il_7 : InL ks tA b 7 := ⟨7, .inl ⟨w0_7, adr_lo (by decide)⟩⟩
theorem il_8 : InL ks tA b 8 := ⟨8, .inl ⟨w0_8, adr_lo (by decide)⟩⟩
theorem il_9 : InL ks tA b 9 := ⟨9, .inl ⟨w0_9, adr_lo (by decide)⟩⟩
theorem il_10 : InL ks tA b 10 := ⟨10, .inl ⟨w0_10, adr_lo (by decide)⟩⟩
theorem il_11 : InL ks tA b 11 := ⟨11, .inl ⟨w0_11, adr_lo (by decide)⟩⟩
theorem il_12 : InL ks tA b 12 := ⟨12, .inl ⟨w0_12, adr_lo (by decide)⟩⟩
theorem il_13 : InL ks tA b 13 := ⟨13, .inl ⟨w0_13, adr_lo (by decide)⟩⟩
theorem il_14 : InL ks tA b 14 := ⟨14, .inl ⟨w0_14, adr_lo (by decide)⟩⟩
theorem il_15 : InL ks tA b 15 := ⟨15, .inl ⟨w0_15, adr_lo (by decide)⟩⟩
theorem il_16 : InL ks tA b 16 := ⟨16, .inl ⟨w0_16, adr_lo (by decide)⟩⟩
theorem il_17 : InL ks tA b 17 := ⟨17, .inl ⟨w0_17, adr_lo (by decide)⟩⟩
theorem il_18 : InL ks tA b 18 := ⟨18, .inl ⟨w0_18, adr_lo (by decide)⟩⟩
theorem il_19 : InL ks tA b 19 := ⟨19, .inl ⟨w0_19, adr_lo (by decide)⟩⟩
theorem il_20 : InL ks tA b 20 := ⟨20, .inl ⟨w0_20, adr_lo (by decide)⟩⟩
theorem il_21 : InL ks tA b 21 := ⟨21, .inl ⟨w0_21, adr_lo (by decide)⟩⟩
theorem il_22 : InL ks tA b 22 := ⟨22, .inl ⟨w0_22, adr_lo (by decide)⟩⟩
theorem il_23 : InL ks tA b 23 := ⟨23, .inl ⟨w0_23, adr_lo (by decide)⟩⟩
theorem il_24 : InL ks tA b 24 := ⟨24, .inl ⟨w0_24, adr_lo (by decide)⟩⟩
theorem il_25 : InL ks tA b 25 := ⟨25, .inl ⟨w0_25, adr_lo (by decide)⟩⟩
theorem il_26 : InL ks tA b 26 := ⟨26, .inl ⟨w0_26, adr_lo (by decide)⟩⟩
theorem il_27 : InL ks tA b 27 := ⟨27, .inl ⟨w0_27, adr_lo (by decide)⟩⟩
theorem il_28 : InL ks tA b 28 := ⟨28, .inl ⟨w0_28, adr_lo (by decide)⟩⟩
theorem il_29 : InL ks tA b 29 := ⟨29, .inl ⟨w0_29, adr_lo (by decide)⟩⟩
theorem il_30 : InL ks tA b 30 := ⟨30, .inl ⟨w0_30, adr_lo (by decide)⟩⟩
theorem il_31 : InL ks tA b 31 := ⟨31, .inl ⟨w0_31, adr_lo (by decide)⟩⟩
theorem il_32 : InL ks tA b 32 := ⟨32, .inl ⟨w0_32, adr_lo (by decide)⟩⟩
theorem il_33 : InL ks tA b 33 := ⟨33, .inl ⟨w0_33, adr_lo (by decide)⟩⟩
theorem il_34 : InL ks tA b 34 := ⟨34, .inl ⟨w0_34, adr_lo (by decide)⟩⟩
theorem il_35 : InL ks tA b 35 := ⟨35, .inl ⟨w0_35, adr_lo (by decide)⟩⟩
theorem il_36 : InL ks tA b 36 := ⟨36, .inl ⟨w0_36, adr_lo (by decide)⟩⟩
theorem il_37 : InL ks tA b 37 := ⟨37, .inl ⟨w0_37, adr_lo (by decide)⟩⟩
theorem il_38 : InL ks tA b 38 := ⟨38, .inl ⟨w0_38, adr_lo (by decide)⟩⟩
theorem il_39 : InL ks tA b 39 := ⟨39, .inl ⟨w0_39, adr_lo (by decide)⟩⟩
theorem il_40 : InL ks tA b 40 := ⟨40, .inl ⟨w0_40, adr_lo (by decide)⟩⟩
theorem il_41 : InL ks tA b 41 := ⟨41, .inl ⟨w0_41, adr_lo (by decide)⟩⟩
theorem il_42 : InL ks tA b 42 := ⟨42, .inl ⟨w0_42, adr_lo (by decide)⟩⟩
theorem il_43 : InL ks tA b 43 := ⟨43, .inl ⟨w0_43, adr_lo (by decide)⟩⟩
theorem il_44 : InL ks tA b 44 := ⟨44, .inl ⟨w0_44, adr_lo (by decide)⟩⟩
theorem il_45 : InL ks tA b 45 := ⟨45, .inl ⟨w0_45, adr_lo (by decide)⟩⟩
theorem il_46 : InL ks tA b 46 := ⟨46, .inl ⟨w0_46, adr_lo (by decide)⟩⟩
theorem il_47 : InL ks tA b 47 := ⟨47, .inl ⟨w0_47, adr_lo (by decide)⟩⟩
theorem il_48 : InL ks tA b 48 := ⟨48, .inl ⟨w0_48, adr_lo (by decide)⟩⟩
theorem il_49 : InL ks tA b 49 := ⟨49, .inl ⟨w0_49, adr_lo (by decide)⟩⟩
theorem il_50 : InL ks tA b 50 := ⟨50, .inl ⟨w0_50, adr_lo (by decide)⟩⟩
theorem il_51 : InL ks tA b 51 := ⟨51, .inl ⟨w0_51, adr_lo (by decide)⟩⟩
theorem il_52 : InL ks tA b 52 := ⟨52, .inl ⟨w0_52, adr_lo (by decide)⟩⟩
theorem il_53 : InL ks tA b 53 := ⟨53, .inl ⟨w0_53, adr_lo (by decide)⟩⟩
theorem il_54 : InL ks tA b 54 := ⟨54, .inl ⟨w0_54, adr_lo (by decide)⟩⟩
theorem il_55 : InL ks tA b 55 := ⟨55, .inl ⟨w0_55, adr_lo (by decide)⟩⟩
theorem il_56 : InL ks tA b 56 := ⟨56, .inl ⟨w0_56, adr_lo (by decide)⟩⟩
theorem il_57 : InL ks tA b 57 := ⟨57, .inl ⟨w0_57, adr_lo (by decide)⟩⟩
theorem il_58 : InL ks tA b 58 := ⟨58, .inl ⟨w0_58, adr_lo (by decide)⟩⟩
theorem il_59 : InL ks tA b 59 := ⟨59, .inl ⟨w0_59, adr_lo (by decide)⟩⟩
theorem il_60 : InL ks tA b 60 := ⟨60, .inl ⟨w0_60, adr_lo (by decide)⟩⟩
theorem il_61 : InL ks tA b 61 := ⟨61, .inl ⟨w0_61, adr_lo (by decide)⟩⟩
theorem il_62 : InL ks tA b 62 := ⟨62, .inl ⟨w0_62, adr_lo (by decide)⟩⟩
theorem il_63 : InL ks tA b 63 := ⟨63, .inl ⟨w0_63, adr_lo (by decide)⟩⟩
theorem il_64 : InL ks tA b 64 := ⟨64, .inl ⟨w0_64, adr_lo (by decide)⟩⟩
theorem il_65 : InL ks tA b 65 := ⟨65, .inl ⟨w0_65, adr_lo (by decide)⟩⟩
theorem il_66 : InL ks tA b 66 := ⟨66, .inl ⟨w0_66, adr_lo (by decide)⟩⟩
theorem il_67 : InL ks tA b 67 := ⟨67, .inl ⟨w0_67, adr_lo (by decide)⟩⟩
theorem il_68 : InL ks tA b 68 := ⟨68, .inl ⟨w0_68, adr_lo (by decide)⟩⟩
theorem il_69 : InL ks tA b 69 := ⟨69, .inl ⟨w0_69, adr_lo (by decide)⟩⟩
theorem il_70 : InL ks tA b 70 := ⟨70, .inl ⟨w0_70, adr_lo (by decide)⟩⟩
theorem il_71 : InL ks tA b 71 := ⟨71, .inl ⟨w0_71, adr_lo (by decide)⟩⟩
theorem il_72 : InL ks tA b 72 := ⟨72, .inl ⟨w0_72, adr_lo (by decide)⟩⟩
theorem il_73 : InL ks tA b 73 := ⟨73, .inl ⟨w0_73, adr_lo (by decide)⟩⟩
theorem il_74 : InL ks tA b 74 := ⟨74, .inl ⟨w0_74, adr_lo (by decide)⟩⟩
theorem il_75 : InL ks tA b 75 := ⟨75, .inl ⟨w0_75, adr_lo (by decide)⟩⟩
theorem il_76 : InL ks tA b 76 := ⟨78, .inl ⟨w0_76, by rw [adr_hi] <;> omega⟩⟩
theorem il_77 : InL ks tA b 77 := ⟨79, .inl ⟨w0_77, by rw [adr_hi] <;> omega⟩⟩
theorem il_78 : InL ks tA b 78 := ⟨80, .inl ⟨w0_78, by rw [adr_hi] <;> omega⟩⟩
theorem il_79 : InL ks tA b 79 := ⟨81, .inl ⟨w0_79, by rw [adr_hi] <;> omega⟩⟩
theorem il_80 : InL ks tA b 80 := ⟨82, .inl ⟨w0_80, by rw [adr_hi] <;> omega⟩⟩
theorem il_81 : InL ks tA b 81 := ⟨83, .inl ⟨w0_81, by rw [adr_hi] <;> omega⟩⟩
theorem il_82 : InL ks tA b 82 := ⟨84, .inl ⟨w0_82, by rw [adr_hi] <;> omega⟩⟩
theorem il_83 : InL ks tA b 83 := ⟨85, .inl ⟨w0_83, by rw [adr_hi] <;> omega⟩⟩
theorem il_84 : InL ks tA b 84 := ⟨86, .inl ⟨w0_84, by rw [adr_hi] <;> omega⟩⟩
theorem il_85 : InL ks tA b 85 := ⟨87, .inl ⟨w0_85, by rw [adr_hi] <;> omega⟩⟩
theorem il_86 : InL ks tA b 86 := ⟨88, .inl ⟨w0_86, by rw [adr_hi] <;> omega⟩⟩
theorem il_87 : InL ks tA b 87 := ⟨89, .inl ⟨w0_87, by rw [adr_hi] <;> omega⟩⟩
theorem il_88 : InL ks tA b 88 := ⟨90, .inl ⟨w0_88, by rw [adr_hi] <;> omega⟩⟩
theorem il_89 : InL ks tA b 89 := ⟨91, .inl ⟨w0_89, by rw [adr_hi] <;> omega⟩⟩
theorem il_90 : InL ks tA b 90 := ⟨92, .inl ⟨w0_90, by rw [adr_hi] <;> omega⟩⟩
theorem il_91 : InL ks tA b 91 := ⟨93, .inl ⟨w0_91, by rw [adr_hi] <;> omega⟩⟩
theorem il_92 : InL ks tA b 92 := ⟨94, .inl ⟨w0_92, by rw [adr_hi] <;> omega⟩⟩
theorem il_93 : InL ks tA b 93 := ⟨95, .inl ⟨w0_93, by rw [adr_hi] <;> omega⟩⟩
theorem il_94 : InL ks tA b 94 := ⟨96, .inl ⟨w0_94, by rw [adr_hi] <;> omega⟩⟩
theorem il_95 : InL ks tA b 95 := ⟨97, .inl ⟨w0_95, by rw [adr_hi] <;> omega⟩⟩
theorem il_96 : InL ks tA b 96 := ⟨98, .inl ⟨w0_96, by rw [adr_hi] <;> omega⟩⟩
theorem il_97 : InL ks tA b 97 := ⟨99, .inl ⟨w0_97, by rw [adr_hi] <;> omega⟩⟩
theorem il_98 : InL ks tA b 98 := ⟨100, .inl ⟨w0_98, by rw [adr_hi] <;> omega⟩⟩
theorem il_99 : InL ks tA b 99 := ⟨101, .inl ⟨w0_99, by rw [adr_hi] <;> omega⟩⟩
theorem il_100 : InL ks tA b 100 := ⟨102, .inl ⟨w0_100, by rw [adr_hi] <;> omega⟩⟩
theorem il_101 : InL ks tA b 101 := ⟨103, .inl ⟨w0_101, by rw [adr_hi] <;> omega⟩⟩
theorem il_102 : InL ks tA b 102 := ⟨104, .inl ⟨w0_102, by rw [adr_hi] <;> omega⟩⟩
theorem il_103 : InL ks tA b 103 := ⟨105, .inl ⟨w0_103, by rw [adr_hi] <;> omega⟩⟩
theorem il_104 : InL ks tA b 104 := ⟨106, .inl ⟨w0_104, by rw [adr_hi] <;> omega⟩⟩
theorem il_105 : InL ks tA b 105 := ⟨107, .inl ⟨w0_105, by rw [adr_hi] <;> omega⟩⟩
theorem il_106 : InL ks tA b 106 := ⟨108, .inl ⟨w0_106, by rw [adr_hi] <;> omega⟩⟩
theorem il_107 : InL ks tA b 107 := ⟨109, .inl ⟨w0_107, by rw [adr_hi] <;> omega⟩⟩
theorem il_108 : InL ks tA b 108 := ⟨110, .inl ⟨w0_108, by rw [adr_hi] <;> omega⟩⟩
theorem il_109 : InL ks tA b 109 := ⟨111, .inl ⟨w0_109, by rw [adr_hi] <;> omega⟩⟩
theorem il_110 : InL ks tA b 110 := ⟨112, .inl ⟨w0_110, by rw [adr_hi] <;> omega⟩⟩
theorem il_111 : InL ks tA b 111 := ⟨113, .inl ⟨w0_111, by rw [adr_hi] <;> omega⟩⟩
theorem il_112 : InL ks tA b 112 := ⟨114, .inl ⟨w0_112, by rw [adr_hi] <;> omega⟩⟩
theorem il_113 : InL ks tA b 113 := ⟨115, .inl ⟨w0_113, by rw [adr_hi] <;> omega⟩⟩
theorem il_114 : InL ks tA b 114 := ⟨116, .inl ⟨w0_114, by rw [adr_hi] <;> omega⟩⟩
theorem il_115 : InL ks tA b 115 := ⟨117, .inl ⟨w0_115, by rw [adr_hi] <;> omega⟩⟩
theorem il_116 : InL ks tA b 116 := ⟨118, .inl ⟨w0_116, by rw [adr_hi] <;> omega⟩⟩
theorem il_117 : InL ks tA b 117 := ⟨119, .inl ⟨w0_117, by rw [adr_hi] <;> omega⟩⟩
theorem il_118 : InL ks tA b 118 := ⟨120, .inl ⟨w0_118, by rw [adr_hi] <;> omega⟩⟩
theorem il_119 : InL ks tA b 119 := ⟨121, .inl ⟨w0_119, by rw [adr_hi] <;> omega⟩⟩
theorem il_120 : InL ks tA b 120 := ⟨122, .inl ⟨w0_120, by rw [adr_hi] <;> omega⟩⟩
theorem il_121 : InL ks tA b 121 := ⟨123, .inl ⟨w0_121, by rw [adr_hi] <;> omega⟩⟩
theorem il_122 : InL ks tA b 122 := ⟨124, .inl ⟨w0_122, by rw [adr_hi] <;> omega⟩⟩
theorem il_123 : InL ks tA b 123 := ⟨125, .inl ⟨w0_123, by rw [adr_hi] <;> omega⟩⟩
theorem il_124 : InL ks tA b 124 := ⟨126, .inl ⟨w0_124, by rw [adr_hi] <;> omega⟩⟩
theorem il_125 : InL ks tA b 125 := ⟨127, .inl ⟨w0_125, by rw [adr_hi] <;> omega⟩⟩
theorem il_126 : InL ks tA b 126 := ⟨128, .inl ⟨w0_126, by rw [adr_hi] <;> omega⟩⟩
theorem il_127 : InL ks tA b 127 := ⟨129, .inl ⟨w0_127, by rw [adr_hi] <;> omega⟩⟩
theorem il_128 : InL ks tA b 128 := ⟨130, .inl ⟨w0_128, by rw [adr_hi] <;> omega⟩⟩
theorem il_129 : InL ks tA b 129 := ⟨131, .inl ⟨w0_129, by rw [adr_hi] <;> omega⟩⟩
theorem il_130 : InL ks tA b 130 := ⟨132, .inl ⟨w0_130, by rw [adr_hi] <;> omega⟩⟩
theorem il_131 : InL ks tA b 131 := ⟨133, .inl ⟨w0_131, by rw [adr_hi] <;> omega⟩⟩
theorem il_132 : InL ks tA b 132 := ⟨134, .inl ⟨w0_132, by rw [adr_hi] <;> omega⟩⟩
theorem il_133 : InL ks tA b 133 := ⟨135, .inl ⟨w0_133, by rw [adr_hi] <;> omega⟩⟩
theorem il_134 : InL ks tA b 134 := ⟨136, .inl ⟨w0_134, by rw [adr_hi] <;> omega⟩⟩
theorem il_135 : InL ks tA b 135 := ⟨137, .inl ⟨w0_135, by rw [adr_hi] <;> omega⟩⟩
theorem il_136 : InL ks tA b 136 := ⟨138, .inl ⟨w0_136, by rw [adr_hi] <;> omega⟩⟩
theorem il_137 : InL ks tA b 137 := ⟨139, .inl ⟨w0_137, by rw [adr_hi] <;> omega⟩⟩
theorem il_138 : InL ks tA b 138 := ⟨140, .inl ⟨w0_138, by rw [adr_hi] <;> omega⟩⟩
theorem il_139 : InL ks tA b 139 := ⟨141, .inl ⟨w0_139, by rw [adr_hi] <;> omega⟩⟩
theorem il_140 : InL ks tA b 140 := ⟨142, .inl ⟨w0_140, by rw [adr_hi] <;> omega⟩⟩
theorem il_141 : InL ks tA b 141 := ⟨143, .inl ⟨w0_141, by rw [adr_hi] <;> omega⟩⟩
theorem il_142 : InL ks tA b 142 := ⟨144, .inl ⟨w0_142, by rw [adr_hi] <;> omega⟩⟩
theorem il_143 : InL ks tA b 143 := ⟨145, .inl ⟨w0_143, by rw [adr_hi] <;> omega⟩⟩
theorem il_144 : InL ks tA b 144 := ⟨146, .inl ⟨w0_144, by rw [adr_hi] <;> omega⟩⟩
theorem il_145 : InL ks tA b 145 := ⟨147, .inl ⟨w0_145, by rw [adr_hi] <;> omega⟩⟩
theorem il_146 : InL ks tA b 146 := ⟨148, .inl ⟨w0_146, by rw [adr_hi] <;> omega⟩⟩
theorem il_147 : InL ks tA b 147 := ⟨149, .inl ⟨w0_147, by rw [adr_hi] <;> omega⟩⟩
theorem il_148 : InL ks tA b 148 := ⟨150, .inl ⟨w0_148, by rw [adr_hi] <;> omega⟩⟩
theorem il_149 : InL ks tA b 149 := ⟨151, .inl ⟨w0_149, by rw [adr_hi] <;> omega⟩⟩
theorem il_150 : InL ks tA b 150 := ⟨152, .inl ⟨w0_150, by rw [adr_hi] <;> omega⟩⟩
theorem il_151 : InL ks tA b 151 := ⟨153, .inl ⟨w0_151, by rw [adr_hi] <;> omega⟩⟩
theorem il_152 : InL ks tA b 152 := ⟨154, .inl ⟨w0_152, by rw [adr_hi] <;> omega⟩⟩
theorem il_153 : InL ks tA b 153 := ⟨155, .inl ⟨w0_153, by rw [adr_hi] <;> omega⟩⟩
theorem il_154 : InL ks tA b 154 := ⟨0, .inr ⟨w0_154, by rw [adr_hi] <;> omega⟩⟩
theorem il_155 : InL ks tA b 155 := ⟨1, .inr ⟨w0_155, by rw [adr_hi] <;> omega⟩⟩
theorem il_156 : InL ks tA b 156 := ⟨2, .inr ⟨w0_156, by rw [adr_hi] <;> omega⟩⟩
theorem il_157 : InL ks tA b 157 := ⟨3, .inr ⟨w0_157, by rw [adr_hi] <;> omega⟩⟩
theorem il_158 : InL ks tA b 158 := ⟨4, .inr ⟨w0_158, by rw [adr_hi] <;> omega⟩⟩
theorem il_159 : InL ks tA b 159 := ⟨5, .inr ⟨w0_159, by rw [adr_hi] <;> omega⟩⟩
theorem il_160 : InL ks tA b 160 := ⟨6, .inr ⟨w0_160, by rw [adr_hi] <;> omega⟩⟩
theorem il_161 : InL ks tA b 161 := ⟨7, .inr ⟨w0_161, by rw [adr_hi] <;> omega⟩⟩
theorem il_162 : InL ks tA b 162 := ⟨8, .inr ⟨w0_162, by rw [adr_hi] <;> omega⟩⟩
theorem il_163 : InL ks tA b 163 := ⟨9, .inr ⟨w0_163, by rw [adr_hi] <;> omega⟩⟩
theorem il_164 : InL ks tA b 164 := ⟨10, .inr ⟨w0_164, by rw [adr_hi] <;> omega⟩⟩
theorem il_165 : InL ks tA b 165 := ⟨11, .inr ⟨w0_165, by rw [adr_hi] <;> omega⟩⟩
theorem il_166 : InL ks tA b 166 := ⟨12, .inr ⟨w0_166, by rw [adr_hi] <;> omega⟩⟩
theorem il_167 : InL ks tA b 167 := ⟨13, .inr ⟨w0_167, by rw [adr_hi] <;> omega⟩⟩
theorem il_168 : InL ks tA b 168 := ⟨14, .inr ⟨w0_168, by rw [adr_hi] <;> omega⟩⟩
theorem il_169 : InL ks tA b 169 := ⟨15, .inr ⟨w0_169, by rw [adr_hi] <;> omega⟩⟩
theorem il_170 : InL ks tA b 170 := ⟨16, .inr ⟨w0_170, by rw [adr_hi] <;> omega⟩⟩
theorem il_171 : InL ks tA b 171 := ⟨17, .inr ⟨w0_171, by rw [adr_hi] <;> omega⟩⟩
theorem il_172 : InL ks tA b 172 := ⟨18, .inr ⟨w0_172, by rw [adr_hi] <;> omega⟩⟩
theorem il_173 : InL ks tA b 173 := ⟨19, .inr ⟨w0_173, by rw [adr_hi] <;> omega⟩⟩
theorem il_174 : InL ks tA b 174 := ⟨20, .inr ⟨w0_174, by rw [adr_hi] <;> omega⟩⟩
theorem il_175 : InL ks tA b 175 := ⟨21, .inr ⟨w0_175, by rw [adr_hi] <;> omega⟩⟩
theorem il_176 : InL ks tA b 176 := ⟨22, .inr ⟨w0_176, by rw [adr_hi] <;> omega⟩⟩
theorem il_177 : InL ks tA b 177 := ⟨23, .inr ⟨w0_177, by rw [adr_hi] <;> omega⟩⟩
theorem il_178 : InL ks tA b 178 := ⟨24, .inr ⟨w0_178, by rw [adr_hi] <;> omega⟩⟩
theorem il_179 : InL ks tA b 179 := ⟨25, .inr ⟨w0_179, by rw [adr_hi] <;> omega⟩⟩
theorem il_180 : InL ks tA b 180 := ⟨26, .inr ⟨w0_180, by rw [adr_hi] <;> omega⟩⟩
theorem il_181 : InL ks tA b 181 := ⟨27, .inr ⟨w0_181, by rw [adr_hi] <;> omega⟩⟩
theorem il_182 : InL ks tA b 182 := ⟨28, .inr ⟨w0_182, by rw [adr_hi] <;> omega⟩⟩
theorem il_183 : InL ks tA b 183 := ⟨29, .inr ⟨w0_183, by rw [adr_hi] <;> omega⟩⟩
theorem il_184 : InL ks tA b 184 := ⟨30, .inr ⟨w0_184, by rw [adr_hi] <;> omega⟩⟩
theorem il_185 : InL ks tA b 185 := ⟨31, .inr ⟨w0_185, by rw [adr_hi] <;> omega⟩⟩
theorem il_186 : InL ks tA b 186 := ⟨32, .inr ⟨w0_186, by rw [adr_hi] <;> omega⟩⟩
theorem il_187 : InL ks tA b 187 := ⟨33, .inr ⟨w0_187, by rw [adr_hi] <;> omega⟩⟩
theorem il_188 : InL ks tA b 188 := ⟨34, .inr ⟨w0_188, by rw [adr_hi] <;> omega⟩⟩
theorem il_189 : InL ks tA b 189 := ⟨35, .inr ⟨w0_189, by rw [adr_hi] <;> omega⟩⟩
theorem il_190 : InL ks tA b 190 := ⟨36, .inr ⟨w0_190, by rw [adr_hi] <;> omega⟩⟩
theorem ilB_0 : ∀ a, a < 0 → InL ks tA b a := fun a h => absurd h (by omega)
theorem ilB_20 : ∀ a, a < 20 → InL ks tA b a := by
  have h0 := @ilB_0 ks tA b
  have h1 := inS h0 il_0
  have h2 := inS h1 il_1
  have h3 := inS h2 il_2
  have h4 := inS h3 il_3
  have h5 := inS h4 il_4
  have h6 := inS h5 il_5
  have h7 := inS h6 il_6
  have h8 := inS h7 il_7
  have h9 := inS h8 il_8
  have h10 := inS h9 il_9
  have h11 := inS h10 il_10
  have h12 := inS h11 il_11
  have h13 := inS h12 il_12
  have h14 := inS h13 il_13
  have h15 := inS h14 il_14
  have h16 := inS h15 il_15
  have h17 := inS h16 il_16
  have h18 := inS h17 il_17
  have h19 := inS h18 il_18
  have h20 := inS h19 il_19
  exact h20
theorem ilB_40 : ∀ a, a < 40 → InL ks tA b a := by
  have h20 := @ilB_20 ks tA b
  have h21 := inS h20 il_20
  have h22 := inS h21 il_21
  have h23 := inS h22 il_22
  have h24 := inS h23 il_23
  have h25 := inS h24 il_24
  have h26 := inS h25 il_25
  have h27 := inS h26 il_26
  have h28 := inS h27 il_27
  have h29 := inS h28 il_28
  have h30 := inS h29 il_29
  have h31 := inS h30 il_30
  have h32 := inS h31 il_31
  have h33 := inS h32 il_32
  have h34 := inS h33 il_33
  have h35 := inS h34 il_34
  have h36 := inS h35 il_35
  have h37 := inS h36 il_36
  have h38 := inS h37 il_37
  have h39 := inS h38 il_38
  have h40 := inS h39 il_39
  exact h40
theorem ilB_60 : ∀ a, a < 60 → InL ks tA b a := by
  have h40 := @ilB_40 ks tA b
  have h41 := inS h40 il_40
  have h42 := inS h41 il_41
  have h43 := inS h42 il_42
  have h44 := inS h43 il_43
  have h45 := inS h44 il_44
  have h46 := inS h45 il_45
  have h47 := inS h46 il_46
  have h48 := inS h47 il_47
  have h49 := inS h48 il_48
  have h50 := inS h49 il_49
  have h51 := inS h50 il_50
  have h52 := inS h51 il_51
  have h53 := inS h52 il_52
  have h54 := inS h53 il_53
  have h55 := inS h54 il_54
  have h56 := inS h55 il_55
  have h57 := inS h56 il_56
  have h58 := inS h57 il_57
  have h59 := inS h58 il_58
  have h60 := inS h59 il_59
  exact h60
theorem ilB_80 : ∀ a, a < 80 → InL ks tA b a := by
  have h60 := @ilB_60 ks tA b
  have h61 := inS h60 il_60
  have h62 := inS h61 il_61
  have h63 := inS h62 il_62
  have h64 := inS h63 il_63
  have h65 := inS h64 il_64
  have h66 := inS h65 il_65
  have h67 := inS h66 il_66
  have h68 := inS h67 il_67
  have h69 := inS h68 il_68
  have h70 := inS h69 il_69
  have h71 := inS h70 il_70
  have h72 := inS h71 il_71
  have h73 := inS h72 il_72
  have h74 := inS h73 il_73
  have h75 := inS h74 il_74
  have h76 := inS h75 il_75
  have h77 := inS h76 il_76
  have h78 := inS h77 il_77
  have h79 := inS h78 il_78
  have h80 := inS h79 il_79
  exact h80
theorem ilB_100 : ∀ a, a < 100 → InL ks tA b a := by
  have h80 := @ilB_80 ks tA b
  have h81 := inS h80 il_80
  have h82 := inS h81 il_81
  have h83 := inS h82 il_82
  have h84 := inS h83 il_83
  have h85 := inS h84 il_84
  have h86 := inS h85 il_85
  have h87 := inS h86 il_86
  have h88 := inS h87 il_87
  have h89 := inS h88 il_88
  have h90 := inS h89 il_89
  have h91 := inS h90 il_90
  have h92 := inS h91 il_91
  have h93 := inS h92 il_92
  have h94 := inS h93 il_93
  have h95 := inS h94 il_94
  have h96 := inS h95 il_95
  have h97 := inS h96 il_96
  have h98 := inS h97 il_97
  have h99 := inS h98 il_98
  have h100 := inS h99 il_99
  exact h100
theorem ilB_120 : ∀ a, a < 120 → InL ks tA b a := by
  have h100 := @ilB_100 ks tA b
  have h101 := inS h100 il_100
  have h102 := inS h101 il_101
  have h103 := inS h102 il_102
  have h104 := inS h103 il_103
  have h105 := inS h104 il_104
  have h106 := inS h105 il_105
  have h107 := inS h106 il_106
  have h108 := inS h107 il_107
  have h109 := inS h108 il_108
  have h110 := inS h109 il_109
  have h111 := inS h110 il_110
  have h112 := inS h111 il_111
  have h113 := inS h112 il_112
  have h114 := inS h113 il_113
  have h115 := inS h114 il_114
  have h116 := inS h115 il_115
  have h117 := inS h116 il_116
  have h118 := inS h117 il_117
  have h119 := inS h118 il_118
  have h120 := inS h119 il_119
  exact h120
theorem ilB_140 : ∀ a, a < 140 → InL ks tA b a := by
  have h120 := @ilB_120 ks tA b
  have h121 := inS h120 il_120
  have h122 := inS h121 il_121
  have h123 := inS h122 il_122
  have h124 := inS h123 il_123
  have h125 := inS h124 il_124
  have h126 := inS h125 il_125
  have h127 := inS h126 il_126
  have h128 := inS h127 il_127
  have h129 := inS h128 il_128
  have h130 := inS h129 il_129
  have h131 := inS h130 il_130
  have h132 := inS h131 il_131
  have h133 := inS h132 il_132
  have h134 := inS h133 il_133
  have h135 := inS h134 il_134
  have h136 := inS h135 il_135
  have h137 := inS h136 il_136
  have h138 := inS h137 il_137
  have h139 := inS h138 il_138
  have h140 := inS h139 il_139
  exact h140
theorem ilB_160 : ∀ a, a < 160 → InL ks tA b a := by
  have h140 := @ilB_140 ks tA b
  have h141 := inS h140 il_140
  have h142 := inS h141 il_141
  have h143 := inS h142 il_142
  have h144 := inS h143 il_143
  have h145 := inS h144 il_144
  have h146 := inS h145 il_145
  have h147 := inS h146 il_146
  have h148 := inS h147 il_147
  have h149 := inS h148 il_148
  have h150 := inS h149 il_149
  have h151 := inS h150 il_150
  have h152 := inS h151 il_151
  have h153 := inS h152 il_152
  have h154 := inS h153 il_153
  have h155 := inS h154 il_154
  have h156 := inS h155 il_155
  have h157 := inS h156 il_156
  have h158 := inS h157 il_157
  have h159 := inS h158 il_158
  have h160 := inS h159 il_159
  exact h160
theorem ilB_180 : ∀ a, a < 180 → InL ks tA b a := by
  have h160 := @ilB_160 ks tA b
  have h161 := inS h160 il_160
  have h162 := inS h161 il_161
  have h163 := inS h162 il_162
  have h164 := inS h163 il_163
  have h165 := inS h164 il_164
  have h166 := inS h165 il_165
  have h167 := inS h166 il_166
  have h168 := inS h167 il_167
  have h169 := inS h168 il_168
  have h170 := inS h169 il_169
  have h171 := inS h170 il_170
  have h172 := inS h171 il_171
  have h173 := inS h172 il_172
  have h174 := inS h173 il_173
  have h175 := inS h174 il_174
  have h176 := inS h175 il_175
  have h177 := inS h176 il_176
  have h178 := inS h177 il_177
  have h179 := inS h178 il_178
  have h180 := inS h179 il_179
  exact h180
theorem ilB_191 : ∀ a, a < 191 → InL ks tA b a := by
  have h180 := @ilB_180 ks tA b
  have h181 := inS h180 il_180
  have h182 := inS h181 il_181
  have h183 := inS h182 il_182
  have h184 := inS h183 il_183
  have h185 := inS h184 il_184
  have h186 := inS h185 il_185
  have h187 := inS h186 il_186
  have h188 := inS h187 il_187
  have h189 := inS h188 il_188
  have h190 := inS h189 il_189
  have h191 := inS h190 il_190
  exact h191
theorem w0_P {D : va_G} {H : Heap} (h1 : va_P D clA (wsL b (Lf11 tA b)) H) (h2 : va_P D clA (wsL (b + 156) (Lf12 ks tA (b + 156))) H) : va_P D clA (wsA tA (adrF ks b) M00) H := by
  intro k q hk
  have hlt : k < NN := by
    have := List.getElem?_eq_some_iff.mp hk
    obtain ⟨h, -⟩ := this
    rw [wsA_len] at h
    exact h
  rw [wsA_at hlt] at hk
  obtain rfl := Option.some.inj hk
  obtain ⟨i, h | h⟩ := ilB_191 (ks := ks) (tA := tA) (b := b) k hlt
  · refine h1 i _ ?_
    rw [wsL_at, h.1, h.2]; rfl
  · refine h2 i _ ?_
    rw [wsL_at, h.1, h.2]; rfl
theorem adr_inj {i j : Nat} (hi : i < 191) (hj : j < 191) (h : adrF ks b i = adrF ks b j) : i = j := by
  by_cases h1 : i < 76
  · by_cases h2 : j < 76
    · rw [adr_lo h1, adr_lo h2] at h; omega
    · rw [adr_lo h1, adr_hi (by omega) hj] at h; omega
  · by_cases h2 : j < 76
    · rw [adr_lo h2, adr_hi (by omega) hi] at h; omega
    · rw [adr_hi (by omega) hi, adr_hi (by omega) hj] at h; omega
theorem w0_D {M : Mm} {sz : Nat} : va_D (AA (adrF ks b) sz) (wsA tA (adrF ks b) M) := by
  have hl : ∀ {k : Nat} {q : Nat × va_E}, (wsA tA (adrF ks b) M)[k]? = some q → k < NN ∧ q.1 = adrF ks b k := by
    intro k q hk
    have hlt : k < NN := by
      obtain ⟨h, -⟩ := List.getElem?_eq_some_iff.mp hk
      rw [wsA_len] at h
      exact h
    rw [wsA_at hlt] at hk
    exact ⟨hlt, by rw [← Option.some.inj hk]⟩
  refine ⟨fun i j p q hi hj e => ?_, fun k q hk => .inl ⟨k, (hl hk).1, (hl hk).2⟩⟩
  rw [(hl hi).2, (hl hj).2] at e
  exact adr_inj (hl hi).1 (hl hj).1 e
end W2
