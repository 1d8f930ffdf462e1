/-! the code rows, method by method -/
def gh_kOK (q : MethodName × ByteArray × Nat × Option FieldType × Nat) (m : Nat × Option FieldType × (Nat → Nat → Option (Nat × Nat)) × List (Nat × Instr × Nat)) : Prop := (∀ e ∈ m.2.2.2, decode q.2.1 e.1 = .ok e.2) ∧ m.2.1 = q.2.2.2.1 ∧ gh_on m.1 = q.1.cls ∧ gh_thrB m.1 m.2.2.2 = true
def gh_MOK (μ : Nat) : Prop := ∃ q m, gh_yt[μ]? = some q ∧ gh_mt[μ]? = some m ∧ gh_yOK q ∧ gh_kOK q m ∧ ∀ pc E, m.2.2.1 pc E = none
theorem gh_MK {μ : Nat} {q : MethodName × ByteArray × Nat × Option FieldType × Nat} {m : Nat × Option FieldType × (Nat → Nat → Option (Nat × Nat)) × List (Nat × Instr × Nat)} (h : ∃ q, gh_yt[μ]? = some q ∧ gh_yOK q) (hq : gh_yt[μ]? = some q) (hm : gh_mt[μ]? = some m) (hk : gh_kOK q m) (hn : ∀ pc E, m.2.2.1 pc E = none) : gh_MOK μ := by
  obtain ⟨q', h3, h4⟩ := h
  cases Option.some.inj (h3.symm.trans hq)
  exact ⟨_, _, hq, hm, h4, hk, hn⟩
set_option maxRecDepth 100000 in
theorem gh_d0 : ∀ e ∈ gk_0, decode prog_2_method_1_code e.1 = .ok e.2 := by decide +kernel
set_option maxRecDepth 100000 in
theorem gh_d1 : ∀ e ∈ gk_1, decode prog_2_method_2_code e.1 = .ok e.2 := by decide +kernel
set_option maxRecDepth 100000 in
theorem gh_d2 : ∀ e ∈ gk_2, decode prog_2_method_3_code e.1 = .ok e.2 := by decide +kernel
set_option maxRecDepth 100000 in
theorem gh_d3 : ∀ e ∈ gk_3, decode prog_2_method_4_code e.1 = .ok e.2 := by decide +kernel
set_option maxRecDepth 100000 in
theorem gh_d4 : ∀ e ∈ gk_4, decode prog_2_method_5_code e.1 = .ok e.2 := by decide +kernel
set_option maxRecDepth 100000 in
theorem gh_d5 : ∀ e ∈ gk_5, decode prog_2_method_6_code e.1 = .ok e.2 := by decide +kernel
set_option maxRecDepth 100000 in
theorem gh_d6 : ∀ e ∈ gk_6, decode prog_2_method_7_code e.1 = .ok e.2 := by decide +kernel
set_option maxRecDepth 100000 in
theorem gh_d7 : ∀ e ∈ gk_7, decode prog_2_method_8_code e.1 = .ok e.2 := by decide +kernel
set_option maxRecDepth 100000 in
theorem gh_d8 : ∀ e ∈ gk_8, decode prog_2_method_9_code e.1 = .ok e.2 := by decide +kernel
set_option maxRecDepth 100000 in
theorem gh_d9 : ∀ e ∈ gk_9, decode prog_2_method_10_code e.1 = .ok e.2 := by decide +kernel
set_option maxRecDepth 100000 in
theorem gh_d10 : ∀ e ∈ gk_10, decode prog_2_method_11_code e.1 = .ok e.2 := by decide +kernel
set_option maxRecDepth 100000 in
theorem gh_d11 : ∀ e ∈ gk_11, decode prog_2_method_12_code e.1 = .ok e.2 := by decide +kernel
set_option maxRecDepth 100000 in
theorem gh_d12 : ∀ e ∈ gk_12, decode prog_3_method_1_code e.1 = .ok e.2 := by decide +kernel
set_option maxRecDepth 100000 in
theorem gh_d13 : ∀ e ∈ gk_13, decode prog_3_method_2_code e.1 = .ok e.2 := by decide +kernel
set_option maxRecDepth 100000 in
theorem gh_d14 : ∀ e ∈ gk_14, decode prog_3_method_3_code e.1 = .ok e.2 := by decide +kernel
set_option maxRecDepth 100000 in
theorem gh_d15 : ∀ e ∈ gk_15, decode prog_3_method_4_code e.1 = .ok e.2 := by decide +kernel
set_option maxRecDepth 100000 in
theorem gh_d16 : ∀ e ∈ gk_16, decode prog_3_method_5_code e.1 = .ok e.2 := by decide +kernel
set_option maxRecDepth 100000 in
theorem gh_d17 : ∀ e ∈ gk_17, decode prog_3_method_6_code e.1 = .ok e.2 := by decide +kernel
set_option maxRecDepth 100000 in
theorem gh_d18 : ∀ e ∈ gk_18, decode prog_3_method_7_code e.1 = .ok e.2 := by decide +kernel
set_option maxRecDepth 100000 in
theorem gh_d19 : ∀ e ∈ gk_19, decode prog_3_method_8_code e.1 = .ok e.2 := by decide +kernel
set_option maxRecDepth 100000 in
theorem gh_d20 : ∀ e ∈ gk_20, decode prog_3_method_9_code e.1 = .ok e.2 := by decide +kernel
set_option maxRecDepth 100000 in
theorem gh_d21 : ∀ e ∈ gk_21, decode prog_4_method_1_code e.1 = .ok e.2 := by decide +kernel
set_option maxRecDepth 100000 in
theorem gh_d22 : ∀ e ∈ gk_22, decode prog_4_method_2_code e.1 = .ok e.2 := by decide +kernel
set_option maxRecDepth 100000 in
theorem gh_d23 : ∀ e ∈ gk_23, decode prog_4_method_3_code e.1 = .ok e.2 := by decide +kernel
set_option maxRecDepth 100000 in
theorem gh_d24 : ∀ e ∈ gk_24, decode prog_4_method_4_code e.1 = .ok e.2 := by decide +kernel
set_option maxRecDepth 100000 in
theorem gh_d25 : ∀ e ∈ gk_25, decode prog_4_method_5_code e.1 = .ok e.2 := by decide +kernel
set_option maxRecDepth 100000 in
theorem gh_d26 : ∀ e ∈ gk_26, decode prog_4_method_6_code e.1 = .ok e.2 := by decide +kernel
set_option maxRecDepth 100000 in
theorem gh_d27 : ∀ e ∈ gk_27, decode prog_4_method_7_code e.1 = .ok e.2 := by decide +kernel
set_option maxRecDepth 100000 in
theorem gh_d28 : ∀ e ∈ gk_28, decode prog_4_method_8_code e.1 = .ok e.2 := by decide +kernel
set_option maxRecDepth 100000 in
theorem gh_d29 : ∀ e ∈ gk_29, decode prog_5_method_1_code e.1 = .ok e.2 := by decide +kernel
set_option maxRecDepth 100000 in
theorem gh_d30 : ∀ e ∈ gk_30, decode prog_5_method_2_code e.1 = .ok e.2 := by decide +kernel
set_option maxRecDepth 100000 in
theorem gh_d31 : ∀ e ∈ gk_31, decode prog_5_method_3_code e.1 = .ok e.2 := by decide +kernel
set_option maxRecDepth 100000 in
theorem gh_d32 : ∀ e ∈ gk_32, decode prog_5_method_4_code e.1 = .ok e.2 := by decide +kernel
set_option maxRecDepth 100000 in
theorem gh_d33 : ∀ e ∈ gk_33, decode prog_5_method_5_code e.1 = .ok e.2 := by decide +kernel
set_option maxRecDepth 100000 in
theorem gh_d34 : ∀ e ∈ gk_34, decode prog_5_method_6_code e.1 = .ok e.2 := by decide +kernel
set_option maxRecDepth 100000 in
theorem gh_d35 : ∀ e ∈ gk_35, decode prog_5_method_7_code e.1 = .ok e.2 := by decide +kernel
set_option maxRecDepth 100000 in
theorem gh_d36 : ∀ e ∈ gk_36, decode prog_5_method_8_code e.1 = .ok e.2 := by decide +kernel
set_option maxRecDepth 100000 in
theorem gh_d37 : ∀ e ∈ gk_37, decode prog_5_method_9_code e.1 = .ok e.2 := by decide +kernel
set_option maxRecDepth 100000 in
theorem gh_d38 : ∀ e ∈ gk_38, decode prog_5_method_10_code e.1 = .ok e.2 := by decide +kernel
set_option maxRecDepth 100000 in
theorem gh_d39 : ∀ e ∈ gk_39, decode prog_6_method_1_code e.1 = .ok e.2 := by decide +kernel
set_option maxRecDepth 100000 in
theorem gh_d40 : ∀ e ∈ gk_40, decode prog_6_method_2_code e.1 = .ok e.2 := by decide +kernel
set_option maxRecDepth 100000 in
theorem gh_d41 : ∀ e ∈ gk_41, decode prog_6_method_3_code e.1 = .ok e.2 := by decide +kernel
set_option maxRecDepth 100000 in
theorem gh_d42 : ∀ e ∈ gk_42, decode prog_6_method_4_code e.1 = .ok e.2 := by decide +kernel
set_option maxRecDepth 100000 in
theorem gh_d43 : ∀ e ∈ gk_43, decode prog_6_method_5_code e.1 = .ok e.2 := by decide +kernel
set_option maxRecDepth 100000 in
theorem gh_d44 : ∀ e ∈ gk_44, decode prog_6_method_6_code e.1 = .ok e.2 := by decide +kernel
set_option maxRecDepth 100000 in
theorem gh_d45 : ∀ e ∈ gk_45, decode prog_6_method_7_code e.1 = .ok e.2 := by decide +kernel
set_option maxRecDepth 100000 in
theorem gh_d46 : ∀ e ∈ gk_46, decode prog_6_method_8_code e.1 = .ok e.2 := by decide +kernel
set_option maxRecDepth 100000 in
theorem gh_d47 : ∀ e ∈ gk_47, decode prog_6_method_9_code e.1 = .ok e.2 := by decide +kernel
set_option maxRecDepth 100000 in
theorem gh_d48 : ∀ e ∈ gk_48, decode prog_6_method_10_code e.1 = .ok e.2 := by decide +kernel
set_option maxRecDepth 100000 in
theorem gh_d49 : ∀ e ∈ gk_49, decode prog_6_method_11_code e.1 = .ok e.2 := by decide +kernel
set_option maxRecDepth 100000 in
theorem gh_d50 : ∀ e ∈ gk_50, decode prog_6_method_12_code e.1 = .ok e.2 := by decide +kernel
set_option maxRecDepth 100000 in
theorem gh_d51 : ∀ e ∈ gk_51, decode prog_6_method_13_code e.1 = .ok e.2 := by decide +kernel
set_option maxRecDepth 100000 in
theorem gh_d52 : ∀ e ∈ gk_52, decode prog_6_method_14_code e.1 = .ok e.2 := by decide +kernel
set_option maxRecDepth 100000 in
theorem gh_d53 : ∀ e ∈ gk_53, decode prog_6_method_15_code e.1 = .ok e.2 := by decide +kernel
set_option maxRecDepth 100000 in
theorem gh_d54 : ∀ e ∈ gk_54, decode prog_6_method_16_code e.1 = .ok e.2 := by decide +kernel
set_option maxRecDepth 100000 in
theorem gh_d55 : ∀ e ∈ gk_55, decode prog_6_method_17_code e.1 = .ok e.2 := by decide +kernel
set_option maxRecDepth 100000 in
theorem gh_d56 : ∀ e ∈ gk_56, decode prog_6_method_18_code e.1 = .ok e.2 := by decide +kernel
set_option maxRecDepth 100000 in
theorem gh_d57 : ∀ e ∈ gk_57, decode prog_6_method_19_code e.1 = .ok e.2 := by decide +kernel
set_option maxRecDepth 100000 in
theorem gh_d58 : ∀ e ∈ gk_58, decode prog_7_method_1_code e.1 = .ok e.2 := by decide +kernel
set_option maxRecDepth 100000 in
theorem gh_d59 : ∀ e ∈ gk_59, decode prog_7_method_2_code e.1 = .ok e.2 := by decide +kernel
set_option maxRecDepth 100000 in
theorem gh_d60 : ∀ e ∈ gk_60, decode prog_7_method_3_code e.1 = .ok e.2 := by decide +kernel
set_option maxRecDepth 100000 in
theorem gh_d61 : ∀ e ∈ gk_61, decode prog_7_method_4_code e.1 = .ok e.2 := by decide +kernel
set_option maxRecDepth 100000 in
theorem gh_d62 : ∀ e ∈ gk_62, decode prog_7_method_5_code e.1 = .ok e.2 := by decide +kernel
set_option maxRecDepth 100000 in
theorem gh_d63 : ∀ e ∈ gk_63, decode prog_7_method_6_code e.1 = .ok e.2 := by decide +kernel
set_option maxRecDepth 100000 in
theorem gh_d64 : ∀ e ∈ gk_64, decode prog_7_method_7_code e.1 = .ok e.2 := by decide +kernel
set_option maxRecDepth 100000 in
theorem gh_d65 : ∀ e ∈ gk_65, decode prog_7_method_8_code e.1 = .ok e.2 := by decide +kernel
set_option maxRecDepth 100000 in
theorem gh_d66 : ∀ e ∈ gk_66, decode prog_7_method_9_code e.1 = .ok e.2 := by decide +kernel
set_option maxRecDepth 100000 in
theorem gh_d67 : ∀ e ∈ gk_67, decode prog_7_method_10_code e.1 = .ok e.2 := by decide +kernel
set_option maxRecDepth 100000 in
theorem gh_d68 : ∀ e ∈ gk_68, decode prog_8_method_1_code e.1 = .ok e.2 := by decide +kernel
set_option maxRecDepth 100000 in
theorem gh_d69 : ∀ e ∈ gk_69, decode prog_8_method_2_code e.1 = .ok e.2 := by decide +kernel
set_option maxRecDepth 100000 in
theorem gh_d70 : ∀ e ∈ gk_70, decode prog_8_method_3_code e.1 = .ok e.2 := by decide +kernel
set_option maxRecDepth 100000 in
theorem gh_d71 : ∀ e ∈ gk_71, decode prog_8_method_4_code e.1 = .ok e.2 := by decide +kernel
set_option maxRecDepth 100000 in
theorem gh_d72 : ∀ e ∈ gk_72, decode prog_8_method_5_code e.1 = .ok e.2 := by decide +kernel
set_option maxRecDepth 100000 in
theorem gh_d73 : ∀ e ∈ gk_73, decode prog_8_method_6_code e.1 = .ok e.2 := by decide +kernel
set_option maxRecDepth 100000 in
theorem gh_d74 : ∀ e ∈ gk_74, decode prog_8_method_7_code e.1 = .ok e.2 := by decide +kernel
set_option maxRecDepth 100000 in
theorem gh_d75 : ∀ e ∈ gk_75, decode prog_8_method_8_code e.1 = .ok e.2 := by decide +kernel
set_option maxRecDepth 100000 in
theorem gh_d76 : ∀ e ∈ gk_76, decode prog_8_method_9_code e.1 = .ok e.2 := by decide +kernel
set_option maxRecDepth 100000 in
theorem gh_d77 : ∀ e ∈ gk_77, decode prog_8_method_10_code e.1 = .ok e.2 := by decide +kernel
set_option maxRecDepth 100000 in
theorem gh_d78 : ∀ e ∈ gk_78, decode prog_1_method_1_code e.1 = .ok e.2 := by decide +kernel
set_option maxRecDepth 100000 in
theorem gh_d79 : ∀ e ∈ gk_79, decode prog_1_method_2_code e.1 = .ok e.2 := by decide +kernel
set_option maxRecDepth 100000 in
theorem gh_d80 : ∀ e ∈ gk_80, decode prog_1_method_3_code e.1 = .ok e.2 := by decide +kernel
set_option maxRecDepth 100000 in
theorem gh_d81 : ∀ e ∈ gk_81, decode prog_1_method_4_code e.1 = .ok e.2 := by decide +kernel
set_option maxRecDepth 100000 in
theorem gh_d82 : ∀ e ∈ gk_82, decode prog_1_method_5_code e.1 = .ok e.2 := by decide +kernel
set_option maxRecDepth 100000 in
theorem gh_d83 : ∀ e ∈ gk_83, decode prog_1_method_6_code e.1 = .ok e.2 := by decide +kernel
set_option maxRecDepth 100000 in
theorem gh_d84 : ∀ e ∈ gk_84, decode prog_1_method_7_code e.1 = .ok e.2 := by decide +kernel
set_option maxRecDepth 100000 in
theorem gh_d85 : ∀ e ∈ gk_85, decode prog_1_method_8_code e.1 = .ok e.2 := by decide +kernel
set_option maxRecDepth 100000 in
theorem gh_d86 : ∀ e ∈ gk_86, decode prog_1_method_9_code e.1 = .ok e.2 := by decide +kernel
set_option maxRecDepth 100000 in
theorem gh_d87 : ∀ e ∈ gk_87, decode prog_1_method_10_code e.1 = .ok e.2 := by decide +kernel
set_option maxRecDepth 100000 in
theorem gh_d88 : ∀ e ∈ gk_88, decode prog_1_method_11_code e.1 = .ok e.2 := by decide +kernel
set_option maxRecDepth 100000 in
theorem gh_d89 : ∀ e ∈ gk_89, decode prog_1_method_12_code e.1 = .ok e.2 := by decide +kernel
set_option maxRecDepth 100000 in
theorem gh_d90 : ∀ e ∈ gk_90, decode prog_1_method_13_code e.1 = .ok e.2 := by decide +kernel
set_option maxRecDepth 100000 in
theorem gh_d91 : ∀ e ∈ gk_91, decode prog_1_method_14_code e.1 = .ok e.2 := by decide +kernel
set_option maxRecDepth 100000 in
theorem gh_d92 : ∀ e ∈ gk_92, decode prog_1_method_15_code e.1 = .ok e.2 := by decide +kernel
set_option maxRecDepth 100000 in
theorem gh_d93 : ∀ e ∈ gk_93, decode prog_1_method_16_code e.1 = .ok e.2 := by decide +kernel
set_option maxRecDepth 100000 in
theorem gh_d94 : ∀ e ∈ gk_94, decode prog_1_method_17_code e.1 = .ok e.2 := by decide +kernel
set_option maxRecDepth 100000 in
theorem gh_d95 : ∀ e ∈ gk_95, decode prog_1_method_18_code e.1 = .ok e.2 := by decide +kernel
set_option maxRecDepth 100000 in
theorem gh_d96 : ∀ e ∈ gk_96, decode prog_1_method_19_code e.1 = .ok e.2 := by decide +kernel
set_option maxRecDepth 100000 in
theorem gh_d97 : ∀ e ∈ gk_97, decode prog_1_method_20_code e.1 = .ok e.2 := by decide +kernel
set_option maxRecDepth 100000 in
theorem gh_d98 : ∀ e ∈ gk_98, decode prog_1_method_21_code e.1 = .ok e.2 := by decide +kernel
set_option maxRecDepth 100000 in
theorem gh_d99 : ∀ e ∈ gk_99, decode prog_1_method_22_code e.1 = .ok e.2 := by decide +kernel
set_option maxRecDepth 100000 in
theorem gh_d100 : ∀ e ∈ gk_100, decode prog_1_method_23_code e.1 = .ok e.2 := by decide +kernel
set_option maxRecDepth 100000 in
theorem gh_d101 : ∀ e ∈ gk_101, decode prog_1_method_24_code e.1 = .ok e.2 := by decide +kernel
set_option maxRecDepth 100000 in
theorem gh_d102 : ∀ e ∈ gk_102, decode prog_1_method_25_code e.1 = .ok e.2 := by decide +kernel
set_option maxRecDepth 100000 in
theorem gh_d103 : ∀ e ∈ gk_103, decode prog_1_method_26_code e.1 = .ok e.2 := by decide +kernel
set_option maxRecDepth 100000 in
theorem gh_d104 : ∀ e ∈ gk_104, decode prog_1_method_27_code e.1 = .ok e.2 := by decide +kernel
set_option maxRecDepth 100000 in
theorem gh_d105 : ∀ e ∈ gk_105, decode prog_1_method_28_code e.1 = .ok e.2 := by decide +kernel
set_option maxRecDepth 100000 in
theorem gh_d106 : ∀ e ∈ gk_106, decode prog_1_method_29_code e.1 = .ok e.2 := by decide +kernel
set_option maxRecDepth 100000 in
theorem gh_d107 : ∀ e ∈ gk_107, decode prog_1_method_30_code e.1 = .ok e.2 := by decide +kernel
set_option maxRecDepth 100000 in
theorem gh_d108 : ∀ e ∈ gk_108, decode prog_1_method_31_code e.1 = .ok e.2 := by decide +kernel
set_option maxRecDepth 100000 in
theorem gh_d109 : ∀ e ∈ gk_109, decode prog_1_method_32_code e.1 = .ok e.2 := by decide +kernel
set_option maxRecDepth 100000 in
theorem gh_d110 : ∀ e ∈ gk_110, decode prog_1_method_33_code e.1 = .ok e.2 := by decide +kernel
set_option maxRecDepth 100000 in
theorem gh_d111 : ∀ e ∈ gk_111, decode prog_1_method_34_code e.1 = .ok e.2 := by decide +kernel
set_option maxRecDepth 100000 in
theorem gh_d112 : ∀ e ∈ gk_112, decode prog_1_method_35_code e.1 = .ok e.2 := by decide +kernel
set_option maxRecDepth 100000 in
theorem gh_d113 : ∀ e ∈ gk_113, decode prog_1_method_36_code e.1 = .ok e.2 := by decide +kernel
set_option maxRecDepth 100000 in
theorem gh_d114 : ∀ e ∈ gk_114, decode prog_1_method_37_code e.1 = .ok e.2 := by decide +kernel
set_option maxRecDepth 100000 in
theorem gh_d115 : ∀ e ∈ gk_115, decode prog_1_method_38_code e.1 = .ok e.2 := by decide +kernel
set_option maxRecDepth 100000 in
theorem gh_d116 : ∀ e ∈ gk_116, decode prog_1_method_39_code e.1 = .ok e.2 := by decide +kernel
set_option maxRecDepth 100000 in
theorem gh_d117 : ∀ e ∈ gk_117, decode prog_1_method_40_code e.1 = .ok e.2 := by decide +kernel
set_option maxRecDepth 100000 in
theorem gh_d118 : ∀ e ∈ gk_118, decode prog_1_method_41_code e.1 = .ok e.2 := by decide +kernel
set_option maxRecDepth 100000 in
theorem gh_d119 : ∀ e ∈ gk_119, decode prog_1_method_42_code e.1 = .ok e.2 := by decide +kernel
set_option maxRecDepth 100000 in
theorem gh_d120 : ∀ e ∈ gk_120, decode prog_1_method_43_code e.1 = .ok e.2 := by decide +kernel
set_option maxRecDepth 100000 in
theorem gh_d121 : ∀ e ∈ gk_121, decode prog_1_method_44_code e.1 = .ok e.2 := by decide +kernel
set_option maxRecDepth 100000 in
theorem gh_d122 : ∀ e ∈ gk_122, decode prog_1_method_45_code e.1 = .ok e.2 := by decide +kernel
set_option maxRecDepth 100000 in
theorem gh_d123 : ∀ e ∈ gk_123, decode prog_1_method_46_code e.1 = .ok e.2 := by decide +kernel
set_option maxRecDepth 100000 in
theorem gh_d124 : ∀ e ∈ gk_124, decode prog_16_method_49_code e.1 = .ok e.2 := by decide +kernel
set_option maxRecDepth 100000 in
theorem gh_d125 : ∀ e ∈ gk_125, decode prog_22_method_103_code e.1 = .ok e.2 := by decide +kernel
set_option maxRecDepth 100000 in
theorem gh_d126 : ∀ e ∈ gk_126, decode prog_22_method_101_code e.1 = .ok e.2 := by decide +kernel
set_option maxRecDepth 100000 in
theorem gh_d127 : ∀ e ∈ gk_127, decode method_2_code e.1 = .ok e.2 := by decide +kernel
set_option maxRecDepth 100000 in
theorem gh_d128 : ∀ e ∈ gk_128, decode method_3_code e.1 = .ok e.2 := by decide +kernel
set_option maxRecDepth 100000 in
theorem gh_d129 : ∀ e ∈ gk_129, decode method_4_code e.1 = .ok e.2 := by decide +kernel
set_option maxRecDepth 100000 in
theorem gh_d130 : ∀ e ∈ gk_130, decode method_5_code e.1 = .ok e.2 := by decide +kernel
set_option maxRecDepth 100000 in
theorem gh_d131 : ∀ e ∈ gk_131, decode method_6_code e.1 = .ok e.2 := by decide +kernel
set_option maxRecDepth 100000 in
theorem gh_d132 : ∀ e ∈ gk_132, decode method_7_code e.1 = .ok e.2 := by decide +kernel
set_option maxRecDepth 100000 in
theorem gh_d133 : ∀ e ∈ gk_133, decode method_8_code e.1 = .ok e.2 := by decide +kernel
set_option maxRecDepth 100000 in
theorem gh_d134 : ∀ e ∈ gk_134, decode method_9_code e.1 = .ok e.2 := by decide +kernel
set_option maxRecDepth 100000 in
theorem gh_d135 : ∀ e ∈ gk_135, decode method_10_code e.1 = .ok e.2 := by decide +kernel
set_option maxRecDepth 100000 in
theorem gh_d136 : ∀ e ∈ gk_136, decode method_11_code e.1 = .ok e.2 := by decide +kernel
set_option maxRecDepth 100000 in
theorem gh_M0 : gh_MOK 0 := gh_MK gh_y0 rfl rfl ⟨gh_d0, rfl, rfl, by decide +kernel⟩ (fun _ _ => rfl)
set_option maxRecDepth 100000 in
theorem gh_M1 : gh_MOK 1 := gh_MK gh_y1 rfl rfl ⟨gh_d1, rfl, rfl, by decide +kernel⟩ (fun _ _ => rfl)
set_option maxRecDepth 100000 in
theorem gh_M2 : gh_MOK 2 := gh_MK gh_y2 rfl rfl ⟨gh_d2, rfl, rfl, by decide +kernel⟩ (fun _ _ => rfl)
set_option maxRecDepth 100000 in
theorem gh_M3 : gh_MOK 3 := gh_MK gh_y3 rfl rfl ⟨gh_d3, rfl, rfl, by decide +kernel⟩ (fun _ _ => rfl)
set_option maxRecDepth 100000 in
theorem gh_M4 : gh_MOK 4 := gh_MK gh_y4 rfl rfl ⟨gh_d4, rfl, rfl, by decide +kernel⟩ (fun _ _ => rfl)
set_option maxRecDepth 100000 in
theorem gh_M5 : gh_MOK 5 := gh_MK gh_y5 rfl rfl ⟨gh_d5, rfl, rfl, by decide +kernel⟩ (fun _ _ => rfl)
set_option maxRecDepth 100000 in
theorem gh_M6 : gh_MOK 6 := gh_MK gh_y6 rfl rfl ⟨gh_d6, rfl, rfl, by decide +kernel⟩ (fun _ _ => rfl)
set_option maxRecDepth 100000 in
theorem gh_M7 : gh_MOK 7 := gh_MK gh_y7 rfl rfl ⟨gh_d7, rfl, rfl, by decide +kernel⟩ (fun _ _ => rfl)
set_option maxRecDepth 100000 in
theorem gh_M8 : gh_MOK 8 := gh_MK gh_y8 rfl rfl ⟨gh_d8, rfl, rfl, by decide +kernel⟩ (fun _ _ => rfl)
set_option maxRecDepth 100000 in
theorem gh_M9 : gh_MOK 9 := gh_MK gh_y9 rfl rfl ⟨gh_d9, rfl, rfl, by decide +kernel⟩ (fun _ _ => rfl)
set_option maxRecDepth 100000 in
theorem gh_M10 : gh_MOK 10 := gh_MK gh_y10 rfl rfl ⟨gh_d10, rfl, rfl, by decide +kernel⟩ (fun _ _ => rfl)
set_option maxRecDepth 100000 in
theorem gh_M11 : gh_MOK 11 := gh_MK gh_y11 rfl rfl ⟨gh_d11, rfl, rfl, by decide +kernel⟩ (fun _ _ => rfl)
set_option maxRecDepth 100000 in
theorem gh_M12 : gh_MOK 12 := gh_MK gh_y12 rfl rfl ⟨gh_d12, rfl, rfl, by decide +kernel⟩ (fun _ _ => rfl)
set_option maxRecDepth 100000 in
theorem gh_M13 : gh_MOK 13 := gh_MK gh_y13 rfl rfl ⟨gh_d13, rfl, rfl, by decide +kernel⟩ (fun _ _ => rfl)
set_option maxRecDepth 100000 in
theorem gh_M14 : gh_MOK 14 := gh_MK gh_y14 rfl rfl ⟨gh_d14, rfl, rfl, by decide +kernel⟩ (fun _ _ => rfl)
set_option maxRecDepth 100000 in
theorem gh_M15 : gh_MOK 15 := gh_MK gh_y15 rfl rfl ⟨gh_d15, rfl, rfl, by decide +kernel⟩ (fun _ _ => rfl)
set_option maxRecDepth 100000 in
theorem gh_M16 : gh_MOK 16 := gh_MK gh_y16 rfl rfl ⟨gh_d16, rfl, rfl, by decide +kernel⟩ (fun _ _ => rfl)
set_option maxRecDepth 100000 in
theorem gh_M17 : gh_MOK 17 := gh_MK gh_y17 rfl rfl ⟨gh_d17, rfl, rfl, by decide +kernel⟩ (fun _ _ => rfl)
set_option maxRecDepth 100000 in
theorem gh_M18 : gh_MOK 18 := gh_MK gh_y18 rfl rfl ⟨gh_d18, rfl, rfl, by decide +kernel⟩ (fun _ _ => rfl)
set_option maxRecDepth 100000 in
theorem gh_M19 : gh_MOK 19 := gh_MK gh_y19 rfl rfl ⟨gh_d19, rfl, rfl, by decide +kernel⟩ (fun _ _ => rfl)
set_option maxRecDepth 100000 in
theorem gh_M20 : gh_MOK 20 := gh_MK gh_y20 rfl rfl ⟨gh_d20, rfl, rfl, by decide +kernel⟩ (fun _ _ => rfl)
set_option maxRecDepth 100000 in
theorem gh_M21 : gh_MOK 21 := gh_MK gh_y21 rfl rfl ⟨gh_d21, rfl, rfl, by decide +kernel⟩ (fun _ _ => rfl)
set_option maxRecDepth 100000 in
theorem gh_M22 : gh_MOK 22 := gh_MK gh_y22 rfl rfl ⟨gh_d22, rfl, rfl, by decide +kernel⟩ (fun _ _ => rfl)
set_option maxRecDepth 100000 in
theorem gh_M23 : gh_MOK 23 := gh_MK gh_y23 rfl rfl ⟨gh_d23, rfl, rfl, by decide +kernel⟩ (fun _ _ => rfl)
set_option maxRecDepth 100000 in
theorem gh_M24 : gh_MOK 24 := gh_MK gh_y24 rfl rfl ⟨gh_d24, rfl, rfl, by decide +kernel⟩ (fun _ _ => rfl)
set_option maxRecDepth 100000 in
theorem gh_M25 : gh_MOK 25 := gh_MK gh_y25 rfl rfl ⟨gh_d25, rfl, rfl, by decide +kernel⟩ (fun _ _ => rfl)
set_option maxRecDepth 100000 in
theorem gh_M26 : gh_MOK 26 := gh_MK gh_y26 rfl rfl ⟨gh_d26, rfl, rfl, by decide +kernel⟩ (fun _ _ => rfl)
set_option maxRecDepth 100000 in
theorem gh_M27 : gh_MOK 27 := gh_MK gh_y27 rfl rfl ⟨gh_d27, rfl, rfl, by decide +kernel⟩ (fun _ _ => rfl)
set_option maxRecDepth 100000 in
theorem gh_M28 : gh_MOK 28 := gh_MK gh_y28 rfl rfl ⟨gh_d28, rfl, rfl, by decide +kernel⟩ (fun _ _ => rfl)
set_option maxRecDepth 100000 in
theorem gh_M29 : gh_MOK 29 := gh_MK gh_y29 rfl rfl ⟨gh_d29, rfl, rfl, by decide +kernel⟩ (fun _ _ => rfl)
set_option maxRecDepth 100000 in
theorem gh_M30 : gh_MOK 30 := gh_MK gh_y30 rfl rfl ⟨gh_d30, rfl, rfl, by decide +kernel⟩ (fun _ _ => rfl)
set_option maxRecDepth 100000 in
theorem gh_M31 : gh_MOK 31 := gh_MK gh_y31 rfl rfl ⟨gh_d31, rfl, rfl, by decide +kernel⟩ (fun _ _ => rfl)
set_option maxRecDepth 100000 in
theorem gh_M32 : gh_MOK 32 := gh_MK gh_y32 rfl rfl ⟨gh_d32, rfl, rfl, by decide +kernel⟩ (fun _ _ => rfl)
set_option maxRecDepth 100000 in
theorem gh_M33 : gh_MOK 33 := gh_MK gh_y33 rfl rfl ⟨gh_d33, rfl, rfl, by decide +kernel⟩ (fun _ _ => rfl)
set_option maxRecDepth 100000 in
theorem gh_M34 : gh_MOK 34 := gh_MK gh_y34 rfl rfl ⟨gh_d34, rfl, rfl, by decide +kernel⟩ (fun _ _ => rfl)
set_option maxRecDepth 100000 in
theorem gh_M35 : gh_MOK 35 := gh_MK gh_y35 rfl rfl ⟨gh_d35, rfl, rfl, by decide +kernel⟩ (fun _ _ => rfl)
set_option maxRecDepth 100000 in
theorem gh_M36 : gh_MOK 36 := gh_MK gh_y36 rfl rfl ⟨gh_d36, rfl, rfl, by decide +kernel⟩ (fun _ _ => rfl)
set_option maxRecDepth 100000 in
theorem gh_M37 : gh_MOK 37 := gh_MK gh_y37 rfl rfl ⟨gh_d37, rfl, rfl, by decide +kernel⟩ (fun _ _ => rfl)
set_option maxRecDepth 100000 in
theorem gh_M38 : gh_MOK 38 := gh_MK gh_y38 rfl rfl ⟨gh_d38, rfl, rfl, by decide +kernel⟩ (fun _ _ => rfl)
set_option maxRecDepth 100000 in
theorem gh_M39 : gh_MOK 39 := gh_MK gh_y39 rfl rfl ⟨gh_d39, rfl, rfl, by decide +kernel⟩ (fun _ _ => rfl)
set_option maxRecDepth 100000 in
theorem gh_M40 : gh_MOK 40 := gh_MK gh_y40 rfl rfl ⟨gh_d40, rfl, rfl, by decide +kernel⟩ (fun _ _ => rfl)
set_option maxRecDepth 100000 in
theorem gh_M41 : gh_MOK 41 := gh_MK gh_y41 rfl rfl ⟨gh_d41, rfl, rfl, by decide +kernel⟩ (fun _ _ => rfl)
set_option maxRecDepth 100000 in
theorem gh_M42 : gh_MOK 42 := gh_MK gh_y42 rfl rfl ⟨gh_d42, rfl, rfl, by decide +kernel⟩ (fun _ _ => rfl)
set_option maxRecDepth 100000 in
theorem gh_M43 : gh_MOK 43 := gh_MK gh_y43 rfl rfl ⟨gh_d43, rfl, rfl, by decide +kernel⟩ (fun _ _ => rfl)
set_option maxRecDepth 100000 in
theorem gh_M44 : gh_MOK 44 := gh_MK gh_y44 rfl rfl ⟨gh_d44, rfl, rfl, by decide +kernel⟩ (fun _ _ => rfl)
set_option maxRecDepth 100000 in
theorem gh_M45 : gh_MOK 45 := gh_MK gh_y45 rfl rfl ⟨gh_d45, rfl, rfl, by decide +kernel⟩ (fun _ _ => rfl)
set_option maxRecDepth 100000 in
theorem gh_M46 : gh_MOK 46 := gh_MK gh_y46 rfl rfl ⟨gh_d46, rfl, rfl, by decide +kernel⟩ (fun _ _ => rfl)
set_option maxRecDepth 100000 in
theorem gh_M47 : gh_MOK 47 := gh_MK gh_y47 rfl rfl ⟨gh_d47, rfl, rfl, by decide +kernel⟩ (fun _ _ => rfl)
set_option maxRecDepth 100000 in
theorem gh_M48 : gh_MOK 48 := gh_MK gh_y48 rfl rfl ⟨gh_d48, rfl, rfl, by decide +kernel⟩ (fun _ _ => rfl)
set_option maxRecDepth 100000 in
theorem gh_M49 : gh_MOK 49 := gh_MK gh_y49 rfl rfl ⟨gh_d49, rfl, rfl, by decide +kernel⟩ (fun _ _ => rfl)
set_option maxRecDepth 100000 in
theorem gh_M50 : gh_MOK 50 := gh_MK gh_y50 rfl rfl ⟨gh_d50, rfl, rfl, by decide +kernel⟩ (fun _ _ => rfl)
set_option maxRecDepth 100000 in
theorem gh_M51 : gh_MOK 51 := gh_MK gh_y51 rfl rfl ⟨gh_d51, rfl, rfl, by decide +kernel⟩ (fun _ _ => rfl)
set_option maxRecDepth 100000 in
theorem gh_M52 : gh_MOK 52 := gh_MK gh_y52 rfl rfl ⟨gh_d52, rfl, rfl, by decide +kernel⟩ (fun _ _ => rfl)
set_option maxRecDepth 100000 in
theorem gh_M53 : gh_MOK 53 := gh_MK gh_y53 rfl rfl ⟨gh_d53, rfl, rfl, by decide +kernel⟩ (fun _ _ => rfl)
set_option maxRecDepth 100000 in
theorem gh_M54 : gh_MOK 54 := gh_MK gh_y54 rfl rfl ⟨gh_d54, rfl, rfl, by decide +kernel⟩ (fun _ _ => rfl)
set_option maxRecDepth 100000 in
theorem gh_M55 : gh_MOK 55 := gh_MK gh_y55 rfl rfl ⟨gh_d55, rfl, rfl, by decide +kernel⟩ (fun _ _ => rfl)
set_option maxRecDepth 100000 in
theorem gh_M56 : gh_MOK 56 := gh_MK gh_y56 rfl rfl ⟨gh_d56, rfl, rfl, by decide +kernel⟩ (fun _ _ => rfl)
set_option maxRecDepth 100000 in
theorem gh_M57 : gh_MOK 57 := gh_MK gh_y57 rfl rfl ⟨gh_d57, rfl, rfl, by decide +kernel⟩ (fun _ _ => rfl)
set_option maxRecDepth 100000 in
theorem gh_M58 : gh_MOK 58 := gh_MK gh_y58 rfl rfl ⟨gh_d58, rfl, rfl, by decide +kernel⟩ (fun _ _ => rfl)
set_option maxRecDepth 100000 in
theorem gh_M59 : gh_MOK 59 := gh_MK gh_y59 rfl rfl ⟨gh_d59, rfl, rfl, by decide +kernel⟩ (fun _ _ => rfl)
set_option maxRecDepth 100000 in
theorem gh_M60 : gh_MOK 60 := gh_MK gh_y60 rfl rfl ⟨gh_d60, rfl, rfl, by decide +kernel⟩ (fun _ _ => rfl)
set_option maxRecDepth 100000 in
theorem gh_M61 : gh_MOK 61 := gh_MK gh_y61 rfl rfl ⟨gh_d61, rfl, rfl, by decide +kernel⟩ (fun _ _ => rfl)
set_option maxRecDepth 100000 in
theorem gh_M62 : gh_MOK 62 := gh_MK gh_y62 rfl rfl ⟨gh_d62, rfl, rfl, by decide +kernel⟩ (fun _ _ => rfl)
set_option maxRecDepth 100000 in
theorem gh_M63 : gh_MOK 63 := gh_MK gh_y63 rfl rfl ⟨gh_d63, rfl, rfl, by decide +kernel⟩ (fun _ _ => rfl)
set_option maxRecDepth 100000 in
theorem gh_M64 : gh_MOK 64 := gh_MK gh_y64 rfl rfl ⟨gh_d64, rfl, rfl, by decide +kernel⟩ (fun _ _ => rfl)
set_option maxRecDepth 100000 in
theorem gh_M65 : gh_MOK 65 := gh_MK gh_y65 rfl rfl ⟨gh_d65, rfl, rfl, by decide +kernel⟩ (fun _ _ => rfl)
set_option maxRecDepth 100000 in
theorem gh_M66 : gh_MOK 66 := gh_MK gh_y66 rfl rfl ⟨gh_d66, rfl, rfl, by decide +kernel⟩ (fun _ _ => rfl)
set_option maxRecDepth 100000 in
theorem gh_M67 : gh_MOK 67 := gh_MK gh_y67 rfl rfl ⟨gh_d67, rfl, rfl, by decide +kernel⟩ (fun _ _ => rfl)
set_option maxRecDepth 100000 in
theorem gh_M68 : gh_MOK 68 := gh_MK gh_y68 rfl rfl ⟨gh_d68, rfl, rfl, by decide +kernel⟩ (fun _ _ => rfl)
set_option maxRecDepth 100000 in
theorem gh_M69 : gh_MOK 69 := gh_MK gh_y69 rfl rfl ⟨gh_d69, rfl, rfl, by decide +kernel⟩ (fun _ _ => rfl)
set_option maxRecDepth 100000 in
theorem gh_M70 : gh_MOK 70 := gh_MK gh_y70 rfl rfl ⟨gh_d70, rfl, rfl, by decide +kernel⟩ (fun _ _ => rfl)
set_option maxRecDepth 100000 in
theorem gh_M71 : gh_MOK 71 := gh_MK gh_y71 rfl rfl ⟨gh_d71, rfl, rfl, by decide +kernel⟩ (fun _ _ => rfl)
set_option maxRecDepth 100000 in
theorem gh_M72 : gh_MOK 72 := gh_MK gh_y72 rfl rfl ⟨gh_d72, rfl, rfl, by decide +kernel⟩ (fun _ _ => rfl)
set_option maxRecDepth 100000 in
theorem gh_M73 : gh_MOK 73 := gh_MK gh_y73 rfl rfl ⟨gh_d73, rfl, rfl, by decide +kernel⟩ (fun _ _ => rfl)
set_option maxRecDepth 100000 in
theorem gh_M74 : gh_MOK 74 := gh_MK gh_y74 rfl rfl ⟨gh_d74, rfl, rfl, by decide +kernel⟩ (fun _ _ => rfl)
set_option maxRecDepth 100000 in
theorem gh_M75 : gh_MOK 75 := gh_MK gh_y75 rfl rfl ⟨gh_d75, rfl, rfl, by decide +kernel⟩ (fun _ _ => rfl)
set_option maxRecDepth 100000 in
theorem gh_M76 : gh_MOK 76 := gh_MK gh_y76 rfl rfl ⟨gh_d76, rfl, rfl, by decide +kernel⟩ (fun _ _ => rfl)
set_option maxRecDepth 100000 in
theorem gh_M77 : gh_MOK 77 := gh_MK gh_y77 rfl rfl ⟨gh_d77, rfl, rfl, by decide +kernel⟩ (fun _ _ => rfl)
set_option maxRecDepth 100000 in
theorem gh_M78 : gh_MOK 78 := gh_MK gh_y78 rfl rfl ⟨gh_d78, rfl, rfl, by decide +kernel⟩ (fun _ _ => rfl)
set_option maxRecDepth 100000 in
theorem gh_M79 : gh_MOK 79 := gh_MK gh_y79 rfl rfl ⟨gh_d79, rfl, rfl, by decide +kernel⟩ (fun _ _ => rfl)
set_option maxRecDepth 100000 in
theorem gh_M80 : gh_MOK 80 := gh_MK gh_y80 rfl rfl ⟨gh_d80, rfl, rfl, by decide +kernel⟩ (fun _ _ => rfl)
set_option maxRecDepth 100000 in
theorem gh_M81 : gh_MOK 81 := gh_MK gh_y81 rfl rfl ⟨gh_d81, rfl, rfl, by decide +kernel⟩ (fun _ _ => rfl)
set_option maxRecDepth 100000 in
theorem gh_M82 : gh_MOK 82 := gh_MK gh_y82 rfl rfl ⟨gh_d82, rfl, rfl, by decide +kernel⟩ (fun _ _ => rfl)
set_option maxRecDepth 100000 in
theorem gh_M83 : gh_MOK 83 := gh_MK gh_y83 rfl rfl ⟨gh_d83, rfl, rfl, by decide +kernel⟩ (fun _ _ => rfl)
set_option maxRecDepth 100000 in
theorem gh_M84 : gh_MOK 84 := gh_MK gh_y84 rfl rfl ⟨gh_d84, rfl, rfl, by decide +kernel⟩ (fun _ _ => rfl)
set_option maxRecDepth 100000 in
theorem gh_M85 : gh_MOK 85 := gh_MK gh_y85 rfl rfl ⟨gh_d85, rfl, rfl, by decide +kernel⟩ (fun _ _ => rfl)
set_option maxRecDepth 100000 in
theorem gh_M86 : gh_MOK 86 := gh_MK gh_y86 rfl rfl ⟨gh_d86, rfl, rfl, by decide +kernel⟩ (fun _ _ => rfl)
set_option maxRecDepth 100000 in
theorem gh_M87 : gh_MOK 87 := gh_MK gh_y87 rfl rfl ⟨gh_d87, rfl, rfl, by decide +kernel⟩ (fun _ _ => rfl)
set_option maxRecDepth 100000 in
theorem gh_M88 : gh_MOK 88 := gh_MK gh_y88 rfl rfl ⟨gh_d88, rfl, rfl, by decide +kernel⟩ (fun _ _ => rfl)
set_option maxRecDepth 100000 in
theorem gh_M89 : gh_MOK 89 := gh_MK gh_y89 rfl rfl ⟨gh_d89, rfl, rfl, by decide +kernel⟩ (fun _ _ => rfl)
set_option maxRecDepth 100000 in
theorem gh_M90 : gh_MOK 90 := gh_MK gh_y90 rfl rfl ⟨gh_d90, rfl, rfl, by decide +kernel⟩ (fun _ _ => rfl)
set_option maxRecDepth 100000 in
theorem gh_M91 : gh_MOK 91 := gh_MK gh_y91 rfl rfl ⟨gh_d91, rfl, rfl, by decide +kernel⟩ (fun _ _ => rfl)
set_option maxRecDepth 100000 in
theorem gh_M92 : gh_MOK 92 := gh_MK gh_y92 rfl rfl ⟨gh_d92, rfl, rfl, by decide +kernel⟩ (fun _ _ => rfl)
set_option maxRecDepth 100000 in
theorem gh_M93 : gh_MOK 93 := gh_MK gh_y93 rfl rfl ⟨gh_d93, rfl, rfl, by decide +kernel⟩ (fun _ _ => rfl)
set_option maxRecDepth 100000 in
theorem gh_M94 : gh_MOK 94 := gh_MK gh_y94 rfl rfl ⟨gh_d94, rfl, rfl, by decide +kernel⟩ (fun _ _ => rfl)
set_option maxRecDepth 100000 in
theorem gh_M95 : gh_MOK 95 := gh_MK gh_y95 rfl rfl ⟨gh_d95, rfl, rfl, by decide +kernel⟩ (fun _ _ => rfl)
set_option maxRecDepth 100000 in
theorem gh_M96 : gh_MOK 96 := gh_MK gh_y96 rfl rfl ⟨gh_d96, rfl, rfl, by decide +kernel⟩ (fun _ _ => rfl)
set_option maxRecDepth 100000 in
theorem gh_M97 : gh_MOK 97 := gh_MK gh_y97 rfl rfl ⟨gh_d97, rfl, rfl, by decide +kernel⟩ (fun _ _ => rfl)
set_option maxRecDepth 100000 in
theorem gh_M98 : gh_MOK 98 := gh_MK gh_y98 rfl rfl ⟨gh_d98, rfl, rfl, by decide +kernel⟩ (fun _ _ => rfl)
set_option maxRecDepth 100000 in
theorem gh_M99 : gh_MOK 99 := gh_MK gh_y99 rfl rfl ⟨gh_d99, rfl, rfl, by decide +kernel⟩ (fun _ _ => rfl)
set_option maxRecDepth 100000 in
theorem gh_M100 : gh_MOK 100 := gh_MK gh_y100 rfl rfl ⟨gh_d100, rfl, rfl, by decide +kernel⟩ (fun _ _ => rfl)
set_option maxRecDepth 100000 in
theorem gh_M101 : gh_MOK 101 := gh_MK gh_y101 rfl rfl ⟨gh_d101, rfl, rfl, by decide +kernel⟩ (fun _ _ => rfl)
set_option maxRecDepth 100000 in
theorem gh_M102 : gh_MOK 102 := gh_MK gh_y102 rfl rfl ⟨gh_d102, rfl, rfl, by decide +kernel⟩ (fun _ _ => rfl)
set_option maxRecDepth 100000 in
theorem gh_M103 : gh_MOK 103 := gh_MK gh_y103 rfl rfl ⟨gh_d103, rfl, rfl, by decide +kernel⟩ (fun _ _ => rfl)
set_option maxRecDepth 100000 in
theorem gh_M104 : gh_MOK 104 := gh_MK gh_y104 rfl rfl ⟨gh_d104, rfl, rfl, by decide +kernel⟩ (fun _ _ => rfl)
set_option maxRecDepth 100000 in
theorem gh_M105 : gh_MOK 105 := gh_MK gh_y105 rfl rfl ⟨gh_d105, rfl, rfl, by decide +kernel⟩ (fun _ _ => rfl)
set_option maxRecDepth 100000 in
theorem gh_M106 : gh_MOK 106 := gh_MK gh_y106 rfl rfl ⟨gh_d106, rfl, rfl, by decide +kernel⟩ (fun _ _ => rfl)
set_option maxRecDepth 100000 in
theorem gh_M107 : gh_MOK 107 := gh_MK gh_y107 rfl rfl ⟨gh_d107, rfl, rfl, by decide +kernel⟩ (fun _ _ => rfl)
set_option maxRecDepth 100000 in
theorem gh_M108 : gh_MOK 108 := gh_MK gh_y108 rfl rfl ⟨gh_d108, rfl, rfl, by decide +kernel⟩ (fun _ _ => rfl)
set_option maxRecDepth 100000 in
theorem gh_M109 : gh_MOK 109 := gh_MK gh_y109 rfl rfl ⟨gh_d109, rfl, rfl, by decide +kernel⟩ (fun _ _ => rfl)
set_option maxRecDepth 100000 in
theorem gh_M110 : gh_MOK 110 := gh_MK gh_y110 rfl rfl ⟨gh_d110, rfl, rfl, by decide +kernel⟩ (fun _ _ => rfl)
set_option maxRecDepth 100000 in
theorem gh_M111 : gh_MOK 111 := gh_MK gh_y111 rfl rfl ⟨gh_d111, rfl, rfl, by decide +kernel⟩ (fun _ _ => rfl)
set_option maxRecDepth 100000 in
theorem gh_M112 : gh_MOK 112 := gh_MK gh_y112 rfl rfl ⟨gh_d112, rfl, rfl, by decide +kernel⟩ (fun _ _ => rfl)
set_option maxRecDepth 100000 in
theorem gh_M113 : gh_MOK 113 := gh_MK gh_y113 rfl rfl ⟨gh_d113, rfl, rfl, by decide +kernel⟩ (fun _ _ => rfl)
set_option maxRecDepth 100000 in
theorem gh_M114 : gh_MOK 114 := gh_MK gh_y114 rfl rfl ⟨gh_d114, rfl, rfl, by decide +kernel⟩ (fun _ _ => rfl)
set_option maxRecDepth 100000 in
theorem gh_M115 : gh_MOK 115 := gh_MK gh_y115 rfl rfl ⟨gh_d115, rfl, rfl, by decide +kernel⟩ (fun _ _ => rfl)
set_option maxRecDepth 100000 in
theorem gh_M116 : gh_MOK 116 := gh_MK gh_y116 rfl rfl ⟨gh_d116, rfl, rfl, by decide +kernel⟩ (fun _ _ => rfl)
set_option maxRecDepth 100000 in
theorem gh_M117 : gh_MOK 117 := gh_MK gh_y117 rfl rfl ⟨gh_d117, rfl, rfl, by decide +kernel⟩ (fun _ _ => rfl)
set_option maxRecDepth 100000 in
theorem gh_M118 : gh_MOK 118 := gh_MK gh_y118 rfl rfl ⟨gh_d118, rfl, rfl, by decide +kernel⟩ (fun _ _ => rfl)
set_option maxRecDepth 100000 in
theorem gh_M119 : gh_MOK 119 := gh_MK gh_y119 rfl rfl ⟨gh_d119, rfl, rfl, by decide +kernel⟩ (fun _ _ => rfl)
set_option maxRecDepth 100000 in
theorem gh_M120 : gh_MOK 120 := gh_MK gh_y120 rfl rfl ⟨gh_d120, rfl, rfl, by decide +kernel⟩ (fun _ _ => rfl)
set_option maxRecDepth 100000 in
theorem gh_M121 : gh_MOK 121 := gh_MK gh_y121 rfl rfl ⟨gh_d121, rfl, rfl, by decide +kernel⟩ (fun _ _ => rfl)
set_option maxRecDepth 100000 in
theorem gh_M122 : gh_MOK 122 := gh_MK gh_y122 rfl rfl ⟨gh_d122, rfl, rfl, by decide +kernel⟩ (fun _ _ => rfl)
set_option maxRecDepth 100000 in
theorem gh_M123 : gh_MOK 123 := gh_MK gh_y123 rfl rfl ⟨gh_d123, rfl, rfl, by decide +kernel⟩ (fun _ _ => rfl)
set_option maxRecDepth 100000 in
theorem gh_M124 : gh_MOK 124 := gh_MK gh_y124 rfl rfl ⟨gh_d124, rfl, rfl, by decide +kernel⟩ (fun _ _ => rfl)
set_option maxRecDepth 100000 in
theorem gh_M125 : gh_MOK 125 := gh_MK gh_y125 rfl rfl ⟨gh_d125, rfl, rfl, by decide +kernel⟩ (fun _ _ => rfl)
set_option maxRecDepth 100000 in
theorem gh_M126 : gh_MOK 126 := gh_MK gh_y126 rfl rfl ⟨gh_d126, rfl, rfl, by decide +kernel⟩ (fun _ _ => rfl)
set_option maxRecDepth 100000 in
theorem gh_M127 : gh_MOK 127 := gh_MK gh_y127 rfl rfl ⟨gh_d127, rfl, rfl, by decide +kernel⟩ (fun _ _ => rfl)
theorem gh_Mg0 : ∀ μ ∈ ([0, 1, 2, 3, 4, 5, 6, 7, 8, 9, 10, 11, 12, 13, 14, 15, 16, 17, 18, 19, 20, 21, 22, 23, 24, 25, 26, 27] : List Nat), gh_MOK μ := List.forall_mem_cons.mpr ⟨gh_M0, List.forall_mem_cons.mpr ⟨gh_M1, List.forall_mem_cons.mpr ⟨gh_M2, List.forall_mem_cons.mpr ⟨gh_M3, List.forall_mem_cons.mpr ⟨gh_M4, List.forall_mem_cons.mpr ⟨gh_M5, List.forall_mem_cons.mpr ⟨gh_M6, List.forall_mem_cons.mpr ⟨gh_M7, List.forall_mem_cons.mpr ⟨gh_M8, List.forall_mem_cons.mpr ⟨gh_M9, List.forall_mem_cons.mpr ⟨gh_M10, List.forall_mem_cons.mpr ⟨gh_M11, List.forall_mem_cons.mpr ⟨gh_M12, List.forall_mem_cons.mpr ⟨gh_M13, List.forall_mem_cons.mpr ⟨gh_M14, List.forall_mem_cons.mpr ⟨gh_M15, List.forall_mem_cons.mpr ⟨gh_M16, List.forall_mem_cons.mpr ⟨gh_M17, List.forall_mem_cons.mpr ⟨gh_M18, List.forall_mem_cons.mpr ⟨gh_M19, List.forall_mem_cons.mpr ⟨gh_M20, List.forall_mem_cons.mpr ⟨gh_M21, List.forall_mem_cons.mpr ⟨gh_M22, List.forall_mem_cons.mpr ⟨gh_M23, List.forall_mem_cons.mpr ⟨gh_M24, List.forall_mem_cons.mpr ⟨gh_M25, List.forall_mem_cons.mpr ⟨gh_M26, List.forall_mem_cons.mpr ⟨gh_M27, (fun _ h => absurd h List.not_mem_nil)⟩⟩⟩⟩⟩⟩⟩⟩⟩⟩⟩⟩⟩⟩⟩⟩⟩⟩⟩⟩⟩⟩⟩⟩⟩⟩⟩⟩
theorem gh_Mg1 : ∀ μ ∈ ([28, 29, 30, 31, 32, 33, 34, 35, 36, 37, 38, 39, 40, 41, 42, 43, 44, 45, 46, 47, 48, 49, 50, 51, 52, 53, 54, 55] : List Nat), gh_MOK μ := List.forall_mem_cons.mpr ⟨gh_M28, List.forall_mem_cons.mpr ⟨gh_M29, List.forall_mem_cons.mpr ⟨gh_M30, List.forall_mem_cons.mpr ⟨gh_M31, List.forall_mem_cons.mpr ⟨gh_M32, List.forall_mem_cons.mpr ⟨gh_M33, List.forall_mem_cons.mpr ⟨gh_M34, List.forall_mem_cons.mpr ⟨gh_M35, List.forall_mem_cons.mpr ⟨gh_M36, List.forall_mem_cons.mpr ⟨gh_M37, List.forall_mem_cons.mpr ⟨gh_M38, List.forall_mem_cons.mpr ⟨gh_M39, List.forall_mem_cons.mpr ⟨gh_M40, List.forall_mem_cons.mpr ⟨gh_M41, List.forall_mem_cons.mpr ⟨gh_M42, List.forall_mem_cons.mpr ⟨gh_M43, List.forall_mem_cons.mpr ⟨gh_M44, List.forall_mem_cons.mpr ⟨gh_M45, List.forall_mem_cons.mpr ⟨gh_M46, List.forall_mem_cons.mpr ⟨gh_M47, List.forall_mem_cons.mpr ⟨gh_M48, List.forall_mem_cons.mpr ⟨gh_M49, List.forall_mem_cons.mpr ⟨gh_M50, List.forall_mem_cons.mpr ⟨gh_M51, List.forall_mem_cons.mpr ⟨gh_M52, List.forall_mem_cons.mpr ⟨gh_M53, List.forall_mem_cons.mpr ⟨gh_M54, List.forall_mem_cons.mpr ⟨gh_M55, (fun _ h => absurd h List.not_mem_nil)⟩⟩⟩⟩⟩⟩⟩⟩⟩⟩⟩⟩⟩⟩⟩⟩⟩⟩⟩⟩⟩⟩⟩⟩⟩⟩⟩⟩
theorem gh_Mg2 : ∀ μ ∈ ([56, 57, 58, 59, 60, 61, 62, 63, 64, 65, 66, 67, 68, 69, 70, 71, 72, 73, 74, 75, 76, 77, 78, 79, 80, 81, 82, 83] : List Nat), gh_MOK μ := List.forall_mem_cons.mpr ⟨gh_M56, List.forall_mem_cons.mpr ⟨gh_M57, List.forall_mem_cons.mpr ⟨gh_M58, List.forall_mem_cons.mpr ⟨gh_M59, List.forall_mem_cons.mpr ⟨gh_M60, List.forall_mem_cons.mpr ⟨gh_M61, List.forall_mem_cons.mpr ⟨gh_M62, List.forall_mem_cons.mpr ⟨gh_M63, List.forall_mem_cons.mpr ⟨gh_M64, List.forall_mem_cons.mpr ⟨gh_M65, List.forall_mem_cons.mpr ⟨gh_M66, List.forall_mem_cons.mpr ⟨gh_M67, List.forall_mem_cons.mpr ⟨gh_M68, List.forall_mem_cons.mpr ⟨gh_M69, List.forall_mem_cons.mpr ⟨gh_M70, List.forall_mem_cons.mpr ⟨gh_M71, List.forall_mem_cons.mpr ⟨gh_M72, List.forall_mem_cons.mpr ⟨gh_M73, List.forall_mem_cons.mpr ⟨gh_M74, List.forall_mem_cons.mpr ⟨gh_M75, List.forall_mem_cons.mpr ⟨gh_M76, List.forall_mem_cons.mpr ⟨gh_M77, List.forall_mem_cons.mpr ⟨gh_M78, List.forall_mem_cons.mpr ⟨gh_M79, List.forall_mem_cons.mpr ⟨gh_M80, List.forall_mem_cons.mpr ⟨gh_M81, List.forall_mem_cons.mpr ⟨gh_M82, List.forall_mem_cons.mpr ⟨gh_M83, (fun _ h => absurd h List.not_mem_nil)⟩⟩⟩⟩⟩⟩⟩⟩⟩⟩⟩⟩⟩⟩⟩⟩⟩⟩⟩⟩⟩⟩⟩⟩⟩⟩⟩⟩
theorem gh_Mg3 : ∀ μ ∈ ([84, 85, 86, 87, 88, 89, 90, 91, 92, 93, 94, 95, 96, 97, 98, 99, 100, 101, 102, 103, 104, 105, 106, 107, 108, 109, 110, 111] : List Nat), gh_MOK μ := List.forall_mem_cons.mpr ⟨gh_M84, List.forall_mem_cons.mpr ⟨gh_M85, List.forall_mem_cons.mpr ⟨gh_M86, List.forall_mem_cons.mpr ⟨gh_M87, List.forall_mem_cons.mpr ⟨gh_M88, List.forall_mem_cons.mpr ⟨gh_M89, List.forall_mem_cons.mpr ⟨gh_M90, List.forall_mem_cons.mpr ⟨gh_M91, List.forall_mem_cons.mpr ⟨gh_M92, List.forall_mem_cons.mpr ⟨gh_M93, List.forall_mem_cons.mpr ⟨gh_M94, List.forall_mem_cons.mpr ⟨gh_M95, List.forall_mem_cons.mpr ⟨gh_M96, List.forall_mem_cons.mpr ⟨gh_M97, List.forall_mem_cons.mpr ⟨gh_M98, List.forall_mem_cons.mpr ⟨gh_M99, List.forall_mem_cons.mpr ⟨gh_M100, List.forall_mem_cons.mpr ⟨gh_M101, List.forall_mem_cons.mpr ⟨gh_M102, List.forall_mem_cons.mpr ⟨gh_M103, List.forall_mem_cons.mpr ⟨gh_M104, List.forall_mem_cons.mpr ⟨gh_M105, List.forall_mem_cons.mpr ⟨gh_M106, List.forall_mem_cons.mpr ⟨gh_M107, List.forall_mem_cons.mpr ⟨gh_M108, List.forall_mem_cons.mpr ⟨gh_M109, List.forall_mem_cons.mpr ⟨gh_M110, List.forall_mem_cons.mpr ⟨gh_M111, (fun _ h => absurd h List.not_mem_nil)⟩⟩⟩⟩⟩⟩⟩⟩⟩⟩⟩⟩⟩⟩⟩⟩⟩⟩⟩⟩⟩⟩⟩⟩⟩⟩⟩⟩
theorem gh_Mg4 : ∀ μ ∈ ([112, 113, 114, 115, 116, 117, 118, 119, 120, 121, 122, 123, 124, 125, 126, 127] : List Nat), gh_MOK μ := List.forall_mem_cons.mpr ⟨gh_M112, List.forall_mem_cons.mpr ⟨gh_M113, List.forall_mem_cons.mpr ⟨gh_M114, List.forall_mem_cons.mpr ⟨gh_M115, List.forall_mem_cons.mpr ⟨gh_M116, List.forall_mem_cons.mpr ⟨gh_M117, List.forall_mem_cons.mpr ⟨gh_M118, List.forall_mem_cons.mpr ⟨gh_M119, List.forall_mem_cons.mpr ⟨gh_M120, List.forall_mem_cons.mpr ⟨gh_M121, List.forall_mem_cons.mpr ⟨gh_M122, List.forall_mem_cons.mpr ⟨gh_M123, List.forall_mem_cons.mpr ⟨gh_M124, List.forall_mem_cons.mpr ⟨gh_M125, List.forall_mem_cons.mpr ⟨gh_M126, List.forall_mem_cons.mpr ⟨gh_M127, (fun _ h => absurd h List.not_mem_nil)⟩⟩⟩⟩⟩⟩⟩⟩⟩⟩⟩⟩⟩⟩⟩⟩
theorem gh_Mall (μ : Nat) (h : μ < 128) : gh_MOK μ := by
  by_cases h0 : μ < 28
  · exact gh_Mg0 μ (by simp only [List.mem_cons, List.not_mem_nil, or_false]; omega)
  by_cases h1 : μ < 56
  · exact gh_Mg1 μ (by simp only [List.mem_cons, List.not_mem_nil, or_false]; omega)
  by_cases h2 : μ < 84
  · exact gh_Mg2 μ (by simp only [List.mem_cons, List.not_mem_nil, or_false]; omega)
  by_cases h3 : μ < 112
  · exact gh_Mg3 μ (by simp only [List.mem_cons, List.not_mem_nil, or_false]; omega)
  by_cases h4 : μ < 128
  · exact gh_Mg4 μ (by simp only [List.mem_cons, List.not_mem_nil, or_false]; omega)
  exact absurd h (by omega)
