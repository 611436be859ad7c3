/-! THE FIRST HEAP (written by gen_first.py) -/
def ZZ (h : PH) : Prop := h.1 4 = (fun _ => 0) ∧ h.1 69 = (fun _ => 0) ∧ h.2.2.1 = fun _ _ => none
theorem zz_i {h : PH} {k j : Nat} {v : Int32} (h1 : 4 ≠ k) (h2 : 69 ≠ k) (z : ZZ h) : ZZ (ph_i h k j v) := ⟨by rw [pr_ne h1]; exact z.1, by rw [pr_ne h2]; exact z.2.1, z.2.2⟩
theorem zz_n {h : PH} {N : Nat} {y : Ly} (z : ZZ h) : ZZ (ph_n h N y) := by
  refine ⟨?_, ?_, ?_⟩
  · show up_R h.1 N (fun _ => 0) 4 = _
    unfold up_R
    by_cases q : 4 = N
    · rw [if_pos q]
    · rw [if_neg q]; exact z.1
  · show up_R h.1 N (fun _ => 0) 69 = _
    unfold up_R
    by_cases q : 69 = N
    · rw [if_pos q]
    · rw [if_neg q]; exact z.2.1
  · show up_R h.2.2.1 N (fun _ => none) = _
    funext a
    unfold up_R
    by_cases q : a = N
    · rw [if_pos q]
    · rw [if_neg q, z.2.2]
theorem zz_0 : ZZ hs_0 := ⟨rfl, rfl, rfl⟩
theorem zz_1 : ZZ hs_1 := zz_n zz_0
theorem zz_2 : ZZ hs_2 := zz_n zz_1
theorem zz_3 : ZZ hs_3 := zz_n zz_2
theorem zz_4 : ZZ hs_4 := zz_i (by decide) (by decide) zz_3
theorem zz_5 : ZZ hs_5 := zz_n zz_4
theorem zz_6 : ZZ hs_6 := zz_i (by decide) (by decide) zz_5
theorem zz_7 : ZZ hs_7 := zz_n zz_6
theorem zz_8 : ZZ hs_8 := zz_i (by decide) (by decide) zz_7
theorem zz_9 : ZZ hs_9 := zz_i (by decide) (by decide) zz_8
theorem zz_10 : ZZ hs_10 := zz_i (by decide) (by decide) zz_9
theorem zz_11 : ZZ hs_11 := zz_i (by decide) (by decide) zz_10
theorem zz_12 : ZZ hs_12 := zz_i (by decide) (by decide) zz_11
theorem zz_13 : ZZ hs_13 := zz_i (by decide) (by decide) zz_12
theorem zz_14 : ZZ hs_14 := zz_n zz_13
theorem zz_15 : ZZ hs_15 := zz_n zz_14
theorem zz_16 : ZZ hs_16 := zz_i (by decide) (by decide) zz_15
theorem zz_17 : ZZ hs_17 := zz_n zz_16
theorem zz_18 : ZZ hs_18 := zz_i (by decide) (by decide) zz_17
theorem zz_19 : ZZ hs_19 := zz_n zz_18
theorem zz_20 : ZZ hs_20 := zz_i (by decide) (by decide) zz_19
theorem zz_21 : ZZ hs_21 := zz_n zz_20
theorem zz_22 : ZZ hs_22 := zz_i (by decide) (by decide) zz_21
theorem zz_23 : ZZ hs_23 := zz_i (by decide) (by decide) zz_22
theorem zz_24 : ZZ hs_24 := zz_n zz_23
theorem zz_25 : ZZ hs_25 := zz_n zz_24
theorem zz_26 : ZZ hs_26 := zz_i (by decide) (by decide) zz_25
theorem zz_27 : ZZ hs_27 := zz_n zz_26
theorem zz_28 : ZZ hs_28 := zz_i (by decide) (by decide) zz_27
theorem zz_29 : ZZ hs_29 := zz_n zz_28
theorem zz_30 : ZZ hs_30 := zz_i (by decide) (by decide) zz_29
theorem zz_31 : ZZ hs_31 := zz_n zz_30
theorem zz_32 : ZZ hs_32 := zz_i (by decide) (by decide) zz_31
theorem zz_33 : ZZ hs_33 := zz_n zz_32
theorem zz_34 : ZZ hs_34 := zz_i (by decide) (by decide) zz_33
theorem zz_35 : ZZ hs_35 := zz_n zz_34
theorem zz_36 : ZZ hs_36 := zz_i (by decide) (by decide) zz_35
theorem zz_37 : ZZ hs_37 := zz_i (by decide) (by decide) zz_36
theorem zz_38 : ZZ hs_38 := zz_n zz_37
theorem zz_39 : ZZ hs_39 := zz_n zz_38
theorem zz_40 : ZZ hs_40 := zz_i (by decide) (by decide) zz_39
theorem zz_41 : ZZ hs_41 := zz_n zz_40
theorem zz_42 : ZZ hs_42 := zz_i (by decide) (by decide) zz_41
theorem zz_43 : ZZ hs_43 := zz_n zz_42
theorem zz_44 : ZZ hs_44 := zz_i (by decide) (by decide) zz_43
theorem zz_45 : ZZ hs_45 := zz_n zz_44
theorem zz_46 : ZZ hs_46 := zz_i (by decide) (by decide) zz_45
theorem zz_47 : ZZ hs_47 := zz_i (by decide) (by decide) zz_46
theorem zz_48 : ZZ hs_48 := zz_n zz_47
theorem zz_49 : ZZ hs_49 := zz_i (by decide) (by decide) zz_48
theorem zz_50 : ZZ hs_50 := zz_n zz_49
theorem zz_51 : ZZ hs_51 := zz_n zz_50
theorem zz_52 : ZZ hs_52 := zz_i (by decide) (by decide) zz_51
theorem zz_53 : ZZ hs_53 := zz_n zz_52
theorem zz_54 : ZZ hs_54 := zz_i (by decide) (by decide) zz_53
theorem zz_55 : ZZ hs_55 := zz_n zz_54
theorem zz_56 : ZZ hs_56 := zz_i (by decide) (by decide) zz_55
theorem zz_57 : ZZ hs_57 := zz_i (by decide) (by decide) zz_56
theorem zz_58 : ZZ hs_58 := zz_n zz_57
theorem zz_59 : ZZ hs_59 := zz_n zz_58
theorem zz_60 : ZZ hs_60 := zz_i (by decide) (by decide) zz_59
theorem zz_61 : ZZ hs_61 := zz_n zz_60
theorem zz_62 : ZZ hs_62 := zz_i (by decide) (by decide) zz_61
theorem zz_63 : ZZ hs_63 := zz_n zz_62
theorem zz_64 : ZZ hs_64 := zz_i (by decide) (by decide) zz_63
theorem zz_65 : ZZ hs_65 := zz_n zz_64
theorem zz_66 : ZZ hs_66 := zz_i (by decide) (by decide) zz_65
theorem zz_67 : ZZ hs_67 := zz_n zz_66
theorem zz_68 : ZZ hs_68 := zz_i (by decide) (by decide) zz_67
theorem zz_69 : ZZ hs_69 := zz_n zz_68
theorem zz_70 : ZZ hs_70 := zz_i (by decide) (by decide) zz_69
theorem zz_71 : ZZ hs_71 := zz_i (by decide) (by decide) zz_70
theorem zz_72 : ZZ hs_72 := zz_n zz_71
theorem zz_73 : ZZ hs_73 := zz_n zz_72
theorem zz_74 : ZZ hs_74 := zz_i (by decide) (by decide) zz_73
theorem zz_75 : ZZ hs_75 := zz_n zz_74
theorem zz_76 : ZZ hs_76 := zz_i (by decide) (by decide) zz_75
theorem zz_77 : ZZ hs_77 := zz_i (by decide) (by decide) zz_76
theorem zz_78 : ZZ hs_78 := zz_n zz_77
theorem zz_79 : ZZ hs_79 := zz_n zz_78
theorem zz_80 : ZZ hs_80 := zz_i (by decide) (by decide) zz_79
theorem zz_81 : ZZ hs_81 := zz_n zz_80
theorem zz_82 : ZZ hs_82 := zz_i (by decide) (by decide) zz_81
theorem zz_83 : ZZ hs_83 := zz_n zz_82
theorem zz_84 : ZZ hs_84 := zz_i (by decide) (by decide) zz_83
theorem zz_85 : ZZ hs_85 := zz_n zz_84
theorem zz_86 : ZZ hs_86 := zz_i (by decide) (by decide) zz_85
theorem zz_87 : ZZ hs_87 := zz_i (by decide) (by decide) zz_86
theorem zz_88 : ZZ hs_88 := zz_n zz_87
theorem zz_89 : ZZ hs_89 := zz_i (by decide) (by decide) zz_88
theorem zz_90 : ZZ hs_90 := zz_n zz_89
theorem zz_91 : ZZ hs_91 := zz_n zz_90
theorem zz_92 : ZZ hs_92 := zz_i (by decide) (by decide) zz_91
theorem zz_93 : ZZ hs_93 := zz_n zz_92
theorem zz_94 : ZZ hs_94 := zz_i (by decide) (by decide) zz_93
theorem zz_95 : ZZ hs_95 := zz_n zz_94
theorem zz_96 : ZZ hs_96 := zz_i (by decide) (by decide) zz_95
theorem zz_97 : ZZ hs_97 := zz_n zz_96
theorem zz_98 : ZZ hs_98 := zz_i (by decide) (by decide) zz_97
theorem zz_99 : ZZ hs_99 := zz_n zz_98
theorem zz_100 : ZZ hs_100 := zz_i (by decide) (by decide) zz_99
theorem zz_101 : ZZ hs_101 := zz_n zz_100
theorem zz_102 : ZZ hs_102 := zz_i (by decide) (by decide) zz_101
theorem zz_103 : ZZ hs_103 := zz_n zz_102
theorem zz_104 : ZZ hs_104 := zz_i (by decide) (by decide) zz_103
theorem zz_105 : ZZ hs_105 := zz_n zz_104
theorem zz_106 : ZZ hs_106 := zz_i (by decide) (by decide) zz_105
theorem zz_107 : ZZ hs_107 := zz_n zz_106
theorem zz_108 : ZZ hs_108 := zz_i (by decide) (by decide) zz_107
theorem zz_109 : ZZ hs_109 := zz_n zz_108
theorem zz_110 : ZZ hs_110 := zz_i (by decide) (by decide) zz_109
theorem zz_111 : ZZ hs_111 := zz_n zz_110
theorem zz_112 : ZZ hs_112 := zz_i (by decide) (by decide) zz_111
theorem zz_113 : ZZ hs_113 := zz_n zz_112
theorem zz_114 : ZZ hs_114 := zz_i (by decide) (by decide) zz_113
theorem zz_115 : ZZ hs_115 := zz_n zz_114
theorem zz_116 : ZZ hs_116 := zz_i (by decide) (by decide) zz_115
theorem zz_117 : ZZ hs_117 := zz_n zz_116
theorem zz_118 : ZZ hs_118 := zz_i (by decide) (by decide) zz_117
theorem zz_119 : ZZ hs_119 := zz_n zz_118
theorem zz_120 : ZZ hs_120 := zz_i (by decide) (by decide) zz_119
theorem zz_121 : ZZ hs_121 := zz_n zz_120
theorem zz_122 : ZZ hs_122 := zz_i (by decide) (by decide) zz_121
theorem zz_123 : ZZ hs_123 := zz_n zz_122
theorem zz_124 : ZZ hs_124 := zz_i (by decide) (by decide) zz_123
theorem zz_125 : ZZ hs_125 := zz_n zz_124
theorem zz_126 : ZZ hs_126 := zz_i (by decide) (by decide) zz_125
theorem zz_127 : ZZ hs_127 := zz_n zz_126
theorem zz_128 : ZZ hs_128 := zz_i (by decide) (by decide) zz_127
theorem zz_129 : ZZ hs_129 := zz_n zz_128
theorem zz_130 : ZZ hs_130 := zz_i (by decide) (by decide) zz_129
theorem zz_131 : ZZ hs_131 := zz_n zz_130
theorem zz_132 : ZZ hs_132 := zz_i (by decide) (by decide) zz_131
theorem zz_133 : ZZ hs_133 := zz_n zz_132
theorem zz_134 : ZZ hs_134 := zz_i (by decide) (by decide) zz_133
theorem zz_135 : ZZ hs_135 := zz_n zz_134
theorem zz_136 : ZZ hs_136 := zz_i (by decide) (by decide) zz_135
theorem zz_137 : ZZ hs_137 := zz_n zz_136
theorem zz_138 : ZZ hs_138 := zz_i (by decide) (by decide) zz_137
theorem zz_139 : ZZ hs_139 := zz_n zz_138
theorem zz_140 : ZZ hs_140 := zz_i (by decide) (by decide) zz_139
theorem zz_141 : ZZ hs_141 := zz_n zz_140
theorem zz_142 : ZZ hs_142 := zz_i (by decide) (by decide) zz_141
theorem zz_143 : ZZ hs_143 := zz_n zz_142
theorem zz_144 : ZZ hs_144 := zz_i (by decide) (by decide) zz_143
theorem zz_145 : ZZ hs_145 := zz_i (by decide) (by decide) zz_144
theorem zz_146 : ZZ hs_146 := zz_i (by decide) (by decide) zz_145
theorem zz_147 : ZZ hs_147 := zz_i (by decide) (by decide) zz_146
theorem zz_148 : ZZ hs_148 := zz_i (by decide) (by decide) zz_147
theorem z_4 : hF_0.1 4 = hF_0.1 69 := by rw [hF_1]; exact zz_148.1.trans zz_148.2.1.symm
theorem z_22 (x : Nat) : hF_0.2.2.1 22 x = none := by rw [hF_3]; exact congrFun (congrFun zz_148.2.2 22) x
