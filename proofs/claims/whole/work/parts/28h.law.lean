/-! ===== .. and the law ===== -/
theorem qLw_0 : qSeqOk 318 K318_0 = true := by decide +kernel
theorem qLw_1 : qSeqOk 318 K318_1 = true := by decide +kernel
theorem qLw_2 : qSeqOk 318 K318_2 = true := by decide +kernel
theorem qLw_3 : qSeqOk 318 K318_3 = true := by decide +kernel
theorem qLw_4 : qSeqOk 318 K318_4 = true := by decide +kernel
theorem qLw_5 : qSeqOk 318 K318_5 = true := by decide +kernel
theorem qLw_6 : qSeqOk 318 K318_6 = true := by decide +kernel
theorem qLw_7 : qSeqOk 318 K318_7 = true := by decide +kernel
theorem qLw_8 : qSeqOk 318 K318_8 = true := by decide +kernel
theorem qLw_9 : qSeqOk 318 K318_9 = true := by decide +kernel
theorem qLw_10 : qSeqOk 318 K318_10 = true := by decide +kernel
theorem qLw_11 : qSeqOk 318 K318_11 = true := by decide +kernel
theorem qLw_12 : qSeqOk 318 K318_12 = true := by decide +kernel
theorem qLw_13 : qSeqOk 318 K318_13 = true := by decide +kernel
theorem qLw_14 : qSeqOk 318 K318_14 = true := by decide +kernel
theorem qLw_15 : qSeqOk 318 K318_15 = true := by decide +kernel
theorem qLw_16 : qSeqOk 318 K318_16 = true := by decide +kernel
theorem qLw_17 : qSeqOk 318 K318_17 = true := by decide +kernel
theorem qLw_18 : qSeqOk 318 K318_18 = true := by decide +kernel
theorem qLw_19 : qSeqOk 318 K318_19 = true := by decide +kernel
theorem qLw_20 : qSeqOk 318 K318_20 = true := by decide +kernel
theorem qLw_21 : qSeqOk 318 K318_21 = true := by decide +kernel
theorem qLw_22 : qSeqOk 318 K318_22 = true := by decide +kernel
theorem qLw_23 : qSeqOk 318 K318_23 = true := by decide +kernel
theorem qLw_24 : qSeqOk 318 K318_24 = true := by decide +kernel
theorem qLw_25 : qSeqOk 318 K318_25 = true := by decide +kernel
theorem qLw_26 : qSeqOk 318 K318_26 = true := by decide +kernel
theorem qLw_27 : qSeqOk 318 K318_27 = true := by decide +kernel
theorem qLw_28 : qSeqOk 318 K318_28 = true := by decide +kernel
theorem qLw_29 : qSeqOk 318 K318_29 = true := by decide +kernel
theorem qLw_30 : qSeqOk 318 K318_30 = true := by decide +kernel
theorem qLw_31 : qSeqOk 318 K318_31 = true := by decide +kernel
theorem qLw_32 : qSeqOk 318 K318_32 = true := by decide +kernel
theorem qLw_33 : qSeqOk 318 K318_33 = true := by decide +kernel
theorem qLw_34 : qSeqOk 318 K318_34 = true := by decide +kernel
theorem qLw_35 : qSeqOk 318 K318_35 = true := by decide +kernel
theorem qLw_36 : qSeqOk 318 K318_36 = true := by decide +kernel
theorem qLw_37 : qSeqOk 318 K318_37 = true := by decide +kernel
theorem qLw_38 : qSeqOk 318 K318_38 = true := by decide +kernel
theorem qLw_39 : qSeqOk 318 K318_39 = true := by decide +kernel
theorem qLw_40 : qSeqOk 318 K318_40 = true := by decide +kernel
theorem qLw_41 : qSeqOk 318 K318_41 = true := by decide +kernel
theorem qLw_42 : qSeqOk 318 K318_42 = true := by decide +kernel
theorem qLw_43 : qSeqOk 318 K318_43 = true := by decide +kernel
theorem qLw_44 : qSeqOk 318 K318_44 = true := by decide +kernel
theorem qLw_45 : qSeqOk 318 K318_45 = true := by decide +kernel
theorem qLw_46 : qSeqOk 318 K318_46 = true := by decide +kernel
theorem qLw_47 : qSeqOk 318 K318_47 = true := by decide +kernel
theorem qLw_48 : qSeqOk 318 K318_48 = true := by decide +kernel
theorem qLw_49 : qSeqOk 318 K318_49 = true := by decide +kernel
theorem qLw_50 : qSeqOk 318 K318_50 = true := by decide +kernel
theorem qLw_51 : qSeqOk 318 K318_51 = true := by decide +kernel
theorem qLw_52 : qSeqOk 318 K318_52 = true := by decide +kernel
theorem qLw_53 : qSeqOk 318 K318_53 = true := by decide +kernel
theorem qLw_54 : qSeqOk 318 K318_54 = true := by decide +kernel
theorem qLw_55 : qSeqOk 318 K318_55 = true := by decide +kernel
theorem qLw_56 : qSeqOk 318 K318_56 = true := by decide +kernel
theorem qLw_57 : qSeqOk 318 K318_57 = true := by decide +kernel
theorem qLw_58 : qSeqOk 318 K318_58 = true := by decide +kernel
theorem qLw_59 : qSeqOk 318 K318_59 = true := by decide +kernel
theorem qLw_60 : qSeqOk 318 K318_60 = true := by decide +kernel
theorem qLw_61 : qSeqOk 318 K318_61 = true := by decide +kernel
theorem qLw_62 : qSeqOk 318 K318_62 = true := by decide +kernel
theorem qLw_63 : qSeqOk 318 K318_63 = true := by decide +kernel
theorem qLw_64 : qSeqOk 318 K318_64 = true := by decide +kernel
theorem qLw_65 : qSeqOk 318 K318_65 = true := by decide +kernel
theorem qLw_66 : qSeqOk 318 K318_66 = true := by decide +kernel
theorem qLw_67 : qSeqOk 318 K318_67 = true := by decide +kernel
theorem qLw_68 : qSeqOk 318 K318_68 = true := by decide +kernel
theorem qLw_69 : qSeqOk 318 K318_69 = true := by decide +kernel
theorem qLw_70 : qSeqOk 318 K318_70 = true := by decide +kernel
theorem qLw_71 : qSeqOk 318 K318_71 = true := by decide +kernel
theorem qLw_72 : qSeqOk 318 K318_72 = true := by decide +kernel
theorem qLw_73 : qSeqOk 318 K318_73 = true := by decide +kernel
theorem qLw_74 : qSeqOk 318 K318_74 = true := by decide +kernel
theorem qLw_75 : qSeqOk 318 K318_75 = true := by decide +kernel
theorem qLw_76 : qSeqOk 318 K318_76 = true := by decide +kernel
theorem qLw_77 : qSeqOk 318 K318_77 = true := by decide +kernel
theorem qLw_78 : qSeqOk 318 K318_78 = true := by decide +kernel
theorem qLw_79 : qSeqOk 318 K318_79 = true := by decide +kernel
theorem qLw_80 : qSeqOk 318 K318_80 = true := by decide +kernel
theorem qLw_81 : qSeqOk 318 K318_81 = true := by decide +kernel
theorem qLw_82 : qSeqOk 318 K318_82 = true := by decide +kernel
theorem qLw_83 : qSeqOk 318 K318_83 = true := by decide +kernel
theorem qLw_84 : qSeqOk 318 K318_84 = true := by decide +kernel
theorem qLw_85 : qSeqOk 318 K318_85 = true := by decide +kernel
theorem qLw_86 : qSeqOk 318 K318_86 = true := by decide +kernel
theorem qLw_87 : qSeqOk 318 K318_87 = true := by decide +kernel
theorem qLw_88 : qSeqOk 318 K318_88 = true := by decide +kernel
theorem qLw_89 : qSeqOk 318 K318_89 = true := by decide +kernel
theorem qLw_90 : qSeqOk 318 K318_90 = true := by decide +kernel
theorem qLw_91 : qSeqOk 318 K318_91 = true := by decide +kernel
theorem qLw_92 : qSeqOk 318 K318_92 = true := by decide +kernel
theorem qLw_93 : qSeqOk 318 K318_93 = true := by decide +kernel
theorem qLw_94 : qSeqOk 318 K318_94 = true := by decide +kernel
theorem qLw_95 : qSeqOk 318 K318_95 = true := by decide +kernel
theorem qLw_96 : qSeqOk 318 K318_96 = true := by decide +kernel
theorem qLw_97 : qSeqOk 318 K318_97 = true := by decide +kernel
theorem qLw_98 : qSeqOk 318 K318_98 = true := by decide +kernel
theorem qLw_99 : qSeqOk 318 K318_99 = true := by decide +kernel
theorem qLw_100 : qSeqOk 318 K318_100 = true := by decide +kernel
theorem qLw_101 : qSeqOk 318 K318_101 = true := by decide +kernel
theorem qLw_102 : qSeqOk 318 K318_102 = true := by decide +kernel
theorem qLw_103 : qSeqOk 318 K318_103 = true := by decide +kernel
theorem qLw_104 : qSeqOk 318 K318_104 = true := by decide +kernel
theorem qLw_105 : qSeqOk 318 K318_105 = true := by decide +kernel
theorem qLw_106 : qSeqOk 318 K318_106 = true := by decide +kernel
theorem qLw_107 : qSeqOk 318 K318_107 = true := by decide +kernel
theorem qLw_108 : qSeqOk 318 K318_108 = true := by decide +kernel
theorem qLw_109 : qSeqOk 318 K318_109 = true := by decide +kernel
theorem qLw_110 : qSeqOk 318 K318_110 = true := by decide +kernel
theorem qLw_111 : qSeqOk 318 K318_111 = true := by decide +kernel
theorem qLw_112 : qSeqOk 318 K318_112 = true := by decide +kernel
theorem qLw_113 : qSeqOk 318 K318_113 = true := by decide +kernel
theorem qLw_114 : qSeqOk 318 K318_114 = true := by decide +kernel
theorem qLw_115 : qSeqOk 318 K318_115 = true := by decide +kernel
theorem qLw_116 : qSeqOk 318 K318_116 = true := by decide +kernel
theorem qLw_117 : qSeqOk 318 K318_117 = true := by decide +kernel
theorem qLw_118 : qSeqOk 318 K318_118 = true := by decide +kernel
theorem qLw_119 : qSeqOk 318 K318_119 = true := by decide +kernel
theorem qLw_120 : qSeqOk 318 K318_120 = true := by decide +kernel
theorem qLw_121 : qSeqOk 318 K318_121 = true := by decide +kernel
theorem qLw_122 : qSeqOk 318 K318_122 = true := by decide +kernel
theorem qLw_123 : qSeqOk 318 K318_123 = true := by decide +kernel
theorem qLw_124 : qSeqOk 318 K318_124 = true := by decide +kernel
theorem qLw_125 : qSeqOk 318 K318_125 = true := by decide +kernel
theorem qLw_126 : qSeqOk 318 K318_126 = true := by decide +kernel
theorem qLw_127 : qSeqOk 318 K318_127 = true := by decide +kernel
theorem qLw_128 : qSeqOk 318 K318_128 = true := by decide +kernel
theorem qLw_129 : qSeqOk 318 K318_129 = true := by decide +kernel
theorem qLw_130 : qSeqOk 318 K318_130 = true := by decide +kernel
theorem qLw_131 : qSeqOk 318 K318_131 = true := by decide +kernel
theorem qLw_132 : qSeqOk 318 K318_132 = true := by decide +kernel
theorem qLw_133 : qSeqOk 318 K318_133 = true := by decide +kernel
theorem qLw_134 : qSeqOk 318 K318_134 = true := by decide +kernel
theorem qLw_135 : qSeqOk 318 K318_135 = true := by decide +kernel
theorem qLw_136 : qSeqOk 318 K318_136 = true := by decide +kernel
theorem qLw_137 : qSeqOk 318 K318_137 = true := by decide +kernel
theorem qLw_138 : qSeqOk 318 K318_138 = true := by decide +kernel
theorem qLw_139 : qSeqOk 318 K318_139 = true := by decide +kernel
theorem qLw_140 : qSeqOk 318 K318_140 = true := by decide +kernel
theorem qB_318 : qBlocksOk 318 = true := by
  show List.all [K318_0, K318_1, K318_2, K318_3, K318_4, K318_5, K318_6, K318_7, K318_8, K318_9, K318_10, K318_11, K318_12, K318_13, K318_14, K318_15, K318_16, K318_17, K318_18, K318_19, K318_20, K318_21, K318_22, K318_23, K318_24, K318_25, K318_26, K318_27, K318_28, K318_29, K318_30, K318_31, K318_32, K318_33, K318_34, K318_35, K318_36, K318_37, K318_38, K318_39, K318_40, K318_41, K318_42, K318_43, K318_44, K318_45, K318_46, K318_47, K318_48, K318_49, K318_50, K318_51, K318_52, K318_53, K318_54, K318_55, K318_56, K318_57, K318_58, K318_59, K318_60, K318_61, K318_62, K318_63, K318_64, K318_65, K318_66, K318_67, K318_68, K318_69, K318_70, K318_71, K318_72, K318_73, K318_74, K318_75, K318_76, K318_77, K318_78, K318_79, K318_80, K318_81, K318_82, K318_83, K318_84, K318_85, K318_86, K318_87, K318_88, K318_89, K318_90, K318_91, K318_92, K318_93, K318_94, K318_95, K318_96, K318_97, K318_98, K318_99, K318_100, K318_101, K318_102, K318_103, K318_104, K318_105, K318_106, K318_107, K318_108, K318_109, K318_110, K318_111, K318_112, K318_113, K318_114, K318_115, K318_116, K318_117, K318_118, K318_119, K318_120, K318_121, K318_122, K318_123, K318_124, K318_125, K318_126, K318_127, K318_128, K318_129, K318_130, K318_131, K318_132, K318_133, K318_134, K318_135, K318_136, K318_137, K318_138, K318_139, K318_140] (fun es => qSeqOk 318 es) = true
  rw [List.all_eq_true]
  intro es h
  simp only [List.mem_cons, List.not_mem_nil, or_false] at h
  rcases h with rfl | rfl | rfl | rfl | rfl | rfl | rfl | rfl | rfl | rfl | rfl | rfl | rfl | rfl | rfl | rfl | rfl | rfl | rfl | rfl | rfl | rfl | rfl | rfl | rfl | rfl | rfl | rfl | rfl | rfl | rfl | rfl | rfl | rfl | rfl | rfl | rfl | rfl | rfl | rfl | rfl | rfl | rfl | rfl | rfl | rfl | rfl | rfl | rfl | rfl | rfl | rfl | rfl | rfl | rfl | rfl | rfl | rfl | rfl | rfl | rfl | rfl | rfl | rfl | rfl | rfl | rfl | rfl | rfl | rfl | rfl | rfl | rfl | rfl | rfl | rfl | rfl | rfl | rfl | rfl | rfl | rfl | rfl | rfl | rfl | rfl | rfl | rfl | rfl | rfl | rfl | rfl | rfl | rfl | rfl | rfl | rfl | rfl | rfl | rfl | rfl | rfl | rfl | rfl | rfl | rfl | rfl | rfl | rfl | rfl | rfl | rfl | rfl | rfl | rfl | rfl | rfl | rfl | rfl | rfl | rfl | rfl | rfl | rfl | rfl | rfl | rfl | rfl | rfl | rfl | rfl | rfl | rfl | rfl | rfl | rfl | rfl | rfl | rfl | rfl | rfl
  · exact qLw_0
  · exact qLw_1
  · exact qLw_2
  · exact qLw_3
  · exact qLw_4
  · exact qLw_5
  · exact qLw_6
  · exact qLw_7
  · exact qLw_8
  · exact qLw_9
  · exact qLw_10
  · exact qLw_11
  · exact qLw_12
  · exact qLw_13
  · exact qLw_14
  · exact qLw_15
  · exact qLw_16
  · exact qLw_17
  · exact qLw_18
  · exact qLw_19
  · exact qLw_20
  · exact qLw_21
  · exact qLw_22
  · exact qLw_23
  · exact qLw_24
  · exact qLw_25
  · exact qLw_26
  · exact qLw_27
  · exact qLw_28
  · exact qLw_29
  · exact qLw_30
  · exact qLw_31
  · exact qLw_32
  · exact qLw_33
  · exact qLw_34
  · exact qLw_35
  · exact qLw_36
  · exact qLw_37
  · exact qLw_38
  · exact qLw_39
  · exact qLw_40
  · exact qLw_41
  · exact qLw_42
  · exact qLw_43
  · exact qLw_44
  · exact qLw_45
  · exact qLw_46
  · exact qLw_47
  · exact qLw_48
  · exact qLw_49
  · exact qLw_50
  · exact qLw_51
  · exact qLw_52
  · exact qLw_53
  · exact qLw_54
  · exact qLw_55
  · exact qLw_56
  · exact qLw_57
  · exact qLw_58
  · exact qLw_59
  · exact qLw_60
  · exact qLw_61
  · exact qLw_62
  · exact qLw_63
  · exact qLw_64
  · exact qLw_65
  · exact qLw_66
  · exact qLw_67
  · exact qLw_68
  · exact qLw_69
  · exact qLw_70
  · exact qLw_71
  · exact qLw_72
  · exact qLw_73
  · exact qLw_74
  · exact qLw_75
  · exact qLw_76
  · exact qLw_77
  · exact qLw_78
  · exact qLw_79
  · exact qLw_80
  · exact qLw_81
  · exact qLw_82
  · exact qLw_83
  · exact qLw_84
  · exact qLw_85
  · exact qLw_86
  · exact qLw_87
  · exact qLw_88
  · exact qLw_89
  · exact qLw_90
  · exact qLw_91
  · exact qLw_92
  · exact qLw_93
  · exact qLw_94
  · exact qLw_95
  · exact qLw_96
  · exact qLw_97
  · exact qLw_98
  · exact qLw_99
  · exact qLw_100
  · exact qLw_101
  · exact qLw_102
  · exact qLw_103
  · exact qLw_104
  · exact qLw_105
  · exact qLw_106
  · exact qLw_107
  · exact qLw_108
  · exact qLw_109
  · exact qLw_110
  · exact qLw_111
  · exact qLw_112
  · exact qLw_113
  · exact qLw_114
  · exact qLw_115
  · exact qLw_116
  · exact qLw_117
  · exact qLw_118
  · exact qLw_119
  · exact qLw_120
  · exact qLw_121
  · exact qLw_122
  · exact qLw_123
  · exact qLw_124
  · exact qLw_125
  · exact qLw_126
  · exact qLw_127
  · exact qLw_128
  · exact qLw_129
  · exact qLw_130
  · exact qLw_131
  · exact qLw_132
  · exact qLw_133
  · exact qLw_134
  · exact qLw_135
  · exact qLw_136
  · exact qLw_137
  · exact qLw_138
  · exact qLw_139
  · exact qLw_140
