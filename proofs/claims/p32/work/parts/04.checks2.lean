theorem tz_0 (pc : Nat) (h : 36 ≤ pc) : tb_0 pc = none := tz_c (Nat.ble_eq_true_of_le h)
theorem tz_1 (pc : Nat) (h : 52 ≤ pc) : tb_1 pc = none := tz_c (Nat.ble_eq_true_of_le h)
theorem tz_2 (pc : Nat) (h : 16 ≤ pc) : tb_2 pc = none := tz_c (Nat.ble_eq_true_of_le h)
theorem tz_3 (pc : Nat) (h : 27 ≤ pc) : tb_3 pc = none := tz_c (Nat.ble_eq_true_of_le h)
theorem tz_4 (pc : Nat) (h : 70 ≤ pc) : tb_4 pc = none := tz_c (Nat.ble_eq_true_of_le h)
theorem tz_5 (pc : Nat) (h : 146 ≤ pc) : tb_5 pc = none := tz_c (Nat.ble_eq_true_of_le h)
theorem tz_6 (pc : Nat) (h : 49 ≤ pc) : tb_6 pc = none := tz_c (Nat.ble_eq_true_of_le h)
theorem tz_7 (pc : Nat) (h : 31 ≤ pc) : tb_7 pc = none := tz_c (Nat.ble_eq_true_of_le h)
theorem tz_8 (pc : Nat) (h : 33 ≤ pc) : tb_8 pc = none := tz_c (Nat.ble_eq_true_of_le h)
theorem tz_9 (pc : Nat) (h : 35 ≤ pc) : tb_9 pc = none := tz_c (Nat.ble_eq_true_of_le h)
theorem tz_10 (pc : Nat) (h : 111 ≤ pc) : tb_10 pc = none := tz_c (Nat.ble_eq_true_of_le h)
theorem tz_11 (pc : Nat) (h : 39 ≤ pc) : tb_11 pc = none := tz_c (Nat.ble_eq_true_of_le h)
theorem tz_12 (pc : Nat) (h : 16 ≤ pc) : tb_12 pc = none := tz_c (Nat.ble_eq_true_of_le h)
theorem tz_13 (pc : Nat) (h : 20 ≤ pc) : tb_13 pc = none := tz_c (Nat.ble_eq_true_of_le h)
theorem tz_14 (pc : Nat) (h : 58 ≤ pc) : tb_14 pc = none := tz_c (Nat.ble_eq_true_of_le h)
theorem tz_15 (pc : Nat) (h : 30 ≤ pc) : tb_15 pc = none := tz_c (Nat.ble_eq_true_of_le h)
theorem tz_16 (pc : Nat) (h : 25 ≤ pc) : tb_16 pc = none := tz_c (Nat.ble_eq_true_of_le h)
theorem tz_17 (pc : Nat) (h : 28 ≤ pc) : tb_17 pc = none := tz_c (Nat.ble_eq_true_of_le h)
theorem tz_18 (pc : Nat) (h : 23 ≤ pc) : tb_18 pc = none := tz_c (Nat.ble_eq_true_of_le h)
theorem tz_19 (pc : Nat) (h : 50 ≤ pc) : tb_19 pc = none := tz_c (Nat.ble_eq_true_of_le h)
theorem tz_20 (pc : Nat) (h : 66 ≤ pc) : tb_20 pc = none := tz_c (Nat.ble_eq_true_of_le h)
theorem tz_21 (pc : Nat) (h : 90 ≤ pc) : tb_21 pc = none := tz_c (Nat.ble_eq_true_of_le h)
theorem tz_22 (pc : Nat) (h : 108 ≤ pc) : tb_22 pc = none := tz_c (Nat.ble_eq_true_of_le h)
theorem tz_23 (pc : Nat) (h : 13 ≤ pc) : tb_23 pc = none := tz_c (Nat.ble_eq_true_of_le h)
theorem tz_24 (pc : Nat) (h : 45 ≤ pc) : tb_24 pc = none := tz_c (Nat.ble_eq_true_of_le h)
theorem tz_25 (pc : Nat) (h : 84 ≤ pc) : tb_25 pc = none := tz_c (Nat.ble_eq_true_of_le h)
theorem tz_26 (pc : Nat) (h : 11 ≤ pc) : tb_26 pc = none := tz_c (Nat.ble_eq_true_of_le h)
theorem tz_27 (pc : Nat) (h : 42 ≤ pc) : tb_27 pc = none := tz_c (Nat.ble_eq_true_of_le h)
theorem tz_28 (pc : Nat) (h : 27 ≤ pc) : tb_28 pc = none := tz_c (Nat.ble_eq_true_of_le h)
theorem tz_29 (pc : Nat) (h : 54 ≤ pc) : tb_29 pc = none := tz_c (Nat.ble_eq_true_of_le h)
theorem tz_30 (pc : Nat) (h : 65 ≤ pc) : tb_30 pc = none := tz_c (Nat.ble_eq_true_of_le h)
theorem tz_31 (pc : Nat) (h : 102 ≤ pc) : tb_31 pc = none := tz_c (Nat.ble_eq_true_of_le h)
theorem tz_32 (pc : Nat) (h : 11 ≤ pc) : tb_32 pc = none := tz_c (Nat.ble_eq_true_of_le h)
theorem tz_33 (pc : Nat) (h : 36 ≤ pc) : tb_33 pc = none := tz_c (Nat.ble_eq_true_of_le h)
theorem tz_34 (pc : Nat) (h : 24 ≤ pc) : tb_34 pc = none := tz_c (Nat.ble_eq_true_of_le h)
theorem tz_35 (pc : Nat) (h : 30 ≤ pc) : tb_35 pc = none := tz_c (Nat.ble_eq_true_of_le h)
theorem tz_36 (pc : Nat) (h : 32 ≤ pc) : tb_36 pc = none := tz_c (Nat.ble_eq_true_of_le h)
theorem tz_37 (pc : Nat) (h : 21 ≤ pc) : tb_37 pc = none := tz_c (Nat.ble_eq_true_of_le h)
theorem tz_38 (pc : Nat) (h : 24 ≤ pc) : tb_38 pc = none := tz_c (Nat.ble_eq_true_of_le h)
theorem tz_39 (pc : Nat) (h : 19 ≤ pc) : tb_39 pc = none := tz_c (Nat.ble_eq_true_of_le h)
theorem tz_40 (pc : Nat) (h : 19 ≤ pc) : tb_40 pc = none := tz_c (Nat.ble_eq_true_of_le h)
theorem tz_41 (pc : Nat) (h : 14 ≤ pc) : tb_41 pc = none := tz_c (Nat.ble_eq_true_of_le h)
theorem tz_42 (pc : Nat) (h : 16 ≤ pc) : tb_42 pc = none := tz_c (Nat.ble_eq_true_of_le h)
theorem tz_43 (pc : Nat) (h : 39 ≤ pc) : tb_43 pc = none := tz_c (Nat.ble_eq_true_of_le h)
theorem tz_44 (pc : Nat) (h : 35 ≤ pc) : tb_44 pc = none := tz_c (Nat.ble_eq_true_of_le h)
theorem tz_45 (pc : Nat) (h : 85 ≤ pc) : tb_45 pc = none := tz_c (Nat.ble_eq_true_of_le h)
theorem tz_46 (pc : Nat) (h : 32 ≤ pc) : tb_46 pc = none := tz_c (Nat.ble_eq_true_of_le h)
theorem tz_47 (pc : Nat) (h : 79 ≤ pc) : tb_47 pc = none := tz_c (Nat.ble_eq_true_of_le h)
theorem tz_48 (pc : Nat) (h : 10 ≤ pc) : tb_48 pc = none := tz_c (Nat.ble_eq_true_of_le h)
theorem tz_49 (pc : Nat) (h : 10 ≤ pc) : tb_49 pc = none := tz_c (Nat.ble_eq_true_of_le h)
theorem tz_50 (pc : Nat) (h : 20 ≤ pc) : tb_50 pc = none := tz_c (Nat.ble_eq_true_of_le h)
theorem tz_51 (pc : Nat) (h : 77 ≤ pc) : tb_51 pc = none := tz_c (Nat.ble_eq_true_of_le h)
theorem tz_52 (pc : Nat) (h : 17 ≤ pc) : tb_52 pc = none := tz_c (Nat.ble_eq_true_of_le h)
theorem tz_53 (pc : Nat) (h : 40 ≤ pc) : tb_53 pc = none := tz_c (Nat.ble_eq_true_of_le h)
theorem tz_54 (pc : Nat) (h : 98 ≤ pc) : tb_54 pc = none := tz_c (Nat.ble_eq_true_of_le h)
theorem tz_55 (pc : Nat) (h : 40 ≤ pc) : tb_55 pc = none := tz_c (Nat.ble_eq_true_of_le h)
theorem tz_56 (pc : Nat) (h : 27 ≤ pc) : tb_56 pc = none := tz_c (Nat.ble_eq_true_of_le h)
theorem tz_57 (pc : Nat) (h : 32 ≤ pc) : tb_57 pc = none := tz_c (Nat.ble_eq_true_of_le h)
theorem tz_58 (pc : Nat) (h : 65 ≤ pc) : tb_58 pc = none := tz_c (Nat.ble_eq_true_of_le h)
theorem tz_59 (pc : Nat) (h : 27 ≤ pc) : tb_59 pc = none := tz_c (Nat.ble_eq_true_of_le h)
theorem tz_60 (pc : Nat) (h : 14 ≤ pc) : tb_60 pc = none := tz_c (Nat.ble_eq_true_of_le h)
theorem tz_61 (pc : Nat) (h : 57 ≤ pc) : tb_61 pc = none := tz_c (Nat.ble_eq_true_of_le h)
theorem tz_62 (pc : Nat) (h : 30 ≤ pc) : tb_62 pc = none := tz_c (Nat.ble_eq_true_of_le h)
theorem tz_63 (pc : Nat) (h : 11 ≤ pc) : tb_63 pc = none := tz_c (Nat.ble_eq_true_of_le h)
theorem tz_64 (pc : Nat) (h : 75 ≤ pc) : tb_64 pc = none := tz_c (Nat.ble_eq_true_of_le h)
theorem tz_65 (pc : Nat) (h : 32 ≤ pc) : tb_65 pc = none := tz_c (Nat.ble_eq_true_of_le h)
theorem tz_66 (pc : Nat) (h : 21 ≤ pc) : tb_66 pc = none := tz_c (Nat.ble_eq_true_of_le h)
theorem tz_67 (pc : Nat) (h : 121 ≤ pc) : tb_67 pc = none := tz_c (Nat.ble_eq_true_of_le h)
theorem tz_68 (pc : Nat) (h : 127 ≤ pc) : tb_68 pc = none := tz_c (Nat.ble_eq_true_of_le h)
theorem tz_69 (pc : Nat) (h : 75 ≤ pc) : tb_69 pc = none := tz_c (Nat.ble_eq_true_of_le h)
theorem tz_70 (pc : Nat) (h : 68 ≤ pc) : tb_70 pc = none := tz_c (Nat.ble_eq_true_of_le h)
theorem tz_71 (pc : Nat) (h : 27 ≤ pc) : tb_71 pc = none := tz_c (Nat.ble_eq_true_of_le h)
theorem tz_72 (pc : Nat) (h : 41 ≤ pc) : tb_72 pc = none := tz_c (Nat.ble_eq_true_of_le h)
theorem tz_73 (pc : Nat) (h : 95 ≤ pc) : tb_73 pc = none := tz_c (Nat.ble_eq_true_of_le h)
theorem tz_74 (pc : Nat) (h : 5 ≤ pc) : tb_74 pc = none := tz_c (Nat.ble_eq_true_of_le h)
theorem tz_75 (pc : Nat) (h : 41 ≤ pc) : tb_75 pc = none := tz_c (Nat.ble_eq_true_of_le h)
theorem tz_76 (pc : Nat) (h : 49 ≤ pc) : tb_76 pc = none := tz_c (Nat.ble_eq_true_of_le h)
theorem tz_77 (pc : Nat) (h : 36 ≤ pc) : tb_77 pc = none := tz_c (Nat.ble_eq_true_of_le h)
theorem tz_78 (pc : Nat) (h : 11 ≤ pc) : tb_78 pc = none := tz_c (Nat.ble_eq_true_of_le h)
theorem tz_79 (pc : Nat) (h : 89 ≤ pc) : tb_79 pc = none := tz_c (Nat.ble_eq_true_of_le h)
theorem tz_80 (pc : Nat) (h : 32 ≤ pc) : tb_80 pc = none := tz_c (Nat.ble_eq_true_of_le h)
theorem tz_81 (pc : Nat) (h : 32 ≤ pc) : tb_81 pc = none := tz_c (Nat.ble_eq_true_of_le h)
theorem tz_82 (pc : Nat) (h : 148 ≤ pc) : tb_82 pc = none := tz_c (Nat.ble_eq_true_of_le h)
theorem tz_83 (pc : Nat) (h : 55 ≤ pc) : tb_83 pc = none := tz_c (Nat.ble_eq_true_of_le h)
theorem tz_84 (pc : Nat) (h : 40 ≤ pc) : tb_84 pc = none := tz_c (Nat.ble_eq_true_of_le h)
theorem tz_85 (pc : Nat) (h : 36 ≤ pc) : tb_85 pc = none := tz_c (Nat.ble_eq_true_of_le h)
theorem tz_86 (pc : Nat) (h : 82 ≤ pc) : tb_86 pc = none := tz_c (Nat.ble_eq_true_of_le h)
theorem tz_87 (pc : Nat) (h : 34 ≤ pc) : tb_87 pc = none := tz_c (Nat.ble_eq_true_of_le h)
theorem tz_88 (pc : Nat) (h : 83 ≤ pc) : tb_88 pc = none := tz_c (Nat.ble_eq_true_of_le h)
theorem tz_89 (pc : Nat) (h : 37 ≤ pc) : tb_89 pc = none := tz_c (Nat.ble_eq_true_of_le h)
theorem tz_90 (pc : Nat) (h : 23 ≤ pc) : tb_90 pc = none := tz_c (Nat.ble_eq_true_of_le h)
theorem tz_91 (pc : Nat) (h : 32 ≤ pc) : tb_91 pc = none := tz_c (Nat.ble_eq_true_of_le h)
theorem tz_92 (pc : Nat) (h : 41 ≤ pc) : tb_92 pc = none := tz_c (Nat.ble_eq_true_of_le h)
theorem tz_93 (pc : Nat) (h : 48 ≤ pc) : tb_93 pc = none := tz_c (Nat.ble_eq_true_of_le h)
theorem tz_94 (pc : Nat) (h : 22 ≤ pc) : tb_94 pc = none := tz_c (Nat.ble_eq_true_of_le h)
theorem tz_95 (pc : Nat) (h : 8 ≤ pc) : tb_95 pc = none := tz_c (Nat.ble_eq_true_of_le h)
theorem tz_96 (pc : Nat) (h : 8 ≤ pc) : tb_96 pc = none := tz_c (Nat.ble_eq_true_of_le h)
theorem tz_97 (pc : Nat) (h : 33 ≤ pc) : tb_97 pc = none := tz_c (Nat.ble_eq_true_of_le h)
theorem tz_98 (pc : Nat) (h : 23 ≤ pc) : tb_98 pc = none := tz_c (Nat.ble_eq_true_of_le h)
theorem tz_99 (pc : Nat) (h : 110 ≤ pc) : tb_99 pc = none := tz_c (Nat.ble_eq_true_of_le h)
theorem tz_100 (pc : Nat) (h : 44 ≤ pc) : tb_100 pc = none := tz_c (Nat.ble_eq_true_of_le h)
theorem tz_101 (pc : Nat) (h : 19 ≤ pc) : tb_101 pc = none := tz_c (Nat.ble_eq_true_of_le h)
theorem tz_102 (pc : Nat) (h : 24 ≤ pc) : tb_102 pc = none := tz_c (Nat.ble_eq_true_of_le h)
theorem tz_103 (pc : Nat) (h : 42 ≤ pc) : tb_103 pc = none := tz_c (Nat.ble_eq_true_of_le h)
theorem tz_104 (pc : Nat) (h : 49 ≤ pc) : tb_104 pc = none := tz_c (Nat.ble_eq_true_of_le h)
theorem tz_105 (pc : Nat) (h : 123 ≤ pc) : tb_105 pc = none := tz_c (Nat.ble_eq_true_of_le h)
theorem tz_106 (pc : Nat) (h : 82 ≤ pc) : tb_106 pc = none := tz_c (Nat.ble_eq_true_of_le h)
theorem tz_107 (pc : Nat) (h : 13 ≤ pc) : tb_107 pc = none := tz_c (Nat.ble_eq_true_of_le h)
theorem tz_108 (pc : Nat) (h : 41 ≤ pc) : tb_108 pc = none := tz_c (Nat.ble_eq_true_of_le h)
theorem tz_109 (pc : Nat) (h : 58 ≤ pc) : tb_109 pc = none := tz_c (Nat.ble_eq_true_of_le h)
theorem tz_110 (pc : Nat) (h : 27 ≤ pc) : tb_110 pc = none := tz_c (Nat.ble_eq_true_of_le h)
theorem tz_111 (pc : Nat) (h : 49 ≤ pc) : tb_111 pc = none := tz_c (Nat.ble_eq_true_of_le h)
theorem tz_112 (pc : Nat) (h : 92 ≤ pc) : tb_112 pc = none := tz_c (Nat.ble_eq_true_of_le h)
theorem tz_113 (pc : Nat) (h : 120 ≤ pc) : tb_113 pc = none := tz_c (Nat.ble_eq_true_of_le h)
theorem tz_114 (pc : Nat) (h : 94 ≤ pc) : tb_114 pc = none := tz_c (Nat.ble_eq_true_of_le h)
theorem tz_115 (pc : Nat) (h : 13 ≤ pc) : tb_115 pc = none := tz_c (Nat.ble_eq_true_of_le h)
theorem tz_116 (pc : Nat) (h : 49 ≤ pc) : tb_116 pc = none := tz_c (Nat.ble_eq_true_of_le h)
theorem tz_117 (pc : Nat) (h : 18 ≤ pc) : tb_117 pc = none := tz_c (Nat.ble_eq_true_of_le h)
theorem tz_118 (pc : Nat) (h : 15 ≤ pc) : tb_118 pc = none := tz_c (Nat.ble_eq_true_of_le h)
theorem tz_119 (pc : Nat) (h : 15 ≤ pc) : tb_119 pc = none := tz_c (Nat.ble_eq_true_of_le h)
theorem tz_120 (pc : Nat) (h : 15 ≤ pc) : tb_120 pc = none := tz_c (Nat.ble_eq_true_of_le h)
theorem tz_121 (pc : Nat) (h : 24 ≤ pc) : tb_121 pc = none := tz_c (Nat.ble_eq_true_of_le h)
theorem tz_122 (pc : Nat) (h : 36 ≤ pc) : tb_122 pc = none := tz_c (Nat.ble_eq_true_of_le h)
theorem tz_123 (pc : Nat) (h : 260 ≤ pc) : tb_123 pc = none := tz_c (Nat.ble_eq_true_of_le h)
theorem tz_124 (pc : Nat) (h : 16 ≤ pc) : tb_124 pc = none := tz_c (Nat.ble_eq_true_of_le h)
theorem tz_125 (pc : Nat) (h : 74 ≤ pc) : tb_125 pc = none := tz_c (Nat.ble_eq_true_of_le h)
theorem tz_126 (pc : Nat) (h : 10 ≤ pc) : tb_126 pc = none := tz_c (Nat.ble_eq_true_of_le h)
theorem tz_127 (pc : Nat) (h : 36 ≤ pc) : tb_127 pc = none := tz_c (Nat.ble_eq_true_of_le h)
theorem tz_128 (pc : Nat) (h : 39 ≤ pc) : tb_128 pc = none := tz_c (Nat.ble_eq_true_of_le h)
theorem tz_129 (pc : Nat) (h : 161 ≤ pc) : tb_129 pc = none := tz_c (Nat.ble_eq_true_of_le h)
theorem tz_130 (pc : Nat) (h : 17 ≤ pc) : tb_130 pc = none := tz_c (Nat.ble_eq_true_of_le h)
theorem tz_131 (pc : Nat) (h : 16 ≤ pc) : tb_131 pc = none := tz_c (Nat.ble_eq_true_of_le h)
theorem tz_132 (pc : Nat) (h : 28 ≤ pc) : tb_132 pc = none := tz_c (Nat.ble_eq_true_of_le h)
theorem tz_133 (pc : Nat) (h : 42 ≤ pc) : tb_133 pc = none := tz_c (Nat.ble_eq_true_of_le h)
theorem tz_134 (pc : Nat) (h : 22 ≤ pc) : tb_134 pc = none := tz_c (Nat.ble_eq_true_of_le h)
theorem tz_135 (pc : Nat) (h : 14 ≤ pc) : tb_135 pc = none := tz_c (Nat.ble_eq_true_of_le h)
theorem tz_136 (pc : Nat) (h : 15 ≤ pc) : tb_136 pc = none := tz_c (Nat.ble_eq_true_of_le h)
theorem tz_137 (pc : Nat) (h : 18 ≤ pc) : tb_137 pc = none := tz_c (Nat.ble_eq_true_of_le h)
theorem tz_138 (pc : Nat) (h : 40 ≤ pc) : tb_138 pc = none := tz_c (Nat.ble_eq_true_of_le h)
theorem tz_139 (pc : Nat) (h : 26 ≤ pc) : tb_139 pc = none := tz_c (Nat.ble_eq_true_of_le h)
theorem tz_140 (pc : Nat) (h : 28 ≤ pc) : tb_140 pc = none := tz_c (Nat.ble_eq_true_of_le h)
theorem tz_141 (pc : Nat) (h : 23 ≤ pc) : tb_141 pc = none := tz_c (Nat.ble_eq_true_of_le h)
theorem tz_142 (pc : Nat) (h : 43 ≤ pc) : tb_142 pc = none := tz_c (Nat.ble_eq_true_of_le h)
theorem tz_143 (pc : Nat) (h : 160 ≤ pc) : tb_143 pc = none := tz_c (Nat.ble_eq_true_of_le h)
theorem tz_144 (pc : Nat) (h : 110 ≤ pc) : tb_144 pc = none := tz_c (Nat.ble_eq_true_of_le h)
theorem tz_145 (pc : Nat) (h : 248 ≤ pc) : tb_145 pc = none := tz_c (Nat.ble_eq_true_of_le h)
theorem tz_146 (pc : Nat) (h : 34 ≤ pc) : tb_146 pc = none := tz_c (Nat.ble_eq_true_of_le h)
theorem tz_147 (pc : Nat) (h : 9 ≤ pc) : tb_147 pc = none := tz_c (Nat.ble_eq_true_of_le h)
theorem tz_148 (pc : Nat) (h : 40 ≤ pc) : tb_148 pc = none := tz_c (Nat.ble_eq_true_of_le h)
theorem tz_149 (pc : Nat) (h : 52 ≤ pc) : tb_149 pc = none := tz_c (Nat.ble_eq_true_of_le h)
theorem tz_150 (pc : Nat) (h : 26 ≤ pc) : tb_150 pc = none := tz_c (Nat.ble_eq_true_of_le h)
theorem tz_151 (pc : Nat) (h : 77 ≤ pc) : tb_151 pc = none := tz_c (Nat.ble_eq_true_of_le h)
theorem tz_152 (pc : Nat) (h : 12 ≤ pc) : tb_152 pc = none := tz_c (Nat.ble_eq_true_of_le h)
theorem tz_153 (pc : Nat) (h : 155 ≤ pc) : tb_153 pc = none := tz_c (Nat.ble_eq_true_of_le h)
theorem tz_154 (pc : Nat) (h : 257 ≤ pc) : tb_154 pc = none := tz_c (Nat.ble_eq_true_of_le h)
theorem tz_155 (pc : Nat) (h : 129 ≤ pc) : tb_155 pc = none := tz_c (Nat.ble_eq_true_of_le h)
theorem tz_156 (pc : Nat) (h : 207 ≤ pc) : tb_156 pc = none := tz_c (Nat.ble_eq_true_of_le h)
theorem tz_157 (pc : Nat) (h : 23 ≤ pc) : tb_157 pc = none := tz_c (Nat.ble_eq_true_of_le h)
theorem tz_158 (pc : Nat) (h : 21 ≤ pc) : tb_158 pc = none := tz_c (Nat.ble_eq_true_of_le h)
theorem tz_159 (pc : Nat) (h : 64 ≤ pc) : tb_159 pc = none := tz_c (Nat.ble_eq_true_of_le h)
theorem tz_160 (pc : Nat) (h : 46 ≤ pc) : tb_160 pc = none := tz_c (Nat.ble_eq_true_of_le h)
theorem tz_161 (pc : Nat) (h : 10 ≤ pc) : tb_161 pc = none := tz_c (Nat.ble_eq_true_of_le h)
theorem tz_162 (pc : Nat) (h : 99 ≤ pc) : tb_162 pc = none := tz_c (Nat.ble_eq_true_of_le h)
theorem tz_163 (pc : Nat) (h : 119 ≤ pc) : tb_163 pc = none := tz_c (Nat.ble_eq_true_of_le h)
theorem tz_164 (pc : Nat) (h : 29 ≤ pc) : tb_164 pc = none := tz_c (Nat.ble_eq_true_of_le h)
theorem tz_165 (pc : Nat) (h : 17 ≤ pc) : tb_165 pc = none := tz_c (Nat.ble_eq_true_of_le h)
theorem tz_166 (pc : Nat) (h : 82 ≤ pc) : tb_166 pc = none := tz_c (Nat.ble_eq_true_of_le h)
theorem tz_167 (pc : Nat) (h : 7 ≤ pc) : tb_167 pc = none := tz_c (Nat.ble_eq_true_of_le h)
theorem tz_168 (pc : Nat) (h : 170 ≤ pc) : tb_168 pc = none := tz_c (Nat.ble_eq_true_of_le h)
theorem tz_169 (pc : Nat) (h : 83 ≤ pc) : tb_169 pc = none := tz_c (Nat.ble_eq_true_of_le h)
theorem tz_170 (pc : Nat) (h : 49 ≤ pc) : tb_170 pc = none := tz_c (Nat.ble_eq_true_of_le h)
theorem tz_171 (pc : Nat) (h : 34 ≤ pc) : tb_171 pc = none := tz_c (Nat.ble_eq_true_of_le h)
theorem tz_172 (pc : Nat) (h : 152 ≤ pc) : tb_172 pc = none := tz_c (Nat.ble_eq_true_of_le h)
theorem tz_173 (pc : Nat) (h : 44 ≤ pc) : tb_173 pc = none := tz_c (Nat.ble_eq_true_of_le h)
theorem tz_174 (pc : Nat) (h : 82 ≤ pc) : tb_174 pc = none := tz_c (Nat.ble_eq_true_of_le h)
theorem tz_175 (pc : Nat) (h : 94 ≤ pc) : tb_175 pc = none := tz_c (Nat.ble_eq_true_of_le h)
theorem tz_176 (pc : Nat) (h : 44 ≤ pc) : tb_176 pc = none := tz_c (Nat.ble_eq_true_of_le h)
theorem tz_177 (pc : Nat) (h : 34 ≤ pc) : tb_177 pc = none := tz_c (Nat.ble_eq_true_of_le h)
theorem tz_178 (pc : Nat) (h : 54 ≤ pc) : tb_178 pc = none := tz_c (Nat.ble_eq_true_of_le h)
theorem tz_179 (pc : Nat) (h : 87 ≤ pc) : tb_179 pc = none := tz_c (Nat.ble_eq_true_of_le h)
theorem tz_180 (pc : Nat) (h : 26 ≤ pc) : tb_180 pc = none := tz_c (Nat.ble_eq_true_of_le h)
theorem tz_181 (pc : Nat) (h : 65 ≤ pc) : tb_181 pc = none := tz_c (Nat.ble_eq_true_of_le h)
theorem tz_182 (pc : Nat) (h : 42 ≤ pc) : tb_182 pc = none := tz_c (Nat.ble_eq_true_of_le h)
theorem tz_183 (pc : Nat) (h : 49 ≤ pc) : tb_183 pc = none := tz_c (Nat.ble_eq_true_of_le h)
theorem tz_184 (pc : Nat) (h : 44 ≤ pc) : tb_184 pc = none := tz_c (Nat.ble_eq_true_of_le h)
theorem tz_185 (pc : Nat) (h : 23 ≤ pc) : tb_185 pc = none := tz_c (Nat.ble_eq_true_of_le h)
theorem tz_186 (pc : Nat) (h : 20 ≤ pc) : tb_186 pc = none := tz_c (Nat.ble_eq_true_of_le h)
theorem tz_187 (pc : Nat) (h : 49 ≤ pc) : tb_187 pc = none := tz_c (Nat.ble_eq_true_of_le h)
theorem tz_188 (pc : Nat) (h : 55 ≤ pc) : tb_188 pc = none := tz_c (Nat.ble_eq_true_of_le h)
theorem tz_189 (pc : Nat) (h : 25 ≤ pc) : tb_189 pc = none := tz_c (Nat.ble_eq_true_of_le h)
theorem tz_190 (pc : Nat) (h : 30 ≤ pc) : tb_190 pc = none := tz_c (Nat.ble_eq_true_of_le h)
theorem tz_191 (pc : Nat) (h : 14 ≤ pc) : tb_191 pc = none := tz_c (Nat.ble_eq_true_of_le h)
theorem tz_192 (pc : Nat) (h : 29 ≤ pc) : tb_192 pc = none := tz_c (Nat.ble_eq_true_of_le h)
theorem tz_193 (pc : Nat) (h : 73 ≤ pc) : tb_193 pc = none := tz_c (Nat.ble_eq_true_of_le h)
theorem tz_194 (pc : Nat) (h : 26 ≤ pc) : tb_194 pc = none := tz_c (Nat.ble_eq_true_of_le h)
theorem tz_195 (pc : Nat) (h : 87 ≤ pc) : tb_195 pc = none := tz_c (Nat.ble_eq_true_of_le h)
theorem tz_196 (pc : Nat) (h : 89 ≤ pc) : tb_196 pc = none := tz_c (Nat.ble_eq_true_of_le h)
theorem tz_197 (pc : Nat) (h : 20 ≤ pc) : tb_197 pc = none := tz_c (Nat.ble_eq_true_of_le h)
theorem tz_198 (pc : Nat) (h : 158 ≤ pc) : tb_198 pc = none := tz_c (Nat.ble_eq_true_of_le h)
theorem tz_199 (pc : Nat) (h : 60 ≤ pc) : tb_199 pc = none := tz_c (Nat.ble_eq_true_of_le h)
theorem tz_200 (pc : Nat) (h : 31 ≤ pc) : tb_200 pc = none := tz_c (Nat.ble_eq_true_of_le h)
theorem tz_201 (pc : Nat) (h : 41 ≤ pc) : tb_201 pc = none := tz_c (Nat.ble_eq_true_of_le h)
theorem tz_202 (pc : Nat) (h : 90 ≤ pc) : tb_202 pc = none := tz_c (Nat.ble_eq_true_of_le h)
theorem tz_203 (pc : Nat) (h : 131 ≤ pc) : tb_203 pc = none := tz_c (Nat.ble_eq_true_of_le h)
theorem tz_204 (pc : Nat) (h : 87 ≤ pc) : tb_204 pc = none := tz_c (Nat.ble_eq_true_of_le h)
theorem tz_205 (pc : Nat) (h : 19 ≤ pc) : tb_205 pc = none := tz_c (Nat.ble_eq_true_of_le h)
theorem tz_206 (pc : Nat) (h : 21 ≤ pc) : tb_206 pc = none := tz_c (Nat.ble_eq_true_of_le h)
theorem tz_207 (pc : Nat) (h : 1255 ≤ pc) : tb_207 pc = none := tz_c (Nat.ble_eq_true_of_le h)
set_option maxRecDepth 20000 in
set_option maxHeartbeats 4000000 in
theorem ip_tab {j pc : Nat} {e : ip_ME} {x : Instr × Nat × Nat × Nat × Nat} (he : ip_ML[j]? = some e) (hx : ip_T j pc = some x) : ip_ok e pc x = true := by
  have hn : j < 208 := (List.getElem?_eq_some_iff.mp he).1
  exact (Nat.lt_or_ge j 104).elim (fun h104 => (Nat.lt_or_ge j 52).elim (fun h52 => (Nat.lt_or_ge j 26).elim (fun h26 => (Nat.lt_or_ge j 13).elim (fun h13 => (Nat.lt_or_ge j 6).elim (fun h6 => (Nat.lt_or_ge j 3).elim (fun h3 => (Nat.lt_or_ge j 1).elim (fun h1 => (by
    have hj : j = 0 := by omega
    subst hj
    cases he
    rcases Nat.lt_or_ge pc 36 with h0 | h0
    · exact (fun h0 => ip_chk_of tk_0 rfl hx h0) h0
    · exact absurd ((tz_0 pc h0).symm.trans hx) (by intro q; cases q))) (fun h1 => (Nat.lt_or_ge j 2).elim (fun h2 => (by
    have hj : j = 1 := by omega
    subst hj
    cases he
    rcases Nat.lt_or_ge pc 52 with h0 | h0
    · exact (fun h0 => ip_chk_of tk_1 rfl hx h0) h0
    · exact absurd ((tz_1 pc h0).symm.trans hx) (by intro q; cases q))) (fun h2 => (by
    have hj : j = 2 := by omega
    subst hj
    cases he
    rcases Nat.lt_or_ge pc 16 with h0 | h0
    · exact (fun h0 => ip_chk_of tk_2 rfl hx h0) h0
    · exact absurd ((tz_2 pc h0).symm.trans hx) (by intro q; cases q))))) (fun h3 => (Nat.lt_or_ge j 4).elim (fun h4 => (by
    have hj : j = 3 := by omega
    subst hj
    cases he
    rcases Nat.lt_or_ge pc 27 with h0 | h0
    · exact (fun h0 => ip_chk_of tk_3 rfl hx h0) h0
    · exact absurd ((tz_3 pc h0).symm.trans hx) (by intro q; cases q))) (fun h4 => (Nat.lt_or_ge j 5).elim (fun h5 => (by
    have hj : j = 4 := by omega
    subst hj
    cases he
    rcases Nat.lt_or_ge pc 70 with h0 | h0
    · exact (fun h0 => ip_chk_of tk_4 rfl hx h0) h0
    · exact absurd ((tz_4 pc h0).symm.trans hx) (by intro q; cases q))) (fun h5 => (by
    have hj : j = 5 := by omega
    subst hj
    cases he
    rcases Nat.lt_or_ge pc 146 with h0 | h0
    · exact (fun h0 => ip_chk_of tk_5 rfl hx h0) h0
    · exact absurd ((tz_5 pc h0).symm.trans hx) (by intro q; cases q)))))) (fun h6 => (Nat.lt_or_ge j 9).elim (fun h9 => (Nat.lt_or_ge j 7).elim (fun h7 => (by
    have hj : j = 6 := by omega
    subst hj
    cases he
    rcases Nat.lt_or_ge pc 49 with h0 | h0
    · exact (fun h0 => ip_chk_of tk_6 rfl hx h0) h0
    · exact absurd ((tz_6 pc h0).symm.trans hx) (by intro q; cases q))) (fun h7 => (Nat.lt_or_ge j 8).elim (fun h8 => (by
    have hj : j = 7 := by omega
    subst hj
    cases he
    rcases Nat.lt_or_ge pc 31 with h0 | h0
    · exact (fun h0 => ip_chk_of tk_7 rfl hx h0) h0
    · exact absurd ((tz_7 pc h0).symm.trans hx) (by intro q; cases q))) (fun h8 => (by
    have hj : j = 8 := by omega
    subst hj
    cases he
    rcases Nat.lt_or_ge pc 33 with h0 | h0
    · exact (fun h0 => ip_chk_of tk_8 rfl hx h0) h0
    · exact absurd ((tz_8 pc h0).symm.trans hx) (by intro q; cases q))))) (fun h9 => (Nat.lt_or_ge j 11).elim (fun h11 => (Nat.lt_or_ge j 10).elim (fun h10 => (by
    have hj : j = 9 := by omega
    subst hj
    cases he
    rcases Nat.lt_or_ge pc 35 with h0 | h0
    · exact (fun h0 => ip_chk_of tk_9 rfl hx h0) h0
    · exact absurd ((tz_9 pc h0).symm.trans hx) (by intro q; cases q))) (fun h10 => (by
    have hj : j = 10 := by omega
    subst hj
    cases he
    rcases Nat.lt_or_ge pc 111 with h0 | h0
    · exact (fun h0 => ip_chk_of tk_10 rfl hx h0) h0
    · exact absurd ((tz_10 pc h0).symm.trans hx) (by intro q; cases q)))) (fun h11 => (Nat.lt_or_ge j 12).elim (fun h12 => (by
    have hj : j = 11 := by omega
    subst hj
    cases he
    rcases Nat.lt_or_ge pc 39 with h0 | h0
    · exact (fun h0 => ip_chk_of tk_11 rfl hx h0) h0
    · exact absurd ((tz_11 pc h0).symm.trans hx) (by intro q; cases q))) (fun h12 => (by
    have hj : j = 12 := by omega
    subst hj
    cases he
    rcases Nat.lt_or_ge pc 16 with h0 | h0
    · exact (fun h0 => ip_chk_of tk_12 rfl hx h0) h0
    · exact absurd ((tz_12 pc h0).symm.trans hx) (by intro q; cases q))))))) (fun h13 => (Nat.lt_or_ge j 19).elim (fun h19 => (Nat.lt_or_ge j 16).elim (fun h16 => (Nat.lt_or_ge j 14).elim (fun h14 => (by
    have hj : j = 13 := by omega
    subst hj
    cases he
    rcases Nat.lt_or_ge pc 20 with h0 | h0
    · exact (fun h0 => ip_chk_of tk_13 rfl hx h0) h0
    · exact absurd ((tz_13 pc h0).symm.trans hx) (by intro q; cases q))) (fun h14 => (Nat.lt_or_ge j 15).elim (fun h15 => (by
    have hj : j = 14 := by omega
    subst hj
    cases he
    rcases Nat.lt_or_ge pc 58 with h0 | h0
    · exact (fun h0 => ip_chk_of tk_14 rfl hx h0) h0
    · exact absurd ((tz_14 pc h0).symm.trans hx) (by intro q; cases q))) (fun h15 => (by
    have hj : j = 15 := by omega
    subst hj
    cases he
    rcases Nat.lt_or_ge pc 30 with h0 | h0
    · exact (fun h0 => ip_chk_of tk_15 rfl hx h0) h0
    · exact absurd ((tz_15 pc h0).symm.trans hx) (by intro q; cases q))))) (fun h16 => (Nat.lt_or_ge j 17).elim (fun h17 => (by
    have hj : j = 16 := by omega
    subst hj
    cases he
    rcases Nat.lt_or_ge pc 25 with h0 | h0
    · exact (fun h0 => ip_chk_of tk_16 rfl hx h0) h0
    · exact absurd ((tz_16 pc h0).symm.trans hx) (by intro q; cases q))) (fun h17 => (Nat.lt_or_ge j 18).elim (fun h18 => (by
    have hj : j = 17 := by omega
    subst hj
    cases he
    rcases Nat.lt_or_ge pc 28 with h0 | h0
    · exact (fun h0 => ip_chk_of tk_17 rfl hx h0) h0
    · exact absurd ((tz_17 pc h0).symm.trans hx) (by intro q; cases q))) (fun h18 => (by
    have hj : j = 18 := by omega
    subst hj
    cases he
    rcases Nat.lt_or_ge pc 23 with h0 | h0
    · exact (fun h0 => ip_chk_of tk_18 rfl hx h0) h0
    · exact absurd ((tz_18 pc h0).symm.trans hx) (by intro q; cases q)))))) (fun h19 => (Nat.lt_or_ge j 22).elim (fun h22 => (Nat.lt_or_ge j 20).elim (fun h20 => (by
    have hj : j = 19 := by omega
    subst hj
    cases he
    rcases Nat.lt_or_ge pc 50 with h0 | h0
    · exact (fun h0 => ip_chk_of tk_19 rfl hx h0) h0
    · exact absurd ((tz_19 pc h0).symm.trans hx) (by intro q; cases q))) (fun h20 => (Nat.lt_or_ge j 21).elim (fun h21 => (by
    have hj : j = 20 := by omega
    subst hj
    cases he
    rcases Nat.lt_or_ge pc 66 with h0 | h0
    · exact (fun h0 => ip_chk_of tk_20 rfl hx h0) h0
    · exact absurd ((tz_20 pc h0).symm.trans hx) (by intro q; cases q))) (fun h21 => (by
    have hj : j = 21 := by omega
    subst hj
    cases he
    rcases Nat.lt_or_ge pc 90 with h0 | h0
    · exact (fun h0 => ip_chk_of tk_21 rfl hx h0) h0
    · exact absurd ((tz_21 pc h0).symm.trans hx) (by intro q; cases q))))) (fun h22 => (Nat.lt_or_ge j 24).elim (fun h24 => (Nat.lt_or_ge j 23).elim (fun h23 => (by
    have hj : j = 22 := by omega
    subst hj
    cases he
    rcases Nat.lt_or_ge pc 108 with h0 | h0
    · exact (fun h0 => ip_chk_of tk_22 rfl hx h0) h0
    · exact absurd ((tz_22 pc h0).symm.trans hx) (by intro q; cases q))) (fun h23 => (by
    have hj : j = 23 := by omega
    subst hj
    cases he
    rcases Nat.lt_or_ge pc 13 with h0 | h0
    · exact (fun h0 => ip_chk_of tk_23 rfl hx h0) h0
    · exact absurd ((tz_23 pc h0).symm.trans hx) (by intro q; cases q)))) (fun h24 => (Nat.lt_or_ge j 25).elim (fun h25 => (by
    have hj : j = 24 := by omega
    subst hj
    cases he
    rcases Nat.lt_or_ge pc 45 with h0 | h0
    · exact (fun h0 => ip_chk_of tk_24 rfl hx h0) h0
    · exact absurd ((tz_24 pc h0).symm.trans hx) (by intro q; cases q))) (fun h25 => (by
    have hj : j = 25 := by omega
    subst hj
    cases he
    rcases Nat.lt_or_ge pc 84 with h0 | h0
    · exact (fun h0 => ip_chk_of tk_25 rfl hx h0) h0
    · exact absurd ((tz_25 pc h0).symm.trans hx) (by intro q; cases q)))))))) (fun h26 => (Nat.lt_or_ge j 39).elim (fun h39 => (Nat.lt_or_ge j 32).elim (fun h32 => (Nat.lt_or_ge j 29).elim (fun h29 => (Nat.lt_or_ge j 27).elim (fun h27 => (by
    have hj : j = 26 := by omega
    subst hj
    cases he
    rcases Nat.lt_or_ge pc 11 with h0 | h0
    · exact (fun h0 => ip_chk_of tk_26 rfl hx h0) h0
    · exact absurd ((tz_26 pc h0).symm.trans hx) (by intro q; cases q))) (fun h27 => (Nat.lt_or_ge j 28).elim (fun h28 => (by
    have hj : j = 27 := by omega
    subst hj
    cases he
    rcases Nat.lt_or_ge pc 42 with h0 | h0
    · exact (fun h0 => ip_chk_of tk_27 rfl hx h0) h0
    · exact absurd ((tz_27 pc h0).symm.trans hx) (by intro q; cases q))) (fun h28 => (by
    have hj : j = 28 := by omega
    subst hj
    cases he
    rcases Nat.lt_or_ge pc 27 with h0 | h0
    · exact (fun h0 => ip_chk_of tk_28 rfl hx h0) h0
    · exact absurd ((tz_28 pc h0).symm.trans hx) (by intro q; cases q))))) (fun h29 => (Nat.lt_or_ge j 30).elim (fun h30 => (by
    have hj : j = 29 := by omega
    subst hj
    cases he
    rcases Nat.lt_or_ge pc 54 with h0 | h0
    · exact (fun h0 => ip_chk_of tk_29 rfl hx h0) h0
    · exact absurd ((tz_29 pc h0).symm.trans hx) (by intro q; cases q))) (fun h30 => (Nat.lt_or_ge j 31).elim (fun h31 => (by
    have hj : j = 30 := by omega
    subst hj
    cases he
    rcases Nat.lt_or_ge pc 65 with h0 | h0
    · exact (fun h0 => ip_chk_of tk_30 rfl hx h0) h0
    · exact absurd ((tz_30 pc h0).symm.trans hx) (by intro q; cases q))) (fun h31 => (by
    have hj : j = 31 := by omega
    subst hj
    cases he
    rcases Nat.lt_or_ge pc 102 with h0 | h0
    · exact (fun h0 => ip_chk_of tk_31 rfl hx h0) h0
    · exact absurd ((tz_31 pc h0).symm.trans hx) (by intro q; cases q)))))) (fun h32 => (Nat.lt_or_ge j 35).elim (fun h35 => (Nat.lt_or_ge j 33).elim (fun h33 => (by
    have hj : j = 32 := by omega
    subst hj
    cases he
    rcases Nat.lt_or_ge pc 11 with h0 | h0
    · exact (fun h0 => ip_chk_of tk_32 rfl hx h0) h0
    · exact absurd ((tz_32 pc h0).symm.trans hx) (by intro q; cases q))) (fun h33 => (Nat.lt_or_ge j 34).elim (fun h34 => (by
    have hj : j = 33 := by omega
    subst hj
    cases he
    rcases Nat.lt_or_ge pc 36 with h0 | h0
    · exact (fun h0 => ip_chk_of tk_33 rfl hx h0) h0
    · exact absurd ((tz_33 pc h0).symm.trans hx) (by intro q; cases q))) (fun h34 => (by
    have hj : j = 34 := by omega
    subst hj
    cases he
    rcases Nat.lt_or_ge pc 24 with h0 | h0
    · exact (fun h0 => ip_chk_of tk_34 rfl hx h0) h0
    · exact absurd ((tz_34 pc h0).symm.trans hx) (by intro q; cases q))))) (fun h35 => (Nat.lt_or_ge j 37).elim (fun h37 => (Nat.lt_or_ge j 36).elim (fun h36 => (by
    have hj : j = 35 := by omega
    subst hj
    cases he
    rcases Nat.lt_or_ge pc 30 with h0 | h0
    · exact (fun h0 => ip_chk_of tk_35 rfl hx h0) h0
    · exact absurd ((tz_35 pc h0).symm.trans hx) (by intro q; cases q))) (fun h36 => (by
    have hj : j = 36 := by omega
    subst hj
    cases he
    rcases Nat.lt_or_ge pc 32 with h0 | h0
    · exact (fun h0 => ip_chk_of tk_36 rfl hx h0) h0
    · exact absurd ((tz_36 pc h0).symm.trans hx) (by intro q; cases q)))) (fun h37 => (Nat.lt_or_ge j 38).elim (fun h38 => (by
    have hj : j = 37 := by omega
    subst hj
    cases he
    rcases Nat.lt_or_ge pc 21 with h0 | h0
    · exact (fun h0 => ip_chk_of tk_37 rfl hx h0) h0
    · exact absurd ((tz_37 pc h0).symm.trans hx) (by intro q; cases q))) (fun h38 => (by
    have hj : j = 38 := by omega
    subst hj
    cases he
    rcases Nat.lt_or_ge pc 24 with h0 | h0
    · exact (fun h0 => ip_chk_of tk_38 rfl hx h0) h0
    · exact absurd ((tz_38 pc h0).symm.trans hx) (by intro q; cases q))))))) (fun h39 => (Nat.lt_or_ge j 45).elim (fun h45 => (Nat.lt_or_ge j 42).elim (fun h42 => (Nat.lt_or_ge j 40).elim (fun h40 => (by
    have hj : j = 39 := by omega
    subst hj
    cases he
    rcases Nat.lt_or_ge pc 19 with h0 | h0
    · exact (fun h0 => ip_chk_of tk_39 rfl hx h0) h0
    · exact absurd ((tz_39 pc h0).symm.trans hx) (by intro q; cases q))) (fun h40 => (Nat.lt_or_ge j 41).elim (fun h41 => (by
    have hj : j = 40 := by omega
    subst hj
    cases he
    rcases Nat.lt_or_ge pc 19 with h0 | h0
    · exact (fun h0 => ip_chk_of tk_40 rfl hx h0) h0
    · exact absurd ((tz_40 pc h0).symm.trans hx) (by intro q; cases q))) (fun h41 => (by
    have hj : j = 41 := by omega
    subst hj
    cases he
    rcases Nat.lt_or_ge pc 14 with h0 | h0
    · exact (fun h0 => ip_chk_of tk_41 rfl hx h0) h0
    · exact absurd ((tz_41 pc h0).symm.trans hx) (by intro q; cases q))))) (fun h42 => (Nat.lt_or_ge j 43).elim (fun h43 => (by
    have hj : j = 42 := by omega
    subst hj
    cases he
    rcases Nat.lt_or_ge pc 16 with h0 | h0
    · exact (fun h0 => ip_chk_of tk_42 rfl hx h0) h0
    · exact absurd ((tz_42 pc h0).symm.trans hx) (by intro q; cases q))) (fun h43 => (Nat.lt_or_ge j 44).elim (fun h44 => (by
    have hj : j = 43 := by omega
    subst hj
    cases he
    rcases Nat.lt_or_ge pc 39 with h0 | h0
    · exact (fun h0 => ip_chk_of tk_43 rfl hx h0) h0
    · exact absurd ((tz_43 pc h0).symm.trans hx) (by intro q; cases q))) (fun h44 => (by
    have hj : j = 44 := by omega
    subst hj
    cases he
    rcases Nat.lt_or_ge pc 35 with h0 | h0
    · exact (fun h0 => ip_chk_of tk_44 rfl hx h0) h0
    · exact absurd ((tz_44 pc h0).symm.trans hx) (by intro q; cases q)))))) (fun h45 => (Nat.lt_or_ge j 48).elim (fun h48 => (Nat.lt_or_ge j 46).elim (fun h46 => (by
    have hj : j = 45 := by omega
    subst hj
    cases he
    rcases Nat.lt_or_ge pc 85 with h0 | h0
    · exact (fun h0 => ip_chk_of tk_45 rfl hx h0) h0
    · exact absurd ((tz_45 pc h0).symm.trans hx) (by intro q; cases q))) (fun h46 => (Nat.lt_or_ge j 47).elim (fun h47 => (by
    have hj : j = 46 := by omega
    subst hj
    cases he
    rcases Nat.lt_or_ge pc 32 with h0 | h0
    · exact (fun h0 => ip_chk_of tk_46 rfl hx h0) h0
    · exact absurd ((tz_46 pc h0).symm.trans hx) (by intro q; cases q))) (fun h47 => (by
    have hj : j = 47 := by omega
    subst hj
    cases he
    rcases Nat.lt_or_ge pc 79 with h0 | h0
    · exact (fun h0 => ip_chk_of tk_47 rfl hx h0) h0
    · exact absurd ((tz_47 pc h0).symm.trans hx) (by intro q; cases q))))) (fun h48 => (Nat.lt_or_ge j 50).elim (fun h50 => (Nat.lt_or_ge j 49).elim (fun h49 => (by
    have hj : j = 48 := by omega
    subst hj
    cases he
    rcases Nat.lt_or_ge pc 10 with h0 | h0
    · exact (fun h0 => ip_chk_of tk_48 rfl hx h0) h0
    · exact absurd ((tz_48 pc h0).symm.trans hx) (by intro q; cases q))) (fun h49 => (by
    have hj : j = 49 := by omega
    subst hj
    cases he
    rcases Nat.lt_or_ge pc 10 with h0 | h0
    · exact (fun h0 => ip_chk_of tk_49 rfl hx h0) h0
    · exact absurd ((tz_49 pc h0).symm.trans hx) (by intro q; cases q)))) (fun h50 => (Nat.lt_or_ge j 51).elim (fun h51 => (by
    have hj : j = 50 := by omega
    subst hj
    cases he
    rcases Nat.lt_or_ge pc 20 with h0 | h0
    · exact (fun h0 => ip_chk_of tk_50 rfl hx h0) h0
    · exact absurd ((tz_50 pc h0).symm.trans hx) (by intro q; cases q))) (fun h51 => (by
    have hj : j = 51 := by omega
    subst hj
    cases he
    rcases Nat.lt_or_ge pc 77 with h0 | h0
    · exact (fun h0 => ip_chk_of tk_51 rfl hx h0) h0
    · exact absurd ((tz_51 pc h0).symm.trans hx) (by intro q; cases q))))))))) (fun h52 => (Nat.lt_or_ge j 78).elim (fun h78 => (Nat.lt_or_ge j 65).elim (fun h65 => (Nat.lt_or_ge j 58).elim (fun h58 => (Nat.lt_or_ge j 55).elim (fun h55 => (Nat.lt_or_ge j 53).elim (fun h53 => (by
    have hj : j = 52 := by omega
    subst hj
    cases he
    rcases Nat.lt_or_ge pc 17 with h0 | h0
    · exact (fun h0 => ip_chk_of tk_52 rfl hx h0) h0
    · exact absurd ((tz_52 pc h0).symm.trans hx) (by intro q; cases q))) (fun h53 => (Nat.lt_or_ge j 54).elim (fun h54 => (by
    have hj : j = 53 := by omega
    subst hj
    cases he
    rcases Nat.lt_or_ge pc 40 with h0 | h0
    · exact (fun h0 => ip_chk_of tk_53 rfl hx h0) h0
    · exact absurd ((tz_53 pc h0).symm.trans hx) (by intro q; cases q))) (fun h54 => (by
    have hj : j = 54 := by omega
    subst hj
    cases he
    rcases Nat.lt_or_ge pc 98 with h0 | h0
    · exact (fun h0 => ip_chk_of tk_54 rfl hx h0) h0
    · exact absurd ((tz_54 pc h0).symm.trans hx) (by intro q; cases q))))) (fun h55 => (Nat.lt_or_ge j 56).elim (fun h56 => (by
    have hj : j = 55 := by omega
    subst hj
    cases he
    rcases Nat.lt_or_ge pc 40 with h0 | h0
    · exact (fun h0 => ip_chk_of tk_55 rfl hx h0) h0
    · exact absurd ((tz_55 pc h0).symm.trans hx) (by intro q; cases q))) (fun h56 => (Nat.lt_or_ge j 57).elim (fun h57 => (by
    have hj : j = 56 := by omega
    subst hj
    cases he
    rcases Nat.lt_or_ge pc 27 with h0 | h0
    · exact (fun h0 => ip_chk_of tk_56 rfl hx h0) h0
    · exact absurd ((tz_56 pc h0).symm.trans hx) (by intro q; cases q))) (fun h57 => (by
    have hj : j = 57 := by omega
    subst hj
    cases he
    rcases Nat.lt_or_ge pc 32 with h0 | h0
    · exact (fun h0 => ip_chk_of tk_57 rfl hx h0) h0
    · exact absurd ((tz_57 pc h0).symm.trans hx) (by intro q; cases q)))))) (fun h58 => (Nat.lt_or_ge j 61).elim (fun h61 => (Nat.lt_or_ge j 59).elim (fun h59 => (by
    have hj : j = 58 := by omega
    subst hj
    cases he
    rcases Nat.lt_or_ge pc 65 with h0 | h0
    · exact (fun h0 => ip_chk_of tk_58 rfl hx h0) h0
    · exact absurd ((tz_58 pc h0).symm.trans hx) (by intro q; cases q))) (fun h59 => (Nat.lt_or_ge j 60).elim (fun h60 => (by
    have hj : j = 59 := by omega
    subst hj
    cases he
    rcases Nat.lt_or_ge pc 27 with h0 | h0
    · exact (fun h0 => ip_chk_of tk_59 rfl hx h0) h0
    · exact absurd ((tz_59 pc h0).symm.trans hx) (by intro q; cases q))) (fun h60 => (by
    have hj : j = 60 := by omega
    subst hj
    cases he
    rcases Nat.lt_or_ge pc 14 with h0 | h0
    · exact (fun h0 => ip_chk_of tk_60 rfl hx h0) h0
    · exact absurd ((tz_60 pc h0).symm.trans hx) (by intro q; cases q))))) (fun h61 => (Nat.lt_or_ge j 63).elim (fun h63 => (Nat.lt_or_ge j 62).elim (fun h62 => (by
    have hj : j = 61 := by omega
    subst hj
    cases he
    rcases Nat.lt_or_ge pc 57 with h0 | h0
    · exact (fun h0 => ip_chk_of tk_61 rfl hx h0) h0
    · exact absurd ((tz_61 pc h0).symm.trans hx) (by intro q; cases q))) (fun h62 => (by
    have hj : j = 62 := by omega
    subst hj
    cases he
    rcases Nat.lt_or_ge pc 30 with h0 | h0
    · exact (fun h0 => ip_chk_of tk_62 rfl hx h0) h0
    · exact absurd ((tz_62 pc h0).symm.trans hx) (by intro q; cases q)))) (fun h63 => (Nat.lt_or_ge j 64).elim (fun h64 => (by
    have hj : j = 63 := by omega
    subst hj
    cases he
    rcases Nat.lt_or_ge pc 11 with h0 | h0
    · exact (fun h0 => ip_chk_of tk_63 rfl hx h0) h0
    · exact absurd ((tz_63 pc h0).symm.trans hx) (by intro q; cases q))) (fun h64 => (by
    have hj : j = 64 := by omega
    subst hj
    cases he
    rcases Nat.lt_or_ge pc 75 with h0 | h0
    · exact (fun h0 => ip_chk_of tk_64 rfl hx h0) h0
    · exact absurd ((tz_64 pc h0).symm.trans hx) (by intro q; cases q))))))) (fun h65 => (Nat.lt_or_ge j 71).elim (fun h71 => (Nat.lt_or_ge j 68).elim (fun h68 => (Nat.lt_or_ge j 66).elim (fun h66 => (by
    have hj : j = 65 := by omega
    subst hj
    cases he
    rcases Nat.lt_or_ge pc 32 with h0 | h0
    · exact (fun h0 => ip_chk_of tk_65 rfl hx h0) h0
    · exact absurd ((tz_65 pc h0).symm.trans hx) (by intro q; cases q))) (fun h66 => (Nat.lt_or_ge j 67).elim (fun h67 => (by
    have hj : j = 66 := by omega
    subst hj
    cases he
    rcases Nat.lt_or_ge pc 21 with h0 | h0
    · exact (fun h0 => ip_chk_of tk_66 rfl hx h0) h0
    · exact absurd ((tz_66 pc h0).symm.trans hx) (by intro q; cases q))) (fun h67 => (by
    have hj : j = 67 := by omega
    subst hj
    cases he
    rcases Nat.lt_or_ge pc 121 with h0 | h0
    · exact (fun h0 => ip_chk_of tk_67 rfl hx h0) h0
    · exact absurd ((tz_67 pc h0).symm.trans hx) (by intro q; cases q))))) (fun h68 => (Nat.lt_or_ge j 69).elim (fun h69 => (by
    have hj : j = 68 := by omega
    subst hj
    cases he
    rcases Nat.lt_or_ge pc 127 with h0 | h0
    · exact (fun h0 => ip_chk_of tk_68 rfl hx h0) h0
    · exact absurd ((tz_68 pc h0).symm.trans hx) (by intro q; cases q))) (fun h69 => (Nat.lt_or_ge j 70).elim (fun h70 => (by
    have hj : j = 69 := by omega
    subst hj
    cases he
    rcases Nat.lt_or_ge pc 75 with h0 | h0
    · exact (fun h0 => ip_chk_of tk_69 rfl hx h0) h0
    · exact absurd ((tz_69 pc h0).symm.trans hx) (by intro q; cases q))) (fun h70 => (by
    have hj : j = 70 := by omega
    subst hj
    cases he
    rcases Nat.lt_or_ge pc 68 with h0 | h0
    · exact (fun h0 => ip_chk_of tk_70 rfl hx h0) h0
    · exact absurd ((tz_70 pc h0).symm.trans hx) (by intro q; cases q)))))) (fun h71 => (Nat.lt_or_ge j 74).elim (fun h74 => (Nat.lt_or_ge j 72).elim (fun h72 => (by
    have hj : j = 71 := by omega
    subst hj
    cases he
    rcases Nat.lt_or_ge pc 27 with h0 | h0
    · exact (fun h0 => ip_chk_of tk_71 rfl hx h0) h0
    · exact absurd ((tz_71 pc h0).symm.trans hx) (by intro q; cases q))) (fun h72 => (Nat.lt_or_ge j 73).elim (fun h73 => (by
    have hj : j = 72 := by omega
    subst hj
    cases he
    rcases Nat.lt_or_ge pc 41 with h0 | h0
    · exact (fun h0 => ip_chk_of tk_72 rfl hx h0) h0
    · exact absurd ((tz_72 pc h0).symm.trans hx) (by intro q; cases q))) (fun h73 => (by
    have hj : j = 73 := by omega
    subst hj
    cases he
    rcases Nat.lt_or_ge pc 95 with h0 | h0
    · exact (fun h0 => ip_chk_of tk_73 rfl hx h0) h0
    · exact absurd ((tz_73 pc h0).symm.trans hx) (by intro q; cases q))))) (fun h74 => (Nat.lt_or_ge j 76).elim (fun h76 => (Nat.lt_or_ge j 75).elim (fun h75 => (by
    have hj : j = 74 := by omega
    subst hj
    cases he
    rcases Nat.lt_or_ge pc 5 with h0 | h0
    · exact (fun h0 => ip_chk_of tk_74 rfl hx h0) h0
    · exact absurd ((tz_74 pc h0).symm.trans hx) (by intro q; cases q))) (fun h75 => (by
    have hj : j = 75 := by omega
    subst hj
    cases he
    rcases Nat.lt_or_ge pc 41 with h0 | h0
    · exact (fun h0 => ip_chk_of tk_75 rfl hx h0) h0
    · exact absurd ((tz_75 pc h0).symm.trans hx) (by intro q; cases q)))) (fun h76 => (Nat.lt_or_ge j 77).elim (fun h77 => (by
    have hj : j = 76 := by omega
    subst hj
    cases he
    rcases Nat.lt_or_ge pc 49 with h0 | h0
    · exact (fun h0 => ip_chk_of tk_76 rfl hx h0) h0
    · exact absurd ((tz_76 pc h0).symm.trans hx) (by intro q; cases q))) (fun h77 => (by
    have hj : j = 77 := by omega
    subst hj
    cases he
    rcases Nat.lt_or_ge pc 36 with h0 | h0
    · exact (fun h0 => ip_chk_of tk_77 rfl hx h0) h0
    · exact absurd ((tz_77 pc h0).symm.trans hx) (by intro q; cases q)))))))) (fun h78 => (Nat.lt_or_ge j 91).elim (fun h91 => (Nat.lt_or_ge j 84).elim (fun h84 => (Nat.lt_or_ge j 81).elim (fun h81 => (Nat.lt_or_ge j 79).elim (fun h79 => (by
    have hj : j = 78 := by omega
    subst hj
    cases he
    rcases Nat.lt_or_ge pc 11 with h0 | h0
    · exact (fun h0 => ip_chk_of tk_78 rfl hx h0) h0
    · exact absurd ((tz_78 pc h0).symm.trans hx) (by intro q; cases q))) (fun h79 => (Nat.lt_or_ge j 80).elim (fun h80 => (by
    have hj : j = 79 := by omega
    subst hj
    cases he
    rcases Nat.lt_or_ge pc 89 with h0 | h0
    · exact (fun h0 => ip_chk_of tk_79 rfl hx h0) h0
    · exact absurd ((tz_79 pc h0).symm.trans hx) (by intro q; cases q))) (fun h80 => (by
    have hj : j = 80 := by omega
    subst hj
    cases he
    rcases Nat.lt_or_ge pc 32 with h0 | h0
    · exact (fun h0 => ip_chk_of tk_80 rfl hx h0) h0
    · exact absurd ((tz_80 pc h0).symm.trans hx) (by intro q; cases q))))) (fun h81 => (Nat.lt_or_ge j 82).elim (fun h82 => (by
    have hj : j = 81 := by omega
    subst hj
    cases he
    rcases Nat.lt_or_ge pc 32 with h0 | h0
    · exact (fun h0 => ip_chk_of tk_81 rfl hx h0) h0
    · exact absurd ((tz_81 pc h0).symm.trans hx) (by intro q; cases q))) (fun h82 => (Nat.lt_or_ge j 83).elim (fun h83 => (by
    have hj : j = 82 := by omega
    subst hj
    cases he
    rcases Nat.lt_or_ge pc 148 with h0 | h0
    · exact (fun h0 => ip_chk_of tk_82 rfl hx h0) h0
    · exact absurd ((tz_82 pc h0).symm.trans hx) (by intro q; cases q))) (fun h83 => (by
    have hj : j = 83 := by omega
    subst hj
    cases he
    rcases Nat.lt_or_ge pc 55 with h0 | h0
    · exact (fun h0 => ip_chk_of tk_83 rfl hx h0) h0
    · exact absurd ((tz_83 pc h0).symm.trans hx) (by intro q; cases q)))))) (fun h84 => (Nat.lt_or_ge j 87).elim (fun h87 => (Nat.lt_or_ge j 85).elim (fun h85 => (by
    have hj : j = 84 := by omega
    subst hj
    cases he
    rcases Nat.lt_or_ge pc 40 with h0 | h0
    · exact (fun h0 => ip_chk_of tk_84 rfl hx h0) h0
    · exact absurd ((tz_84 pc h0).symm.trans hx) (by intro q; cases q))) (fun h85 => (Nat.lt_or_ge j 86).elim (fun h86 => (by
    have hj : j = 85 := by omega
    subst hj
    cases he
    rcases Nat.lt_or_ge pc 36 with h0 | h0
    · exact (fun h0 => ip_chk_of tk_85 rfl hx h0) h0
    · exact absurd ((tz_85 pc h0).symm.trans hx) (by intro q; cases q))) (fun h86 => (by
    have hj : j = 86 := by omega
    subst hj
    cases he
    rcases Nat.lt_or_ge pc 82 with h0 | h0
    · exact (fun h0 => ip_chk_of tk_86 rfl hx h0) h0
    · exact absurd ((tz_86 pc h0).symm.trans hx) (by intro q; cases q))))) (fun h87 => (Nat.lt_or_ge j 89).elim (fun h89 => (Nat.lt_or_ge j 88).elim (fun h88 => (by
    have hj : j = 87 := by omega
    subst hj
    cases he
    rcases Nat.lt_or_ge pc 34 with h0 | h0
    · exact (fun h0 => ip_chk_of tk_87 rfl hx h0) h0
    · exact absurd ((tz_87 pc h0).symm.trans hx) (by intro q; cases q))) (fun h88 => (by
    have hj : j = 88 := by omega
    subst hj
    cases he
    rcases Nat.lt_or_ge pc 83 with h0 | h0
    · exact (fun h0 => ip_chk_of tk_88 rfl hx h0) h0
    · exact absurd ((tz_88 pc h0).symm.trans hx) (by intro q; cases q)))) (fun h89 => (Nat.lt_or_ge j 90).elim (fun h90 => (by
    have hj : j = 89 := by omega
    subst hj
    cases he
    rcases Nat.lt_or_ge pc 37 with h0 | h0
    · exact (fun h0 => ip_chk_of tk_89 rfl hx h0) h0
    · exact absurd ((tz_89 pc h0).symm.trans hx) (by intro q; cases q))) (fun h90 => (by
    have hj : j = 90 := by omega
    subst hj
    cases he
    rcases Nat.lt_or_ge pc 23 with h0 | h0
    · exact (fun h0 => ip_chk_of tk_90 rfl hx h0) h0
    · exact absurd ((tz_90 pc h0).symm.trans hx) (by intro q; cases q))))))) (fun h91 => (Nat.lt_or_ge j 97).elim (fun h97 => (Nat.lt_or_ge j 94).elim (fun h94 => (Nat.lt_or_ge j 92).elim (fun h92 => (by
    have hj : j = 91 := by omega
    subst hj
    cases he
    rcases Nat.lt_or_ge pc 32 with h0 | h0
    · exact (fun h0 => ip_chk_of tk_91 rfl hx h0) h0
    · exact absurd ((tz_91 pc h0).symm.trans hx) (by intro q; cases q))) (fun h92 => (Nat.lt_or_ge j 93).elim (fun h93 => (by
    have hj : j = 92 := by omega
    subst hj
    cases he
    rcases Nat.lt_or_ge pc 41 with h0 | h0
    · exact (fun h0 => ip_chk_of tk_92 rfl hx h0) h0
    · exact absurd ((tz_92 pc h0).symm.trans hx) (by intro q; cases q))) (fun h93 => (by
    have hj : j = 93 := by omega
    subst hj
    cases he
    rcases Nat.lt_or_ge pc 48 with h0 | h0
    · exact (fun h0 => ip_chk_of tk_93 rfl hx h0) h0
    · exact absurd ((tz_93 pc h0).symm.trans hx) (by intro q; cases q))))) (fun h94 => (Nat.lt_or_ge j 95).elim (fun h95 => (by
    have hj : j = 94 := by omega
    subst hj
    cases he
    rcases Nat.lt_or_ge pc 22 with h0 | h0
    · exact (fun h0 => ip_chk_of tk_94 rfl hx h0) h0
    · exact absurd ((tz_94 pc h0).symm.trans hx) (by intro q; cases q))) (fun h95 => (Nat.lt_or_ge j 96).elim (fun h96 => (by
    have hj : j = 95 := by omega
    subst hj
    cases he
    rcases Nat.lt_or_ge pc 8 with h0 | h0
    · exact (fun h0 => ip_chk_of tk_95 rfl hx h0) h0
    · exact absurd ((tz_95 pc h0).symm.trans hx) (by intro q; cases q))) (fun h96 => (by
    have hj : j = 96 := by omega
    subst hj
    cases he
    rcases Nat.lt_or_ge pc 8 with h0 | h0
    · exact (fun h0 => ip_chk_of tk_96 rfl hx h0) h0
    · exact absurd ((tz_96 pc h0).symm.trans hx) (by intro q; cases q)))))) (fun h97 => (Nat.lt_or_ge j 100).elim (fun h100 => (Nat.lt_or_ge j 98).elim (fun h98 => (by
    have hj : j = 97 := by omega
    subst hj
    cases he
    rcases Nat.lt_or_ge pc 33 with h0 | h0
    · exact (fun h0 => ip_chk_of tk_97 rfl hx h0) h0
    · exact absurd ((tz_97 pc h0).symm.trans hx) (by intro q; cases q))) (fun h98 => (Nat.lt_or_ge j 99).elim (fun h99 => (by
    have hj : j = 98 := by omega
    subst hj
    cases he
    rcases Nat.lt_or_ge pc 23 with h0 | h0
    · exact (fun h0 => ip_chk_of tk_98 rfl hx h0) h0
    · exact absurd ((tz_98 pc h0).symm.trans hx) (by intro q; cases q))) (fun h99 => (by
    have hj : j = 99 := by omega
    subst hj
    cases he
    rcases Nat.lt_or_ge pc 110 with h0 | h0
    · exact (fun h0 => ip_chk_of tk_99 rfl hx h0) h0
    · exact absurd ((tz_99 pc h0).symm.trans hx) (by intro q; cases q))))) (fun h100 => (Nat.lt_or_ge j 102).elim (fun h102 => (Nat.lt_or_ge j 101).elim (fun h101 => (by
    have hj : j = 100 := by omega
    subst hj
    cases he
    rcases Nat.lt_or_ge pc 44 with h0 | h0
    · exact (fun h0 => ip_chk_of tk_100 rfl hx h0) h0
    · exact absurd ((tz_100 pc h0).symm.trans hx) (by intro q; cases q))) (fun h101 => (by
    have hj : j = 101 := by omega
    subst hj
    cases he
    rcases Nat.lt_or_ge pc 19 with h0 | h0
    · exact (fun h0 => ip_chk_of tk_101 rfl hx h0) h0
    · exact absurd ((tz_101 pc h0).symm.trans hx) (by intro q; cases q)))) (fun h102 => (Nat.lt_or_ge j 103).elim (fun h103 => (by
    have hj : j = 102 := by omega
    subst hj
    cases he
    rcases Nat.lt_or_ge pc 24 with h0 | h0
    · exact (fun h0 => ip_chk_of tk_102 rfl hx h0) h0
    · exact absurd ((tz_102 pc h0).symm.trans hx) (by intro q; cases q))) (fun h103 => (by
    have hj : j = 103 := by omega
    subst hj
    cases he
    rcases Nat.lt_or_ge pc 42 with h0 | h0
    · exact (fun h0 => ip_chk_of tk_103 rfl hx h0) h0
    · exact absurd ((tz_103 pc h0).symm.trans hx) (by intro q; cases q)))))))))) (fun h104 => (Nat.lt_or_ge j 156).elim (fun h156 => (Nat.lt_or_ge j 130).elim (fun h130 => (Nat.lt_or_ge j 117).elim (fun h117 => (Nat.lt_or_ge j 110).elim (fun h110 => (Nat.lt_or_ge j 107).elim (fun h107 => (Nat.lt_or_ge j 105).elim (fun h105 => (by
    have hj : j = 104 := by omega
    subst hj
    cases he
    rcases Nat.lt_or_ge pc 49 with h0 | h0
    · exact (fun h0 => ip_chk_of tk_104 rfl hx h0) h0
    · exact absurd ((tz_104 pc h0).symm.trans hx) (by intro q; cases q))) (fun h105 => (Nat.lt_or_ge j 106).elim (fun h106 => (by
    have hj : j = 105 := by omega
    subst hj
    cases he
    rcases Nat.lt_or_ge pc 123 with h0 | h0
    · exact (fun h0 => ip_chk_of tk_105 rfl hx h0) h0
    · exact absurd ((tz_105 pc h0).symm.trans hx) (by intro q; cases q))) (fun h106 => (by
    have hj : j = 106 := by omega
    subst hj
    cases he
    rcases Nat.lt_or_ge pc 82 with h0 | h0
    · exact (fun h0 => ip_chk_of tk_106 rfl hx h0) h0
    · exact absurd ((tz_106 pc h0).symm.trans hx) (by intro q; cases q))))) (fun h107 => (Nat.lt_or_ge j 108).elim (fun h108 => (by
    have hj : j = 107 := by omega
    subst hj
    cases he
    rcases Nat.lt_or_ge pc 13 with h0 | h0
    · exact (fun h0 => ip_chk_of tk_107 rfl hx h0) h0
    · exact absurd ((tz_107 pc h0).symm.trans hx) (by intro q; cases q))) (fun h108 => (Nat.lt_or_ge j 109).elim (fun h109 => (by
    have hj : j = 108 := by omega
    subst hj
    cases he
    rcases Nat.lt_or_ge pc 41 with h0 | h0
    · exact (fun h0 => ip_chk_of tk_108 rfl hx h0) h0
    · exact absurd ((tz_108 pc h0).symm.trans hx) (by intro q; cases q))) (fun h109 => (by
    have hj : j = 109 := by omega
    subst hj
    cases he
    rcases Nat.lt_or_ge pc 58 with h0 | h0
    · exact (fun h0 => ip_chk_of tk_109 rfl hx h0) h0
    · exact absurd ((tz_109 pc h0).symm.trans hx) (by intro q; cases q)))))) (fun h110 => (Nat.lt_or_ge j 113).elim (fun h113 => (Nat.lt_or_ge j 111).elim (fun h111 => (by
    have hj : j = 110 := by omega
    subst hj
    cases he
    rcases Nat.lt_or_ge pc 27 with h0 | h0
    · exact (fun h0 => ip_chk_of tk_110 rfl hx h0) h0
    · exact absurd ((tz_110 pc h0).symm.trans hx) (by intro q; cases q))) (fun h111 => (Nat.lt_or_ge j 112).elim (fun h112 => (by
    have hj : j = 111 := by omega
    subst hj
    cases he
    rcases Nat.lt_or_ge pc 49 with h0 | h0
    · exact (fun h0 => ip_chk_of tk_111 rfl hx h0) h0
    · exact absurd ((tz_111 pc h0).symm.trans hx) (by intro q; cases q))) (fun h112 => (by
    have hj : j = 112 := by omega
    subst hj
    cases he
    rcases Nat.lt_or_ge pc 92 with h0 | h0
    · exact (fun h0 => ip_chk_of tk_112 rfl hx h0) h0
    · exact absurd ((tz_112 pc h0).symm.trans hx) (by intro q; cases q))))) (fun h113 => (Nat.lt_or_ge j 115).elim (fun h115 => (Nat.lt_or_ge j 114).elim (fun h114 => (by
    have hj : j = 113 := by omega
    subst hj
    cases he
    rcases Nat.lt_or_ge pc 120 with h0 | h0
    · exact (fun h0 => ip_chk_of tk_113 rfl hx h0) h0
    · exact absurd ((tz_113 pc h0).symm.trans hx) (by intro q; cases q))) (fun h114 => (by
    have hj : j = 114 := by omega
    subst hj
    cases he
    rcases Nat.lt_or_ge pc 94 with h0 | h0
    · exact (fun h0 => ip_chk_of tk_114 rfl hx h0) h0
    · exact absurd ((tz_114 pc h0).symm.trans hx) (by intro q; cases q)))) (fun h115 => (Nat.lt_or_ge j 116).elim (fun h116 => (by
    have hj : j = 115 := by omega
    subst hj
    cases he
    rcases Nat.lt_or_ge pc 13 with h0 | h0
    · exact (fun h0 => ip_chk_of tk_115 rfl hx h0) h0
    · exact absurd ((tz_115 pc h0).symm.trans hx) (by intro q; cases q))) (fun h116 => (by
    have hj : j = 116 := by omega
    subst hj
    cases he
    rcases Nat.lt_or_ge pc 49 with h0 | h0
    · exact (fun h0 => ip_chk_of tk_116 rfl hx h0) h0
    · exact absurd ((tz_116 pc h0).symm.trans hx) (by intro q; cases q))))))) (fun h117 => (Nat.lt_or_ge j 123).elim (fun h123 => (Nat.lt_or_ge j 120).elim (fun h120 => (Nat.lt_or_ge j 118).elim (fun h118 => (by
    have hj : j = 117 := by omega
    subst hj
    cases he
    rcases Nat.lt_or_ge pc 18 with h0 | h0
    · exact (fun h0 => ip_chk_of tk_117 rfl hx h0) h0
    · exact absurd ((tz_117 pc h0).symm.trans hx) (by intro q; cases q))) (fun h118 => (Nat.lt_or_ge j 119).elim (fun h119 => (by
    have hj : j = 118 := by omega
    subst hj
    cases he
    rcases Nat.lt_or_ge pc 15 with h0 | h0
    · exact (fun h0 => ip_chk_of tk_118 rfl hx h0) h0
    · exact absurd ((tz_118 pc h0).symm.trans hx) (by intro q; cases q))) (fun h119 => (by
    have hj : j = 119 := by omega
    subst hj
    cases he
    rcases Nat.lt_or_ge pc 15 with h0 | h0
    · exact (fun h0 => ip_chk_of tk_119 rfl hx h0) h0
    · exact absurd ((tz_119 pc h0).symm.trans hx) (by intro q; cases q))))) (fun h120 => (Nat.lt_or_ge j 121).elim (fun h121 => (by
    have hj : j = 120 := by omega
    subst hj
    cases he
    rcases Nat.lt_or_ge pc 15 with h0 | h0
    · exact (fun h0 => ip_chk_of tk_120 rfl hx h0) h0
    · exact absurd ((tz_120 pc h0).symm.trans hx) (by intro q; cases q))) (fun h121 => (Nat.lt_or_ge j 122).elim (fun h122 => (by
    have hj : j = 121 := by omega
    subst hj
    cases he
    rcases Nat.lt_or_ge pc 24 with h0 | h0
    · exact (fun h0 => ip_chk_of tk_121 rfl hx h0) h0
    · exact absurd ((tz_121 pc h0).symm.trans hx) (by intro q; cases q))) (fun h122 => (by
    have hj : j = 122 := by omega
    subst hj
    cases he
    rcases Nat.lt_or_ge pc 36 with h0 | h0
    · exact (fun h0 => ip_chk_of tk_122 rfl hx h0) h0
    · exact absurd ((tz_122 pc h0).symm.trans hx) (by intro q; cases q)))))) (fun h123 => (Nat.lt_or_ge j 126).elim (fun h126 => (Nat.lt_or_ge j 124).elim (fun h124 => (by
    have hj : j = 123 := by omega
    subst hj
    cases he
    rcases Nat.lt_or_ge pc 260 with h0 | h0
    · exact (fun h0 => ip_chk_of tk_123 rfl hx h0) h0
    · exact absurd ((tz_123 pc h0).symm.trans hx) (by intro q; cases q))) (fun h124 => (Nat.lt_or_ge j 125).elim (fun h125 => (by
    have hj : j = 124 := by omega
    subst hj
    cases he
    rcases Nat.lt_or_ge pc 16 with h0 | h0
    · exact (fun h0 => ip_chk_of tk_124 rfl hx h0) h0
    · exact absurd ((tz_124 pc h0).symm.trans hx) (by intro q; cases q))) (fun h125 => (by
    have hj : j = 125 := by omega
    subst hj
    cases he
    rcases Nat.lt_or_ge pc 74 with h0 | h0
    · exact (fun h0 => ip_chk_of tk_125 rfl hx h0) h0
    · exact absurd ((tz_125 pc h0).symm.trans hx) (by intro q; cases q))))) (fun h126 => (Nat.lt_or_ge j 128).elim (fun h128 => (Nat.lt_or_ge j 127).elim (fun h127 => (by
    have hj : j = 126 := by omega
    subst hj
    cases he
    rcases Nat.lt_or_ge pc 10 with h0 | h0
    · exact (fun h0 => ip_chk_of tk_126 rfl hx h0) h0
    · exact absurd ((tz_126 pc h0).symm.trans hx) (by intro q; cases q))) (fun h127 => (by
    have hj : j = 127 := by omega
    subst hj
    cases he
    rcases Nat.lt_or_ge pc 36 with h0 | h0
    · exact (fun h0 => ip_chk_of tk_127 rfl hx h0) h0
    · exact absurd ((tz_127 pc h0).symm.trans hx) (by intro q; cases q)))) (fun h128 => (Nat.lt_or_ge j 129).elim (fun h129 => (by
    have hj : j = 128 := by omega
    subst hj
    cases he
    rcases Nat.lt_or_ge pc 39 with h0 | h0
    · exact (fun h0 => ip_chk_of tk_128 rfl hx h0) h0
    · exact absurd ((tz_128 pc h0).symm.trans hx) (by intro q; cases q))) (fun h129 => (by
    have hj : j = 129 := by omega
    subst hj
    cases he
    rcases Nat.lt_or_ge pc 161 with h0 | h0
    · exact (fun h0 => ip_chk_of tk_129 rfl hx h0) h0
    · exact absurd ((tz_129 pc h0).symm.trans hx) (by intro q; cases q)))))))) (fun h130 => (Nat.lt_or_ge j 143).elim (fun h143 => (Nat.lt_or_ge j 136).elim (fun h136 => (Nat.lt_or_ge j 133).elim (fun h133 => (Nat.lt_or_ge j 131).elim (fun h131 => (by
    have hj : j = 130 := by omega
    subst hj
    cases he
    rcases Nat.lt_or_ge pc 17 with h0 | h0
    · exact (fun h0 => ip_chk_of tk_130 rfl hx h0) h0
    · exact absurd ((tz_130 pc h0).symm.trans hx) (by intro q; cases q))) (fun h131 => (Nat.lt_or_ge j 132).elim (fun h132 => (by
    have hj : j = 131 := by omega
    subst hj
    cases he
    rcases Nat.lt_or_ge pc 16 with h0 | h0
    · exact (fun h0 => ip_chk_of tk_131 rfl hx h0) h0
    · exact absurd ((tz_131 pc h0).symm.trans hx) (by intro q; cases q))) (fun h132 => (by
    have hj : j = 132 := by omega
    subst hj
    cases he
    rcases Nat.lt_or_ge pc 28 with h0 | h0
    · exact (fun h0 => ip_chk_of tk_132 rfl hx h0) h0
    · exact absurd ((tz_132 pc h0).symm.trans hx) (by intro q; cases q))))) (fun h133 => (Nat.lt_or_ge j 134).elim (fun h134 => (by
    have hj : j = 133 := by omega
    subst hj
    cases he
    rcases Nat.lt_or_ge pc 42 with h0 | h0
    · exact (fun h0 => ip_chk_of tk_133 rfl hx h0) h0
    · exact absurd ((tz_133 pc h0).symm.trans hx) (by intro q; cases q))) (fun h134 => (Nat.lt_or_ge j 135).elim (fun h135 => (by
    have hj : j = 134 := by omega
    subst hj
    cases he
    rcases Nat.lt_or_ge pc 22 with h0 | h0
    · exact (fun h0 => ip_chk_of tk_134 rfl hx h0) h0
    · exact absurd ((tz_134 pc h0).symm.trans hx) (by intro q; cases q))) (fun h135 => (by
    have hj : j = 135 := by omega
    subst hj
    cases he
    rcases Nat.lt_or_ge pc 14 with h0 | h0
    · exact (fun h0 => ip_chk_of tk_135 rfl hx h0) h0
    · exact absurd ((tz_135 pc h0).symm.trans hx) (by intro q; cases q)))))) (fun h136 => (Nat.lt_or_ge j 139).elim (fun h139 => (Nat.lt_or_ge j 137).elim (fun h137 => (by
    have hj : j = 136 := by omega
    subst hj
    cases he
    rcases Nat.lt_or_ge pc 15 with h0 | h0
    · exact (fun h0 => ip_chk_of tk_136 rfl hx h0) h0
    · exact absurd ((tz_136 pc h0).symm.trans hx) (by intro q; cases q))) (fun h137 => (Nat.lt_or_ge j 138).elim (fun h138 => (by
    have hj : j = 137 := by omega
    subst hj
    cases he
    rcases Nat.lt_or_ge pc 18 with h0 | h0
    · exact (fun h0 => ip_chk_of tk_137 rfl hx h0) h0
    · exact absurd ((tz_137 pc h0).symm.trans hx) (by intro q; cases q))) (fun h138 => (by
    have hj : j = 138 := by omega
    subst hj
    cases he
    rcases Nat.lt_or_ge pc 40 with h0 | h0
    · exact (fun h0 => ip_chk_of tk_138 rfl hx h0) h0
    · exact absurd ((tz_138 pc h0).symm.trans hx) (by intro q; cases q))))) (fun h139 => (Nat.lt_or_ge j 141).elim (fun h141 => (Nat.lt_or_ge j 140).elim (fun h140 => (by
    have hj : j = 139 := by omega
    subst hj
    cases he
    rcases Nat.lt_or_ge pc 26 with h0 | h0
    · exact (fun h0 => ip_chk_of tk_139 rfl hx h0) h0
    · exact absurd ((tz_139 pc h0).symm.trans hx) (by intro q; cases q))) (fun h140 => (by
    have hj : j = 140 := by omega
    subst hj
    cases he
    rcases Nat.lt_or_ge pc 28 with h0 | h0
    · exact (fun h0 => ip_chk_of tk_140 rfl hx h0) h0
    · exact absurd ((tz_140 pc h0).symm.trans hx) (by intro q; cases q)))) (fun h141 => (Nat.lt_or_ge j 142).elim (fun h142 => (by
    have hj : j = 141 := by omega
    subst hj
    cases he
    rcases Nat.lt_or_ge pc 23 with h0 | h0
    · exact (fun h0 => ip_chk_of tk_141 rfl hx h0) h0
    · exact absurd ((tz_141 pc h0).symm.trans hx) (by intro q; cases q))) (fun h142 => (by
    have hj : j = 142 := by omega
    subst hj
    cases he
    rcases Nat.lt_or_ge pc 43 with h0 | h0
    · exact (fun h0 => ip_chk_of tk_142 rfl hx h0) h0
    · exact absurd ((tz_142 pc h0).symm.trans hx) (by intro q; cases q))))))) (fun h143 => (Nat.lt_or_ge j 149).elim (fun h149 => (Nat.lt_or_ge j 146).elim (fun h146 => (Nat.lt_or_ge j 144).elim (fun h144 => (by
    have hj : j = 143 := by omega
    subst hj
    cases he
    rcases Nat.lt_or_ge pc 160 with h0 | h0
    · exact (fun h0 => ip_chk_of tk_143 rfl hx h0) h0
    · exact absurd ((tz_143 pc h0).symm.trans hx) (by intro q; cases q))) (fun h144 => (Nat.lt_or_ge j 145).elim (fun h145 => (by
    have hj : j = 144 := by omega
    subst hj
    cases he
    rcases Nat.lt_or_ge pc 110 with h0 | h0
    · exact (fun h0 => ip_chk_of tk_144 rfl hx h0) h0
    · exact absurd ((tz_144 pc h0).symm.trans hx) (by intro q; cases q))) (fun h145 => (by
    have hj : j = 145 := by omega
    subst hj
    cases he
    rcases Nat.lt_or_ge pc 248 with h0 | h0
    · exact (fun h0 => ip_chk_of tk_145 rfl hx h0) h0
    · exact absurd ((tz_145 pc h0).symm.trans hx) (by intro q; cases q))))) (fun h146 => (Nat.lt_or_ge j 147).elim (fun h147 => (by
    have hj : j = 146 := by omega
    subst hj
    cases he
    rcases Nat.lt_or_ge pc 34 with h0 | h0
    · exact (fun h0 => ip_chk_of tk_146 rfl hx h0) h0
    · exact absurd ((tz_146 pc h0).symm.trans hx) (by intro q; cases q))) (fun h147 => (Nat.lt_or_ge j 148).elim (fun h148 => (by
    have hj : j = 147 := by omega
    subst hj
    cases he
    rcases Nat.lt_or_ge pc 9 with h0 | h0
    · exact (fun h0 => ip_chk_of tk_147 rfl hx h0) h0
    · exact absurd ((tz_147 pc h0).symm.trans hx) (by intro q; cases q))) (fun h148 => (by
    have hj : j = 148 := by omega
    subst hj
    cases he
    rcases Nat.lt_or_ge pc 40 with h0 | h0
    · exact (fun h0 => ip_chk_of tk_148 rfl hx h0) h0
    · exact absurd ((tz_148 pc h0).symm.trans hx) (by intro q; cases q)))))) (fun h149 => (Nat.lt_or_ge j 152).elim (fun h152 => (Nat.lt_or_ge j 150).elim (fun h150 => (by
    have hj : j = 149 := by omega
    subst hj
    cases he
    rcases Nat.lt_or_ge pc 52 with h0 | h0
    · exact (fun h0 => ip_chk_of tk_149 rfl hx h0) h0
    · exact absurd ((tz_149 pc h0).symm.trans hx) (by intro q; cases q))) (fun h150 => (Nat.lt_or_ge j 151).elim (fun h151 => (by
    have hj : j = 150 := by omega
    subst hj
    cases he
    rcases Nat.lt_or_ge pc 26 with h0 | h0
    · exact (fun h0 => ip_chk_of tk_150 rfl hx h0) h0
    · exact absurd ((tz_150 pc h0).symm.trans hx) (by intro q; cases q))) (fun h151 => (by
    have hj : j = 151 := by omega
    subst hj
    cases he
    rcases Nat.lt_or_ge pc 77 with h0 | h0
    · exact (fun h0 => ip_chk_of tk_151 rfl hx h0) h0
    · exact absurd ((tz_151 pc h0).symm.trans hx) (by intro q; cases q))))) (fun h152 => (Nat.lt_or_ge j 154).elim (fun h154 => (Nat.lt_or_ge j 153).elim (fun h153 => (by
    have hj : j = 152 := by omega
    subst hj
    cases he
    rcases Nat.lt_or_ge pc 12 with h0 | h0
    · exact (fun h0 => ip_chk_of tk_152 rfl hx h0) h0
    · exact absurd ((tz_152 pc h0).symm.trans hx) (by intro q; cases q))) (fun h153 => (by
    have hj : j = 153 := by omega
    subst hj
    cases he
    rcases Nat.lt_or_ge pc 155 with h0 | h0
    · exact (fun h0 => ip_chk_of tk_153 rfl hx h0) h0
    · exact absurd ((tz_153 pc h0).symm.trans hx) (by intro q; cases q)))) (fun h154 => (Nat.lt_or_ge j 155).elim (fun h155 => (by
    have hj : j = 154 := by omega
    subst hj
    cases he
    rcases Nat.lt_or_ge pc 257 with h0 | h0
    · exact (fun h0 => ip_chk_of tk_154 rfl hx h0) h0
    · exact absurd ((tz_154 pc h0).symm.trans hx) (by intro q; cases q))) (fun h155 => (by
    have hj : j = 155 := by omega
    subst hj
    cases he
    rcases Nat.lt_or_ge pc 129 with h0 | h0
    · exact (fun h0 => ip_chk_of tk_155 rfl hx h0) h0
    · exact absurd ((tz_155 pc h0).symm.trans hx) (by intro q; cases q))))))))) (fun h156 => (Nat.lt_or_ge j 182).elim (fun h182 => (Nat.lt_or_ge j 169).elim (fun h169 => (Nat.lt_or_ge j 162).elim (fun h162 => (Nat.lt_or_ge j 159).elim (fun h159 => (Nat.lt_or_ge j 157).elim (fun h157 => (by
    have hj : j = 156 := by omega
    subst hj
    cases he
    rcases Nat.lt_or_ge pc 207 with h0 | h0
    · exact (fun h0 => ip_chk_of tk_156 rfl hx h0) h0
    · exact absurd ((tz_156 pc h0).symm.trans hx) (by intro q; cases q))) (fun h157 => (Nat.lt_or_ge j 158).elim (fun h158 => (by
    have hj : j = 157 := by omega
    subst hj
    cases he
    rcases Nat.lt_or_ge pc 23 with h0 | h0
    · exact (fun h0 => ip_chk_of tk_157 rfl hx h0) h0
    · exact absurd ((tz_157 pc h0).symm.trans hx) (by intro q; cases q))) (fun h158 => (by
    have hj : j = 158 := by omega
    subst hj
    cases he
    rcases Nat.lt_or_ge pc 21 with h0 | h0
    · exact (fun h0 => ip_chk_of tk_158 rfl hx h0) h0
    · exact absurd ((tz_158 pc h0).symm.trans hx) (by intro q; cases q))))) (fun h159 => (Nat.lt_or_ge j 160).elim (fun h160 => (by
    have hj : j = 159 := by omega
    subst hj
    cases he
    rcases Nat.lt_or_ge pc 64 with h0 | h0
    · exact (fun h0 => ip_chk_of tk_159 rfl hx h0) h0
    · exact absurd ((tz_159 pc h0).symm.trans hx) (by intro q; cases q))) (fun h160 => (Nat.lt_or_ge j 161).elim (fun h161 => (by
    have hj : j = 160 := by omega
    subst hj
    cases he
    rcases Nat.lt_or_ge pc 46 with h0 | h0
    · exact (fun h0 => ip_chk_of tk_160 rfl hx h0) h0
    · exact absurd ((tz_160 pc h0).symm.trans hx) (by intro q; cases q))) (fun h161 => (by
    have hj : j = 161 := by omega
    subst hj
    cases he
    rcases Nat.lt_or_ge pc 10 with h0 | h0
    · exact (fun h0 => ip_chk_of tk_161 rfl hx h0) h0
    · exact absurd ((tz_161 pc h0).symm.trans hx) (by intro q; cases q)))))) (fun h162 => (Nat.lt_or_ge j 165).elim (fun h165 => (Nat.lt_or_ge j 163).elim (fun h163 => (by
    have hj : j = 162 := by omega
    subst hj
    cases he
    rcases Nat.lt_or_ge pc 99 with h0 | h0
    · exact (fun h0 => ip_chk_of tk_162 rfl hx h0) h0
    · exact absurd ((tz_162 pc h0).symm.trans hx) (by intro q; cases q))) (fun h163 => (Nat.lt_or_ge j 164).elim (fun h164 => (by
    have hj : j = 163 := by omega
    subst hj
    cases he
    rcases Nat.lt_or_ge pc 119 with h0 | h0
    · exact (fun h0 => ip_chk_of tk_163 rfl hx h0) h0
    · exact absurd ((tz_163 pc h0).symm.trans hx) (by intro q; cases q))) (fun h164 => (by
    have hj : j = 164 := by omega
    subst hj
    cases he
    rcases Nat.lt_or_ge pc 29 with h0 | h0
    · exact (fun h0 => ip_chk_of tk_164 rfl hx h0) h0
    · exact absurd ((tz_164 pc h0).symm.trans hx) (by intro q; cases q))))) (fun h165 => (Nat.lt_or_ge j 167).elim (fun h167 => (Nat.lt_or_ge j 166).elim (fun h166 => (by
    have hj : j = 165 := by omega
    subst hj
    cases he
    rcases Nat.lt_or_ge pc 17 with h0 | h0
    · exact (fun h0 => ip_chk_of tk_165 rfl hx h0) h0
    · exact absurd ((tz_165 pc h0).symm.trans hx) (by intro q; cases q))) (fun h166 => (by
    have hj : j = 166 := by omega
    subst hj
    cases he
    rcases Nat.lt_or_ge pc 82 with h0 | h0
    · exact (fun h0 => ip_chk_of tk_166 rfl hx h0) h0
    · exact absurd ((tz_166 pc h0).symm.trans hx) (by intro q; cases q)))) (fun h167 => (Nat.lt_or_ge j 168).elim (fun h168 => (by
    have hj : j = 167 := by omega
    subst hj
    cases he
    rcases Nat.lt_or_ge pc 7 with h0 | h0
    · exact (fun h0 => ip_chk_of tk_167 rfl hx h0) h0
    · exact absurd ((tz_167 pc h0).symm.trans hx) (by intro q; cases q))) (fun h168 => (by
    have hj : j = 168 := by omega
    subst hj
    cases he
    rcases Nat.lt_or_ge pc 170 with h0 | h0
    · exact (fun h0 => ip_chk_of tk_168 rfl hx h0) h0
    · exact absurd ((tz_168 pc h0).symm.trans hx) (by intro q; cases q))))))) (fun h169 => (Nat.lt_or_ge j 175).elim (fun h175 => (Nat.lt_or_ge j 172).elim (fun h172 => (Nat.lt_or_ge j 170).elim (fun h170 => (by
    have hj : j = 169 := by omega
    subst hj
    cases he
    rcases Nat.lt_or_ge pc 83 with h0 | h0
    · exact (fun h0 => ip_chk_of tk_169 rfl hx h0) h0
    · exact absurd ((tz_169 pc h0).symm.trans hx) (by intro q; cases q))) (fun h170 => (Nat.lt_or_ge j 171).elim (fun h171 => (by
    have hj : j = 170 := by omega
    subst hj
    cases he
    rcases Nat.lt_or_ge pc 49 with h0 | h0
    · exact (fun h0 => ip_chk_of tk_170 rfl hx h0) h0
    · exact absurd ((tz_170 pc h0).symm.trans hx) (by intro q; cases q))) (fun h171 => (by
    have hj : j = 171 := by omega
    subst hj
    cases he
    rcases Nat.lt_or_ge pc 34 with h0 | h0
    · exact (fun h0 => ip_chk_of tk_171 rfl hx h0) h0
    · exact absurd ((tz_171 pc h0).symm.trans hx) (by intro q; cases q))))) (fun h172 => (Nat.lt_or_ge j 173).elim (fun h173 => (by
    have hj : j = 172 := by omega
    subst hj
    cases he
    rcases Nat.lt_or_ge pc 152 with h0 | h0
    · exact (fun h0 => ip_chk_of tk_172 rfl hx h0) h0
    · exact absurd ((tz_172 pc h0).symm.trans hx) (by intro q; cases q))) (fun h173 => (Nat.lt_or_ge j 174).elim (fun h174 => (by
    have hj : j = 173 := by omega
    subst hj
    cases he
    rcases Nat.lt_or_ge pc 44 with h0 | h0
    · exact (fun h0 => ip_chk_of tk_173 rfl hx h0) h0
    · exact absurd ((tz_173 pc h0).symm.trans hx) (by intro q; cases q))) (fun h174 => (by
    have hj : j = 174 := by omega
    subst hj
    cases he
    rcases Nat.lt_or_ge pc 82 with h0 | h0
    · exact (fun h0 => ip_chk_of tk_174 rfl hx h0) h0
    · exact absurd ((tz_174 pc h0).symm.trans hx) (by intro q; cases q)))))) (fun h175 => (Nat.lt_or_ge j 178).elim (fun h178 => (Nat.lt_or_ge j 176).elim (fun h176 => (by
    have hj : j = 175 := by omega
    subst hj
    cases he
    rcases Nat.lt_or_ge pc 94 with h0 | h0
    · exact (fun h0 => ip_chk_of tk_175 rfl hx h0) h0
    · exact absurd ((tz_175 pc h0).symm.trans hx) (by intro q; cases q))) (fun h176 => (Nat.lt_or_ge j 177).elim (fun h177 => (by
    have hj : j = 176 := by omega
    subst hj
    cases he
    rcases Nat.lt_or_ge pc 44 with h0 | h0
    · exact (fun h0 => ip_chk_of tk_176 rfl hx h0) h0
    · exact absurd ((tz_176 pc h0).symm.trans hx) (by intro q; cases q))) (fun h177 => (by
    have hj : j = 177 := by omega
    subst hj
    cases he
    rcases Nat.lt_or_ge pc 34 with h0 | h0
    · exact (fun h0 => ip_chk_of tk_177 rfl hx h0) h0
    · exact absurd ((tz_177 pc h0).symm.trans hx) (by intro q; cases q))))) (fun h178 => (Nat.lt_or_ge j 180).elim (fun h180 => (Nat.lt_or_ge j 179).elim (fun h179 => (by
    have hj : j = 178 := by omega
    subst hj
    cases he
    rcases Nat.lt_or_ge pc 54 with h0 | h0
    · exact (fun h0 => ip_chk_of tk_178 rfl hx h0) h0
    · exact absurd ((tz_178 pc h0).symm.trans hx) (by intro q; cases q))) (fun h179 => (by
    have hj : j = 179 := by omega
    subst hj
    cases he
    rcases Nat.lt_or_ge pc 87 with h0 | h0
    · exact (fun h0 => ip_chk_of tk_179 rfl hx h0) h0
    · exact absurd ((tz_179 pc h0).symm.trans hx) (by intro q; cases q)))) (fun h180 => (Nat.lt_or_ge j 181).elim (fun h181 => (by
    have hj : j = 180 := by omega
    subst hj
    cases he
    rcases Nat.lt_or_ge pc 26 with h0 | h0
    · exact (fun h0 => ip_chk_of tk_180 rfl hx h0) h0
    · exact absurd ((tz_180 pc h0).symm.trans hx) (by intro q; cases q))) (fun h181 => (by
    have hj : j = 181 := by omega
    subst hj
    cases he
    rcases Nat.lt_or_ge pc 65 with h0 | h0
    · exact (fun h0 => ip_chk_of tk_181 rfl hx h0) h0
    · exact absurd ((tz_181 pc h0).symm.trans hx) (by intro q; cases q)))))))) (fun h182 => (Nat.lt_or_ge j 195).elim (fun h195 => (Nat.lt_or_ge j 188).elim (fun h188 => (Nat.lt_or_ge j 185).elim (fun h185 => (Nat.lt_or_ge j 183).elim (fun h183 => (by
    have hj : j = 182 := by omega
    subst hj
    cases he
    rcases Nat.lt_or_ge pc 42 with h0 | h0
    · exact (fun h0 => ip_chk_of tk_182 rfl hx h0) h0
    · exact absurd ((tz_182 pc h0).symm.trans hx) (by intro q; cases q))) (fun h183 => (Nat.lt_or_ge j 184).elim (fun h184 => (by
    have hj : j = 183 := by omega
    subst hj
    cases he
    rcases Nat.lt_or_ge pc 49 with h0 | h0
    · exact (fun h0 => ip_chk_of tk_183 rfl hx h0) h0
    · exact absurd ((tz_183 pc h0).symm.trans hx) (by intro q; cases q))) (fun h184 => (by
    have hj : j = 184 := by omega
    subst hj
    cases he
    rcases Nat.lt_or_ge pc 44 with h0 | h0
    · exact (fun h0 => ip_chk_of tk_184 rfl hx h0) h0
    · exact absurd ((tz_184 pc h0).symm.trans hx) (by intro q; cases q))))) (fun h185 => (Nat.lt_or_ge j 186).elim (fun h186 => (by
    have hj : j = 185 := by omega
    subst hj
    cases he
    rcases Nat.lt_or_ge pc 23 with h0 | h0
    · exact (fun h0 => ip_chk_of tk_185 rfl hx h0) h0
    · exact absurd ((tz_185 pc h0).symm.trans hx) (by intro q; cases q))) (fun h186 => (Nat.lt_or_ge j 187).elim (fun h187 => (by
    have hj : j = 186 := by omega
    subst hj
    cases he
    rcases Nat.lt_or_ge pc 20 with h0 | h0
    · exact (fun h0 => ip_chk_of tk_186 rfl hx h0) h0
    · exact absurd ((tz_186 pc h0).symm.trans hx) (by intro q; cases q))) (fun h187 => (by
    have hj : j = 187 := by omega
    subst hj
    cases he
    rcases Nat.lt_or_ge pc 49 with h0 | h0
    · exact (fun h0 => ip_chk_of tk_187 rfl hx h0) h0
    · exact absurd ((tz_187 pc h0).symm.trans hx) (by intro q; cases q)))))) (fun h188 => (Nat.lt_or_ge j 191).elim (fun h191 => (Nat.lt_or_ge j 189).elim (fun h189 => (by
    have hj : j = 188 := by omega
    subst hj
    cases he
    rcases Nat.lt_or_ge pc 55 with h0 | h0
    · exact (fun h0 => ip_chk_of tk_188 rfl hx h0) h0
    · exact absurd ((tz_188 pc h0).symm.trans hx) (by intro q; cases q))) (fun h189 => (Nat.lt_or_ge j 190).elim (fun h190 => (by
    have hj : j = 189 := by omega
    subst hj
    cases he
    rcases Nat.lt_or_ge pc 25 with h0 | h0
    · exact (fun h0 => ip_chk_of tk_189 rfl hx h0) h0
    · exact absurd ((tz_189 pc h0).symm.trans hx) (by intro q; cases q))) (fun h190 => (by
    have hj : j = 190 := by omega
    subst hj
    cases he
    rcases Nat.lt_or_ge pc 30 with h0 | h0
    · exact (fun h0 => ip_chk_of tk_190 rfl hx h0) h0
    · exact absurd ((tz_190 pc h0).symm.trans hx) (by intro q; cases q))))) (fun h191 => (Nat.lt_or_ge j 193).elim (fun h193 => (Nat.lt_or_ge j 192).elim (fun h192 => (by
    have hj : j = 191 := by omega
    subst hj
    cases he
    rcases Nat.lt_or_ge pc 14 with h0 | h0
    · exact (fun h0 => ip_chk_of tk_191 rfl hx h0) h0
    · exact absurd ((tz_191 pc h0).symm.trans hx) (by intro q; cases q))) (fun h192 => (by
    have hj : j = 192 := by omega
    subst hj
    cases he
    rcases Nat.lt_or_ge pc 29 with h0 | h0
    · exact (fun h0 => ip_chk_of tk_192 rfl hx h0) h0
    · exact absurd ((tz_192 pc h0).symm.trans hx) (by intro q; cases q)))) (fun h193 => (Nat.lt_or_ge j 194).elim (fun h194 => (by
    have hj : j = 193 := by omega
    subst hj
    cases he
    rcases Nat.lt_or_ge pc 73 with h0 | h0
    · exact (fun h0 => ip_chk_of tk_193 rfl hx h0) h0
    · exact absurd ((tz_193 pc h0).symm.trans hx) (by intro q; cases q))) (fun h194 => (by
    have hj : j = 194 := by omega
    subst hj
    cases he
    rcases Nat.lt_or_ge pc 26 with h0 | h0
    · exact (fun h0 => ip_chk_of tk_194 rfl hx h0) h0
    · exact absurd ((tz_194 pc h0).symm.trans hx) (by intro q; cases q))))))) (fun h195 => (Nat.lt_or_ge j 201).elim (fun h201 => (Nat.lt_or_ge j 198).elim (fun h198 => (Nat.lt_or_ge j 196).elim (fun h196 => (by
    have hj : j = 195 := by omega
    subst hj
    cases he
    rcases Nat.lt_or_ge pc 87 with h0 | h0
    · exact (fun h0 => ip_chk_of tk_195 rfl hx h0) h0
    · exact absurd ((tz_195 pc h0).symm.trans hx) (by intro q; cases q))) (fun h196 => (Nat.lt_or_ge j 197).elim (fun h197 => (by
    have hj : j = 196 := by omega
    subst hj
    cases he
    rcases Nat.lt_or_ge pc 89 with h0 | h0
    · exact (fun h0 => ip_chk_of tk_196 rfl hx h0) h0
    · exact absurd ((tz_196 pc h0).symm.trans hx) (by intro q; cases q))) (fun h197 => (by
    have hj : j = 197 := by omega
    subst hj
    cases he
    rcases Nat.lt_or_ge pc 20 with h0 | h0
    · exact (fun h0 => ip_chk_of tk_197 rfl hx h0) h0
    · exact absurd ((tz_197 pc h0).symm.trans hx) (by intro q; cases q))))) (fun h198 => (Nat.lt_or_ge j 199).elim (fun h199 => (by
    have hj : j = 198 := by omega
    subst hj
    cases he
    rcases Nat.lt_or_ge pc 158 with h0 | h0
    · exact (fun h0 => ip_chk_of tk_198 rfl hx h0) h0
    · exact absurd ((tz_198 pc h0).symm.trans hx) (by intro q; cases q))) (fun h199 => (Nat.lt_or_ge j 200).elim (fun h200 => (by
    have hj : j = 199 := by omega
    subst hj
    cases he
    rcases Nat.lt_or_ge pc 60 with h0 | h0
    · exact (fun h0 => ip_chk_of tk_199 rfl hx h0) h0
    · exact absurd ((tz_199 pc h0).symm.trans hx) (by intro q; cases q))) (fun h200 => (by
    have hj : j = 200 := by omega
    subst hj
    cases he
    rcases Nat.lt_or_ge pc 31 with h0 | h0
    · exact (fun h0 => ip_chk_of tk_200 rfl hx h0) h0
    · exact absurd ((tz_200 pc h0).symm.trans hx) (by intro q; cases q)))))) (fun h201 => (Nat.lt_or_ge j 204).elim (fun h204 => (Nat.lt_or_ge j 202).elim (fun h202 => (by
    have hj : j = 201 := by omega
    subst hj
    cases he
    rcases Nat.lt_or_ge pc 41 with h0 | h0
    · exact (fun h0 => ip_chk_of tk_201 rfl hx h0) h0
    · exact absurd ((tz_201 pc h0).symm.trans hx) (by intro q; cases q))) (fun h202 => (Nat.lt_or_ge j 203).elim (fun h203 => (by
    have hj : j = 202 := by omega
    subst hj
    cases he
    rcases Nat.lt_or_ge pc 90 with h0 | h0
    · exact (fun h0 => ip_chk_of tk_202 rfl hx h0) h0
    · exact absurd ((tz_202 pc h0).symm.trans hx) (by intro q; cases q))) (fun h203 => (by
    have hj : j = 203 := by omega
    subst hj
    cases he
    rcases Nat.lt_or_ge pc 131 with h0 | h0
    · exact (fun h0 => ip_chk_of tk_203 rfl hx h0) h0
    · exact absurd ((tz_203 pc h0).symm.trans hx) (by intro q; cases q))))) (fun h204 => (Nat.lt_or_ge j 206).elim (fun h206 => (Nat.lt_or_ge j 205).elim (fun h205 => (by
    have hj : j = 204 := by omega
    subst hj
    cases he
    rcases Nat.lt_or_ge pc 87 with h0 | h0
    · exact (fun h0 => ip_chk_of tk_204 rfl hx h0) h0
    · exact absurd ((tz_204 pc h0).symm.trans hx) (by intro q; cases q))) (fun h205 => (by
    have hj : j = 205 := by omega
    subst hj
    cases he
    rcases Nat.lt_or_ge pc 19 with h0 | h0
    · exact (fun h0 => ip_chk_of tk_205 rfl hx h0) h0
    · exact absurd ((tz_205 pc h0).symm.trans hx) (by intro q; cases q)))) (fun h206 => (Nat.lt_or_ge j 207).elim (fun h207 => (by
    have hj : j = 206 := by omega
    subst hj
    cases he
    rcases Nat.lt_or_ge pc 21 with h0 | h0
    · exact (fun h0 => ip_chk_of tk_206 rfl hx h0) h0
    · exact absurd ((tz_206 pc h0).symm.trans hx) (by intro q; cases q))) (fun h207 => (by
    have hj : j = 207 := by omega
    subst hj
    cases he
    rcases Nat.lt_or_ge pc 1255 with h0 | h0
    · exact (fun h0 => ip_chk_of tk_207 rfl hx h0) h0
    · exact absurd ((tz_207 pc h0).symm.trans hx) (by intro q; cases q))))))))))
