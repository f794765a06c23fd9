/-! the law's bytes, read once -/
def l_cL_law_134 : List Nat := [0, 3, 132, 3, 8, 167, 247, 173, 4, 172]
def l_cL_law_133 : List Nat := 193 :: 87 :: 167 :: 0 :: 16 :: 43 :: 182 :: 0 :: 194 :: 87 :: 44 :: 182 :: 0 :: 197 :: 87 :: 167 :: l_cL_law_134
def l_cL_law_132 : List Nat := 46 :: 182 :: 0 :: 189 :: 87 :: 167 :: 0 :: 29 :: 43 :: 182 :: 0 :: 190 :: 87 :: 44 :: 182 :: 0 :: l_cL_law_133
def l_cL_law_131 : List Nat := 52 :: 43 :: 42 :: 29 :: 4 :: 96 :: 46 :: 182 :: 0 :: 186 :: 87 :: 44 :: 42 :: 29 :: 4 :: 96 :: l_cL_law_132
def l_cL_law_130 : List Nat := 42 :: 29 :: 5 :: 96 :: 46 :: 42 :: 29 :: 6 :: 96 :: 46 :: 182 :: 0 :: 185 :: 87 :: 167 :: 0 :: l_cL_law_131
def l_cL_law_129 : List Nat := 46 :: 42 :: 29 :: 6 :: 96 :: 46 :: 182 :: 0 :: 182 :: 87 :: 44 :: 42 :: 29 :: 4 :: 96 :: 46 :: l_cL_law_130
def l_cL_law_128 : List Nat := 0 :: 181 :: 87 :: 167 :: 0 :: 95 :: 43 :: 42 :: 29 :: 4 :: 96 :: 46 :: 42 :: 29 :: 5 :: 96 :: l_cL_law_129
def l_cL_law_127 : List Nat := 42 :: 29 :: 4 :: 96 :: 46 :: 42 :: 29 :: 5 :: 96 :: 46 :: 42 :: 29 :: 6 :: 96 :: 46 :: 182 :: l_cL_law_128
def l_cL_law_126 : List Nat := 46 :: 42 :: 29 :: 5 :: 96 :: 46 :: 42 :: 29 :: 6 :: 96 :: 46 :: 182 :: 0 :: 178 :: 87 :: 44 :: l_cL_law_127
def l_cL_law_125 : List Nat := 16 :: 6 :: 96 :: 46 :: 182 :: 0 :: 177 :: 87 :: 167 :: 0 :: 138 :: 43 :: 42 :: 29 :: 4 :: 96 :: l_cL_law_126
def l_cL_law_124 : List Nat := 29 :: 6 :: 96 :: 46 :: 42 :: 29 :: 7 :: 96 :: 46 :: 42 :: 29 :: 8 :: 96 :: 46 :: 42 :: 29 :: l_cL_law_125
def l_cL_law_123 : List Nat := 182 :: 0 :: 174 :: 87 :: 44 :: 42 :: 29 :: 4 :: 96 :: 46 :: 42 :: 29 :: 5 :: 96 :: 46 :: 42 :: l_cL_law_124
def l_cL_law_122 : List Nat := 42 :: 29 :: 7 :: 96 :: 46 :: 42 :: 29 :: 8 :: 96 :: 46 :: 42 :: 29 :: 16 :: 6 :: 96 :: 46 :: l_cL_law_123
def l_cL_law_121 : List Nat := 43 :: 42 :: 29 :: 4 :: 96 :: 46 :: 42 :: 29 :: 5 :: 96 :: 46 :: 42 :: 29 :: 6 :: 96 :: 46 :: l_cL_law_122
def l_cL_law_120 : List Nat := 167 :: 0 :: 226 :: 43 :: 182 :: 0 :: 169 :: 87 :: 44 :: 182 :: 0 :: 173 :: 87 :: 167 :: 0 :: 213 :: l_cL_law_121
def l_cL_law_119 : List Nat := 87 :: 44 :: 42 :: 29 :: 4 :: 96 :: 46 :: 42 :: 29 :: 5 :: 96 :: 46 :: 182 :: 0 :: 168 :: 87 :: l_cL_law_120
def l_cL_law_118 : List Nat := 1 :: 3 :: 43 :: 42 :: 29 :: 4 :: 96 :: 46 :: 42 :: 29 :: 5 :: 96 :: 46 :: 182 :: 0 :: 165 :: l_cL_law_119
def l_cL_law_117 : List Nat := 44 :: 42 :: 29 :: 4 :: 96 :: 46 :: 42 :: 29 :: 5 :: 96 :: 46 :: 182 :: 0 :: 164 :: 87 :: 167 :: l_cL_law_118
def l_cL_law_116 : List Nat := 36 :: 43 :: 42 :: 29 :: 4 :: 96 :: 46 :: 42 :: 29 :: 5 :: 96 :: 46 :: 182 :: 0 :: 161 :: 87 :: l_cL_law_117
def l_cL_law_115 : List Nat := 42 :: 29 :: 5 :: 96 :: 46 :: 42 :: 29 :: 6 :: 96 :: 46 :: 182 :: 0 :: 160 :: 87 :: 167 :: 1 :: l_cL_law_116
def l_cL_law_114 : List Nat := 46 :: 42 :: 29 :: 6 :: 96 :: 46 :: 182 :: 0 :: 157 :: 87 :: 44 :: 42 :: 29 :: 4 :: 96 :: 46 :: l_cL_law_115
def l_cL_law_113 : List Nat := 0 :: 156 :: 87 :: 167 :: 1 :: 79 :: 43 :: 42 :: 29 :: 4 :: 96 :: 46 :: 42 :: 29 :: 5 :: 96 :: l_cL_law_114
def l_cL_law_112 : List Nat := 8 :: 96 :: 46 :: 42 :: 29 :: 16 :: 6 :: 96 :: 46 :: 42 :: 29 :: 16 :: 7 :: 96 :: 46 :: 182 :: l_cL_law_113
def l_cL_law_111 : List Nat := 29 :: 5 :: 96 :: 46 :: 42 :: 29 :: 6 :: 96 :: 46 :: 42 :: 29 :: 7 :: 96 :: 46 :: 42 :: 29 :: l_cL_law_112
def l_cL_law_110 : List Nat := 29 :: 16 :: 7 :: 96 :: 46 :: 182 :: 0 :: 152 :: 87 :: 44 :: 42 :: 29 :: 4 :: 96 :: 46 :: 42 :: l_cL_law_111
def l_cL_law_109 : List Nat := 29 :: 7 :: 96 :: 46 :: 42 :: 29 :: 8 :: 96 :: 46 :: 42 :: 29 :: 16 :: 6 :: 96 :: 46 :: 42 :: l_cL_law_110
def l_cL_law_108 : List Nat := 42 :: 29 :: 4 :: 96 :: 46 :: 42 :: 29 :: 5 :: 96 :: 46 :: 42 :: 29 :: 6 :: 96 :: 46 :: 42 :: l_cL_law_109
def l_cL_law_107 : List Nat := 5 :: 96 :: 46 :: 42 :: 29 :: 6 :: 96 :: 46 :: 182 :: 0 :: 151 :: 87 :: 167 :: 1 :: 166 :: 43 :: l_cL_law_108
def l_cL_law_106 : List Nat := 29 :: 6 :: 96 :: 46 :: 182 :: 0 :: 148 :: 87 :: 44 :: 42 :: 29 :: 4 :: 96 :: 46 :: 42 :: 29 :: l_cL_law_107
def l_cL_law_105 : List Nat := 87 :: 167 :: 1 :: 209 :: 43 :: 42 :: 29 :: 4 :: 96 :: 46 :: 42 :: 29 :: 5 :: 96 :: 46 :: 42 :: l_cL_law_106
def l_cL_law_104 : List Nat := 144 :: 87 :: 44 :: 42 :: 29 :: 4 :: 96 :: 46 :: 42 :: 29 :: 5 :: 96 :: 46 :: 182 :: 0 :: 147 :: l_cL_law_105
def l_cL_law_103 : List Nat := 167 :: 1 :: 242 :: 43 :: 42 :: 29 :: 4 :: 96 :: 46 :: 42 :: 29 :: 5 :: 96 :: 46 :: 182 :: 0 :: l_cL_law_104
def l_cL_law_102 : List Nat := 87 :: 44 :: 42 :: 29 :: 4 :: 96 :: 46 :: 42 :: 29 :: 5 :: 96 :: 46 :: 182 :: 0 :: 143 :: 87 :: l_cL_law_103
def l_cL_law_101 : List Nat := 2 :: 19 :: 43 :: 42 :: 29 :: 4 :: 96 :: 46 :: 42 :: 29 :: 5 :: 96 :: 46 :: 182 :: 0 :: 140 :: l_cL_law_102
def l_cL_law_100 : List Nat := 46 :: 42 :: 29 :: 5 :: 96 :: 46 :: 42 :: 29 :: 6 :: 96 :: 46 :: 182 :: 0 :: 139 :: 87 :: 167 :: l_cL_law_101
def l_cL_law_99 : List Nat := 96 :: 46 :: 42 :: 29 :: 6 :: 96 :: 46 :: 182 :: 0 :: 136 :: 87 :: 44 :: 42 :: 29 :: 4 :: 96 :: l_cL_law_100
def l_cL_law_98 : List Nat := 182 :: 0 :: 135 :: 87 :: 167 :: 2 :: 62 :: 43 :: 42 :: 29 :: 4 :: 96 :: 46 :: 42 :: 29 :: 5 :: l_cL_law_99
def l_cL_law_97 : List Nat := 43 :: 42 :: 29 :: 4 :: 96 :: 46 :: 182 :: 0 :: 131 :: 87 :: 44 :: 42 :: 29 :: 4 :: 96 :: 46 :: l_cL_law_98
def l_cL_law_96 : List Nat := 29 :: 7 :: 96 :: 46 :: 42 :: 29 :: 8 :: 96 :: 46 :: 182 :: 0 :: 130 :: 87 :: 167 :: 2 :: 85 :: l_cL_law_97
def l_cL_law_95 : List Nat := 42 :: 29 :: 4 :: 96 :: 46 :: 42 :: 29 :: 5 :: 96 :: 46 :: 42 :: 29 :: 6 :: 96 :: 46 :: 42 :: l_cL_law_96
def l_cL_law_94 : List Nat := 46 :: 42 :: 29 :: 7 :: 96 :: 46 :: 42 :: 29 :: 8 :: 96 :: 46 :: 182 :: 0 :: 127 :: 87 :: 44 :: l_cL_law_95
def l_cL_law_93 : List Nat := 148 :: 43 :: 42 :: 29 :: 4 :: 96 :: 46 :: 42 :: 29 :: 5 :: 96 :: 46 :: 42 :: 29 :: 6 :: 96 :: l_cL_law_94
def l_cL_law_92 : List Nat := 42 :: 29 :: 5 :: 96 :: 46 :: 42 :: 29 :: 6 :: 96 :: 46 :: 182 :: 0 :: 126 :: 87 :: 167 :: 2 :: l_cL_law_93
def l_cL_law_91 : List Nat := 46 :: 42 :: 29 :: 6 :: 96 :: 46 :: 182 :: 0 :: 123 :: 87 :: 44 :: 42 :: 29 :: 4 :: 96 :: 46 :: l_cL_law_92
def l_cL_law_90 : List Nat := 0 :: 122 :: 87 :: 167 :: 2 :: 191 :: 43 :: 42 :: 29 :: 4 :: 96 :: 46 :: 42 :: 29 :: 5 :: 96 :: l_cL_law_91
def l_cL_law_89 : List Nat := 42 :: 29 :: 4 :: 96 :: 46 :: 42 :: 29 :: 5 :: 96 :: 46 :: 42 :: 29 :: 6 :: 96 :: 46 :: 182 :: l_cL_law_90
def l_cL_law_88 : List Nat := 46 :: 42 :: 29 :: 5 :: 96 :: 46 :: 42 :: 29 :: 6 :: 96 :: 46 :: 182 :: 0 :: 119 :: 87 :: 44 :: l_cL_law_89
def l_cL_law_87 : List Nat := 29 :: 6 :: 96 :: 46 :: 182 :: 0 :: 118 :: 87 :: 167 :: 2 :: 234 :: 43 :: 42 :: 29 :: 4 :: 96 :: l_cL_law_88
def l_cL_law_86 : List Nat := 182 :: 0 :: 115 :: 87 :: 44 :: 42 :: 29 :: 4 :: 96 :: 46 :: 42 :: 29 :: 5 :: 96 :: 46 :: 42 :: l_cL_law_87
def l_cL_law_85 : List Nat := 43 :: 42 :: 29 :: 4 :: 96 :: 46 :: 42 :: 29 :: 5 :: 96 :: 46 :: 42 :: 29 :: 6 :: 96 :: 46 :: l_cL_law_86
def l_cL_law_84 : List Nat := 8 :: 96 :: 46 :: 42 :: 29 :: 16 :: 6 :: 96 :: 46 :: 182 :: 0 :: 114 :: 87 :: 167 :: 3 :: 21 :: l_cL_law_85
def l_cL_law_83 : List Nat := 29 :: 5 :: 96 :: 46 :: 42 :: 29 :: 6 :: 96 :: 46 :: 42 :: 29 :: 7 :: 96 :: 46 :: 42 :: 29 :: l_cL_law_84
def l_cL_law_82 : List Nat := 29 :: 16 :: 6 :: 96 :: 46 :: 182 :: 0 :: 111 :: 87 :: 44 :: 42 :: 29 :: 4 :: 96 :: 46 :: 42 :: l_cL_law_83
def l_cL_law_81 : List Nat := 42 :: 29 :: 6 :: 96 :: 46 :: 42 :: 29 :: 7 :: 96 :: 46 :: 42 :: 29 :: 8 :: 96 :: 46 :: 42 :: l_cL_law_82
def l_cL_law_80 : List Nat := 110 :: 87 :: 167 :: 3 :: 96 :: 43 :: 42 :: 29 :: 4 :: 96 :: 46 :: 42 :: 29 :: 5 :: 96 :: 46 :: l_cL_law_81
def l_cL_law_79 : List Nat := 7 :: 96 :: 46 :: 42 :: 29 :: 8 :: 96 :: 46 :: 42 :: 29 :: 16 :: 6 :: 96 :: 46 :: 182 :: 0 :: l_cL_law_80
def l_cL_law_78 : List Nat := 29 :: 4 :: 96 :: 46 :: 42 :: 29 :: 5 :: 96 :: 46 :: 42 :: 29 :: 6 :: 96 :: 46 :: 42 :: 29 :: l_cL_law_79
def l_cL_law_77 : List Nat := 29 :: 8 :: 96 :: 46 :: 42 :: 29 :: 16 :: 6 :: 96 :: 46 :: 182 :: 0 :: 106 :: 87 :: 44 :: 42 :: l_cL_law_78
def l_cL_law_76 : List Nat := 42 :: 29 :: 5 :: 96 :: 46 :: 42 :: 29 :: 6 :: 96 :: 46 :: 42 :: 29 :: 7 :: 96 :: 46 :: 42 :: l_cL_law_77
def l_cL_law_75 : List Nat := 6 :: 96 :: 46 :: 182 :: 0 :: 105 :: 87 :: 167 :: 3 :: 171 :: 43 :: 42 :: 29 :: 4 :: 96 :: 46 :: l_cL_law_76
def l_cL_law_74 : List Nat := 0 :: 102 :: 87 :: 44 :: 42 :: 29 :: 4 :: 96 :: 46 :: 42 :: 29 :: 5 :: 96 :: 46 :: 42 :: 29 :: l_cL_law_75
def l_cL_law_73 : List Nat := 42 :: 29 :: 4 :: 96 :: 46 :: 42 :: 29 :: 5 :: 96 :: 46 :: 42 :: 29 :: 6 :: 96 :: 46 :: 182 :: l_cL_law_74
def l_cL_law_72 : List Nat := 5 :: 96 :: 46 :: 42 :: 29 :: 6 :: 96 :: 46 :: 182 :: 0 :: 101 :: 87 :: 167 :: 3 :: 214 :: 43 :: l_cL_law_73
def l_cL_law_71 : List Nat := 29 :: 6 :: 96 :: 46 :: 182 :: 0 :: 98 :: 87 :: 44 :: 42 :: 29 :: 4 :: 96 :: 46 :: 42 :: 29 :: l_cL_law_72
def l_cL_law_70 : List Nat := 87 :: 167 :: 4 :: 1 :: 43 :: 42 :: 29 :: 4 :: 96 :: 46 :: 42 :: 29 :: 5 :: 96 :: 46 :: 42 :: l_cL_law_71
def l_cL_law_69 : List Nat := 4 :: 96 :: 46 :: 42 :: 29 :: 5 :: 96 :: 46 :: 42 :: 29 :: 6 :: 96 :: 46 :: 182 :: 0 :: 97 :: l_cL_law_70
def l_cL_law_68 : List Nat := 29 :: 5 :: 96 :: 46 :: 42 :: 29 :: 6 :: 96 :: 46 :: 182 :: 0 :: 94 :: 87 :: 44 :: 42 :: 29 :: l_cL_law_69
def l_cL_law_67 : List Nat := 46 :: 182 :: 0 :: 93 :: 159 :: 4 :: 46 :: 3 :: 172 :: 43 :: 42 :: 29 :: 4 :: 96 :: 46 :: 42 :: l_cL_law_68
def l_cL_law_66 : List Nat := 90 :: 44 :: 42 :: 29 :: 4 :: 96 :: 46 :: 42 :: 29 :: 5 :: 96 :: 46 :: 42 :: 29 :: 6 :: 96 :: l_cL_law_67
def l_cL_law_65 : List Nat := 29 :: 4 :: 96 :: 46 :: 42 :: 29 :: 5 :: 96 :: 46 :: 42 :: 29 :: 6 :: 96 :: 46 :: 182 :: 0 :: l_cL_law_66
def l_cL_law_64 : List Nat := 96 :: 46 :: 42 :: 29 :: 7 :: 96 :: 46 :: 182 :: 0 :: 89 :: 87 :: 167 :: 4 :: 87 :: 43 :: 42 :: l_cL_law_65
def l_cL_law_63 : List Nat := 86 :: 87 :: 44 :: 42 :: 29 :: 4 :: 96 :: 46 :: 42 :: 29 :: 5 :: 96 :: 46 :: 42 :: 29 :: 6 :: l_cL_law_64
def l_cL_law_62 : List Nat := 29 :: 5 :: 96 :: 46 :: 42 :: 29 :: 6 :: 96 :: 46 :: 42 :: 29 :: 7 :: 96 :: 46 :: 182 :: 0 :: l_cL_law_63
def l_cL_law_61 : List Nat := 96 :: 46 :: 182 :: 0 :: 85 :: 87 :: 167 :: 4 :: 140 :: 43 :: 42 :: 29 :: 4 :: 96 :: 46 :: 42 :: l_cL_law_62
def l_cL_law_60 : List Nat := 82 :: 87 :: 44 :: 42 :: 29 :: 4 :: 96 :: 46 :: 42 :: 29 :: 5 :: 96 :: 46 :: 42 :: 29 :: 6 :: l_cL_law_61
def l_cL_law_59 : List Nat := 29 :: 4 :: 96 :: 46 :: 42 :: 29 :: 5 :: 96 :: 46 :: 42 :: 29 :: 6 :: 96 :: 46 :: 182 :: 0 :: l_cL_law_60
def l_cL_law_58 : List Nat := 96 :: 46 :: 42 :: 29 :: 6 :: 96 :: 46 :: 182 :: 0 :: 81 :: 87 :: 167 :: 4 :: 183 :: 43 :: 42 :: l_cL_law_59
def l_cL_law_57 : List Nat := 6 :: 96 :: 46 :: 182 :: 0 :: 78 :: 87 :: 44 :: 42 :: 29 :: 4 :: 96 :: 46 :: 42 :: 29 :: 5 :: l_cL_law_58
def l_cL_law_56 : List Nat := 167 :: 4 :: 226 :: 43 :: 42 :: 29 :: 4 :: 96 :: 46 :: 42 :: 29 :: 5 :: 96 :: 46 :: 42 :: 29 :: l_cL_law_57
def l_cL_law_55 : List Nat := 96 :: 46 :: 42 :: 29 :: 5 :: 96 :: 46 :: 42 :: 29 :: 6 :: 96 :: 46 :: 182 :: 0 :: 77 :: 87 :: l_cL_law_56
def l_cL_law_54 : List Nat := 5 :: 96 :: 46 :: 42 :: 29 :: 6 :: 96 :: 46 :: 182 :: 0 :: 74 :: 87 :: 44 :: 42 :: 29 :: 4 :: l_cL_law_55
def l_cL_law_53 : List Nat := 46 :: 182 :: 0 :: 73 :: 87 :: 167 :: 5 :: 13 :: 43 :: 42 :: 29 :: 4 :: 96 :: 46 :: 42 :: 29 :: l_cL_law_54
def l_cL_law_52 : List Nat := 96 :: 46 :: 42 :: 29 :: 5 :: 96 :: 46 :: 42 :: 29 :: 6 :: 96 :: 46 :: 42 :: 29 :: 7 :: 96 :: l_cL_law_53
def l_cL_law_51 : List Nat := 6 :: 96 :: 46 :: 42 :: 29 :: 7 :: 96 :: 46 :: 182 :: 0 :: 70 :: 87 :: 44 :: 42 :: 29 :: 4 :: l_cL_law_52
def l_cL_law_50 : List Nat := 167 :: 5 :: 66 :: 43 :: 42 :: 29 :: 4 :: 96 :: 46 :: 42 :: 29 :: 5 :: 96 :: 46 :: 42 :: 29 :: l_cL_law_51
def l_cL_law_49 : List Nat := 96 :: 46 :: 42 :: 29 :: 6 :: 96 :: 46 :: 42 :: 29 :: 7 :: 96 :: 46 :: 182 :: 0 :: 69 :: 87 :: l_cL_law_50
def l_cL_law_48 : List Nat := 7 :: 96 :: 46 :: 182 :: 0 :: 66 :: 87 :: 44 :: 42 :: 29 :: 4 :: 96 :: 46 :: 42 :: 29 :: 5 :: l_cL_law_49
def l_cL_law_47 : List Nat := 29 :: 4 :: 96 :: 46 :: 42 :: 29 :: 5 :: 96 :: 46 :: 42 :: 29 :: 6 :: 96 :: 46 :: 42 :: 29 :: l_cL_law_48
def l_cL_law_46 : List Nat := 96 :: 46 :: 42 :: 29 :: 7 :: 96 :: 46 :: 182 :: 0 :: 65 :: 87 :: 167 :: 5 :: 119 :: 43 :: 42 :: l_cL_law_47
def l_cL_law_45 : List Nat := 61 :: 87 :: 44 :: 42 :: 29 :: 4 :: 96 :: 46 :: 42 :: 29 :: 5 :: 96 :: 46 :: 42 :: 29 :: 6 :: l_cL_law_46
def l_cL_law_44 : List Nat := 29 :: 5 :: 96 :: 46 :: 42 :: 29 :: 6 :: 96 :: 46 :: 42 :: 29 :: 7 :: 96 :: 46 :: 182 :: 0 :: l_cL_law_45
def l_cL_law_43 : List Nat := 96 :: 46 :: 182 :: 0 :: 60 :: 87 :: 167 :: 5 :: 172 :: 43 :: 42 :: 29 :: 4 :: 96 :: 46 :: 42 :: l_cL_law_44
def l_cL_law_42 : List Nat := 57 :: 87 :: 44 :: 42 :: 29 :: 4 :: 96 :: 46 :: 42 :: 29 :: 5 :: 96 :: 46 :: 42 :: 29 :: 6 :: l_cL_law_43
def l_cL_law_41 : List Nat := 29 :: 4 :: 96 :: 46 :: 42 :: 29 :: 5 :: 96 :: 46 :: 42 :: 29 :: 6 :: 96 :: 46 :: 182 :: 0 :: l_cL_law_42
def l_cL_law_40 : List Nat := 96 :: 46 :: 42 :: 29 :: 6 :: 96 :: 46 :: 182 :: 0 :: 56 :: 87 :: 167 :: 5 :: 215 :: 43 :: 42 :: l_cL_law_41
def l_cL_law_39 : List Nat := 6 :: 96 :: 46 :: 182 :: 0 :: 53 :: 87 :: 44 :: 42 :: 29 :: 4 :: 96 :: 46 :: 42 :: 29 :: 5 :: l_cL_law_40
def l_cL_law_38 : List Nat := 167 :: 6 :: 2 :: 43 :: 42 :: 29 :: 4 :: 96 :: 46 :: 42 :: 29 :: 5 :: 96 :: 46 :: 42 :: 29 :: l_cL_law_39
def l_cL_law_37 : List Nat := 96 :: 46 :: 42 :: 29 :: 5 :: 96 :: 46 :: 42 :: 29 :: 6 :: 96 :: 46 :: 182 :: 0 :: 52 :: 87 :: l_cL_law_38
def l_cL_law_36 : List Nat := 5 :: 96 :: 46 :: 42 :: 29 :: 6 :: 96 :: 46 :: 182 :: 0 :: 49 :: 87 :: 44 :: 42 :: 29 :: 4 :: l_cL_law_37
def l_cL_law_35 : List Nat := 46 :: 182 :: 0 :: 48 :: 87 :: 167 :: 6 :: 45 :: 43 :: 42 :: 29 :: 4 :: 96 :: 46 :: 42 :: 29 :: l_cL_law_36
def l_cL_law_34 : List Nat := 87 :: 44 :: 42 :: 29 :: 4 :: 96 :: 46 :: 42 :: 29 :: 5 :: 96 :: 46 :: 42 :: 29 :: 6 :: 96 :: l_cL_law_35
def l_cL_law_33 : List Nat := 4 :: 96 :: 46 :: 42 :: 29 :: 5 :: 96 :: 46 :: 42 :: 29 :: 6 :: 96 :: 46 :: 182 :: 0 :: 45 :: l_cL_law_34
def l_cL_law_32 : List Nat := 46 :: 42 :: 29 :: 6 :: 96 :: 46 :: 182 :: 0 :: 44 :: 88 :: 167 :: 6 :: 88 :: 43 :: 42 :: 29 :: l_cL_law_33
def l_cL_law_31 : List Nat := 96 :: 46 :: 182 :: 0 :: 40 :: 88 :: 44 :: 42 :: 29 :: 4 :: 96 :: 46 :: 42 :: 29 :: 5 :: 96 :: l_cL_law_32
def l_cL_law_30 : List Nat := 6 :: 131 :: 43 :: 42 :: 29 :: 4 :: 96 :: 46 :: 42 :: 29 :: 5 :: 96 :: 46 :: 42 :: 29 :: 6 :: l_cL_law_31
def l_cL_law_29 : List Nat := 44 :: 42 :: 29 :: 4 :: 96 :: 46 :: 42 :: 29 :: 5 :: 96 :: 46 :: 182 :: 0 :: 39 :: 87 :: 167 :: l_cL_law_30
def l_cL_law_28 : List Nat := 164 :: 43 :: 42 :: 29 :: 4 :: 96 :: 46 :: 42 :: 29 :: 5 :: 96 :: 46 :: 182 :: 0 :: 36 :: 87 :: l_cL_law_29
def l_cL_law_27 : List Nat := 42 :: 29 :: 5 :: 96 :: 46 :: 42 :: 29 :: 6 :: 96 :: 46 :: 182 :: 0 :: 35 :: 87 :: 167 :: 6 :: l_cL_law_28
def l_cL_law_26 : List Nat := 46 :: 42 :: 29 :: 6 :: 96 :: 46 :: 182 :: 0 :: 32 :: 87 :: 44 :: 42 :: 29 :: 4 :: 96 :: 46 :: l_cL_law_27
def l_cL_law_25 : List Nat := 0 :: 31 :: 87 :: 167 :: 6 :: 207 :: 43 :: 42 :: 29 :: 4 :: 96 :: 46 :: 42 :: 29 :: 5 :: 96 :: l_cL_law_26
def l_cL_law_24 : List Nat := 42 :: 29 :: 4 :: 96 :: 46 :: 42 :: 29 :: 5 :: 96 :: 46 :: 42 :: 29 :: 6 :: 96 :: 46 :: 182 :: l_cL_law_25
def l_cL_law_23 : List Nat := 46 :: 42 :: 29 :: 5 :: 96 :: 46 :: 42 :: 29 :: 6 :: 96 :: 46 :: 182 :: 0 :: 28 :: 87 :: 44 :: l_cL_law_24
def l_cL_law_22 : List Nat := 29 :: 5 :: 96 :: 46 :: 182 :: 0 :: 27 :: 87 :: 167 :: 6 :: 250 :: 43 :: 42 :: 29 :: 4 :: 96 :: l_cL_law_23
def l_cL_law_21 : List Nat := 42 :: 29 :: 5 :: 96 :: 46 :: 182 :: 0 :: 23 :: 87 :: 44 :: 42 :: 29 :: 4 :: 96 :: 46 :: 42 :: l_cL_law_22
def l_cL_law_20 : List Nat := 6 :: 96 :: 46 :: 182 :: 0 :: 22 :: 87 :: 167 :: 7 :: 27 :: 43 :: 42 :: 29 :: 4 :: 96 :: 46 :: l_cL_law_21
def l_cL_law_19 : List Nat := 0 :: 18 :: 87 :: 44 :: 42 :: 29 :: 4 :: 96 :: 46 :: 42 :: 29 :: 5 :: 96 :: 46 :: 42 :: 29 :: l_cL_law_20
def l_cL_law_18 : List Nat := 42 :: 29 :: 4 :: 96 :: 46 :: 42 :: 29 :: 5 :: 96 :: 46 :: 42 :: 29 :: 6 :: 96 :: 46 :: 182 :: l_cL_law_19
def l_cL_law_17 : List Nat := 7 :: 96 :: 46 :: 42 :: 29 :: 8 :: 96 :: 46 :: 182 :: 0 :: 17 :: 87 :: 167 :: 7 :: 70 :: 43 :: l_cL_law_18
def l_cL_law_16 : List Nat := 29 :: 4 :: 96 :: 46 :: 42 :: 29 :: 5 :: 96 :: 46 :: 42 :: 29 :: 6 :: 96 :: 46 :: 42 :: 29 :: l_cL_law_17
def l_cL_law_15 : List Nat := 42 :: 29 :: 7 :: 96 :: 46 :: 42 :: 29 :: 8 :: 96 :: 46 :: 182 :: 0 :: 13 :: 87 :: 44 :: 42 :: l_cL_law_16
def l_cL_law_14 : List Nat := 43 :: 42 :: 29 :: 4 :: 96 :: 46 :: 42 :: 29 :: 5 :: 96 :: 46 :: 42 :: 29 :: 6 :: 96 :: 46 :: l_cL_law_15
def l_cL_law_13 : List Nat := 0 :: 0 :: 7 :: 229 :: 0 :: 0 :: 8 :: 16 :: 0 :: 0 :: 8 :: 39 :: 0 :: 0 :: 8 :: 52 :: l_cL_law_14
def l_cL_law_12 : List Nat := 0 :: 0 :: 7 :: 65 :: 0 :: 0 :: 7 :: 98 :: 0 :: 0 :: 7 :: 111 :: 0 :: 0 :: 7 :: 186 :: l_cL_law_13
def l_cL_law_11 : List Nat := 0 :: 0 :: 6 :: 115 :: 0 :: 0 :: 6 :: 158 :: 0 :: 0 :: 6 :: 245 :: 0 :: 0 :: 7 :: 32 :: l_cL_law_12
def l_cL_law_10 : List Nat := 0 :: 0 :: 5 :: 239 :: 0 :: 0 :: 6 :: 6 :: 0 :: 0 :: 6 :: 49 :: 0 :: 0 :: 6 :: 82 :: l_cL_law_11
def l_cL_law_9 : List Nat := 0 :: 0 :: 5 :: 47 :: 0 :: 0 :: 5 :: 90 :: 0 :: 0 :: 5 :: 133 :: 0 :: 0 :: 5 :: 176 :: l_cL_law_10
def l_cL_law_8 : List Nat := 0 :: 0 :: 4 :: 67 :: 0 :: 0 :: 4 :: 110 :: 0 :: 0 :: 4 :: 153 :: 0 :: 0 :: 4 :: 228 :: l_cL_law_9
def l_cL_law_7 : List Nat := 0 :: 0 :: 3 :: 141 :: 0 :: 0 :: 3 :: 184 :: 0 :: 0 :: 3 :: 237 :: 0 :: 0 :: 4 :: 24 :: l_cL_law_8
def l_cL_law_6 : List Nat := 0 :: 0 :: 2 :: 205 :: 0 :: 0 :: 3 :: 2 :: 0 :: 0 :: 3 :: 55 :: 0 :: 0 :: 3 :: 98 :: l_cL_law_7
def l_cL_law_5 : List Nat := 0 :: 0 :: 2 :: 23 :: 0 :: 0 :: 2 :: 66 :: 0 :: 0 :: 2 :: 109 :: 0 :: 0 :: 2 :: 152 :: l_cL_law_6
def l_cL_law_4 : List Nat := 0 :: 0 :: 1 :: 117 :: 0 :: 0 :: 1 :: 160 :: 0 :: 0 :: 1 :: 193 :: 0 :: 0 :: 1 :: 236 :: l_cL_law_5
def l_cL_law_3 : List Nat := 0 :: 0 :: 0 :: 191 :: 0 :: 0 :: 0 :: 254 :: 0 :: 0 :: 1 :: 41 :: 0 :: 0 :: 1 :: 74 :: l_cL_law_4
def l_cL_law_2 : List Nat := 126 :: 170 :: 0 :: 0 :: 0 :: 0 :: 8 :: 65 :: 0 :: 0 :: 0 :: 0 :: 0 :: 0 :: 0 :: 43 :: l_cL_law_3
def l_cL_law_1 : List Nat := 3 :: 62 :: 29 :: 42 :: 190 :: 16 :: 8 :: 100 :: 163 :: 8 :: 80 :: 42 :: 29 :: 46 :: 16 :: 63 :: l_cL_law_2
def l_cL_law_0 : List Nat := 187 :: 0 :: 7 :: 89 :: 183 :: 0 :: 9 :: 76 :: 187 :: 0 :: 10 :: 89 :: 183 :: 0 :: 12 :: 77 :: l_cL_law_1
set_option maxRecDepth 1000000 in
theorem bs_cL_law : cL_law.data.toList.map (fun x => x.toNat) = l_cL_law_0 := by decide +kernel
theorem W_cL_law_0 (i : Nat) : rd cL_law (i + 0) = l_cL_law_0[i]? := by rw [← bs_cL_law, List.getElem?_map]; rfl
theorem W_cL_law_1 (i : Nat) : rd cL_law (i + 16) = l_cL_law_1[i]? := W_cL_law_0 (i + 16)
theorem W_cL_law_2 (i : Nat) : rd cL_law (i + 32) = l_cL_law_2[i]? := W_cL_law_1 (i + 16)
theorem W_cL_law_3 (i : Nat) : rd cL_law (i + 48) = l_cL_law_3[i]? := W_cL_law_2 (i + 16)
theorem W_cL_law_4 (i : Nat) : rd cL_law (i + 64) = l_cL_law_4[i]? := W_cL_law_3 (i + 16)
theorem W_cL_law_5 (i : Nat) : rd cL_law (i + 80) = l_cL_law_5[i]? := W_cL_law_4 (i + 16)
theorem W_cL_law_6 (i : Nat) : rd cL_law (i + 96) = l_cL_law_6[i]? := W_cL_law_5 (i + 16)
theorem W_cL_law_7 (i : Nat) : rd cL_law (i + 112) = l_cL_law_7[i]? := W_cL_law_6 (i + 16)
theorem W_cL_law_8 (i : Nat) : rd cL_law (i + 128) = l_cL_law_8[i]? := W_cL_law_7 (i + 16)
theorem W_cL_law_9 (i : Nat) : rd cL_law (i + 144) = l_cL_law_9[i]? := W_cL_law_8 (i + 16)
theorem W_cL_law_10 (i : Nat) : rd cL_law (i + 160) = l_cL_law_10[i]? := W_cL_law_9 (i + 16)
theorem W_cL_law_11 (i : Nat) : rd cL_law (i + 176) = l_cL_law_11[i]? := W_cL_law_10 (i + 16)
theorem W_cL_law_12 (i : Nat) : rd cL_law (i + 192) = l_cL_law_12[i]? := W_cL_law_11 (i + 16)
theorem W_cL_law_13 (i : Nat) : rd cL_law (i + 208) = l_cL_law_13[i]? := W_cL_law_12 (i + 16)
theorem W_cL_law_14 (i : Nat) : rd cL_law (i + 224) = l_cL_law_14[i]? := W_cL_law_13 (i + 16)
theorem W_cL_law_15 (i : Nat) : rd cL_law (i + 240) = l_cL_law_15[i]? := W_cL_law_14 (i + 16)
theorem W_cL_law_16 (i : Nat) : rd cL_law (i + 256) = l_cL_law_16[i]? := W_cL_law_15 (i + 16)
theorem W_cL_law_17 (i : Nat) : rd cL_law (i + 272) = l_cL_law_17[i]? := W_cL_law_16 (i + 16)
theorem W_cL_law_18 (i : Nat) : rd cL_law (i + 288) = l_cL_law_18[i]? := W_cL_law_17 (i + 16)
theorem W_cL_law_19 (i : Nat) : rd cL_law (i + 304) = l_cL_law_19[i]? := W_cL_law_18 (i + 16)
theorem W_cL_law_20 (i : Nat) : rd cL_law (i + 320) = l_cL_law_20[i]? := W_cL_law_19 (i + 16)
theorem W_cL_law_21 (i : Nat) : rd cL_law (i + 336) = l_cL_law_21[i]? := W_cL_law_20 (i + 16)
theorem W_cL_law_22 (i : Nat) : rd cL_law (i + 352) = l_cL_law_22[i]? := W_cL_law_21 (i + 16)
theorem W_cL_law_23 (i : Nat) : rd cL_law (i + 368) = l_cL_law_23[i]? := W_cL_law_22 (i + 16)
theorem W_cL_law_24 (i : Nat) : rd cL_law (i + 384) = l_cL_law_24[i]? := W_cL_law_23 (i + 16)
theorem W_cL_law_25 (i : Nat) : rd cL_law (i + 400) = l_cL_law_25[i]? := W_cL_law_24 (i + 16)
theorem W_cL_law_26 (i : Nat) : rd cL_law (i + 416) = l_cL_law_26[i]? := W_cL_law_25 (i + 16)
theorem W_cL_law_27 (i : Nat) : rd cL_law (i + 432) = l_cL_law_27[i]? := W_cL_law_26 (i + 16)
theorem W_cL_law_28 (i : Nat) : rd cL_law (i + 448) = l_cL_law_28[i]? := W_cL_law_27 (i + 16)
theorem W_cL_law_29 (i : Nat) : rd cL_law (i + 464) = l_cL_law_29[i]? := W_cL_law_28 (i + 16)
theorem W_cL_law_30 (i : Nat) : rd cL_law (i + 480) = l_cL_law_30[i]? := W_cL_law_29 (i + 16)
theorem W_cL_law_31 (i : Nat) : rd cL_law (i + 496) = l_cL_law_31[i]? := W_cL_law_30 (i + 16)
theorem W_cL_law_32 (i : Nat) : rd cL_law (i + 512) = l_cL_law_32[i]? := W_cL_law_31 (i + 16)
theorem W_cL_law_33 (i : Nat) : rd cL_law (i + 528) = l_cL_law_33[i]? := W_cL_law_32 (i + 16)
theorem W_cL_law_34 (i : Nat) : rd cL_law (i + 544) = l_cL_law_34[i]? := W_cL_law_33 (i + 16)
theorem W_cL_law_35 (i : Nat) : rd cL_law (i + 560) = l_cL_law_35[i]? := W_cL_law_34 (i + 16)
theorem W_cL_law_36 (i : Nat) : rd cL_law (i + 576) = l_cL_law_36[i]? := W_cL_law_35 (i + 16)
theorem W_cL_law_37 (i : Nat) : rd cL_law (i + 592) = l_cL_law_37[i]? := W_cL_law_36 (i + 16)
theorem W_cL_law_38 (i : Nat) : rd cL_law (i + 608) = l_cL_law_38[i]? := W_cL_law_37 (i + 16)
theorem W_cL_law_39 (i : Nat) : rd cL_law (i + 624) = l_cL_law_39[i]? := W_cL_law_38 (i + 16)
theorem W_cL_law_40 (i : Nat) : rd cL_law (i + 640) = l_cL_law_40[i]? := W_cL_law_39 (i + 16)
theorem W_cL_law_41 (i : Nat) : rd cL_law (i + 656) = l_cL_law_41[i]? := W_cL_law_40 (i + 16)
theorem W_cL_law_42 (i : Nat) : rd cL_law (i + 672) = l_cL_law_42[i]? := W_cL_law_41 (i + 16)
theorem W_cL_law_43 (i : Nat) : rd cL_law (i + 688) = l_cL_law_43[i]? := W_cL_law_42 (i + 16)
theorem W_cL_law_44 (i : Nat) : rd cL_law (i + 704) = l_cL_law_44[i]? := W_cL_law_43 (i + 16)
theorem W_cL_law_45 (i : Nat) : rd cL_law (i + 720) = l_cL_law_45[i]? := W_cL_law_44 (i + 16)
theorem W_cL_law_46 (i : Nat) : rd cL_law (i + 736) = l_cL_law_46[i]? := W_cL_law_45 (i + 16)
theorem W_cL_law_47 (i : Nat) : rd cL_law (i + 752) = l_cL_law_47[i]? := W_cL_law_46 (i + 16)
theorem W_cL_law_48 (i : Nat) : rd cL_law (i + 768) = l_cL_law_48[i]? := W_cL_law_47 (i + 16)
theorem W_cL_law_49 (i : Nat) : rd cL_law (i + 784) = l_cL_law_49[i]? := W_cL_law_48 (i + 16)
theorem W_cL_law_50 (i : Nat) : rd cL_law (i + 800) = l_cL_law_50[i]? := W_cL_law_49 (i + 16)
theorem W_cL_law_51 (i : Nat) : rd cL_law (i + 816) = l_cL_law_51[i]? := W_cL_law_50 (i + 16)
theorem W_cL_law_52 (i : Nat) : rd cL_law (i + 832) = l_cL_law_52[i]? := W_cL_law_51 (i + 16)
theorem W_cL_law_53 (i : Nat) : rd cL_law (i + 848) = l_cL_law_53[i]? := W_cL_law_52 (i + 16)
theorem W_cL_law_54 (i : Nat) : rd cL_law (i + 864) = l_cL_law_54[i]? := W_cL_law_53 (i + 16)
theorem W_cL_law_55 (i : Nat) : rd cL_law (i + 880) = l_cL_law_55[i]? := W_cL_law_54 (i + 16)
theorem W_cL_law_56 (i : Nat) : rd cL_law (i + 896) = l_cL_law_56[i]? := W_cL_law_55 (i + 16)
theorem W_cL_law_57 (i : Nat) : rd cL_law (i + 912) = l_cL_law_57[i]? := W_cL_law_56 (i + 16)
theorem W_cL_law_58 (i : Nat) : rd cL_law (i + 928) = l_cL_law_58[i]? := W_cL_law_57 (i + 16)
theorem W_cL_law_59 (i : Nat) : rd cL_law (i + 944) = l_cL_law_59[i]? := W_cL_law_58 (i + 16)
theorem W_cL_law_60 (i : Nat) : rd cL_law (i + 960) = l_cL_law_60[i]? := W_cL_law_59 (i + 16)
theorem W_cL_law_61 (i : Nat) : rd cL_law (i + 976) = l_cL_law_61[i]? := W_cL_law_60 (i + 16)
theorem W_cL_law_62 (i : Nat) : rd cL_law (i + 992) = l_cL_law_62[i]? := W_cL_law_61 (i + 16)
theorem W_cL_law_63 (i : Nat) : rd cL_law (i + 1008) = l_cL_law_63[i]? := W_cL_law_62 (i + 16)
theorem W_cL_law_64 (i : Nat) : rd cL_law (i + 1024) = l_cL_law_64[i]? := W_cL_law_63 (i + 16)
theorem W_cL_law_65 (i : Nat) : rd cL_law (i + 1040) = l_cL_law_65[i]? := W_cL_law_64 (i + 16)
theorem W_cL_law_66 (i : Nat) : rd cL_law (i + 1056) = l_cL_law_66[i]? := W_cL_law_65 (i + 16)
theorem W_cL_law_67 (i : Nat) : rd cL_law (i + 1072) = l_cL_law_67[i]? := W_cL_law_66 (i + 16)
theorem W_cL_law_68 (i : Nat) : rd cL_law (i + 1088) = l_cL_law_68[i]? := W_cL_law_67 (i + 16)
theorem W_cL_law_69 (i : Nat) : rd cL_law (i + 1104) = l_cL_law_69[i]? := W_cL_law_68 (i + 16)
theorem W_cL_law_70 (i : Nat) : rd cL_law (i + 1120) = l_cL_law_70[i]? := W_cL_law_69 (i + 16)
theorem W_cL_law_71 (i : Nat) : rd cL_law (i + 1136) = l_cL_law_71[i]? := W_cL_law_70 (i + 16)
theorem W_cL_law_72 (i : Nat) : rd cL_law (i + 1152) = l_cL_law_72[i]? := W_cL_law_71 (i + 16)
theorem W_cL_law_73 (i : Nat) : rd cL_law (i + 1168) = l_cL_law_73[i]? := W_cL_law_72 (i + 16)
theorem W_cL_law_74 (i : Nat) : rd cL_law (i + 1184) = l_cL_law_74[i]? := W_cL_law_73 (i + 16)
theorem W_cL_law_75 (i : Nat) : rd cL_law (i + 1200) = l_cL_law_75[i]? := W_cL_law_74 (i + 16)
theorem W_cL_law_76 (i : Nat) : rd cL_law (i + 1216) = l_cL_law_76[i]? := W_cL_law_75 (i + 16)
theorem W_cL_law_77 (i : Nat) : rd cL_law (i + 1232) = l_cL_law_77[i]? := W_cL_law_76 (i + 16)
theorem W_cL_law_78 (i : Nat) : rd cL_law (i + 1248) = l_cL_law_78[i]? := W_cL_law_77 (i + 16)
theorem W_cL_law_79 (i : Nat) : rd cL_law (i + 1264) = l_cL_law_79[i]? := W_cL_law_78 (i + 16)
theorem W_cL_law_80 (i : Nat) : rd cL_law (i + 1280) = l_cL_law_80[i]? := W_cL_law_79 (i + 16)
theorem W_cL_law_81 (i : Nat) : rd cL_law (i + 1296) = l_cL_law_81[i]? := W_cL_law_80 (i + 16)
theorem W_cL_law_82 (i : Nat) : rd cL_law (i + 1312) = l_cL_law_82[i]? := W_cL_law_81 (i + 16)
theorem W_cL_law_83 (i : Nat) : rd cL_law (i + 1328) = l_cL_law_83[i]? := W_cL_law_82 (i + 16)
theorem W_cL_law_84 (i : Nat) : rd cL_law (i + 1344) = l_cL_law_84[i]? := W_cL_law_83 (i + 16)
theorem W_cL_law_85 (i : Nat) : rd cL_law (i + 1360) = l_cL_law_85[i]? := W_cL_law_84 (i + 16)
theorem W_cL_law_86 (i : Nat) : rd cL_law (i + 1376) = l_cL_law_86[i]? := W_cL_law_85 (i + 16)
theorem W_cL_law_87 (i : Nat) : rd cL_law (i + 1392) = l_cL_law_87[i]? := W_cL_law_86 (i + 16)
theorem W_cL_law_88 (i : Nat) : rd cL_law (i + 1408) = l_cL_law_88[i]? := W_cL_law_87 (i + 16)
theorem W_cL_law_89 (i : Nat) : rd cL_law (i + 1424) = l_cL_law_89[i]? := W_cL_law_88 (i + 16)
theorem W_cL_law_90 (i : Nat) : rd cL_law (i + 1440) = l_cL_law_90[i]? := W_cL_law_89 (i + 16)
theorem W_cL_law_91 (i : Nat) : rd cL_law (i + 1456) = l_cL_law_91[i]? := W_cL_law_90 (i + 16)
theorem W_cL_law_92 (i : Nat) : rd cL_law (i + 1472) = l_cL_law_92[i]? := W_cL_law_91 (i + 16)
theorem W_cL_law_93 (i : Nat) : rd cL_law (i + 1488) = l_cL_law_93[i]? := W_cL_law_92 (i + 16)
theorem W_cL_law_94 (i : Nat) : rd cL_law (i + 1504) = l_cL_law_94[i]? := W_cL_law_93 (i + 16)
theorem W_cL_law_95 (i : Nat) : rd cL_law (i + 1520) = l_cL_law_95[i]? := W_cL_law_94 (i + 16)
theorem W_cL_law_96 (i : Nat) : rd cL_law (i + 1536) = l_cL_law_96[i]? := W_cL_law_95 (i + 16)
theorem W_cL_law_97 (i : Nat) : rd cL_law (i + 1552) = l_cL_law_97[i]? := W_cL_law_96 (i + 16)
theorem W_cL_law_98 (i : Nat) : rd cL_law (i + 1568) = l_cL_law_98[i]? := W_cL_law_97 (i + 16)
theorem W_cL_law_99 (i : Nat) : rd cL_law (i + 1584) = l_cL_law_99[i]? := W_cL_law_98 (i + 16)
theorem W_cL_law_100 (i : Nat) : rd cL_law (i + 1600) = l_cL_law_100[i]? := W_cL_law_99 (i + 16)
theorem W_cL_law_101 (i : Nat) : rd cL_law (i + 1616) = l_cL_law_101[i]? := W_cL_law_100 (i + 16)
theorem W_cL_law_102 (i : Nat) : rd cL_law (i + 1632) = l_cL_law_102[i]? := W_cL_law_101 (i + 16)
theorem W_cL_law_103 (i : Nat) : rd cL_law (i + 1648) = l_cL_law_103[i]? := W_cL_law_102 (i + 16)
theorem W_cL_law_104 (i : Nat) : rd cL_law (i + 1664) = l_cL_law_104[i]? := W_cL_law_103 (i + 16)
theorem W_cL_law_105 (i : Nat) : rd cL_law (i + 1680) = l_cL_law_105[i]? := W_cL_law_104 (i + 16)
theorem W_cL_law_106 (i : Nat) : rd cL_law (i + 1696) = l_cL_law_106[i]? := W_cL_law_105 (i + 16)
theorem W_cL_law_107 (i : Nat) : rd cL_law (i + 1712) = l_cL_law_107[i]? := W_cL_law_106 (i + 16)
theorem W_cL_law_108 (i : Nat) : rd cL_law (i + 1728) = l_cL_law_108[i]? := W_cL_law_107 (i + 16)
theorem W_cL_law_109 (i : Nat) : rd cL_law (i + 1744) = l_cL_law_109[i]? := W_cL_law_108 (i + 16)
theorem W_cL_law_110 (i : Nat) : rd cL_law (i + 1760) = l_cL_law_110[i]? := W_cL_law_109 (i + 16)
theorem W_cL_law_111 (i : Nat) : rd cL_law (i + 1776) = l_cL_law_111[i]? := W_cL_law_110 (i + 16)
theorem W_cL_law_112 (i : Nat) : rd cL_law (i + 1792) = l_cL_law_112[i]? := W_cL_law_111 (i + 16)
theorem W_cL_law_113 (i : Nat) : rd cL_law (i + 1808) = l_cL_law_113[i]? := W_cL_law_112 (i + 16)
theorem W_cL_law_114 (i : Nat) : rd cL_law (i + 1824) = l_cL_law_114[i]? := W_cL_law_113 (i + 16)
theorem W_cL_law_115 (i : Nat) : rd cL_law (i + 1840) = l_cL_law_115[i]? := W_cL_law_114 (i + 16)
theorem W_cL_law_116 (i : Nat) : rd cL_law (i + 1856) = l_cL_law_116[i]? := W_cL_law_115 (i + 16)
theorem W_cL_law_117 (i : Nat) : rd cL_law (i + 1872) = l_cL_law_117[i]? := W_cL_law_116 (i + 16)
theorem W_cL_law_118 (i : Nat) : rd cL_law (i + 1888) = l_cL_law_118[i]? := W_cL_law_117 (i + 16)
theorem W_cL_law_119 (i : Nat) : rd cL_law (i + 1904) = l_cL_law_119[i]? := W_cL_law_118 (i + 16)
theorem W_cL_law_120 (i : Nat) : rd cL_law (i + 1920) = l_cL_law_120[i]? := W_cL_law_119 (i + 16)
theorem W_cL_law_121 (i : Nat) : rd cL_law (i + 1936) = l_cL_law_121[i]? := W_cL_law_120 (i + 16)
theorem W_cL_law_122 (i : Nat) : rd cL_law (i + 1952) = l_cL_law_122[i]? := W_cL_law_121 (i + 16)
theorem W_cL_law_123 (i : Nat) : rd cL_law (i + 1968) = l_cL_law_123[i]? := W_cL_law_122 (i + 16)
theorem W_cL_law_124 (i : Nat) : rd cL_law (i + 1984) = l_cL_law_124[i]? := W_cL_law_123 (i + 16)
theorem W_cL_law_125 (i : Nat) : rd cL_law (i + 2000) = l_cL_law_125[i]? := W_cL_law_124 (i + 16)
theorem W_cL_law_126 (i : Nat) : rd cL_law (i + 2016) = l_cL_law_126[i]? := W_cL_law_125 (i + 16)
theorem W_cL_law_127 (i : Nat) : rd cL_law (i + 2032) = l_cL_law_127[i]? := W_cL_law_126 (i + 16)
theorem W_cL_law_128 (i : Nat) : rd cL_law (i + 2048) = l_cL_law_128[i]? := W_cL_law_127 (i + 16)
theorem W_cL_law_129 (i : Nat) : rd cL_law (i + 2064) = l_cL_law_129[i]? := W_cL_law_128 (i + 16)
theorem W_cL_law_130 (i : Nat) : rd cL_law (i + 2080) = l_cL_law_130[i]? := W_cL_law_129 (i + 16)
theorem W_cL_law_131 (i : Nat) : rd cL_law (i + 2096) = l_cL_law_131[i]? := W_cL_law_130 (i + 16)
theorem W_cL_law_132 (i : Nat) : rd cL_law (i + 2112) = l_cL_law_132[i]? := W_cL_law_131 (i + 16)
theorem W_cL_law_133 (i : Nat) : rd cL_law (i + 2128) = l_cL_law_133[i]? := W_cL_law_132 (i + 16)
theorem W_cL_law_134 (i : Nat) : rd cL_law (i + 2144) = l_cL_law_134[i]? := W_cL_law_133 (i + 16)
