/-! The links: of fields, calls, classes, constants. By program (wip/gen/emit.py). -/
/-- the word of a field's link: of class ci the k-th -/
def jFl (own : String) (idx ci k : Nat) : Prop := ∃ q : vw_C, vwCl[ci]? = some q ∧ k < q.2.2 ∧ Cond.fieldLink own idx (q.2.1 k).1 (q.2.1 k).2.1 (q.2.1 k).2.2.1 ∈ jG
set_option maxRecDepth 100000 in
theorem fl_4_9 : jFl RX4 9 4 0 := ⟨(RX4, TX4, 4), rfl, by decide, jG_i1 29 rfl rfl⟩
set_option maxRecDepth 100000 in
theorem fl_6_130 : jFl RX6 130 4 0 := ⟨(RX4, TX4, 4), rfl, by decide, jG_i1 30 rfl rfl⟩
set_option maxRecDepth 100000 in
theorem fl_4_32 : jFl RX4 32 4 1 := ⟨(RX4, TX4, 4), rfl, by decide, jG_i1 31 rfl rfl⟩
set_option maxRecDepth 100000 in
theorem fl_6_127 : jFl RX6 127 4 1 := ⟨(RX4, TX4, 4), rfl, by decide, jG_i1 32 rfl rfl⟩
set_option maxRecDepth 100000 in
theorem fl_4_20 : jFl RX4 20 4 2 := ⟨(RX4, TX4, 4), rfl, by decide, jG_i1 33 rfl rfl⟩
set_option maxRecDepth 100000 in
theorem fl_6_141 : jFl RX6 141 4 2 := ⟨(RX4, TX4, 4), rfl, by decide, jG_i1 34 rfl rfl⟩
set_option maxRecDepth 100000 in
theorem fl_4_24 : jFl RX4 24 4 3 := ⟨(RX4, TX4, 4), rfl, by decide, jG_i1 35 rfl rfl⟩
set_option maxRecDepth 100000 in
theorem fl_0_9 : jFl RX0 9 0 0 := ⟨(RX0, TX0, 5), rfl, by decide, jG_i1 55 rfl rfl⟩
set_option maxRecDepth 100000 in
theorem fl_6_245 : jFl RX6 245 0 0 := ⟨(RX0, TX0, 5), rfl, by decide, jG_i1 56 rfl rfl⟩
set_option maxRecDepth 100000 in
theorem fl_0_35 : jFl RX0 35 0 1 := ⟨(RX0, TX0, 5), rfl, by decide, jG_i1 57 rfl rfl⟩
set_option maxRecDepth 100000 in
theorem fl_6_235 : jFl RX6 235 0 1 := ⟨(RX0, TX0, 5), rfl, by decide, jG_i1 58 rfl rfl⟩
set_option maxRecDepth 100000 in
theorem fl_0_19 : jFl RX0 19 0 2 := ⟨(RX0, TX0, 5), rfl, by decide, jG_i1 59 rfl rfl⟩
set_option maxRecDepth 100000 in
theorem fl_0_15 : jFl RX0 15 0 3 := ⟨(RX0, TX0, 5), rfl, by decide, jG_i1 60 rfl rfl⟩
set_option maxRecDepth 100000 in
theorem fl_0_22 : jFl RX0 22 0 4 := ⟨(RX0, TX0, 5), rfl, by decide, jG_i1 61 rfl rfl⟩
set_option maxRecDepth 100000 in
theorem fl_5_30 : jFl RX5 30 5 0 := ⟨(RX5, TX5, 10), rfl, by decide, jG_i1 84 rfl rfl⟩
set_option maxRecDepth 100000 in
theorem fl_6_87 : jFl RX6 87 5 0 := ⟨(RX5, TX5, 10), rfl, by decide, jG_i1 85 rfl rfl⟩
set_option maxRecDepth 100000 in
theorem fl_4_70 : jFl RX4 70 5 0 := ⟨(RX5, TX5, 10), rfl, by decide, jG_i1 86 rfl rfl⟩
set_option maxRecDepth 100000 in
theorem fl_5_34 : jFl RX5 34 5 1 := ⟨(RX5, TX5, 10), rfl, by decide, jG_i1 87 rfl rfl⟩
set_option maxRecDepth 100000 in
theorem fl_1_72 : jFl RX1 72 5 1 := ⟨(RX5, TX5, 10), rfl, by decide, jG_i1 88 rfl rfl⟩
set_option maxRecDepth 100000 in
theorem fl_4_75 : jFl RX4 75 5 1 := ⟨(RX5, TX5, 10), rfl, by decide, jG_i1 89 rfl rfl⟩
set_option maxRecDepth 100000 in
theorem fl_6_150 : jFl RX6 150 5 1 := ⟨(RX5, TX5, 10), rfl, by decide, jG_i1 90 rfl rfl⟩
set_option maxRecDepth 100000 in
theorem fl_5_37 : jFl RX5 37 5 2 := ⟨(RX5, TX5, 10), rfl, by decide, jG_i1 91 rfl rfl⟩
set_option maxRecDepth 100000 in
theorem fl_1_84 : jFl RX1 84 5 2 := ⟨(RX5, TX5, 10), rfl, by decide, jG_i1 92 rfl rfl⟩
set_option maxRecDepth 100000 in
theorem fl_4_80 : jFl RX4 80 5 2 := ⟨(RX5, TX5, 10), rfl, by decide, jG_i1 93 rfl rfl⟩
set_option maxRecDepth 100000 in
theorem fl_6_153 : jFl RX6 153 5 2 := ⟨(RX5, TX5, 10), rfl, by decide, jG_i1 94 rfl rfl⟩
set_option maxRecDepth 100000 in
theorem fl_5_40 : jFl RX5 40 5 3 := ⟨(RX5, TX5, 10), rfl, by decide, jG_i1 95 rfl rfl⟩
set_option maxRecDepth 100000 in
theorem fl_1_103 : jFl RX1 103 5 3 := ⟨(RX5, TX5, 10), rfl, by decide, jG_i1 96 rfl rfl⟩
set_option maxRecDepth 100000 in
theorem fl_5_43 : jFl RX5 43 5 4 := ⟨(RX5, TX5, 10), rfl, by decide, jG_i1 97 rfl rfl⟩
set_option maxRecDepth 100000 in
theorem fl_5_9 : jFl RX5 9 5 5 := ⟨(RX5, TX5, 10), rfl, by decide, jG_i1 98 rfl rfl⟩
set_option maxRecDepth 100000 in
theorem fl_1_115 : jFl RX1 115 5 5 := ⟨(RX5, TX5, 10), rfl, by decide, jG_i1 99 rfl rfl⟩
set_option maxRecDepth 100000 in
theorem fl_5_15 : jFl RX5 15 5 6 := ⟨(RX5, TX5, 10), rfl, by decide, jG_i1 100 rfl rfl⟩
set_option maxRecDepth 100000 in
theorem fl_1_124 : jFl RX1 124 5 6 := ⟨(RX5, TX5, 10), rfl, by decide, jG_i1 101 rfl rfl⟩
set_option maxRecDepth 100000 in
theorem fl_5_18 : jFl RX5 18 5 7 := ⟨(RX5, TX5, 10), rfl, by decide, jG_i1 102 rfl rfl⟩
set_option maxRecDepth 100000 in
theorem fl_1_121 : jFl RX1 121 5 7 := ⟨(RX5, TX5, 10), rfl, by decide, jG_i1 103 rfl rfl⟩
set_option maxRecDepth 100000 in
theorem fl_5_21 : jFl RX5 21 5 8 := ⟨(RX5, TX5, 10), rfl, by decide, jG_i1 104 rfl rfl⟩
set_option maxRecDepth 100000 in
theorem fl_1_112 : jFl RX1 112 5 8 := ⟨(RX5, TX5, 10), rfl, by decide, jG_i1 105 rfl rfl⟩
set_option maxRecDepth 100000 in
theorem fl_5_24 : jFl RX5 24 5 9 := ⟨(RX5, TX5, 10), rfl, by decide, jG_i1 106 rfl rfl⟩
set_option maxRecDepth 100000 in
theorem fl_1_105 : jFl RX1 105 5 9 := ⟨(RX5, TX5, 10), rfl, by decide, jG_i1 107 rfl rfl⟩
set_option maxRecDepth 100000 in
theorem fl_2_41 : jFl RX2 41 2 0 := ⟨(RX2, TX2, 13), rfl, by decide, jG_i1 135 rfl rfl⟩
set_option maxRecDepth 100000 in
theorem fl_6_71 : jFl RX6 71 2 0 := ⟨(RX2, TX2, 13), rfl, by decide, jG_i1 136 rfl rfl⟩
set_option maxRecDepth 100000 in
theorem fl_1_42 : jFl RX1 42 2 0 := ⟨(RX2, TX2, 13), rfl, by decide, jG_i1 137 rfl rfl⟩
set_option maxRecDepth 100000 in
theorem fl_1_32 : jFl RX1 32 2 1 := ⟨(RX2, TX2, 13), rfl, by decide, jG_i1 138 rfl rfl⟩
set_option maxRecDepth 100000 in
theorem fl_2_45 : jFl RX2 45 2 1 := ⟨(RX2, TX2, 13), rfl, by decide, jG_i1 139 rfl rfl⟩
set_option maxRecDepth 100000 in
theorem fl_6_156 : jFl RX6 156 2 1 := ⟨(RX2, TX2, 13), rfl, by decide, jG_i1 140 rfl rfl⟩
set_option maxRecDepth 100000 in
theorem fl_1_38 : jFl RX1 38 2 2 := ⟨(RX2, TX2, 13), rfl, by decide, jG_i1 141 rfl rfl⟩
set_option maxRecDepth 100000 in
theorem fl_2_48 : jFl RX2 48 2 2 := ⟨(RX2, TX2, 13), rfl, by decide, jG_i1 142 rfl rfl⟩
set_option maxRecDepth 100000 in
theorem fl_6_159 : jFl RX6 159 2 2 := ⟨(RX2, TX2, 13), rfl, by decide, jG_i1 143 rfl rfl⟩
set_option maxRecDepth 100000 in
theorem fl_2_51 : jFl RX2 51 2 3 := ⟨(RX2, TX2, 13), rfl, by decide, jG_i1 144 rfl rfl⟩
set_option maxRecDepth 100000 in
theorem fl_6_209 : jFl RX6 209 2 3 := ⟨(RX2, TX2, 13), rfl, by decide, jG_i1 145 rfl rfl⟩
set_option maxRecDepth 100000 in
theorem fl_2_37 : jFl RX2 37 2 4 := ⟨(RX2, TX2, 13), rfl, by decide, jG_i1 146 rfl rfl⟩
set_option maxRecDepth 100000 in
theorem fl_6_83 : jFl RX6 83 2 4 := ⟨(RX2, TX2, 13), rfl, by decide, jG_i1 147 rfl rfl⟩
set_option maxRecDepth 100000 in
theorem fl_1_68 : jFl RX1 68 2 4 := ⟨(RX2, TX2, 13), rfl, by decide, jG_i1 148 rfl rfl⟩
set_option maxRecDepth 100000 in
theorem fl_2_9 : jFl RX2 9 2 5 := ⟨(RX2, TX2, 13), rfl, by decide, jG_i1 149 rfl rfl⟩
set_option maxRecDepth 100000 in
theorem fl_6_97 : jFl RX6 97 2 5 := ⟨(RX2, TX2, 13), rfl, by decide, jG_i1 150 rfl rfl⟩
set_option maxRecDepth 100000 in
theorem fl_1_93 : jFl RX1 93 2 5 := ⟨(RX2, TX2, 13), rfl, by decide, jG_i1 151 rfl rfl⟩
set_option maxRecDepth 100000 in
theorem fl_2_15 : jFl RX2 15 2 6 := ⟨(RX2, TX2, 13), rfl, by decide, jG_i1 152 rfl rfl⟩
set_option maxRecDepth 100000 in
theorem fl_6_100 : jFl RX6 100 2 6 := ⟨(RX2, TX2, 13), rfl, by decide, jG_i1 153 rfl rfl⟩
set_option maxRecDepth 100000 in
theorem fl_1_90 : jFl RX1 90 2 6 := ⟨(RX2, TX2, 13), rfl, by decide, jG_i1 154 rfl rfl⟩
set_option maxRecDepth 100000 in
theorem fl_2_18 : jFl RX2 18 2 7 := ⟨(RX2, TX2, 13), rfl, by decide, jG_i1 155 rfl rfl⟩
set_option maxRecDepth 100000 in
theorem fl_1_49 : jFl RX1 49 2 7 := ⟨(RX2, TX2, 13), rfl, by decide, jG_i1 156 rfl rfl⟩
set_option maxRecDepth 100000 in
theorem fl_6_103 : jFl RX6 103 2 7 := ⟨(RX2, TX2, 13), rfl, by decide, jG_i1 157 rfl rfl⟩
set_option maxRecDepth 100000 in
theorem fl_2_21 : jFl RX2 21 2 8 := ⟨(RX2, TX2, 13), rfl, by decide, jG_i1 158 rfl rfl⟩
set_option maxRecDepth 100000 in
theorem fl_6_106 : jFl RX6 106 2 8 := ⟨(RX2, TX2, 13), rfl, by decide, jG_i1 159 rfl rfl⟩
set_option maxRecDepth 100000 in
theorem fl_1_87 : jFl RX1 87 2 8 := ⟨(RX2, TX2, 13), rfl, by decide, jG_i1 160 rfl rfl⟩
set_option maxRecDepth 100000 in
theorem fl_2_24 : jFl RX2 24 2 9 := ⟨(RX2, TX2, 13), rfl, by decide, jG_i1 161 rfl rfl⟩
set_option maxRecDepth 100000 in
theorem fl_6_121 : jFl RX6 121 2 9 := ⟨(RX2, TX2, 13), rfl, by decide, jG_i1 162 rfl rfl⟩
set_option maxRecDepth 100000 in
theorem fl_2_27 : jFl RX2 27 2 10 := ⟨(RX2, TX2, 13), rfl, by decide, jG_i1 163 rfl rfl⟩
set_option maxRecDepth 100000 in
theorem fl_1_45 : jFl RX1 45 2 10 := ⟨(RX2, TX2, 13), rfl, by decide, jG_i1 164 rfl rfl⟩
set_option maxRecDepth 100000 in
theorem fl_6_109 : jFl RX6 109 2 10 := ⟨(RX2, TX2, 13), rfl, by decide, jG_i1 165 rfl rfl⟩
set_option maxRecDepth 100000 in
theorem fl_2_31 : jFl RX2 31 2 11 := ⟨(RX2, TX2, 13), rfl, by decide, jG_i1 166 rfl rfl⟩
set_option maxRecDepth 100000 in
theorem fl_6_124 : jFl RX6 124 2 11 := ⟨(RX2, TX2, 13), rfl, by decide, jG_i1 167 rfl rfl⟩
set_option maxRecDepth 100000 in
theorem fl_1_100 : jFl RX1 100 2 11 := ⟨(RX2, TX2, 13), rfl, by decide, jG_i1 168 rfl rfl⟩
set_option maxRecDepth 100000 in
theorem fl_2_34 : jFl RX2 34 2 12 := ⟨(RX2, TX2, 13), rfl, by decide, jG_i1 169 rfl rfl⟩
set_option maxRecDepth 100000 in
theorem fl_6_212 : jFl RX6 212 2 12 := ⟨(RX2, TX2, 13), rfl, by decide, jG_i1 170 rfl rfl⟩
set_option maxRecDepth 100000 in
theorem fl_1_24 : jFl RX1 24 1 0 := ⟨(RX1, TX1, 9), rfl, by decide, jG_i1 205 rfl rfl⟩
set_option maxRecDepth 100000 in
theorem fl_1_28 : jFl RX1 28 1 1 := ⟨(RX1, TX1, 9), rfl, by decide, jG_i1 206 rfl rfl⟩
set_option maxRecDepth 100000 in
theorem fl_1_37 : jFl RX1 37 1 2 := ⟨(RX1, TX1, 9), rfl, by decide, jG_i1 207 rfl rfl⟩
set_option maxRecDepth 100000 in
theorem fl_6_173 : jFl RX6 173 1 2 := ⟨(RX1, TX1, 9), rfl, by decide, jG_i1 208 rfl rfl⟩
set_option maxRecDepth 100000 in
theorem fl_1_41 : jFl RX1 41 1 3 := ⟨(RX1, TX1, 9), rfl, by decide, jG_i1 209 rfl rfl⟩
set_option maxRecDepth 100000 in
theorem fl_6_174 : jFl RX6 174 1 3 := ⟨(RX1, TX1, 9), rfl, by decide, jG_i1 210 rfl rfl⟩
set_option maxRecDepth 100000 in
theorem fl_1_61 : jFl RX1 61 1 4 := ⟨(RX1, TX1, 9), rfl, by decide, jG_i1 211 rfl rfl⟩
set_option maxRecDepth 100000 in
theorem fl_6_175 : jFl RX6 175 1 4 := ⟨(RX1, TX1, 9), rfl, by decide, jG_i1 212 rfl rfl⟩
set_option maxRecDepth 100000 in
theorem fl_1_9 : jFl RX1 9 1 5 := ⟨(RX1, TX1, 9), rfl, by decide, jG_i1 213 rfl rfl⟩
set_option maxRecDepth 100000 in
theorem fl_6_170 : jFl RX6 170 1 5 := ⟨(RX1, TX1, 9), rfl, by decide, jG_i1 214 rfl rfl⟩
set_option maxRecDepth 100000 in
theorem fl_1_15 : jFl RX1 15 1 6 := ⟨(RX1, TX1, 9), rfl, by decide, jG_i1 215 rfl rfl⟩
set_option maxRecDepth 100000 in
theorem fl_6_179 : jFl RX6 179 1 6 := ⟨(RX1, TX1, 9), rfl, by decide, jG_i1 216 rfl rfl⟩
set_option maxRecDepth 100000 in
theorem fl_1_18 : jFl RX1 18 1 7 := ⟨(RX1, TX1, 9), rfl, by decide, jG_i1 217 rfl rfl⟩
set_option maxRecDepth 100000 in
theorem fl_6_94 : jFl RX6 94 1 7 := ⟨(RX1, TX1, 9), rfl, by decide, jG_i1 218 rfl rfl⟩
set_option maxRecDepth 100000 in
theorem fl_1_21 : jFl RX1 21 1 8 := ⟨(RX1, TX1, 9), rfl, by decide, jG_i1 219 rfl rfl⟩
set_option maxRecDepth 100000 in
theorem fl_3_9 : jFl RX3 9 3 0 := ⟨(RX3, TX3, 3), rfl, by decide, jG_i2 4 rfl rfl⟩
set_option maxRecDepth 100000 in
theorem fl_6_223 : jFl RX6 223 3 0 := ⟨(RX3, TX3, 3), rfl, by decide, jG_i2 5 rfl rfl⟩
set_option maxRecDepth 100000 in
theorem fl_3_19 : jFl RX3 19 3 1 := ⟨(RX3, TX3, 3), rfl, by decide, jG_i2 6 rfl rfl⟩
set_option maxRecDepth 100000 in
theorem fl_6_226 : jFl RX6 226 3 1 := ⟨(RX3, TX3, 3), rfl, by decide, jG_i2 7 rfl rfl⟩
set_option maxRecDepth 100000 in
theorem fl_3_15 : jFl RX3 15 3 2 := ⟨(RX3, TX3, 3), rfl, by decide, jG_i2 8 rfl rfl⟩
set_option maxRecDepth 100000 in
theorem fl_6_227 : jFl RX6 227 3 2 := ⟨(RX3, TX3, 3), rfl, by decide, jG_i2 9 rfl rfl⟩
set_option maxRecDepth 100000 in
theorem fl_6_47 : jFl RX6 47 6 0 := ⟨(RX6, TX6, 11), rfl, by decide, jG_i2 18 rfl rfl⟩
set_option maxRecDepth 100000 in
theorem fl_6_51 : jFl RX6 51 6 1 := ⟨(RX6, TX6, 11), rfl, by decide, jG_i2 19 rfl rfl⟩
set_option maxRecDepth 100000 in
theorem fl_6_54 : jFl RX6 54 6 2 := ⟨(RX6, TX6, 11), rfl, by decide, jG_i2 20 rfl rfl⟩
set_option maxRecDepth 100000 in
theorem fl_6_231 : jFl RX6 231 6 3 := ⟨(RX6, TX6, 11), rfl, by decide, jG_i2 21 rfl rfl⟩
set_option maxRecDepth 100000 in
theorem fl_6_62 : jFl RX6 62 6 4 := ⟨(RX6, TX6, 11), rfl, by decide, jG_i2 22 rfl rfl⟩
set_option maxRecDepth 100000 in
theorem fl_6_11 : jFl RX6 11 6 5 := ⟨(RX6, TX6, 11), rfl, by decide, jG_i2 23 rfl rfl⟩
set_option maxRecDepth 100000 in
theorem fl_6_18 : jFl RX6 18 6 6 := ⟨(RX6, TX6, 11), rfl, by decide, jG_i2 24 rfl rfl⟩
set_option maxRecDepth 100000 in
theorem fl_6_24 : jFl RX6 24 6 7 := ⟨(RX6, TX6, 11), rfl, by decide, jG_i2 25 rfl rfl⟩
set_option maxRecDepth 100000 in
theorem fl_6_134 : jFl RX6 134 6 8 := ⟨(RX6, TX6, 11), rfl, by decide, jG_i2 26 rfl rfl⟩
set_option maxRecDepth 100000 in
theorem fl_6_31 : jFl RX6 31 6 9 := ⟨(RX6, TX6, 11), rfl, by decide, jG_i2 27 rfl rfl⟩
set_option maxRecDepth 100000 in
theorem fl_6_37 : jFl RX6 37 6 10 := ⟨(RX6, TX6, 11), rfl, by decide, jG_i2 28 rfl rfl⟩
set_option maxRecDepth 100000 in
theorem fl_7_7 : jFl RX7 7 7 0 := ⟨(RX7, TX7, 60), rfl, by decide, jG_i3 217 rfl rfl⟩
set_option maxRecDepth 100000 in
theorem fl_7_13 : jFl RX7 13 7 1 := ⟨(RX7, TX7, 60), rfl, by decide, jG_i3 218 rfl rfl⟩
set_option maxRecDepth 100000 in
theorem fl_7_16 : jFl RX7 16 7 2 := ⟨(RX7, TX7, 60), rfl, by decide, jG_i3 219 rfl rfl⟩
set_option maxRecDepth 100000 in
theorem fl_7_19 : jFl RX7 19 7 3 := ⟨(RX7, TX7, 60), rfl, by decide, jG_i3 220 rfl rfl⟩
set_option maxRecDepth 100000 in
theorem fl_7_23 : jFl RX7 23 7 4 := ⟨(RX7, TX7, 60), rfl, by decide, jG_i3 221 rfl rfl⟩
set_option maxRecDepth 100000 in
theorem fl_7_26 : jFl RX7 26 7 5 := ⟨(RX7, TX7, 60), rfl, by decide, jG_i3 222 rfl rfl⟩
set_option maxRecDepth 100000 in
theorem fl_7_29 : jFl RX7 29 7 6 := ⟨(RX7, TX7, 60), rfl, by decide, jG_i3 223 rfl rfl⟩
set_option maxRecDepth 100000 in
theorem fl_7_32 : jFl RX7 32 7 7 := ⟨(RX7, TX7, 60), rfl, by decide, jG_i3 224 rfl rfl⟩
set_option maxRecDepth 100000 in
theorem fl_7_35 : jFl RX7 35 7 8 := ⟨(RX7, TX7, 60), rfl, by decide, jG_i3 225 rfl rfl⟩
set_option maxRecDepth 100000 in
theorem fl_7_38 : jFl RX7 38 7 9 := ⟨(RX7, TX7, 60), rfl, by decide, jG_i3 226 rfl rfl⟩
set_option maxRecDepth 100000 in
theorem fl_7_42 : jFl RX7 42 7 10 := ⟨(RX7, TX7, 60), rfl, by decide, jG_i3 227 rfl rfl⟩
set_option maxRecDepth 100000 in
theorem fl_7_45 : jFl RX7 45 7 11 := ⟨(RX7, TX7, 60), rfl, by decide, jG_i3 228 rfl rfl⟩
set_option maxRecDepth 100000 in
theorem fl_7_48 : jFl RX7 48 7 12 := ⟨(RX7, TX7, 60), rfl, by decide, jG_i3 229 rfl rfl⟩
set_option maxRecDepth 100000 in
theorem fl_7_51 : jFl RX7 51 7 13 := ⟨(RX7, TX7, 60), rfl, by decide, jG_i3 230 rfl rfl⟩
set_option maxRecDepth 100000 in
theorem fl_7_54 : jFl RX7 54 7 14 := ⟨(RX7, TX7, 60), rfl, by decide, jG_i3 231 rfl rfl⟩
set_option maxRecDepth 100000 in
theorem fl_7_57 : jFl RX7 57 7 15 := ⟨(RX7, TX7, 60), rfl, by decide, jG_i3 232 rfl rfl⟩
set_option maxRecDepth 100000 in
theorem fl_7_60 : jFl RX7 60 7 16 := ⟨(RX7, TX7, 60), rfl, by decide, jG_i3 233 rfl rfl⟩
set_option maxRecDepth 100000 in
theorem fl_7_63 : jFl RX7 63 7 17 := ⟨(RX7, TX7, 60), rfl, by decide, jG_i3 234 rfl rfl⟩
set_option maxRecDepth 100000 in
theorem fl_7_66 : jFl RX7 66 7 18 := ⟨(RX7, TX7, 60), rfl, by decide, jG_i3 235 rfl rfl⟩
set_option maxRecDepth 100000 in
theorem fl_7_69 : jFl RX7 69 7 19 := ⟨(RX7, TX7, 60), rfl, by decide, jG_i3 236 rfl rfl⟩
set_option maxRecDepth 100000 in
theorem fl_7_72 : jFl RX7 72 7 20 := ⟨(RX7, TX7, 60), rfl, by decide, jG_i3 237 rfl rfl⟩
set_option maxRecDepth 100000 in
theorem fl_7_75 : jFl RX7 75 7 21 := ⟨(RX7, TX7, 60), rfl, by decide, jG_i3 238 rfl rfl⟩
set_option maxRecDepth 100000 in
theorem fl_7_78 : jFl RX7 78 7 22 := ⟨(RX7, TX7, 60), rfl, by decide, jG_i3 239 rfl rfl⟩
set_option maxRecDepth 100000 in
theorem fl_7_81 : jFl RX7 81 7 23 := ⟨(RX7, TX7, 60), rfl, by decide, jG_i4 0 rfl rfl⟩
set_option maxRecDepth 100000 in
theorem fl_7_84 : jFl RX7 84 7 24 := ⟨(RX7, TX7, 60), rfl, by decide, jG_i4 1 rfl rfl⟩
set_option maxRecDepth 100000 in
theorem fl_7_87 : jFl RX7 87 7 25 := ⟨(RX7, TX7, 60), rfl, by decide, jG_i4 2 rfl rfl⟩
set_option maxRecDepth 100000 in
theorem fl_7_90 : jFl RX7 90 7 26 := ⟨(RX7, TX7, 60), rfl, by decide, jG_i4 3 rfl rfl⟩
set_option maxRecDepth 100000 in
theorem fl_7_93 : jFl RX7 93 7 27 := ⟨(RX7, TX7, 60), rfl, by decide, jG_i4 4 rfl rfl⟩
set_option maxRecDepth 100000 in
theorem fl_7_96 : jFl RX7 96 7 28 := ⟨(RX7, TX7, 60), rfl, by decide, jG_i4 5 rfl rfl⟩
set_option maxRecDepth 100000 in
theorem fl_7_99 : jFl RX7 99 7 29 := ⟨(RX7, TX7, 60), rfl, by decide, jG_i4 6 rfl rfl⟩
set_option maxRecDepth 100000 in
theorem fl_7_102 : jFl RX7 102 7 30 := ⟨(RX7, TX7, 60), rfl, by decide, jG_i4 7 rfl rfl⟩
set_option maxRecDepth 100000 in
theorem fl_7_105 : jFl RX7 105 7 31 := ⟨(RX7, TX7, 60), rfl, by decide, jG_i4 8 rfl rfl⟩
set_option maxRecDepth 100000 in
theorem fl_7_108 : jFl RX7 108 7 32 := ⟨(RX7, TX7, 60), rfl, by decide, jG_i4 9 rfl rfl⟩
set_option maxRecDepth 100000 in
theorem fl_7_111 : jFl RX7 111 7 33 := ⟨(RX7, TX7, 60), rfl, by decide, jG_i4 10 rfl rfl⟩
set_option maxRecDepth 100000 in
theorem fl_7_114 : jFl RX7 114 7 34 := ⟨(RX7, TX7, 60), rfl, by decide, jG_i4 11 rfl rfl⟩
set_option maxRecDepth 100000 in
theorem fl_7_117 : jFl RX7 117 7 35 := ⟨(RX7, TX7, 60), rfl, by decide, jG_i4 12 rfl rfl⟩
set_option maxRecDepth 100000 in
theorem fl_7_120 : jFl RX7 120 7 36 := ⟨(RX7, TX7, 60), rfl, by decide, jG_i4 13 rfl rfl⟩
set_option maxRecDepth 100000 in
theorem fl_7_123 : jFl RX7 123 7 37 := ⟨(RX7, TX7, 60), rfl, by decide, jG_i4 14 rfl rfl⟩
set_option maxRecDepth 100000 in
theorem fl_7_126 : jFl RX7 126 7 38 := ⟨(RX7, TX7, 60), rfl, by decide, jG_i4 15 rfl rfl⟩
set_option maxRecDepth 100000 in
theorem fl_7_129 : jFl RX7 129 7 39 := ⟨(RX7, TX7, 60), rfl, by decide, jG_i4 16 rfl rfl⟩
set_option maxRecDepth 100000 in
theorem fl_7_132 : jFl RX7 132 7 40 := ⟨(RX7, TX7, 60), rfl, by decide, jG_i4 17 rfl rfl⟩
set_option maxRecDepth 100000 in
theorem fl_7_136 : jFl RX7 136 7 41 := ⟨(RX7, TX7, 60), rfl, by decide, jG_i4 18 rfl rfl⟩
set_option maxRecDepth 100000 in
theorem fl_7_139 : jFl RX7 139 7 42 := ⟨(RX7, TX7, 60), rfl, by decide, jG_i4 19 rfl rfl⟩
set_option maxRecDepth 100000 in
theorem fl_7_142 : jFl RX7 142 7 43 := ⟨(RX7, TX7, 60), rfl, by decide, jG_i4 20 rfl rfl⟩
set_option maxRecDepth 100000 in
theorem fl_7_145 : jFl RX7 145 7 44 := ⟨(RX7, TX7, 60), rfl, by decide, jG_i4 21 rfl rfl⟩
set_option maxRecDepth 100000 in
theorem fl_7_148 : jFl RX7 148 7 45 := ⟨(RX7, TX7, 60), rfl, by decide, jG_i4 22 rfl rfl⟩
set_option maxRecDepth 100000 in
theorem fl_7_151 : jFl RX7 151 7 46 := ⟨(RX7, TX7, 60), rfl, by decide, jG_i4 23 rfl rfl⟩
set_option maxRecDepth 100000 in
theorem fl_7_154 : jFl RX7 154 7 47 := ⟨(RX7, TX7, 60), rfl, by decide, jG_i4 24 rfl rfl⟩
set_option maxRecDepth 100000 in
theorem fl_7_157 : jFl RX7 157 7 48 := ⟨(RX7, TX7, 60), rfl, by decide, jG_i4 25 rfl rfl⟩
set_option maxRecDepth 100000 in
theorem fl_7_160 : jFl RX7 160 7 49 := ⟨(RX7, TX7, 60), rfl, by decide, jG_i4 26 rfl rfl⟩
set_option maxRecDepth 100000 in
theorem fl_7_163 : jFl RX7 163 7 50 := ⟨(RX7, TX7, 60), rfl, by decide, jG_i4 27 rfl rfl⟩
set_option maxRecDepth 100000 in
theorem fl_7_166 : jFl RX7 166 7 51 := ⟨(RX7, TX7, 60), rfl, by decide, jG_i4 28 rfl rfl⟩
set_option maxRecDepth 100000 in
theorem fl_7_169 : jFl RX7 169 7 52 := ⟨(RX7, TX7, 60), rfl, by decide, jG_i4 29 rfl rfl⟩
set_option maxRecDepth 100000 in
theorem fl_7_172 : jFl RX7 172 7 53 := ⟨(RX7, TX7, 60), rfl, by decide, jG_i4 30 rfl rfl⟩
set_option maxRecDepth 100000 in
theorem fl_7_175 : jFl RX7 175 7 54 := ⟨(RX7, TX7, 60), rfl, by decide, jG_i4 31 rfl rfl⟩
set_option maxRecDepth 100000 in
theorem fl_7_178 : jFl RX7 178 7 55 := ⟨(RX7, TX7, 60), rfl, by decide, jG_i4 32 rfl rfl⟩
set_option maxRecDepth 100000 in
theorem fl_7_181 : jFl RX7 181 7 56 := ⟨(RX7, TX7, 60), rfl, by decide, jG_i4 33 rfl rfl⟩
set_option maxRecDepth 100000 in
theorem fl_7_184 : jFl RX7 184 7 57 := ⟨(RX7, TX7, 60), rfl, by decide, jG_i4 34 rfl rfl⟩
set_option maxRecDepth 100000 in
theorem fl_7_187 : jFl RX7 187 7 58 := ⟨(RX7, TX7, 60), rfl, by decide, jG_i4 35 rfl rfl⟩
set_option maxRecDepth 100000 in
theorem fl_7_191 : jFl RX7 191 7 59 := ⟨(RX7, TX7, 60), rfl, by decide, jG_i4 36 rfl rfl⟩
set_option maxRecDepth 100000 in
theorem cl_8_9 : Cond.methodLink RL 9 yX6_init ∈ jG := jG_i1 17 rfl rfl
set_option maxRecDepth 100000 in
theorem cl_6_41 : Cond.methodLink RX6 41 yX5_init ∈ jG := jG_i1 76 rfl rfl
set_option maxRecDepth 100000 in
theorem cl_5_27 : Cond.methodLink RX5 27 yX5_clear ∈ jG := jG_i1 80 rfl rfl
set_option maxRecDepth 100000 in
theorem cl_6_44 : Cond.methodLink RX6 44 yX2_init ∈ jG := jG_i1 131 rfl rfl
set_option maxRecDepth 100000 in
theorem cl_6_59 : Cond.methodLink RX6 59 yX1_init ∈ jG := jG_i1 201 rfl rfl
set_option maxRecDepth 100000 in
theorem cl_8_13 : Cond.methodLink RL 13 yX6_person ∈ jG := jG_i2 52 rfl rfl
set_option maxRecDepth 100000 in
theorem cl_6_67 : Cond.methodLink RX6 67 yX6_isDay ∈ jG := jG_i2 56 rfl rfl
set_option maxRecDepth 100000 in
theorem cl_6_75 : Cond.methodLink RX6 75 yX2_add ∈ jG := jG_i2 59 rfl rfl
set_option maxRecDepth 100000 in
theorem cl_8_18 : Cond.methodLink RL 18 yX6_of ∈ jG := jG_i2 63 rfl rfl
set_option maxRecDepth 100000 in
theorem cl_6_79 : Cond.methodLink RX6 79 yX6_isPerson ∈ jG := jG_i2 67 rfl rfl
set_option maxRecDepth 100000 in
theorem cl_6_90 : Cond.methodLink RX6 90 yX1_start ∈ jG := jG_i2 72 rfl rfl
set_option maxRecDepth 100000 in
theorem cl_1_52 : Cond.methodLink RX1 52 yX1_beginYear ∈ jG := jG_i2 76 rfl rfl
set_option maxRecDepth 100000 in
theorem cl_1_81 : Cond.methodLink RX1 81 yX1_wanted ∈ jG := jG_i2 80 rfl rfl
set_option maxRecDepth 100000 in
theorem cl_1_96 : Cond.methodLink RX1 96 yX1_freeDay ∈ jG := jG_i2 84 rfl rfl
set_option maxRecDepth 100000 in
theorem cl_6_113 : Cond.methodLink RX6 113 yX1_putOff ∈ jG := jG_i2 88 rfl rfl
set_option maxRecDepth 100000 in
theorem cl_6_117 : Cond.methodLink RX6 117 yX1_takes ∈ jG := jG_i2 92 rfl rfl
set_option maxRecDepth 100000 in
theorem cl_1_108 : Cond.methodLink RX1 108 yX1_allows ∈ jG := jG_i2 96 rfl rfl
set_option maxRecDepth 100000 in
theorem cl_1_118 : Cond.methodLink RX1 118 yX1_valueOf ∈ jG := jG_i2 100 rfl rfl
set_option maxRecDepth 100000 in
theorem cl_8_23 : Cond.methodLink RL 23 yX6_set ∈ jG := jG_i2 104 rfl rfl
set_option maxRecDepth 100000 in
theorem cl_8_28 : Cond.methodLink RL 28 yX6_there ∈ jG := jG_i2 108 rfl rfl
set_option maxRecDepth 100000 in
theorem cl_8_33 : Cond.methodLink RL 33 yX6_row ∈ jG := jG_i2 112 rfl rfl
set_option maxRecDepth 100000 in
theorem cl_8_37 : Cond.methodLink RL 37 yX6_feed ∈ jG := jG_i2 116 rfl rfl
set_option maxRecDepth 100000 in
theorem cl_8_42 : Cond.methodLink RL 42 yX6_town ∈ jG := jG_i2 120 rfl rfl
set_option maxRecDepth 100000 in
theorem cl_6_137 : Cond.methodLink RX6 137 yX4_parse ∈ jG := jG_i2 124 rfl rfl
set_option maxRecDepth 100000 in
theorem cl_4_15 : Cond.methodLink RX4 15 yX5_clear ∈ jG := jG_i2 128 rfl rfl
set_option maxRecDepth 100000 in
theorem cl_4_28 : Cond.methodLink RX4 28 yX4_clause ∈ jG := jG_i2 129 rfl rfl
set_option maxRecDepth 100000 in
theorem cl_4_46 : Cond.methodLink RX4 46 yX4_next ∈ jG := jG_i2 133 rfl rfl
set_option maxRecDepth 100000 in
theorem cl_4_37 : Cond.methodLink RX4 37 yX4_word ∈ jG := jG_i2 138 rfl rfl
set_option maxRecDepth 100000 in
theorem cl_4_55 : Cond.methodLink RX4 55 yX4_number ∈ jG := jG_i2 190 rfl rfl
set_option maxRecDepth 100000 in
theorem cl_4_60 : Cond.methodLink RX4 60 yX4_either ∈ jG := jG_i2 195 rfl rfl
set_option maxRecDepth 100000 in
theorem cl_4_83 : Cond.methodLink RX4 83 yX4_one ∈ jG := jG_i2 199 rfl rfl
set_option maxRecDepth 100000 in
theorem cl_4_89 : Cond.methodLink RX4 89 yX4_isLetter ∈ jG := jG_i2 203 rfl rfl
set_option maxRecDepth 100000 in
theorem cl_4_93 : Cond.methodLink RX4 93 yX4_relation ∈ jG := jG_i2 206 rfl rfl
set_option maxRecDepth 100000 in
theorem cl_4_96 : Cond.methodLink RX4 96 yX5_addTest ∈ jG := jG_i2 210 rfl rfl
set_option maxRecDepth 100000 in
theorem cl_4_86 : Cond.methodLink RX4 86 yX5_addJoint ∈ jG := jG_i2 214 rfl rfl
set_option maxRecDepth 100000 in
theorem cl_5_46 : Cond.methodLink RX5 46 yX5_addTest ∈ jG := jG_i2 218 rfl rfl
set_option maxRecDepth 100000 in
theorem cl_4_64 : Cond.methodLink RX4 64 yX5_addTake ∈ jG := jG_i2 220 rfl rfl
set_option maxRecDepth 100000 in
theorem cl_8_47 : Cond.methodLink RL 47 yX6_told ∈ jG := jG_i2 228 rfl rfl
set_option maxRecDepth 100000 in
theorem cl_6_144 : Cond.methodLink RX6 144 yX6_bornOn ∈ jG := jG_i2 232 rfl rfl
set_option maxRecDepth 100000 in
theorem cl_6_147 : Cond.methodLink RX6 147 yX6_sellingOn ∈ jG := jG_i2 236 rfl rfl
set_option maxRecDepth 100000 in
theorem cl_6_162 : Cond.methodLink RX6 162 yX6_allPurses ∈ jG := jG_i3 0 rfl rfl
set_option maxRecDepth 100000 in
theorem cl_8_51 : Cond.methodLink RL 51 yX6_day ∈ jG := jG_i3 4 rfl rfl
set_option maxRecDepth 100000 in
theorem cl_6_166 : Cond.methodLink RX6 166 yX1_go ∈ jG := jG_i3 8 rfl rfl
set_option maxRecDepth 100000 in
theorem cl_1_55 : Cond.methodLink RX1 55 yX1_sell ∈ jG := jG_i3 12 rfl rfl
set_option maxRecDepth 100000 in
theorem cl_1_64 : Cond.methodLink RX1 64 yX1_takes ∈ jG := jG_i3 16 rfl rfl
set_option maxRecDepth 100000 in
theorem cl_1_77 : Cond.methodLink RX1 77 yX1_putOff ∈ jG := jG_i3 17 rfl rfl
set_option maxRecDepth 100000 in
theorem cl_1_58 : Cond.methodLink RX1 58 yX1_share ∈ jG := jG_i3 18 rfl rfl
set_option maxRecDepth 100000 in
theorem cl_8_55 : Cond.methodLink RL 55 yX6_by ∈ jG := jG_i3 22 rfl rfl
set_option maxRecDepth 100000 in
theorem cl_8_59 : Cond.methodLink RL 59 yX6_years ∈ jG := jG_i3 27 rfl rfl
set_option maxRecDepth 100000 in
theorem cl_6_182 : Cond.methodLink RX6 182 yX6_goYear ∈ jG := jG_i3 31 rfl rfl
set_option maxRecDepth 100000 in
theorem cl_8_63 : Cond.methodLink RL 63 yX6_birth ∈ jG := jG_i3 35 rfl rfl
set_option maxRecDepth 100000 in
theorem cl_6_185 : Cond.methodLink RX6 185 yX2_copy ∈ jG := jG_i3 39 rfl rfl
set_option maxRecDepth 100000 in
theorem cl_6_188 : Cond.methodLink RX6 188 yX6_bestOf ∈ jG := jG_i3 46 rfl rfl
set_option maxRecDepth 100000 in
theorem cl_6_192 : Cond.methodLink RX6 192 yX6_tryDays ∈ jG := jG_i3 50 rfl rfl
set_option maxRecDepth 100000 in
theorem cl_6_269 : Cond.methodLink RX6 269 yX6_firstMost ∈ jG := jG_i3 54 rfl rfl
set_option maxRecDepth 100000 in
theorem cl_8_67 : Cond.methodLink RL 67 yX6_plan ∈ jG := jG_i3 58 rfl rfl
set_option maxRecDepth 100000 in
theorem cl_8_71 : Cond.methodLink RL 71 yX6_quiet ∈ jG := jG_i3 62 rfl rfl
set_option maxRecDepth 100000 in
theorem cl_8_75 : Cond.methodLink RL 75 yX6_foundling ∈ jG := jG_i3 66 rfl rfl
set_option maxRecDepth 100000 in
theorem cl_8_79 : Cond.methodLink RL 79 yX6_forged ∈ jG := jG_i3 70 rfl rfl
set_option maxRecDepth 100000 in
theorem cl_8_83 : Cond.methodLink RL 83 yX6_change ∈ jG := jG_i3 74 rfl rfl
set_option maxRecDepth 100000 in
theorem cl_6_196 : Cond.methodLink RX6 196 yX6_betterPlan ∈ jG := jG_i3 78 rfl rfl
set_option maxRecDepth 100000 in
theorem cl_8_87 : Cond.methodLink RL 87 yX6_rest ∈ jG := jG_i3 82 rfl rfl
set_option maxRecDepth 100000 in
theorem cl_8_91 : Cond.methodLink RL 91 yX6_reckoning ∈ jG := jG_i3 86 rfl rfl
set_option maxRecDepth 100000 in
theorem cl_6_199 : Cond.methodLink RX6 199 yX6_gainOfOthers ∈ jG := jG_i3 90 rfl rfl
set_option maxRecDepth 100000 in
theorem cl_8_95 : Cond.methodLink RL 95 yX6_high ∈ jG := jG_i3 94 rfl rfl
set_option maxRecDepth 100000 in
theorem cl_8_99 : Cond.methodLink RL 99 yX6_last ∈ jG := jG_i3 98 rfl rfl
set_option maxRecDepth 100000 in
theorem cl_8_103 : Cond.methodLink RL 103 yX6_odds ∈ jG := jG_i3 102 rfl rfl
set_option maxRecDepth 100000 in
theorem cl_6_205 : Cond.methodLink RX6 205 yX6_fraction ∈ jG := jG_i3 107 rfl rfl
set_option maxRecDepth 100000 in
theorem cl_8_108 : Cond.methodLink RL 108 yX6_mean ∈ jG := jG_i3 110 rfl rfl
set_option maxRecDepth 100000 in
theorem cl_8_113 : Cond.methodLink RL 113 yX6_book ∈ jG := jG_i3 114 rfl rfl
set_option maxRecDepth 100000 in
theorem cl_8_117 : Cond.methodLink RL 117 yX6_looked ∈ jG := jG_i3 118 rfl rfl
set_option maxRecDepth 100000 in
theorem cl_8_121 : Cond.methodLink RL 121 yX6_judge ∈ jG := jG_i3 125 rfl rfl
set_option maxRecDepth 100000 in
theorem cl_6_220 : Cond.methodLink RX6 220 yX6_isTape ∈ jG := jG_i3 129 rfl rfl
set_option maxRecDepth 100000 in
theorem cl_8_125 : Cond.methodLink RL 125 yX6_image ∈ jG := jG_i3 132 rfl rfl
set_option maxRecDepth 100000 in
theorem cl_8_129 : Cond.methodLink RL 129 yX6_undo ∈ jG := jG_i3 136 rfl rfl
set_option maxRecDepth 100000 in
theorem cl_8_133 : Cond.methodLink RL 133 yX6_act ∈ jG := jG_i3 140 rfl rfl
set_option maxRecDepth 100000 in
theorem cl_6_238 : Cond.methodLink RX6 238 yX0_becomes ∈ jG := jG_i3 144 rfl rfl
set_option maxRecDepth 100000 in
theorem cl_6_242 : Cond.methodLink RX6 242 yX0_answer ∈ jG := jG_i3 148 rfl rfl
set_option maxRecDepth 100000 in
theorem cl_0_25 : Cond.methodLink RX0 25 yX0_sells ∈ jG := jG_i3 152 rfl rfl
set_option maxRecDepth 100000 in
theorem cl_0_38 : Cond.methodLink RX0 38 yX0_runs ∈ jG := jG_i3 156 rfl rfl
set_option maxRecDepth 100000 in
theorem cl_0_29 : Cond.methodLink RX0 29 yX0_gives ∈ jG := jG_i3 160 rfl rfl
set_option maxRecDepth 100000 in
theorem cl_0_32 : Cond.methodLink RX0 32 yX0_tells ∈ jG := jG_i3 164 rfl rfl
set_option maxRecDepth 100000 in
theorem cl_8_137 : Cond.methodLink RL 137 yX6_trace ∈ jG := jG_i3 168 rfl rfl
set_option maxRecDepth 100000 in
theorem cl_8_141 : Cond.methodLink RL 141 yX6_taken ∈ jG := jG_i3 172 rfl rfl
set_option maxRecDepth 100000 in
theorem cl_8_145 : Cond.methodLink RL 145 yX6_count ∈ jG := jG_i3 178 rfl rfl
set_option maxRecDepth 100000 in
theorem cl_8_149 : Cond.methodLink RL 149 yX6_tape ∈ jG := jG_i3 182 rfl rfl
set_option maxRecDepth 100000 in
theorem cl_6_251 : Cond.methodLink RX6 251 yX3_become ∈ jG := jG_i3 186 rfl rfl
set_option maxRecDepth 100000 in
theorem cl_8_155 : Cond.methodLink RL 155 yX6_item ∈ jG := jG_i3 190 rfl rfl
set_option maxRecDepth 100000 in
theorem cl_6_255 : Cond.methodLink RX6 255 yX3_fitted ∈ jG := jG_i3 194 rfl rfl
set_option maxRecDepth 100000 in
theorem cl_8_160 : Cond.methodLink RL 160 yX6_read ∈ jG := jG_i3 198 rfl rfl
set_option maxRecDepth 100000 in
theorem cl_8_165 : Cond.methodLink RL 165 yX6_shift ∈ jG := jG_i3 202 rfl rfl
set_option maxRecDepth 100000 in
theorem cl_6_259 : Cond.methodLink RX6 259 yX3_holds ∈ jG := jG_i3 206 rfl rfl
set_option maxRecDepth 100000 in
theorem cl_8_12 : Cond.methodLink RL 12 yX7_init ∈ jG := jG_i3 213 rfl rfl
set_option maxRecDepth 100000 in
theorem cl_8_17 : Cond.methodLink RL 17 yX7_person ∈ jG := jG_i4 158 rfl rfl
set_option maxRecDepth 100000 in
theorem cl_7_194 : Cond.methodLink RX7 194 yX7_in ∈ jG := jG_i4 162 rfl rfl
set_option maxRecDepth 100000 in
theorem cl_7_198 : Cond.methodLink RX7 198 yX7_isDay ∈ jG := jG_i4 166 rfl rfl
set_option maxRecDepth 100000 in
theorem cl_7_202 : Cond.methodLink RX7 202 yX7_lay ∈ jG := jG_i4 170 rfl rfl
set_option maxRecDepth 100000 in
theorem cl_8_27 : Cond.methodLink RL 27 yX7_set ∈ jG := jG_i4 174 rfl rfl
set_option maxRecDepth 100000 in
theorem cl_7_206 : Cond.methodLink RX7 206 yX7_isPerson ∈ jG := jG_i4 178 rfl rfl
set_option maxRecDepth 100000 in
theorem cl_8_32 : Cond.methodLink RL 32 yX7_there ∈ jG := jG_i4 182 rfl rfl
set_option maxRecDepth 100000 in
theorem cl_8_36 : Cond.methodLink RL 36 yX7_row ∈ jG := jG_i4 186 rfl rfl
set_option maxRecDepth 100000 in
theorem cl_8_41 : Cond.methodLink RL 41 yX7_feed ∈ jG := jG_i4 190 rfl rfl
set_option maxRecDepth 100000 in
theorem cl_8_46 : Cond.methodLink RL 46 yX7_town ∈ jG := jG_i4 194 rfl rfl
set_option maxRecDepth 100000 in
theorem cl_7_253 : Cond.methodLink RX7 253 yX7_goesText ∈ jG := jG_i4 198 rfl rfl
set_option maxRecDepth 100000 in
theorem cl_7_250 : Cond.methodLink RX7 250 yX7_takesClause ∈ jG := jG_i4 202 rfl rfl
set_option maxRecDepth 100000 in
theorem cl_7_244 : Cond.methodLink RX7 244 yX7_takesHead ∈ jG := jG_i4 206 rfl rfl
set_option maxRecDepth 100000 in
theorem cl_7_209 : Cond.methodLink RX7 209 yX7_next ∈ jG := jG_i4 210 rfl rfl
set_option maxRecDepth 100000 in
theorem cl_7_240 : Cond.methodLink RX7 240 yX7_takesWord ∈ jG := jG_i4 214 rfl rfl
set_option maxRecDepth 100000 in
theorem cl_7_213 : Cond.methodLink RX7 213 yX7_takes ∈ jG := jG_i4 218 rfl rfl
set_option maxRecDepth 100000 in
theorem cl_7_228 : Cond.methodLink RX7 228 yX7_takesNumber ∈ jG := jG_i4 222 rfl rfl
set_option maxRecDepth 100000 in
theorem cl_7_216 : Cond.methodLink RX7 216 yX7_isDigit ∈ jG := jG_i4 226 rfl rfl
set_option maxRecDepth 100000 in
theorem cl_7_247 : Cond.methodLink RX7 247 yX7_takesE ∈ jG := jG_i4 230 rfl rfl
set_option maxRecDepth 100000 in
theorem cl_7_234 : Cond.methodLink RX7 234 yX7_takesTest ∈ jG := jG_i4 234 rfl rfl
set_option maxRecDepth 100000 in
theorem cl_7_224 : Cond.methodLink RX7 224 yX7_place ∈ jG := jG_i4 238 rfl rfl
set_option maxRecDepth 100000 in
theorem cl_7_220 : Cond.methodLink RX7 220 yX7_emits ∈ jG := jG_i5 2 rfl rfl
set_option maxRecDepth 100000 in
theorem cl_7_231 : Cond.methodLink RX7 231 yX7_whole ∈ jG := jG_i5 6 rfl rfl
set_option maxRecDepth 100000 in
theorem cl_7_237 : Cond.methodLink RX7 237 yX7_settle ∈ jG := jG_i5 10 rfl rfl
set_option maxRecDepth 100000 in
theorem cl_8_22 : Cond.methodLink RL 22 yX7_of ∈ jG := jG_i5 14 rfl rfl
set_option maxRecDepth 100000 in
theorem cl_7_288 : Cond.methodLink RX7 288 yX7_sells ∈ jG := jG_i5 19 rfl rfl
set_option maxRecDepth 100000 in
theorem cl_7_285 : Cond.methodLink RX7 285 yX7_wishedDay ∈ jG := jG_i5 23 rfl rfl
set_option maxRecDepth 100000 in
theorem cl_7_279 : Cond.methodLink RX7 279 yX7_behindHated ∈ jG := jG_i5 27 rfl rfl
set_option maxRecDepth 100000 in
theorem cl_7_276 : Cond.methodLink RX7 276 yX7_thatOne ∈ jG := jG_i5 31 rfl rfl
set_option maxRecDepth 100000 in
theorem cl_7_282 : Cond.methodLink RX7 282 yX7_shunned ∈ jG := jG_i5 35 rfl rfl
set_option maxRecDepth 100000 in
theorem cl_7_266 : Cond.methodLink RX7 266 yX7_manyBorn ∈ jG := jG_i5 39 rfl rfl
set_option maxRecDepth 100000 in
theorem cl_7_262 : Cond.methodLink RX7 262 yX7_lastOf ∈ jG := jG_i5 43 rfl rfl
set_option maxRecDepth 100000 in
theorem cl_7_256 : Cond.methodLink RX7 256 yX7_clauseFrom ∈ jG := jG_i5 47 rfl rfl
set_option maxRecDepth 100000 in
theorem cl_7_259 : Cond.methodLink RX7 259 yX7_clauseTo ∈ jG := jG_i5 51 rfl rfl
set_option maxRecDepth 100000 in
theorem cl_7_292 : Cond.methodLink RX7 292 yX7_putOff ∈ jG := jG_i5 55 rfl rfl
set_option maxRecDepth 100000 in
theorem cl_7_295 : Cond.methodLink RX7 295 yX7_takesOf ∈ jG := jG_i5 59 rfl rfl
set_option maxRecDepth 100000 in
theorem cl_7_273 : Cond.methodLink RX7 273 yX7_holds ∈ jG := jG_i5 63 rfl rfl
set_option maxRecDepth 100000 in
theorem cl_7_269 : Cond.methodLink RX7 269 yX7_factOf ∈ jG := jG_i5 67 rfl rfl
set_option maxRecDepth 100000 in
theorem cl_8_50 : Cond.methodLink RL 50 yX7_told ∈ jG := jG_i5 71 rfl rfl
set_option maxRecDepth 100000 in
theorem cl_7_298 : Cond.methodLink RX7 298 yX7_bornOn ∈ jG := jG_i5 75 rfl rfl
set_option maxRecDepth 100000 in
theorem cl_7_301 : Cond.methodLink RX7 301 yX7_sellOn ∈ jG := jG_i5 79 rfl rfl
set_option maxRecDepth 100000 in
theorem cl_7_304 : Cond.methodLink RX7 304 yX7_dueNow ∈ jG := jG_i5 83 rfl rfl
set_option maxRecDepth 100000 in
theorem cl_7_307 : Cond.methodLink RX7 307 yX7_allPurses ∈ jG := jG_i5 87 rfl rfl
set_option maxRecDepth 100000 in
theorem cl_8_54 : Cond.methodLink RL 54 yX7_day ∈ jG := jG_i5 91 rfl rfl
set_option maxRecDepth 100000 in
theorem cl_7_310 : Cond.methodLink RX7 310 yX7_goDay ∈ jG := jG_i5 95 rfl rfl
set_option maxRecDepth 100000 in
theorem cl_8_58 : Cond.methodLink RL 58 yX7_by ∈ jG := jG_i5 99 rfl rfl
set_option maxRecDepth 100000 in
theorem cl_7_314 : Cond.methodLink RX7 314 yX7_keep ∈ jG := jG_i5 104 rfl rfl
set_option maxRecDepth 100000 in
theorem cl_7_317 : Cond.methodLink RX7 317 yX7_putBack ∈ jG := jG_i5 108 rfl rfl
set_option maxRecDepth 100000 in
theorem cl_8_62 : Cond.methodLink RL 62 yX7_years ∈ jG := jG_i5 112 rfl rfl
set_option maxRecDepth 100000 in
theorem cl_7_323 : Cond.methodLink RX7 323 yX7_yearOf ∈ jG := jG_i5 116 rfl rfl
set_option maxRecDepth 100000 in
theorem cl_7_320 : Cond.methodLink RX7 320 yX7_layYear ∈ jG := jG_i5 120 rfl rfl
set_option maxRecDepth 100000 in
theorem cl_8_66 : Cond.methodLink RL 66 yX7_birth ∈ jG := jG_i5 124 rfl rfl
set_option maxRecDepth 100000 in
theorem cl_7_326 : Cond.methodLink RX7 326 yX7_layBest ∈ jG := jG_i5 128 rfl rfl
set_option maxRecDepth 100000 in
theorem cl_8_70 : Cond.methodLink RL 70 yX7_plan ∈ jG := jG_i5 132 rfl rfl
set_option maxRecDepth 100000 in
theorem cl_8_74 : Cond.methodLink RL 74 yX7_quiet ∈ jG := jG_i5 136 rfl rfl
set_option maxRecDepth 100000 in
theorem cl_8_78 : Cond.methodLink RL 78 yX7_foundling ∈ jG := jG_i5 140 rfl rfl
set_option maxRecDepth 100000 in
theorem cl_8_82 : Cond.methodLink RL 82 yX7_forged ∈ jG := jG_i5 144 rfl rfl
set_option maxRecDepth 100000 in
theorem cl_8_86 : Cond.methodLink RL 86 yX7_change ∈ jG := jG_i5 148 rfl rfl
set_option maxRecDepth 100000 in
theorem cl_7_330 : Cond.methodLink RX7 330 yX7_wouldChange ∈ jG := jG_i5 152 rfl rfl
set_option maxRecDepth 100000 in
theorem cl_8_90 : Cond.methodLink RL 90 yX7_rest ∈ jG := jG_i5 156 rfl rfl
set_option maxRecDepth 100000 in
theorem cl_7_333 : Cond.methodLink RX7 333 yX7_layRest ∈ jG := jG_i5 160 rfl rfl
set_option maxRecDepth 100000 in
theorem cl_8_94 : Cond.methodLink RL 94 yX7_reckoning ∈ jG := jG_i5 164 rfl rfl
set_option maxRecDepth 100000 in
theorem cl_7_336 : Cond.methodLink RX7 336 yX7_allMore ∈ jG := jG_i5 168 rfl rfl
set_option maxRecDepth 100000 in
theorem cl_8_98 : Cond.methodLink RL 98 yX7_high ∈ jG := jG_i5 172 rfl rfl
set_option maxRecDepth 100000 in
theorem cl_8_102 : Cond.methodLink RL 102 yX7_last ∈ jG := jG_i5 176 rfl rfl
set_option maxRecDepth 100000 in
theorem cl_7_339 : Cond.methodLink RX7 339 yX7_othersMore ∈ jG := jG_i5 180 rfl rfl
set_option maxRecDepth 100000 in
theorem cl_8_107 : Cond.methodLink RL 107 yX7_odds ∈ jG := jG_i5 184 rfl rfl
set_option maxRecDepth 100000 in
theorem cl_7_347 : Cond.methodLink RX7 347 yX7_yearIf ∈ jG := jG_i5 189 rfl rfl
set_option maxRecDepth 100000 in
theorem cl_7_350 : Cond.methodLink RX7 350 yX7_lowest ∈ jG := jG_i5 193 rfl rfl
set_option maxRecDepth 100000 in
theorem cl_7_342 : Cond.methodLink RX7 342 yX7_divisor ∈ jG := jG_i5 197 rfl rfl
set_option maxRecDepth 100000 in
theorem cl_8_112 : Cond.methodLink RL 112 yX7_mean ∈ jG := jG_i5 201 rfl rfl
set_option maxRecDepth 100000 in
theorem cl_8_116 : Cond.methodLink RL 116 yX7_book ∈ jG := jG_i5 205 rfl rfl
set_option maxRecDepth 100000 in
theorem cl_8_120 : Cond.methodLink RL 120 yX7_looked ∈ jG := jG_i5 209 rfl rfl
set_option maxRecDepth 100000 in
theorem cl_8_124 : Cond.methodLink RL 124 yX7_judge ∈ jG := jG_i5 213 rfl rfl
set_option maxRecDepth 100000 in
theorem cl_7_354 : Cond.methodLink RX7 354 yX7_isTape ∈ jG := jG_i5 217 rfl rfl
set_option maxRecDepth 100000 in
theorem cl_8_128 : Cond.methodLink RL 128 yX7_image ∈ jG := jG_i5 221 rfl rfl
set_option maxRecDepth 100000 in
theorem cl_8_132 : Cond.methodLink RL 132 yX7_undo ∈ jG := jG_i5 225 rfl rfl
set_option maxRecDepth 100000 in
theorem cl_8_136 : Cond.methodLink RL 136 yX7_act ∈ jG := jG_i5 229 rfl rfl
set_option maxRecDepth 100000 in
theorem cl_7_363 : Cond.methodLink RX7 363 yX7_sellsAct ∈ jG := jG_i5 233 rfl rfl
set_option maxRecDepth 100000 in
theorem cl_7_357 : Cond.methodLink RX7 357 yX7_body ∈ jG := jG_i5 237 rfl rfl
set_option maxRecDepth 100000 in
theorem cl_7_360 : Cond.methodLink RX7 360 yX7_sellerSells ∈ jG := jG_i6 1 rfl rfl
set_option maxRecDepth 100000 in
theorem cl_7_372 : Cond.methodLink RX7 372 yX7_givesAct ∈ jG := jG_i6 5 rfl rfl
set_option maxRecDepth 100000 in
theorem cl_7_369 : Cond.methodLink RX7 369 yX7_haterGives ∈ jG := jG_i6 9 rfl rfl
set_option maxRecDepth 100000 in
theorem cl_7_366 : Cond.methodLink RX7 366 yX7_sellerGives ∈ jG := jG_i6 13 rfl rfl
set_option maxRecDepth 100000 in
theorem cl_7_378 : Cond.methodLink RX7 378 yX7_tellsAct ∈ jG := jG_i6 17 rfl rfl
set_option maxRecDepth 100000 in
theorem cl_7_375 : Cond.methodLink RX7 375 yX7_sellerTells ∈ jG := jG_i6 21 rfl rfl
set_option maxRecDepth 100000 in
theorem cl_8_140 : Cond.methodLink RL 140 yX7_trace ∈ jG := jG_i6 25 rfl rfl
set_option maxRecDepth 100000 in
theorem cl_8_144 : Cond.methodLink RL 144 yX7_taken ∈ jG := jG_i6 29 rfl rfl
set_option maxRecDepth 100000 in
theorem cl_8_148 : Cond.methodLink RL 148 yX7_count ∈ jG := jG_i6 33 rfl rfl
set_option maxRecDepth 100000 in
theorem cl_8_152 : Cond.methodLink RL 152 yX7_tape ∈ jG := jG_i6 37 rfl rfl
set_option maxRecDepth 100000 in
theorem cl_8_159 : Cond.methodLink RL 159 yX7_item ∈ jG := jG_i6 41 rfl rfl
set_option maxRecDepth 100000 in
theorem cl_7_381 : Cond.methodLink RX7 381 yX7_narrow ∈ jG := jG_i6 45 rfl rfl
set_option maxRecDepth 100000 in
theorem cl_8_164 : Cond.methodLink RL 164 yX7_read ∈ jG := jG_i6 49 rfl rfl
set_option maxRecDepth 100000 in
theorem cl_8_169 : Cond.methodLink RL 169 yX7_shift ∈ jG := jG_i6 53 rfl rfl
set_option maxRecDepth 100000 in
theorem kl_8_7 : Cond.classLink RL 7 RX6 ∈ jG := jG_i1 15 rfl rfl
set_option maxRecDepth 100000 in
theorem kl_6_15 : Cond.classLink RX6 15 RX4 ∈ jG := jG_i1 23 rfl rfl
set_option maxRecDepth 100000 in
theorem kl_6_22 : Cond.classLink RX6 22 RX5 ∈ jG := jG_i1 47 rfl rfl
set_option maxRecDepth 100000 in
theorem kl_6_28 : Cond.classLink RX6 28 RX0 ∈ jG := jG_i1 49 rfl rfl
set_option maxRecDepth 100000 in
theorem kl_6_35 : Cond.classLink RX6 35 RX3 ∈ jG := jG_i1 73 rfl rfl
set_option maxRecDepth 100000 in
theorem kl_6_42 : Cond.classLink RX6 42 RX2 ∈ jG := jG_i1 129 rfl rfl
set_option maxRecDepth 100000 in
theorem kl_6_57 : Cond.classLink RX6 57 RX1 ∈ jG := jG_i1 199 rfl rfl
set_option maxRecDepth 100000 in
theorem kl_8_10 : Cond.classLink RL 10 RX7 ∈ jG := jG_i3 211 rfl rfl
set_option maxRecDepth 100000 in
theorem ct_6_82 : Cond.constant RX6 82 (-10000001) ∈ jG := jG_i2 71 rfl rfl
set_option maxRecDepth 100000 in
theorem ct_6_178 : Cond.constant RX6 178 (-10000002) ∈ jG := jG_i3 26 rfl rfl
set_option maxRecDepth 100000 in
theorem ct_7_291 : Cond.constant RX7 291 (-10000001) ∈ jG := jG_i5 18 rfl rfl
set_option maxRecDepth 100000 in
theorem ct_7_313 : Cond.constant RX7 313 (-10000002) ∈ jG := jG_i5 103 rfl rfl
set_option maxRecDepth 100000 in
theorem ctl_6_203 : Cond.constantLong RX6 203 (-9223372036854775808) ∈ jG := jG_i3 106 rfl rfl
set_option maxRecDepth 100000 in
theorem ctl_7_345 : Cond.constantLong RX7 345 (-9223372036854775808) ∈ jG := jG_i5 188 rfl rfl
set_option maxRecDepth 100000 in
theorem ctl_8_153 : Cond.constantLong RL 153 (4294967295) ∈ jG := jG_i6 57 rfl rfl
set_option maxRecDepth 100000 in
theorem oi_6 : Cond.methodLink RX6 3 objectInit ∈ jG := jG_i1 20 rfl rfl
set_option maxRecDepth 100000 in
theorem oi_4 : Cond.methodLink RX4 3 objectInit ∈ jG := jG_i1 28 rfl rfl
set_option maxRecDepth 100000 in
theorem oi_0 : Cond.methodLink RX0 3 objectInit ∈ jG := jG_i1 54 rfl rfl
set_option maxRecDepth 100000 in
theorem oi_5 : Cond.methodLink RX5 3 objectInit ∈ jG := jG_i1 79 rfl rfl
set_option maxRecDepth 100000 in
theorem oi_2 : Cond.methodLink RX2 3 objectInit ∈ jG := jG_i1 134 rfl rfl
set_option maxRecDepth 100000 in
theorem oi_1 : Cond.methodLink RX1 3 objectInit ∈ jG := jG_i1 204 rfl rfl
set_option maxRecDepth 100000 in
theorem oi_3 : Cond.methodLink RX3 3 objectInit ∈ jG := jG_i2 3 rfl rfl
set_option maxRecDepth 100000 in
theorem oi_7 : Cond.methodLink RX7 1 objectInit ∈ jG := jG_i3 216 rfl rfl
set_option maxRecDepth 100000 in
theorem ac_2 : Cond.methodLink RX2 54 arraycopyName ∈ jG := jG_i3 43 rfl rfl
set_option maxRecDepth 100000 in
theorem ac_6 : Cond.methodLink RX6 263 arraycopyName ∈ jG := jG_i3 210 rfl rfl
set_option maxRecDepth 100000 in
theorem oi_inst : Cond.instanceMethod objectInit ∈ jG := jG_i1 21 rfl rfl
set_option maxRecDepth 100000 in
theorem oi_code : Cond.code objectInit ⟨#[0xb1]⟩ 1 none ∈ jG := jG_i1 22 rfl rfl
set_option maxRecDepth 100000 in
theorem ac_nat : Cond.native arraycopyName ∈ jG := jG_i3 45 rfl rfl
set_option maxRecDepth 100000 in
theorem ac_stat : Cond.static arraycopyName ∈ jG := jG_i3 44 rfl rfl
set_option maxRecDepth 100000 in
theorem ac_ini : Cond.initialized "java/lang/System" ∈ jG := jG_i1 13 rfl rfl
set_option maxRecDepth 100000 in
theorem ar_int : Cond.arrayClass .int ∈ jG := jG_i1 45 rfl rfl
set_option maxRecDepth 100000 in
theorem ar_long : Cond.arrayClass .long ∈ jG := jG_i2 17 rfl rfl
set_option maxRecDepth 100000 in
theorem ar_byte : Cond.arrayClass .byte ∈ jG := jG_i1 46 rfl rfl
set_option maxRecDepth 100000 in
theorem ar_boolean : Cond.arrayClass .boolean ∈ jG := jG_i1 198 rfl rfl
set_option maxRecDepth 100000 in
theorem is_0 : Cond.instantiable RX0 5 ∈ jG := jG_i1 50 rfl rfl
set_option maxRecDepth 100000 in
theorem ic_0 : Cond.initialized RX0 ∈ jG := jG_i1 3 rfl rfl
set_option maxRecDepth 100000 in
theorem is_1 : Cond.instantiable RX1 9 ∈ jG := jG_i1 200 rfl rfl
set_option maxRecDepth 100000 in
theorem ic_1 : Cond.initialized RX1 ∈ jG := jG_i1 6 rfl rfl
set_option maxRecDepth 100000 in
theorem is_2 : Cond.instantiable RX2 13 ∈ jG := jG_i1 130 rfl rfl
set_option maxRecDepth 100000 in
theorem ic_2 : Cond.initialized RX2 ∈ jG := jG_i1 5 rfl rfl
set_option maxRecDepth 100000 in
theorem is_3 : Cond.instantiable RX3 3 ∈ jG := jG_i1 239 rfl rfl
set_option maxRecDepth 100000 in
theorem ic_3 : Cond.initialized RX3 ∈ jG := jG_i1 7 rfl rfl
set_option maxRecDepth 100000 in
theorem is_4 : Cond.instantiable RX4 4 ∈ jG := jG_i1 24 rfl rfl
set_option maxRecDepth 100000 in
theorem ic_4 : Cond.initialized RX4 ∈ jG := jG_i1 2 rfl rfl
set_option maxRecDepth 100000 in
theorem is_5 : Cond.instantiable RX5 10 ∈ jG := jG_i1 75 rfl rfl
set_option maxRecDepth 100000 in
theorem ic_5 : Cond.initialized RX5 ∈ jG := jG_i1 4 rfl rfl
set_option maxRecDepth 100000 in
theorem is_6 : Cond.instantiable RX6 11 ∈ jG := jG_i1 16 rfl rfl
set_option maxRecDepth 100000 in
theorem ic_6 : Cond.initialized RX6 ∈ jG := jG_i1 1 rfl rfl
set_option maxRecDepth 100000 in
theorem is_7 : Cond.instantiable RX7 60 ∈ jG := jG_i3 212 rfl rfl
set_option maxRecDepth 100000 in
theorem ic_7 : Cond.initialized RX7 ∈ jG := jG_i1 8 rfl rfl
set_option maxRecDepth 100000 in
theorem ns_6_17 : Cond.methodLinkNest RX6 17 yX4_init RX6 ∈ lw_tbl := List.mem_of_getElem? (i := 111) rfl
set_option maxRecDepth 100000 in
theorem ns_6_30 : Cond.methodLinkNest RX6 30 yX0_init RX6 ∈ lw_tbl := List.mem_of_getElem? (i := 137) rfl
set_option maxRecDepth 100000 in
theorem ns_6_66 : Cond.methodLinkNest RX6 66 yX3_init RX6 ∈ lw_tbl := List.mem_of_getElem? (i := 326) rfl
set_option maxRecDepth 100000 in
theorem ao_5 : Cond.arrayOver (.object RX5) ∈ lw_tbl := List.mem_of_getElem? (i := 134) rfl
set_option maxRecDepth 100000 in
theorem ao_3 : Cond.arrayOver (.object RX3) ∈ lw_tbl := List.mem_of_getElem? (i := 160) rfl
