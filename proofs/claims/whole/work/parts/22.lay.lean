/-! what lies where: the objects of the class and of the reference, in the order of their making (found by running the rows; the constructors are proved to lay them so) -/
def zKsh (j : Nat) : Nat × Nat := ([(7, 0), (24, 4), (6, 0), (20, 8), (20, 8), (6, 0), (20, 8), (20, 8), (6, 0), (20, 8), (20, 8), (6, 0), (20, 8), (20, 8)] : List (Nat × Nat)).getD j (0, 0)
def zKch (j : Nat) : Nat × Nat := ([(1, 0), (6, 0), (20, 8), (20, 8)] : List (Nat × Nat)).getD j (0, 0)
def zK (L : Nat) (a : Nat) : Nat × Nat := if a = 1 then (20, L) else if a < 14 then ([(0, 0), (0, 0), (10, 0), (0, 0), (23, 60), (20, 60), (21, 4), (20, 60), (21, 60), (20, 60), (20, 60), (3, 0), (21, 8), (20, 8)] : List (Nat × Nat)).getD a (0, 0) else if a < 854 then zKsh ((a - 14) % 14) else if a = 854 then (25, 60) else if a < 1095 then zKch ((a - 855) % 4) else if a < 1124 then ([(6, 0), (20, 8), (20, 8), (6, 0), (20, 8), (20, 8), (9, 0), (20, 80), (9, 0), (20, 228), (8, 0), (20, 4), (20, 64), (20, 64), (20, 64), (20, 64), (20, 64), (20, 64), (20, 64), (21, 3601), (2, 0), (20, 1024), (5, 0), (20, 3721), (20, 3721), (20, 3721), (20, 61), (20, 61), (20, 61)] : List (Nat × Nat)).getD (a - 1095) (0, 0) else if a < 1152 then zKsh ((a - 1124) % 14) else ([(4, 0), (11, 0), (20, 8), (20, 8), (20, 80), (20, 300), (20, 60), (20, 60), (21, 60), (20, 240), (22, 60), (20, 60), (20, 480), (20, 480), (21, 60), (20, 60), (20, 60), (20, 60), (20, 60), (20, 60), (20, 60), (20, 60), (20, 61), (20, 61), (20, 244), (20, 1952), (20, 1952), (21, 60), (20, 60), (21, 4), (20, 8), (21, 8), (20, 60), (21, 60), (20, 60), (20, 60), (20, 60), (20, 8), (20, 8), (20, 64), (20, 64), (20, 64), (20, 64), (20, 64), (21, 3601), (20, 64), (20, 1024), (20, 1024), (21, 3721), (20, 14884), (21, 14884), (20, 14885), (20, 3600), (22, 1)] : List (Nat × Nat)).getD (a - 1152) (0, 0)
theorem zKF (L : Nat) : zK L 2 = (10, 0) ∧ zK L 3 = (0, 0) ∧ zK L 4 = (23, 60) ∧ zK L 5 = (20, 60) ∧ zK L 6 = (21, 4) ∧ zK L 7 = (20, 60) ∧ zK L 8 = (21, 60) ∧ zK L 9 = (20, 60) ∧ zK L 10 = (20, 60) ∧ zK L 11 = (3, 0) ∧ zK L 12 = (21, 8) ∧ zK L 13 = (20, 8) ∧ zK L 854 = (25, 60) ∧ zK L 1095 = (6, 0) ∧ zK L 1096 = (20, 8) ∧ zK L 1097 = (20, 8) ∧ zK L 1098 = (6, 0) ∧ zK L 1099 = (20, 8) ∧ zK L 1100 = (20, 8) ∧ zK L 1101 = (9, 0) ∧ zK L 1102 = (20, 80) ∧ zK L 1103 = (9, 0) ∧ zK L 1104 = (20, 228) ∧ zK L 1105 = (8, 0) ∧ zK L 1106 = (20, 4) ∧ zK L 1107 = (20, 64) ∧ zK L 1108 = (20, 64) ∧ zK L 1109 = (20, 64) ∧ zK L 1110 = (20, 64) ∧ zK L 1111 = (20, 64) ∧ zK L 1112 = (20, 64) ∧ zK L 1113 = (20, 64) ∧ zK L 1114 = (21, 3601) ∧ zK L 1115 = (2, 0) ∧ zK L 1116 = (20, 1024) ∧ zK L 1117 = (5, 0) ∧ zK L 1118 = (20, 3721) ∧ zK L 1119 = (20, 3721) ∧ zK L 1120 = (20, 3721) ∧ zK L 1121 = (20, 61) ∧ zK L 1122 = (20, 61) ∧ zK L 1123 = (20, 61) ∧ zK L 1152 = (4, 0) ∧ zK L 1153 = (11, 0) ∧ zK L 1154 = (20, 8) ∧ zK L 1155 = (20, 8) ∧ zK L 1156 = (20, 80) ∧ zK L 1157 = (20, 300) ∧ zK L 1158 = (20, 60) ∧ zK L 1159 = (20, 60) ∧ zK L 1160 = (21, 60) ∧ zK L 1161 = (20, 240) ∧ zK L 1162 = (22, 60) ∧ zK L 1163 = (20, 60) ∧ zK L 1164 = (20, 480) ∧ zK L 1165 = (20, 480) ∧ zK L 1166 = (21, 60) ∧ zK L 1167 = (20, 60) ∧ zK L 1168 = (20, 60) ∧ zK L 1169 = (20, 60) ∧ zK L 1170 = (20, 60) ∧ zK L 1171 = (20, 60) ∧ zK L 1172 = (20, 60) ∧ zK L 1173 = (20, 60) ∧ zK L 1174 = (20, 61) ∧ zK L 1175 = (20, 61) ∧ zK L 1176 = (20, 244) ∧ zK L 1177 = (20, 1952) ∧ zK L 1178 = (20, 1952) ∧ zK L 1179 = (21, 60) ∧ zK L 1180 = (20, 60) ∧ zK L 1181 = (21, 4) ∧ zK L 1182 = (20, 8) ∧ zK L 1183 = (21, 8) ∧ zK L 1184 = (20, 60) ∧ zK L 1185 = (21, 60) ∧ zK L 1186 = (20, 60) ∧ zK L 1187 = (20, 60) ∧ zK L 1188 = (20, 60) ∧ zK L 1189 = (20, 8) ∧ zK L 1190 = (20, 8) ∧ zK L 1191 = (20, 64) ∧ zK L 1192 = (20, 64) ∧ zK L 1193 = (20, 64) ∧ zK L 1194 = (20, 64) ∧ zK L 1195 = (20, 64) ∧ zK L 1196 = (21, 3601) ∧ zK L 1197 = (20, 64) ∧ zK L 1198 = (20, 1024) ∧ zK L 1199 = (20, 1024) ∧ zK L 1200 = (21, 3721) ∧ zK L 1201 = (20, 14884) ∧ zK L 1202 = (21, 14884) ∧ zK L 1203 = (20, 14885) ∧ zK L 1204 = (20, 3600) ∧ zK L 1205 = (22, 1) := ⟨rfl, rfl, rfl, rfl, rfl, rfl, rfl, rfl, rfl, rfl, rfl, rfl, rfl, rfl, rfl, rfl, rfl, rfl, rfl, rfl, rfl, rfl, rfl, rfl, rfl, rfl, rfl, rfl, rfl, rfl, rfl, rfl, rfl, rfl, rfl, rfl, rfl, rfl, rfl, rfl, rfl, rfl, rfl, rfl, rfl, rfl, rfl, rfl, rfl, rfl, rfl, rfl, rfl, rfl, rfl, rfl, rfl, rfl, rfl, rfl, rfl, rfl, rfl, rfl, rfl, rfl, rfl, rfl, rfl, rfl, rfl, rfl, rfl, rfl, rfl, rfl, rfl, rfl, rfl, rfl, rfl, rfl, rfl, rfl, rfl, rfl, rfl, rfl, rfl, rfl, rfl, rfl, rfl, rfl, rfl, rfl⟩
theorem zK_1 (L : Nat) : zK L 1 = (20, L) := rfl
theorem zK_L {L a : Nat} (h : a ≠ 1) : zK L a = zK 0 a := by unfold zK; rw [if_neg h, if_neg h]
/-- a shape's address -/
def zShA (a : Nat) : Prop := (∃ i, i < 60 ∧ a = 14 + 14 * i) ∨ a = 1124 ∨ a = 1138
/-- a polygon's address -/
def zPoA (a : Nat) : Prop := (∃ s k, zShA s ∧ k < 4 ∧ a = s + 2 + 3 * k) ∨ (∃ i, i < 60 ∧ a = 856 + 4 * i) ∨ a = 1095 ∨ a = 1098
theorem zShA_lt {a : Nat} (h : zShA a) : 14 ≤ a ∧ a ≤ 1138 := by
  rcases h with ⟨i, hi, rfl⟩ | rfl | rfl <;> omega
theorem zPoA_lt {a : Nat} (h : zPoA a) : 16 ≤ a ∧ a ≤ 1149 := by
  rcases h with ⟨s, k, hs, hk, rfl⟩ | ⟨i, hi, rfl⟩ | rfl | rfl
  · have := zShA_lt hs; omega
  · omega
  · omega
  · omega
theorem zK_s0 : ∀ i, i < 60 → zK 0 (14 + 14 * i) = (7, 0) ∧ zK 0 (14 + 14 * i + 1) = (24, 4) ∧ ∀ k, k < 4 → zK 0 (14 + 14 * i + 2 + 3 * k) = (6, 0) ∧ zK 0 (14 + 14 * i + 2 + 3 * k + 1) = (20, 8) ∧ zK 0 (14 + 14 * i + 2 + 3 * k + 2) = (20, 8) := by decide +kernel
theorem zK_s1 : zK 0 1124 = (7, 0) ∧ zK 0 (1124 + 1) = (24, 4) ∧ ∀ k, k < 4 → zK 0 (1124 + 2 + 3 * k) = (6, 0) ∧ zK 0 (1124 + 2 + 3 * k + 1) = (20, 8) ∧ zK 0 (1124 + 2 + 3 * k + 2) = (20, 8) := by decide +kernel
theorem zK_s2 : zK 0 1138 = (7, 0) ∧ zK 0 (1138 + 1) = (24, 4) ∧ ∀ k, k < 4 → zK 0 (1138 + 2 + 3 * k) = (6, 0) ∧ zK 0 (1138 + 2 + 3 * k + 1) = (20, 8) ∧ zK 0 (1138 + 2 + 3 * k + 2) = (20, 8) := by decide +kernel
theorem zK_c0 : ∀ i, i < 60 → zK 0 (855 + 4 * i) = (1, 0) ∧ zK 0 (856 + 4 * i) = (6, 0) ∧ zK 0 (856 + 4 * i + 1) = (20, 8) ∧ zK 0 (856 + 4 * i + 2) = (20, 8) := by decide +kernel
theorem zK_sh {L a : Nat} (h : zShA a) : zK L a = (7, 0) ∧ zK L (a + 1) = (24, 4) := by
  have hl := zShA_lt h
  rw [zK_L (show a ≠ 1 by omega), zK_L (show a + 1 ≠ 1 by omega)]
  rcases h with ⟨i, hi, rfl⟩ | rfl | rfl
  · exact ⟨(zK_s0 i hi).1, (zK_s0 i hi).2.1⟩
  · exact ⟨zK_s1.1, zK_s1.2.1⟩
  · exact ⟨zK_s2.1, zK_s2.2.1⟩
theorem zK_po {L a : Nat} (h : zPoA a) : zK L a = (6, 0) ∧ zK L (a + 1) = (20, 8) ∧ zK L (a + 2) = (20, 8) := by
  have hl := zPoA_lt h
  rw [zK_L (show a ≠ 1 by omega), zK_L (show a + 1 ≠ 1 by omega), zK_L (show a + 2 ≠ 1 by omega)]
  rcases h with ⟨s, k, hs, hk, rfl⟩ | ⟨i, hi, rfl⟩ | rfl | rfl
  · rcases hs with ⟨i, hi, rfl⟩ | rfl | rfl
    · exact (zK_s0 i hi).2.2 k hk
    · exact zK_s1.2.2 k hk
    · exact zK_s2.2.2 k hk
  · exact (zK_c0 i hi).2
  · exact ⟨rfl, rfl, rfl⟩
  · exact ⟨rfl, rfl, rfl⟩
theorem zK_ch {L i : Nat} (h : i < 60) : zK L (855 + 4 * i) = (1, 0) := by
  rw [zK_L (show 855 + 4 * i ≠ 1 by omega)]
  exact (zK_c0 i h).1
theorem zPoA_sh {s k : Nat} (hs : zShA s) (hk : k < 4) : zPoA (s + 2 + 3 * k) := Or.inl ⟨s, k, hs, hk, rfl⟩
theorem zPoA_ch {i : Nat} (h : i < 60) : zPoA (856 + 4 * i) := Or.inr (Or.inl ⟨i, h, rfl⟩)
theorem zShA_i {i : Nat} (h : i < 60) : zShA (14 + 14 * i) := Or.inl ⟨i, h, rfl⟩
/-- the references -/
def zLayF (f : Nat → Nat → Nat) : Prop := f 2 0 = 3 ∧ f 2 1 = 854 ∧ f 2 3 = 1095 ∧ f 2 4 = 1098 ∧ f 2 5 = 1101 ∧ f 2 6 = 1103 ∧ f 2 7 = 1105 ∧ f 2 8 = 1115 ∧ f 2 9 = 1117 ∧ f 2 10 = 1124 ∧ f 2 11 = 1138 ∧ f 2 12 = 1152 ∧ f 3 0 = 4 ∧ f 3 1 = 5 ∧ f 3 2 = 6 ∧ f 3 3 = 7 ∧ f 3 4 = 8 ∧ f 3 5 = 9 ∧ f 3 6 = 10 ∧ f 3 7 = 11 ∧ f 11 1 = 12 ∧ f 11 2 = 13 ∧ f 1095 1 = 1096 ∧ f 1095 2 = 1097 ∧ f 1098 1 = 1099 ∧ f 1098 2 = 1100 ∧ f 1101 1 = 1102 ∧ f 1103 1 = 1104 ∧ f 1105 0 = 1106 ∧ f 1105 2 = 1107 ∧ f 1105 3 = 1108 ∧ f 1105 4 = 1109 ∧ f 1105 5 = 1110 ∧ f 1105 6 = 1111 ∧ f 1105 7 = 1112 ∧ f 1105 8 = 1113 ∧ f 1105 12 = 1114 ∧ f 1115 1 = 1116 ∧ f 1117 0 = 1118 ∧ f 1117 1 = 1119 ∧ f 1117 2 = 1120 ∧ f 1117 3 = 1121 ∧ f 1117 4 = 1122 ∧ f 1117 5 = 1123 ∧ f 1153 1 = 1154 ∧ f 1153 2 = 1155 ∧ f 1153 4 = 1156 ∧ f 1153 6 = 1157 ∧ f 1153 9 = 1158 ∧ f 1153 10 = 1159 ∧ f 1153 11 = 1160 ∧ f 1153 12 = 1161 ∧ f 1153 13 = 1162 ∧ f 1153 14 = 1163 ∧ f 1153 15 = 1164 ∧ f 1153 16 = 1165 ∧ f 1153 17 = 1166 ∧ f 1153 18 = 1167 ∧ f 1153 19 = 1168 ∧ f 1153 20 = 1169 ∧ f 1153 21 = 1170 ∧ f 1153 22 = 1171 ∧ f 1153 23 = 1172 ∧ f 1153 24 = 1173 ∧ f 1153 25 = 1174 ∧ f 1153 26 = 1175 ∧ f 1153 27 = 1176 ∧ f 1153 28 = 1177 ∧ f 1153 29 = 1178 ∧ f 1153 30 = 1179 ∧ f 1153 31 = 1180 ∧ f 1153 32 = 1181 ∧ f 1153 34 = 1182 ∧ f 1153 35 = 1183 ∧ f 1153 37 = 1184 ∧ f 1153 39 = 1185 ∧ f 1153 40 = 1186 ∧ f 1153 41 = 1187 ∧ f 1153 42 = 1188 ∧ f 1153 43 = 1189 ∧ f 1153 44 = 1190 ∧ f 1153 46 = 1191 ∧ f 1153 47 = 1192 ∧ f 1153 48 = 1193 ∧ f 1153 49 = 1194 ∧ f 1153 50 = 1195 ∧ f 1153 52 = 1196 ∧ f 1153 53 = 1197 ∧ f 1153 54 = 1198 ∧ f 1153 55 = 1199 ∧ f 1153 57 = 1200 ∧ f 1153 58 = 1201 ∧ f 1153 59 = 1202 ∧ f 1153 60 = 1203 ∧ f 1153 61 = 1204
def zLay (f : Nat → Nat → Nat) : Prop := zLayF f ∧ (∀ a, zPoA a → f a 1 = a + 1 ∧ f a 2 = a + 2) ∧ (∀ s, zShA s → f s 15 = s + 1 ∧ ∀ k, k < 4 → f (s + 1) k = s + 2 + 3 * k) ∧ (∀ i, i < 60 → f 4 i = 14 + 14 * i ∧ f 854 i = 855 + 4 * i ∧ f (855 + 4 * i) 12 = 856 + 4 * i)
