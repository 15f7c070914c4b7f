/-! ===== the classes' own rows stand in the tables ===== -/
set_option maxRecDepth 1000000 in
theorem cw_0 : gx_w lw_tbs (u_ws cn_0 cf_0 7) [2081, 2083, 2085, 2087, 2089, 2091, 2093] = true := by decide +kernel
def cy_0 : Nat → FieldType := fun k => ([.object "SleptFor$Folk", .object "SleptFor$Laws", .array .int, .array .int, .int, .int, .int] : List FieldType).getD k .int
theorem cz_0 : ∀ k, k < 7 → parseFieldDescriptor (cf_0 k).2.2.1 = some (cy_0 k) := by decide +kernel
theorem cm_0 : ∀ a, a < 7 → ∀ b, b < 7 → a ≠ b → (cf_0 a).2.1 ≠ (cf_0 b).2.1 := by decide +kernel
set_option maxRecDepth 1000000 in
theorem cw_1 : gx_w lw_tbs (u_ws cn_1 cf_1 8) [1065, 1067, 1069, 1071, 1073, 1075, 1077, 1079] = true := by decide +kernel
def cy_1 : Nat → FieldType := fun k => ([.int, .int, .array .int, .array .int, .array .int, .array .int, .array .int, .array .int] : List FieldType).getD k .int
theorem cz_1 : ∀ k, k < 8 → parseFieldDescriptor (cf_1 k).2.2.1 = some (cy_1 k) := by decide +kernel
theorem cm_1 : ∀ a, a < 8 → ∀ b, b < 8 → a ≠ b → (cf_1 a).2.1 ≠ (cf_1 b).2.1 := by decide +kernel
set_option maxRecDepth 1000000 in
theorem cw_2 : gx_w lw_tbs (u_ws cn_2 cf_2 4) [2056, 2058, 2060, 2062] = true := by decide +kernel
def cy_2 : Nat → FieldType := fun k => ([.object "SleptFor$Valley", .array (.object "SleptFor$Text"), .array .int, .array .int] : List FieldType).getD k .int
theorem cz_2 : ∀ k, k < 4 → parseFieldDescriptor (cf_2 k).2.2.1 = some (cy_2 k) := by decide +kernel
theorem cm_2 : ∀ a, a < 4 → ∀ b, b < 4 → a ≠ b → (cf_2 a).2.1 ≠ (cf_2 b).2.1 := by decide +kernel
set_option maxRecDepth 1000000 in
theorem cw_3 : gx_w lw_tbs (u_ws cn_3 cf_3 8) [1123, 1125, 1127, 1129, 1131, 1133, 1135, 1137] = true := by decide +kernel
def cy_3 : Nat → FieldType := fun k => ([.array .int, .array .int, .array .int, .array .int, .array .int, .array .int, .int, .int] : List FieldType).getD k .int
theorem cz_3 : ∀ k, k < 8 → parseFieldDescriptor (cf_3 k).2.2.1 = some (cy_3 k) := by decide +kernel
theorem cm_3 : ∀ a, a < 8 → ∀ b, b < 8 → a ≠ b → (cf_3 a).2.1 ≠ (cf_3 b).2.1 := by decide +kernel
set_option maxRecDepth 1000000 in
theorem cw_4 : gx_w lw_tbs (u_ws cn_4 cf_4 16) [2121, 2123, 2125, 2127, 2129, 2131, 2133, 2135, 2137, 2139, 2141, 2143, 2145, 2147, 2149, 2151] = true := by decide +kernel
def cy_4 : Nat → FieldType := fun k => ([.object "SleptFor$Valley", .object "SleptFor$Laws", .array .int, .array .int, .int, .int, .array .int, .array .int, .array .int, .array .int, .int, .array .int, .array .int, .array .int, .int, .int] : List FieldType).getD k .int
theorem cz_4 : ∀ k, k < 16 → parseFieldDescriptor (cf_4 k).2.2.1 = some (cy_4 k) := by decide +kernel
theorem cm_4 : ∀ a, a < 16 → ∀ b, b < 16 → a ≠ b → (cf_4 a).2.1 ≠ (cf_4 b).2.1 := by decide +kernel
set_option maxRecDepth 1000000 in
theorem cw_5 : gx_w lw_tbs (u_ws cn_5 cf_5 6) [2198, 2200, 2202, 2204, 2206, 2208] = true := by decide +kernel
def cy_5 : Nat → FieldType := fun k => ([.object "SleptFor$Valley", .object "SleptFor$Laws", .object "SleptFor$Clock", .array .int, .array .int, .array .int] : List FieldType).getD k .int
theorem cz_5 : ∀ k, k < 6 → parseFieldDescriptor (cf_5 k).2.2.1 = some (cy_5 k) := by decide +kernel
theorem cm_5 : ∀ a, a < 6 → ∀ b, b < 6 → a ≠ b → (cf_5 a).2.1 ≠ (cf_5 b).2.1 := by decide +kernel
set_option maxRecDepth 1000000 in
theorem cw_6 : gx_w lw_tbs (u_ws cn_6 cf_6 13) [2019, 2021, 2023, 2025, 2027, 2029, 2031, 2033, 2035, 2037, 2039, 2041, 2043] = true := by decide +kernel
def cy_6 : Nat → FieldType := fun k => ([.array .int, .int, .int, .array .int, .array .int, .array .int, .int, .int, .int, .int, .object "SleptFor$Text", .int, .int] : List FieldType).getD k .int
theorem cz_6 : ∀ k, k < 13 → parseFieldDescriptor (cf_6 k).2.2.1 = some (cy_6 k) := by decide +kernel
theorem cm_6 : ∀ a, a < 13 → ∀ b, b < 13 → a ≠ b → (cf_6 a).2.1 ≠ (cf_6 b).2.1 := by decide +kernel
set_option maxRecDepth 1000000 in
theorem cw_7 : gx_w lw_tbs (u_ws cn_7 cf_7 8) [2169, 2171, 2173, 2175, 2177, 2179, 2181, 2183] = true := by decide +kernel
def cy_7 : Nat → FieldType := fun k => ([.int, .int, .int, .int, .array .int, .array .int, .array .int, .int] : List FieldType).getD k .int
theorem cz_7 : ∀ k, k < 8 → parseFieldDescriptor (cf_7 k).2.2.1 = some (cy_7 k) := by decide +kernel
theorem cm_7 : ∀ a, a < 8 → ∀ b, b < 8 → a ≠ b → (cf_7 a).2.1 ≠ (cf_7 b).2.1 := by decide +kernel
set_option maxRecDepth 1000000 in
theorem cw_8 : gx_w lw_tbs (u_ws cn_8 cf_8 3) [1150, 1152, 1154] = true := by decide +kernel
def cy_8 : Nat → FieldType := fun k => ([.array .int, .int, .int] : List FieldType).getD k .int
theorem cz_8 : ∀ k, k < 3 → parseFieldDescriptor (cf_8 k).2.2.1 = some (cy_8 k) := by decide +kernel
theorem cm_8 : ∀ a, a < 3 → ∀ b, b < 3 → a ≠ b → (cf_8 a).2.1 ≠ (cf_8 b).2.1 := by decide +kernel
set_option maxRecDepth 1000000 in
theorem cw_9 : gx_w lw_tbs (u_ws cn_9 cf_9 8) [1226, 1228, 1230, 1232, 1234, 1236, 1238, 2000] = true := by decide +kernel
def cy_9 : Nat → FieldType := fun k => ([.array .int, .array .int, .array .int, .array .int, .int, .array .int, .array .int, .int] : List FieldType).getD k .int
theorem cz_9 : ∀ k, k < 8 → parseFieldDescriptor (cf_9 k).2.2.1 = some (cy_9 k) := by decide +kernel
theorem cm_9 : ∀ a, a < 8 → ∀ b, b < 8 → a ≠ b → (cf_9 a).2.1 ≠ (cf_9 b).2.1 := by decide +kernel
set_option maxRecDepth 1000000 in
theorem cw_10 : gx_w lw_tbs (u_ws cn_10 cf_10 6) [1176, 1178, 1180, 1182, 1184, 1186] = true := by decide +kernel
def cy_10 : Nat → FieldType := fun k => ([.object "SleptFor$Folk", .object "SleptFor$Night", .object "SleptFor$Steps", .array .int, .int, .int] : List FieldType).getD k .int
theorem cz_10 : ∀ k, k < 6 → parseFieldDescriptor (cf_10 k).2.2.1 = some (cy_10 k) := by decide +kernel
theorem cm_10 : ∀ a, a < 6 → ∀ b, b < 6 → a ≠ b → (cf_10 a).2.1 ≠ (cf_10 b).2.1 := by decide +kernel
set_option maxRecDepth 1000000 in
theorem cw_11 : gx_w lw_tbs (u_ws cn_11 cf_11 12) [2224, 2226, 2228, 2230, 2232, 2234, 2236, 2238, 3000, 3002, 3004, 3006] = true := by decide +kernel
def cy_11 : Nat → FieldType := fun k => ([.object "SleptFor$Valley", .object "SleptFor$Valley", .array (.object "SleptFor$Text"), .array .int, .int, .object "SleptFor$Reader", .object "SleptFor$Laws", .object "SleptFor$Clock", .object "SleptFor$Night", .object "SleptFor$Pairing", .object "SleptFor$Rota", .object "SleptFor$Questions"] : List FieldType).getD k .int
theorem cz_11 : ∀ k, k < 12 → parseFieldDescriptor (cf_11 k).2.2.1 = some (cy_11 k) := by decide +kernel
theorem cm_11 : ∀ a, a < 12 → ∀ b, b < 12 → a ≠ b → (cf_11 a).2.1 ≠ (cf_11 b).2.1 := by decide +kernel
set_option maxRecDepth 1000000 in
theorem cw_12 : gx_w lw_tbs (u_ws cn_12 cf_12 66) [6041, 6043, 6045, 6047, 6049, 6051, 6053, 6055, 6057, 6059, 6061, 6063, 6065, 6067, 6069, 6071, 6073, 6075, 6077, 6079, 6081, 6083, 6085, 6087, 6089, 6091, 6093, 6095, 6097, 6099, 6101, 6103, 6105, 6107, 6109, 6111, 6113, 6115, 6117, 6119, 6121, 6123, 6125, 6127, 6129, 6131, 6133, 6135, 6137, 6139, 6141, 6143, 6145, 6147, 6149, 6151, 6153, 6155, 6157, 6159, 6161, 6163, 6165, 6167, 6169, 6171] = true := by decide +kernel
def cy_12 : Nat → FieldType := fun k => ([.array .int, .array .int, .array .byte, .int, .int, .int, .array .int, .array .int, .array .int, .array .int, .array .int, .array .int, .array .int, .array .int, .int, .int, .int, .int, .int, .int, .int, .int, .int, .array .int, .array .int, .int, .array .int, .array .int, .int, .array .int, .int, .int, .array .int, .array .int, .array .int, .array .int, .array .int, .int, .array .int, .array .int, .array .int, .array .long, .int, .int, .array .int, .array .int, .array .int, .array .int, .array .int, .array .int, .int, .int, .int, .array .int, .array .int, .array .int, .array .int, .array .int, .int, .int, .array .int, .array .int, .array .int, .array .int, .array .int, .array .int] : List FieldType).getD k .int
theorem cz_12 : ∀ k, k < 66 → parseFieldDescriptor (cf_12 k).2.2.1 = some (cy_12 k) := by decide +kernel
theorem cm_12 : ∀ a, a < 66 → ∀ b, b < 66 → a ≠ b → (cf_12 a).2.1 ≠ (cf_12 b).2.1 := by decide +kernel
theorem cl0_ok : gx_Cl cl0 lw_tbs := by
  intro ci C F N h
  have hlt : ci < 13 := (List.getElem?_eq_some_iff.mp h).1
  by_cases h0 : ci = 0
  · subst h0; cases h; exact ⟨gx_w_mem cw_0, ⟨cy_0, cz_0⟩, cm_0⟩
  by_cases h1 : ci = 1
  · subst h1; cases h; exact ⟨gx_w_mem cw_1, ⟨cy_1, cz_1⟩, cm_1⟩
  by_cases h2 : ci = 2
  · subst h2; cases h; exact ⟨gx_w_mem cw_2, ⟨cy_2, cz_2⟩, cm_2⟩
  by_cases h3 : ci = 3
  · subst h3; cases h; exact ⟨gx_w_mem cw_3, ⟨cy_3, cz_3⟩, cm_3⟩
  by_cases h4 : ci = 4
  · subst h4; cases h; exact ⟨gx_w_mem cw_4, ⟨cy_4, cz_4⟩, cm_4⟩
  by_cases h5 : ci = 5
  · subst h5; cases h; exact ⟨gx_w_mem cw_5, ⟨cy_5, cz_5⟩, cm_5⟩
  by_cases h6 : ci = 6
  · subst h6; cases h; exact ⟨gx_w_mem cw_6, ⟨cy_6, cz_6⟩, cm_6⟩
  by_cases h7 : ci = 7
  · subst h7; cases h; exact ⟨gx_w_mem cw_7, ⟨cy_7, cz_7⟩, cm_7⟩
  by_cases h8 : ci = 8
  · subst h8; cases h; exact ⟨gx_w_mem cw_8, ⟨cy_8, cz_8⟩, cm_8⟩
  by_cases h9 : ci = 9
  · subst h9; cases h; exact ⟨gx_w_mem cw_9, ⟨cy_9, cz_9⟩, cm_9⟩
  by_cases h10 : ci = 10
  · subst h10; cases h; exact ⟨gx_w_mem cw_10, ⟨cy_10, cz_10⟩, cm_10⟩
  by_cases h11 : ci = 11
  · subst h11; cases h; exact ⟨gx_w_mem cw_11, ⟨cy_11, cz_11⟩, cm_11⟩
  by_cases h12 : ci = 12
  · subst h12; cases h; exact ⟨gx_w_mem cw_12, ⟨cy_12, cz_12⟩, cm_12⟩
  omega
