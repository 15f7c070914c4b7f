def tbG : List Cond := lw_tbs.flatten.filter goodWord
theorem tbG_good : ∀ w ∈ tbG, goodWord w = true := fun w h => (List.mem_filter.mp h).2
theorem tbG_in : ∀ w ∈ tbG, w ∈ lw_tbl := fun w h => lw_tbs_in w (List.mem_filter.mp h).1
theorem tb_m {i j : Nat} {l : List Cond} {w : Cond} (h1 : gx_nth lw_tbs i = some l) (h2 : gx_nth l j = some w) (h3 : goodWord w = true) : w ∈ tbG := gx_fm h1 h2 h3
theorem cw_0_0 : u_lay cn_0 cf_0 0 ∈ tbG := tb_m (i := 2) (j := 81) rfl rfl rfl
theorem cw_0_1 : u_lay cn_0 cf_0 1 ∈ tbG := tb_m (i := 2) (j := 83) rfl rfl rfl
theorem cw_0_2 : u_lay cn_0 cf_0 2 ∈ tbG := tb_m (i := 2) (j := 85) rfl rfl rfl
theorem cw_0_3 : u_lay cn_0 cf_0 3 ∈ tbG := tb_m (i := 2) (j := 87) rfl rfl rfl
theorem cw_0_4 : u_lay cn_0 cf_0 4 ∈ tbG := tb_m (i := 2) (j := 89) rfl rfl rfl
theorem cw_0_5 : u_lay cn_0 cf_0 5 ∈ tbG := tb_m (i := 2) (j := 91) rfl rfl rfl
theorem cw_0_6 : u_lay cn_0 cf_0 6 ∈ tbG := tb_m (i := 2) (j := 93) rfl rfl rfl
theorem cw_0 : ∀ w ∈ u_ws cn_0 cf_0 7, w ∈ tbG := by
  show ∀ w ∈ [u_lay cn_0 cf_0 0, u_lay cn_0 cf_0 1, u_lay cn_0 cf_0 2, u_lay cn_0 cf_0 3, u_lay cn_0 cf_0 4, u_lay cn_0 cf_0 5, u_lay cn_0 cf_0 6], w ∈ tbG
  exact List.forall_mem_cons.mpr ⟨cw_0_0, List.forall_mem_cons.mpr ⟨cw_0_1, List.forall_mem_cons.mpr ⟨cw_0_2, List.forall_mem_cons.mpr ⟨cw_0_3, List.forall_mem_cons.mpr ⟨cw_0_4, List.forall_mem_cons.mpr ⟨cw_0_5, List.forall_mem_cons.mpr ⟨cw_0_6, fun _ h => absurd h List.not_mem_nil⟩⟩⟩⟩⟩⟩⟩
def cy_0 : Nat → FieldType := fun k => ([.object "SleptFor$Folk", .object "SleptFor$Laws", .array .int, .array .int, .int, .int, .int] : List FieldType).getD k .int
theorem cz_0 : ∀ k, k < 7 → parseFieldDescriptor (cf_0 k).2.2.1 = some (cy_0 k) := by decide +kernel
theorem cm_0 : ∀ a, a < 7 → ∀ b, b < 7 → a ≠ b → (cf_0 a).2.1 ≠ (cf_0 b).2.1 := by decide +kernel
theorem cw_1_0 : u_lay cn_1 cf_1 0 ∈ tbG := tb_m (i := 1) (j := 65) rfl rfl rfl
theorem cw_1_1 : u_lay cn_1 cf_1 1 ∈ tbG := tb_m (i := 1) (j := 67) rfl rfl rfl
theorem cw_1_2 : u_lay cn_1 cf_1 2 ∈ tbG := tb_m (i := 1) (j := 69) rfl rfl rfl
theorem cw_1_3 : u_lay cn_1 cf_1 3 ∈ tbG := tb_m (i := 1) (j := 71) rfl rfl rfl
theorem cw_1_4 : u_lay cn_1 cf_1 4 ∈ tbG := tb_m (i := 1) (j := 73) rfl rfl rfl
theorem cw_1_5 : u_lay cn_1 cf_1 5 ∈ tbG := tb_m (i := 1) (j := 75) rfl rfl rfl
theorem cw_1_6 : u_lay cn_1 cf_1 6 ∈ tbG := tb_m (i := 1) (j := 77) rfl rfl rfl
theorem cw_1_7 : u_lay cn_1 cf_1 7 ∈ tbG := tb_m (i := 1) (j := 79) rfl rfl rfl
theorem cw_1 : ∀ w ∈ u_ws cn_1 cf_1 8, w ∈ tbG := by
  show ∀ w ∈ [u_lay cn_1 cf_1 0, u_lay cn_1 cf_1 1, u_lay cn_1 cf_1 2, u_lay cn_1 cf_1 3, u_lay cn_1 cf_1 4, u_lay cn_1 cf_1 5, u_lay cn_1 cf_1 6, u_lay cn_1 cf_1 7], w ∈ tbG
  exact List.forall_mem_cons.mpr ⟨cw_1_0, List.forall_mem_cons.mpr ⟨cw_1_1, List.forall_mem_cons.mpr ⟨cw_1_2, List.forall_mem_cons.mpr ⟨cw_1_3, List.forall_mem_cons.mpr ⟨cw_1_4, List.forall_mem_cons.mpr ⟨cw_1_5, List.forall_mem_cons.mpr ⟨cw_1_6, List.forall_mem_cons.mpr ⟨cw_1_7, fun _ h => absurd h List.not_mem_nil⟩⟩⟩⟩⟩⟩⟩⟩
def cy_1 : Nat → FieldType := fun k => ([.int, .int, .array .int, .array .int, .array .int, .array .int, .array .int, .array .int] : List FieldType).getD k .int
theorem cz_1 : ∀ k, k < 8 → parseFieldDescriptor (cf_1 k).2.2.1 = some (cy_1 k) := by decide +kernel
theorem cm_1 : ∀ a, a < 8 → ∀ b, b < 8 → a ≠ b → (cf_1 a).2.1 ≠ (cf_1 b).2.1 := by decide +kernel
theorem cw_2_0 : u_lay cn_2 cf_2 0 ∈ tbG := tb_m (i := 2) (j := 56) rfl rfl rfl
theorem cw_2_1 : u_lay cn_2 cf_2 1 ∈ tbG := tb_m (i := 2) (j := 58) rfl rfl rfl
theorem cw_2_2 : u_lay cn_2 cf_2 2 ∈ tbG := tb_m (i := 2) (j := 60) rfl rfl rfl
theorem cw_2_3 : u_lay cn_2 cf_2 3 ∈ tbG := tb_m (i := 2) (j := 62) rfl rfl rfl
theorem cw_2 : ∀ w ∈ u_ws cn_2 cf_2 4, w ∈ tbG := by
  show ∀ w ∈ [u_lay cn_2 cf_2 0, u_lay cn_2 cf_2 1, u_lay cn_2 cf_2 2, u_lay cn_2 cf_2 3], w ∈ tbG
  exact List.forall_mem_cons.mpr ⟨cw_2_0, List.forall_mem_cons.mpr ⟨cw_2_1, List.forall_mem_cons.mpr ⟨cw_2_2, List.forall_mem_cons.mpr ⟨cw_2_3, fun _ h => absurd h List.not_mem_nil⟩⟩⟩⟩
def cy_2 : Nat → FieldType := fun k => ([.object "SleptFor$Valley", .array (.object "SleptFor$Text"), .array .int, .array .int] : List FieldType).getD k .int
theorem cz_2 : ∀ k, k < 4 → parseFieldDescriptor (cf_2 k).2.2.1 = some (cy_2 k) := by decide +kernel
theorem cm_2 : ∀ a, a < 4 → ∀ b, b < 4 → a ≠ b → (cf_2 a).2.1 ≠ (cf_2 b).2.1 := by decide +kernel
theorem cw_3_0 : u_lay cn_3 cf_3 0 ∈ tbG := tb_m (i := 1) (j := 123) rfl rfl rfl
theorem cw_3_1 : u_lay cn_3 cf_3 1 ∈ tbG := tb_m (i := 1) (j := 125) rfl rfl rfl
theorem cw_3_2 : u_lay cn_3 cf_3 2 ∈ tbG := tb_m (i := 1) (j := 127) rfl rfl rfl
theorem cw_3_3 : u_lay cn_3 cf_3 3 ∈ tbG := tb_m (i := 1) (j := 129) rfl rfl rfl
theorem cw_3_4 : u_lay cn_3 cf_3 4 ∈ tbG := tb_m (i := 1) (j := 131) rfl rfl rfl
theorem cw_3_5 : u_lay cn_3 cf_3 5 ∈ tbG := tb_m (i := 1) (j := 133) rfl rfl rfl
theorem cw_3_6 : u_lay cn_3 cf_3 6 ∈ tbG := tb_m (i := 1) (j := 135) rfl rfl rfl
theorem cw_3_7 : u_lay cn_3 cf_3 7 ∈ tbG := tb_m (i := 1) (j := 137) rfl rfl rfl
theorem cw_3 : ∀ w ∈ u_ws cn_3 cf_3 8, w ∈ tbG := by
  show ∀ w ∈ [u_lay cn_3 cf_3 0, u_lay cn_3 cf_3 1, u_lay cn_3 cf_3 2, u_lay cn_3 cf_3 3, u_lay cn_3 cf_3 4, u_lay cn_3 cf_3 5, u_lay cn_3 cf_3 6, u_lay cn_3 cf_3 7], w ∈ tbG
  exact List.forall_mem_cons.mpr ⟨cw_3_0, List.forall_mem_cons.mpr ⟨cw_3_1, List.forall_mem_cons.mpr ⟨cw_3_2, List.forall_mem_cons.mpr ⟨cw_3_3, List.forall_mem_cons.mpr ⟨cw_3_4, List.forall_mem_cons.mpr ⟨cw_3_5, List.forall_mem_cons.mpr ⟨cw_3_6, List.forall_mem_cons.mpr ⟨cw_3_7, fun _ h => absurd h List.not_mem_nil⟩⟩⟩⟩⟩⟩⟩⟩
def cy_3 : Nat → FieldType := fun k => ([.array .int, .array .int, .array .int, .array .int, .array .int, .array .int, .int, .int] : List FieldType).getD k .int
theorem cz_3 : ∀ k, k < 8 → parseFieldDescriptor (cf_3 k).2.2.1 = some (cy_3 k) := by decide +kernel
theorem cm_3 : ∀ a, a < 8 → ∀ b, b < 8 → a ≠ b → (cf_3 a).2.1 ≠ (cf_3 b).2.1 := by decide +kernel
theorem cw_4_0 : u_lay cn_4 cf_4 0 ∈ tbG := tb_m (i := 2) (j := 121) rfl rfl rfl
theorem cw_4_1 : u_lay cn_4 cf_4 1 ∈ tbG := tb_m (i := 2) (j := 123) rfl rfl rfl
theorem cw_4_2 : u_lay cn_4 cf_4 2 ∈ tbG := tb_m (i := 2) (j := 125) rfl rfl rfl
theorem cw_4_3 : u_lay cn_4 cf_4 3 ∈ tbG := tb_m (i := 2) (j := 127) rfl rfl rfl
theorem cw_4_4 : u_lay cn_4 cf_4 4 ∈ tbG := tb_m (i := 2) (j := 129) rfl rfl rfl
theorem cw_4_5 : u_lay cn_4 cf_4 5 ∈ tbG := tb_m (i := 2) (j := 131) rfl rfl rfl
theorem cw_4_6 : u_lay cn_4 cf_4 6 ∈ tbG := tb_m (i := 2) (j := 133) rfl rfl rfl
theorem cw_4_7 : u_lay cn_4 cf_4 7 ∈ tbG := tb_m (i := 2) (j := 135) rfl rfl rfl
theorem cw_4_8 : u_lay cn_4 cf_4 8 ∈ tbG := tb_m (i := 2) (j := 137) rfl rfl rfl
theorem cw_4_9 : u_lay cn_4 cf_4 9 ∈ tbG := tb_m (i := 2) (j := 139) rfl rfl rfl
theorem cw_4_10 : u_lay cn_4 cf_4 10 ∈ tbG := tb_m (i := 2) (j := 141) rfl rfl rfl
theorem cw_4_11 : u_lay cn_4 cf_4 11 ∈ tbG := tb_m (i := 2) (j := 143) rfl rfl rfl
theorem cw_4_12 : u_lay cn_4 cf_4 12 ∈ tbG := tb_m (i := 2) (j := 145) rfl rfl rfl
theorem cw_4_13 : u_lay cn_4 cf_4 13 ∈ tbG := tb_m (i := 2) (j := 147) rfl rfl rfl
theorem cw_4_14 : u_lay cn_4 cf_4 14 ∈ tbG := tb_m (i := 2) (j := 149) rfl rfl rfl
theorem cw_4_15 : u_lay cn_4 cf_4 15 ∈ tbG := tb_m (i := 2) (j := 151) rfl rfl rfl
theorem cw_4 : ∀ w ∈ u_ws cn_4 cf_4 16, w ∈ tbG := by
  show ∀ w ∈ [u_lay cn_4 cf_4 0, u_lay cn_4 cf_4 1, u_lay cn_4 cf_4 2, u_lay cn_4 cf_4 3, u_lay cn_4 cf_4 4, u_lay cn_4 cf_4 5, u_lay cn_4 cf_4 6, u_lay cn_4 cf_4 7, u_lay cn_4 cf_4 8, u_lay cn_4 cf_4 9, u_lay cn_4 cf_4 10, u_lay cn_4 cf_4 11, u_lay cn_4 cf_4 12, u_lay cn_4 cf_4 13, u_lay cn_4 cf_4 14, u_lay cn_4 cf_4 15], w ∈ tbG
  exact List.forall_mem_cons.mpr ⟨cw_4_0, List.forall_mem_cons.mpr ⟨cw_4_1, List.forall_mem_cons.mpr ⟨cw_4_2, List.forall_mem_cons.mpr ⟨cw_4_3, List.forall_mem_cons.mpr ⟨cw_4_4, List.forall_mem_cons.mpr ⟨cw_4_5, List.forall_mem_cons.mpr ⟨cw_4_6, List.forall_mem_cons.mpr ⟨cw_4_7, List.forall_mem_cons.mpr ⟨cw_4_8, List.forall_mem_cons.mpr ⟨cw_4_9, List.forall_mem_cons.mpr ⟨cw_4_10, List.forall_mem_cons.mpr ⟨cw_4_11, List.forall_mem_cons.mpr ⟨cw_4_12, List.forall_mem_cons.mpr ⟨cw_4_13, List.forall_mem_cons.mpr ⟨cw_4_14, List.forall_mem_cons.mpr ⟨cw_4_15, fun _ h => absurd h List.not_mem_nil⟩⟩⟩⟩⟩⟩⟩⟩⟩⟩⟩⟩⟩⟩⟩⟩
def cy_4 : Nat → FieldType := fun k => ([.object "SleptFor$Valley", .object "SleptFor$Laws", .array .int, .array .int, .int, .int, .array .int, .array .int, .array .int, .array .int, .int, .array .int, .array .int, .array .int, .int, .int] : List FieldType).getD k .int
theorem cz_4 : ∀ k, k < 16 → parseFieldDescriptor (cf_4 k).2.2.1 = some (cy_4 k) := by decide +kernel
theorem cm_4 : ∀ a, a < 16 → ∀ b, b < 16 → a ≠ b → (cf_4 a).2.1 ≠ (cf_4 b).2.1 := by decide +kernel
theorem cw_5_0 : u_lay cn_5 cf_5 0 ∈ tbG := tb_m (i := 2) (j := 198) rfl rfl rfl
theorem cw_5_1 : u_lay cn_5 cf_5 1 ∈ tbG := tb_m (i := 2) (j := 200) rfl rfl rfl
theorem cw_5_2 : u_lay cn_5 cf_5 2 ∈ tbG := tb_m (i := 2) (j := 202) rfl rfl rfl
theorem cw_5_3 : u_lay cn_5 cf_5 3 ∈ tbG := tb_m (i := 2) (j := 204) rfl rfl rfl
theorem cw_5_4 : u_lay cn_5 cf_5 4 ∈ tbG := tb_m (i := 2) (j := 206) rfl rfl rfl
theorem cw_5_5 : u_lay cn_5 cf_5 5 ∈ tbG := tb_m (i := 2) (j := 208) rfl rfl rfl
theorem cw_5 : ∀ w ∈ u_ws cn_5 cf_5 6, w ∈ tbG := by
  show ∀ w ∈ [u_lay cn_5 cf_5 0, u_lay cn_5 cf_5 1, u_lay cn_5 cf_5 2, u_lay cn_5 cf_5 3, u_lay cn_5 cf_5 4, u_lay cn_5 cf_5 5], w ∈ tbG
  exact List.forall_mem_cons.mpr ⟨cw_5_0, List.forall_mem_cons.mpr ⟨cw_5_1, List.forall_mem_cons.mpr ⟨cw_5_2, List.forall_mem_cons.mpr ⟨cw_5_3, List.forall_mem_cons.mpr ⟨cw_5_4, List.forall_mem_cons.mpr ⟨cw_5_5, fun _ h => absurd h List.not_mem_nil⟩⟩⟩⟩⟩⟩
def cy_5 : Nat → FieldType := fun k => ([.object "SleptFor$Valley", .object "SleptFor$Laws", .object "SleptFor$Clock", .array .int, .array .int, .array .int] : List FieldType).getD k .int
theorem cz_5 : ∀ k, k < 6 → parseFieldDescriptor (cf_5 k).2.2.1 = some (cy_5 k) := by decide +kernel
theorem cm_5 : ∀ a, a < 6 → ∀ b, b < 6 → a ≠ b → (cf_5 a).2.1 ≠ (cf_5 b).2.1 := by decide +kernel
theorem cw_6_0 : u_lay cn_6 cf_6 0 ∈ tbG := tb_m (i := 2) (j := 19) rfl rfl rfl
theorem cw_6_1 : u_lay cn_6 cf_6 1 ∈ tbG := tb_m (i := 2) (j := 21) rfl rfl rfl
theorem cw_6_2 : u_lay cn_6 cf_6 2 ∈ tbG := tb_m (i := 2) (j := 23) rfl rfl rfl
theorem cw_6_3 : u_lay cn_6 cf_6 3 ∈ tbG := tb_m (i := 2) (j := 25) rfl rfl rfl
theorem cw_6_4 : u_lay cn_6 cf_6 4 ∈ tbG := tb_m (i := 2) (j := 27) rfl rfl rfl
theorem cw_6_5 : u_lay cn_6 cf_6 5 ∈ tbG := tb_m (i := 2) (j := 29) rfl rfl rfl
theorem cw_6_6 : u_lay cn_6 cf_6 6 ∈ tbG := tb_m (i := 2) (j := 31) rfl rfl rfl
theorem cw_6_7 : u_lay cn_6 cf_6 7 ∈ tbG := tb_m (i := 2) (j := 33) rfl rfl rfl
theorem cw_6_8 : u_lay cn_6 cf_6 8 ∈ tbG := tb_m (i := 2) (j := 35) rfl rfl rfl
theorem cw_6_9 : u_lay cn_6 cf_6 9 ∈ tbG := tb_m (i := 2) (j := 37) rfl rfl rfl
theorem cw_6_10 : u_lay cn_6 cf_6 10 ∈ tbG := tb_m (i := 2) (j := 39) rfl rfl rfl
theorem cw_6_11 : u_lay cn_6 cf_6 11 ∈ tbG := tb_m (i := 2) (j := 41) rfl rfl rfl
theorem cw_6_12 : u_lay cn_6 cf_6 12 ∈ tbG := tb_m (i := 2) (j := 43) rfl rfl rfl
theorem cw_6 : ∀ w ∈ u_ws cn_6 cf_6 13, w ∈ tbG := by
  show ∀ w ∈ [u_lay cn_6 cf_6 0, u_lay cn_6 cf_6 1, u_lay cn_6 cf_6 2, u_lay cn_6 cf_6 3, u_lay cn_6 cf_6 4, u_lay cn_6 cf_6 5, u_lay cn_6 cf_6 6, u_lay cn_6 cf_6 7, u_lay cn_6 cf_6 8, u_lay cn_6 cf_6 9, u_lay cn_6 cf_6 10, u_lay cn_6 cf_6 11, u_lay cn_6 cf_6 12], w ∈ tbG
  exact List.forall_mem_cons.mpr ⟨cw_6_0, List.forall_mem_cons.mpr ⟨cw_6_1, List.forall_mem_cons.mpr ⟨cw_6_2, List.forall_mem_cons.mpr ⟨cw_6_3, List.forall_mem_cons.mpr ⟨cw_6_4, List.forall_mem_cons.mpr ⟨cw_6_5, List.forall_mem_cons.mpr ⟨cw_6_6, List.forall_mem_cons.mpr ⟨cw_6_7, List.forall_mem_cons.mpr ⟨cw_6_8, List.forall_mem_cons.mpr ⟨cw_6_9, List.forall_mem_cons.mpr ⟨cw_6_10, List.forall_mem_cons.mpr ⟨cw_6_11, List.forall_mem_cons.mpr ⟨cw_6_12, fun _ h => absurd h List.not_mem_nil⟩⟩⟩⟩⟩⟩⟩⟩⟩⟩⟩⟩⟩
def cy_6 : Nat → FieldType := fun k => ([.array .int, .int, .int, .array .int, .array .int, .array .int, .int, .int, .int, .int, .object "SleptFor$Text", .int, .int] : List FieldType).getD k .int
theorem cz_6 : ∀ k, k < 13 → parseFieldDescriptor (cf_6 k).2.2.1 = some (cy_6 k) := by decide +kernel
theorem cm_6 : ∀ a, a < 13 → ∀ b, b < 13 → a ≠ b → (cf_6 a).2.1 ≠ (cf_6 b).2.1 := by decide +kernel
theorem cw_7_0 : u_lay cn_7 cf_7 0 ∈ tbG := tb_m (i := 2) (j := 169) rfl rfl rfl
theorem cw_7_1 : u_lay cn_7 cf_7 1 ∈ tbG := tb_m (i := 2) (j := 171) rfl rfl rfl
theorem cw_7_2 : u_lay cn_7 cf_7 2 ∈ tbG := tb_m (i := 2) (j := 173) rfl rfl rfl
theorem cw_7_3 : u_lay cn_7 cf_7 3 ∈ tbG := tb_m (i := 2) (j := 175) rfl rfl rfl
theorem cw_7_4 : u_lay cn_7 cf_7 4 ∈ tbG := tb_m (i := 2) (j := 177) rfl rfl rfl
theorem cw_7_5 : u_lay cn_7 cf_7 5 ∈ tbG := tb_m (i := 2) (j := 179) rfl rfl rfl
theorem cw_7_6 : u_lay cn_7 cf_7 6 ∈ tbG := tb_m (i := 2) (j := 181) rfl rfl rfl
theorem cw_7_7 : u_lay cn_7 cf_7 7 ∈ tbG := tb_m (i := 2) (j := 183) rfl rfl rfl
theorem cw_7 : ∀ w ∈ u_ws cn_7 cf_7 8, w ∈ tbG := by
  show ∀ w ∈ [u_lay cn_7 cf_7 0, u_lay cn_7 cf_7 1, u_lay cn_7 cf_7 2, u_lay cn_7 cf_7 3, u_lay cn_7 cf_7 4, u_lay cn_7 cf_7 5, u_lay cn_7 cf_7 6, u_lay cn_7 cf_7 7], w ∈ tbG
  exact List.forall_mem_cons.mpr ⟨cw_7_0, List.forall_mem_cons.mpr ⟨cw_7_1, List.forall_mem_cons.mpr ⟨cw_7_2, List.forall_mem_cons.mpr ⟨cw_7_3, List.forall_mem_cons.mpr ⟨cw_7_4, List.forall_mem_cons.mpr ⟨cw_7_5, List.forall_mem_cons.mpr ⟨cw_7_6, List.forall_mem_cons.mpr ⟨cw_7_7, fun _ h => absurd h List.not_mem_nil⟩⟩⟩⟩⟩⟩⟩⟩
def cy_7 : Nat → FieldType := fun k => ([.int, .int, .int, .int, .array .int, .array .int, .array .int, .int] : List FieldType).getD k .int
theorem cz_7 : ∀ k, k < 8 → parseFieldDescriptor (cf_7 k).2.2.1 = some (cy_7 k) := by decide +kernel
theorem cm_7 : ∀ a, a < 8 → ∀ b, b < 8 → a ≠ b → (cf_7 a).2.1 ≠ (cf_7 b).2.1 := by decide +kernel
theorem cw_8_0 : u_lay cn_8 cf_8 0 ∈ tbG := tb_m (i := 1) (j := 150) rfl rfl rfl
theorem cw_8_1 : u_lay cn_8 cf_8 1 ∈ tbG := tb_m (i := 1) (j := 152) rfl rfl rfl
theorem cw_8_2 : u_lay cn_8 cf_8 2 ∈ tbG := tb_m (i := 1) (j := 154) rfl rfl rfl
theorem cw_8 : ∀ w ∈ u_ws cn_8 cf_8 3, w ∈ tbG := by
  show ∀ w ∈ [u_lay cn_8 cf_8 0, u_lay cn_8 cf_8 1, u_lay cn_8 cf_8 2], w ∈ tbG
  exact List.forall_mem_cons.mpr ⟨cw_8_0, List.forall_mem_cons.mpr ⟨cw_8_1, List.forall_mem_cons.mpr ⟨cw_8_2, fun _ h => absurd h List.not_mem_nil⟩⟩⟩
def cy_8 : Nat → FieldType := fun k => ([.array .int, .int, .int] : List FieldType).getD k .int
theorem cz_8 : ∀ k, k < 3 → parseFieldDescriptor (cf_8 k).2.2.1 = some (cy_8 k) := by decide +kernel
theorem cm_8 : ∀ a, a < 3 → ∀ b, b < 3 → a ≠ b → (cf_8 a).2.1 ≠ (cf_8 b).2.1 := by decide +kernel
theorem cw_9_0 : u_lay cn_9 cf_9 0 ∈ tbG := tb_m (i := 1) (j := 226) rfl rfl rfl
theorem cw_9_1 : u_lay cn_9 cf_9 1 ∈ tbG := tb_m (i := 1) (j := 228) rfl rfl rfl
theorem cw_9_2 : u_lay cn_9 cf_9 2 ∈ tbG := tb_m (i := 1) (j := 230) rfl rfl rfl
theorem cw_9_3 : u_lay cn_9 cf_9 3 ∈ tbG := tb_m (i := 1) (j := 232) rfl rfl rfl
theorem cw_9_4 : u_lay cn_9 cf_9 4 ∈ tbG := tb_m (i := 1) (j := 234) rfl rfl rfl
theorem cw_9_5 : u_lay cn_9 cf_9 5 ∈ tbG := tb_m (i := 1) (j := 236) rfl rfl rfl
theorem cw_9_6 : u_lay cn_9 cf_9 6 ∈ tbG := tb_m (i := 1) (j := 238) rfl rfl rfl
theorem cw_9_7 : u_lay cn_9 cf_9 7 ∈ tbG := tb_m (i := 2) (j := 0) rfl rfl rfl
theorem cw_9 : ∀ w ∈ u_ws cn_9 cf_9 8, w ∈ tbG := by
  show ∀ w ∈ [u_lay cn_9 cf_9 0, u_lay cn_9 cf_9 1, u_lay cn_9 cf_9 2, u_lay cn_9 cf_9 3, u_lay cn_9 cf_9 4, u_lay cn_9 cf_9 5, u_lay cn_9 cf_9 6, u_lay cn_9 cf_9 7], w ∈ tbG
  exact List.forall_mem_cons.mpr ⟨cw_9_0, List.forall_mem_cons.mpr ⟨cw_9_1, List.forall_mem_cons.mpr ⟨cw_9_2, List.forall_mem_cons.mpr ⟨cw_9_3, List.forall_mem_cons.mpr ⟨cw_9_4, List.forall_mem_cons.mpr ⟨cw_9_5, List.forall_mem_cons.mpr ⟨cw_9_6, List.forall_mem_cons.mpr ⟨cw_9_7, fun _ h => absurd h List.not_mem_nil⟩⟩⟩⟩⟩⟩⟩⟩
def cy_9 : Nat → FieldType := fun k => ([.array .int, .array .int, .array .int, .array .int, .int, .array .int, .array .int, .int] : List FieldType).getD k .int
theorem cz_9 : ∀ k, k < 8 → parseFieldDescriptor (cf_9 k).2.2.1 = some (cy_9 k) := by decide +kernel
theorem cm_9 : ∀ a, a < 8 → ∀ b, b < 8 → a ≠ b → (cf_9 a).2.1 ≠ (cf_9 b).2.1 := by decide +kernel
theorem cw_10_0 : u_lay cn_10 cf_10 0 ∈ tbG := tb_m (i := 1) (j := 176) rfl rfl rfl
theorem cw_10_1 : u_lay cn_10 cf_10 1 ∈ tbG := tb_m (i := 1) (j := 178) rfl rfl rfl
theorem cw_10_2 : u_lay cn_10 cf_10 2 ∈ tbG := tb_m (i := 1) (j := 180) rfl rfl rfl
theorem cw_10_3 : u_lay cn_10 cf_10 3 ∈ tbG := tb_m (i := 1) (j := 182) rfl rfl rfl
theorem cw_10_4 : u_lay cn_10 cf_10 4 ∈ tbG := tb_m (i := 1) (j := 184) rfl rfl rfl
theorem cw_10_5 : u_lay cn_10 cf_10 5 ∈ tbG := tb_m (i := 1) (j := 186) rfl rfl rfl
theorem cw_10 : ∀ w ∈ u_ws cn_10 cf_10 6, w ∈ tbG := by
  show ∀ w ∈ [u_lay cn_10 cf_10 0, u_lay cn_10 cf_10 1, u_lay cn_10 cf_10 2, u_lay cn_10 cf_10 3, u_lay cn_10 cf_10 4, u_lay cn_10 cf_10 5], w ∈ tbG
  exact List.forall_mem_cons.mpr ⟨cw_10_0, List.forall_mem_cons.mpr ⟨cw_10_1, List.forall_mem_cons.mpr ⟨cw_10_2, List.forall_mem_cons.mpr ⟨cw_10_3, List.forall_mem_cons.mpr ⟨cw_10_4, List.forall_mem_cons.mpr ⟨cw_10_5, fun _ h => absurd h List.not_mem_nil⟩⟩⟩⟩⟩⟩
def cy_10 : Nat → FieldType := fun k => ([.object "SleptFor$Folk", .object "SleptFor$Night", .object "SleptFor$Steps", .array .int, .int, .int] : List FieldType).getD k .int
theorem cz_10 : ∀ k, k < 6 → parseFieldDescriptor (cf_10 k).2.2.1 = some (cy_10 k) := by decide +kernel
theorem cm_10 : ∀ a, a < 6 → ∀ b, b < 6 → a ≠ b → (cf_10 a).2.1 ≠ (cf_10 b).2.1 := by decide +kernel
theorem cw_11_0 : u_lay cn_11 cf_11 0 ∈ tbG := tb_m (i := 2) (j := 224) rfl rfl rfl
theorem cw_11_1 : u_lay cn_11 cf_11 1 ∈ tbG := tb_m (i := 2) (j := 226) rfl rfl rfl
theorem cw_11_2 : u_lay cn_11 cf_11 2 ∈ tbG := tb_m (i := 2) (j := 228) rfl rfl rfl
theorem cw_11_3 : u_lay cn_11 cf_11 3 ∈ tbG := tb_m (i := 2) (j := 230) rfl rfl rfl
theorem cw_11_4 : u_lay cn_11 cf_11 4 ∈ tbG := tb_m (i := 2) (j := 232) rfl rfl rfl
theorem cw_11_5 : u_lay cn_11 cf_11 5 ∈ tbG := tb_m (i := 2) (j := 234) rfl rfl rfl
theorem cw_11_6 : u_lay cn_11 cf_11 6 ∈ tbG := tb_m (i := 2) (j := 236) rfl rfl rfl
theorem cw_11_7 : u_lay cn_11 cf_11 7 ∈ tbG := tb_m (i := 2) (j := 238) rfl rfl rfl
theorem cw_11_8 : u_lay cn_11 cf_11 8 ∈ tbG := tb_m (i := 3) (j := 0) rfl rfl rfl
theorem cw_11_9 : u_lay cn_11 cf_11 9 ∈ tbG := tb_m (i := 3) (j := 2) rfl rfl rfl
theorem cw_11_10 : u_lay cn_11 cf_11 10 ∈ tbG := tb_m (i := 3) (j := 4) rfl rfl rfl
theorem cw_11_11 : u_lay cn_11 cf_11 11 ∈ tbG := tb_m (i := 3) (j := 6) rfl rfl rfl
theorem cw_11 : ∀ w ∈ u_ws cn_11 cf_11 12, w ∈ tbG := by
  show ∀ w ∈ [u_lay cn_11 cf_11 0, u_lay cn_11 cf_11 1, u_lay cn_11 cf_11 2, u_lay cn_11 cf_11 3, u_lay cn_11 cf_11 4, u_lay cn_11 cf_11 5, u_lay cn_11 cf_11 6, u_lay cn_11 cf_11 7, u_lay cn_11 cf_11 8, u_lay cn_11 cf_11 9, u_lay cn_11 cf_11 10, u_lay cn_11 cf_11 11], w ∈ tbG
  exact List.forall_mem_cons.mpr ⟨cw_11_0, List.forall_mem_cons.mpr ⟨cw_11_1, List.forall_mem_cons.mpr ⟨cw_11_2, List.forall_mem_cons.mpr ⟨cw_11_3, List.forall_mem_cons.mpr ⟨cw_11_4, List.forall_mem_cons.mpr ⟨cw_11_5, List.forall_mem_cons.mpr ⟨cw_11_6, List.forall_mem_cons.mpr ⟨cw_11_7, List.forall_mem_cons.mpr ⟨cw_11_8, List.forall_mem_cons.mpr ⟨cw_11_9, List.forall_mem_cons.mpr ⟨cw_11_10, List.forall_mem_cons.mpr ⟨cw_11_11, fun _ h => absurd h List.not_mem_nil⟩⟩⟩⟩⟩⟩⟩⟩⟩⟩⟩⟩
def cy_11 : Nat → FieldType := fun k => ([.object "SleptFor$Valley", .object "SleptFor$Valley", .array (.object "SleptFor$Text"), .array .int, .int, .object "SleptFor$Reader", .object "SleptFor$Laws", .object "SleptFor$Clock", .object "SleptFor$Night", .object "SleptFor$Pairing", .object "SleptFor$Rota", .object "SleptFor$Questions"] : List FieldType).getD k .int
theorem cz_11 : ∀ k, k < 12 → parseFieldDescriptor (cf_11 k).2.2.1 = some (cy_11 k) := by decide +kernel
theorem cm_11 : ∀ a, a < 12 → ∀ b, b < 12 → a ≠ b → (cf_11 a).2.1 ≠ (cf_11 b).2.1 := by decide +kernel
theorem cw_12_0 : u_lay cn_12 cf_12 0 ∈ tbG := tb_m (i := 6) (j := 41) rfl rfl rfl
theorem cw_12_1 : u_lay cn_12 cf_12 1 ∈ tbG := tb_m (i := 6) (j := 43) rfl rfl rfl
theorem cw_12_2 : u_lay cn_12 cf_12 2 ∈ tbG := tb_m (i := 6) (j := 45) rfl rfl rfl
theorem cw_12_3 : u_lay cn_12 cf_12 3 ∈ tbG := tb_m (i := 6) (j := 47) rfl rfl rfl
theorem cw_12_4 : u_lay cn_12 cf_12 4 ∈ tbG := tb_m (i := 6) (j := 49) rfl rfl rfl
theorem cw_12_5 : u_lay cn_12 cf_12 5 ∈ tbG := tb_m (i := 6) (j := 51) rfl rfl rfl
theorem cw_12_6 : u_lay cn_12 cf_12 6 ∈ tbG := tb_m (i := 6) (j := 53) rfl rfl rfl
theorem cw_12_7 : u_lay cn_12 cf_12 7 ∈ tbG := tb_m (i := 6) (j := 55) rfl rfl rfl
theorem cw_12_8 : u_lay cn_12 cf_12 8 ∈ tbG := tb_m (i := 6) (j := 57) rfl rfl rfl
theorem cw_12_9 : u_lay cn_12 cf_12 9 ∈ tbG := tb_m (i := 6) (j := 59) rfl rfl rfl
theorem cw_12_10 : u_lay cn_12 cf_12 10 ∈ tbG := tb_m (i := 6) (j := 61) rfl rfl rfl
theorem cw_12_11 : u_lay cn_12 cf_12 11 ∈ tbG := tb_m (i := 6) (j := 63) rfl rfl rfl
theorem cw_12_12 : u_lay cn_12 cf_12 12 ∈ tbG := tb_m (i := 6) (j := 65) rfl rfl rfl
theorem cw_12_13 : u_lay cn_12 cf_12 13 ∈ tbG := tb_m (i := 6) (j := 67) rfl rfl rfl
theorem cw_12_14 : u_lay cn_12 cf_12 14 ∈ tbG := tb_m (i := 6) (j := 69) rfl rfl rfl
theorem cw_12_15 : u_lay cn_12 cf_12 15 ∈ tbG := tb_m (i := 6) (j := 71) rfl rfl rfl
theorem cw_12_16 : u_lay cn_12 cf_12 16 ∈ tbG := tb_m (i := 6) (j := 73) rfl rfl rfl
theorem cw_12_17 : u_lay cn_12 cf_12 17 ∈ tbG := tb_m (i := 6) (j := 75) rfl rfl rfl
theorem cw_12_18 : u_lay cn_12 cf_12 18 ∈ tbG := tb_m (i := 6) (j := 77) rfl rfl rfl
theorem cw_12_19 : u_lay cn_12 cf_12 19 ∈ tbG := tb_m (i := 6) (j := 79) rfl rfl rfl
theorem cw_12_20 : u_lay cn_12 cf_12 20 ∈ tbG := tb_m (i := 6) (j := 81) rfl rfl rfl
theorem cw_12_21 : u_lay cn_12 cf_12 21 ∈ tbG := tb_m (i := 6) (j := 83) rfl rfl rfl
theorem cw_12_22 : u_lay cn_12 cf_12 22 ∈ tbG := tb_m (i := 6) (j := 85) rfl rfl rfl
theorem cw_12_23 : u_lay cn_12 cf_12 23 ∈ tbG := tb_m (i := 6) (j := 87) rfl rfl rfl
theorem cw_12_24 : u_lay cn_12 cf_12 24 ∈ tbG := tb_m (i := 6) (j := 89) rfl rfl rfl
theorem cw_12_25 : u_lay cn_12 cf_12 25 ∈ tbG := tb_m (i := 6) (j := 91) rfl rfl rfl
theorem cw_12_26 : u_lay cn_12 cf_12 26 ∈ tbG := tb_m (i := 6) (j := 93) rfl rfl rfl
theorem cw_12_27 : u_lay cn_12 cf_12 27 ∈ tbG := tb_m (i := 6) (j := 95) rfl rfl rfl
theorem cw_12_28 : u_lay cn_12 cf_12 28 ∈ tbG := tb_m (i := 6) (j := 97) rfl rfl rfl
theorem cw_12_29 : u_lay cn_12 cf_12 29 ∈ tbG := tb_m (i := 6) (j := 99) rfl rfl rfl
theorem cw_12_30 : u_lay cn_12 cf_12 30 ∈ tbG := tb_m (i := 6) (j := 101) rfl rfl rfl
theorem cw_12_31 : u_lay cn_12 cf_12 31 ∈ tbG := tb_m (i := 6) (j := 103) rfl rfl rfl
theorem cw_12_32 : u_lay cn_12 cf_12 32 ∈ tbG := tb_m (i := 6) (j := 105) rfl rfl rfl
theorem cw_12_33 : u_lay cn_12 cf_12 33 ∈ tbG := tb_m (i := 6) (j := 107) rfl rfl rfl
theorem cw_12_34 : u_lay cn_12 cf_12 34 ∈ tbG := tb_m (i := 6) (j := 109) rfl rfl rfl
theorem cw_12_35 : u_lay cn_12 cf_12 35 ∈ tbG := tb_m (i := 6) (j := 111) rfl rfl rfl
theorem cw_12_36 : u_lay cn_12 cf_12 36 ∈ tbG := tb_m (i := 6) (j := 113) rfl rfl rfl
theorem cw_12_37 : u_lay cn_12 cf_12 37 ∈ tbG := tb_m (i := 6) (j := 115) rfl rfl rfl
theorem cw_12_38 : u_lay cn_12 cf_12 38 ∈ tbG := tb_m (i := 6) (j := 117) rfl rfl rfl
theorem cw_12_39 : u_lay cn_12 cf_12 39 ∈ tbG := tb_m (i := 6) (j := 119) rfl rfl rfl
theorem cw_12_40 : u_lay cn_12 cf_12 40 ∈ tbG := tb_m (i := 6) (j := 121) rfl rfl rfl
theorem cw_12_41 : u_lay cn_12 cf_12 41 ∈ tbG := tb_m (i := 6) (j := 123) rfl rfl rfl
theorem cw_12_42 : u_lay cn_12 cf_12 42 ∈ tbG := tb_m (i := 6) (j := 125) rfl rfl rfl
theorem cw_12_43 : u_lay cn_12 cf_12 43 ∈ tbG := tb_m (i := 6) (j := 127) rfl rfl rfl
theorem cw_12_44 : u_lay cn_12 cf_12 44 ∈ tbG := tb_m (i := 6) (j := 129) rfl rfl rfl
theorem cw_12_45 : u_lay cn_12 cf_12 45 ∈ tbG := tb_m (i := 6) (j := 131) rfl rfl rfl
theorem cw_12_46 : u_lay cn_12 cf_12 46 ∈ tbG := tb_m (i := 6) (j := 133) rfl rfl rfl
theorem cw_12_47 : u_lay cn_12 cf_12 47 ∈ tbG := tb_m (i := 6) (j := 135) rfl rfl rfl
theorem cw_12_48 : u_lay cn_12 cf_12 48 ∈ tbG := tb_m (i := 6) (j := 137) rfl rfl rfl
theorem cw_12_49 : u_lay cn_12 cf_12 49 ∈ tbG := tb_m (i := 6) (j := 139) rfl rfl rfl
theorem cw_12_50 : u_lay cn_12 cf_12 50 ∈ tbG := tb_m (i := 6) (j := 141) rfl rfl rfl
theorem cw_12_51 : u_lay cn_12 cf_12 51 ∈ tbG := tb_m (i := 6) (j := 143) rfl rfl rfl
theorem cw_12_52 : u_lay cn_12 cf_12 52 ∈ tbG := tb_m (i := 6) (j := 145) rfl rfl rfl
theorem cw_12_53 : u_lay cn_12 cf_12 53 ∈ tbG := tb_m (i := 6) (j := 147) rfl rfl rfl
theorem cw_12_54 : u_lay cn_12 cf_12 54 ∈ tbG := tb_m (i := 6) (j := 149) rfl rfl rfl
theorem cw_12_55 : u_lay cn_12 cf_12 55 ∈ tbG := tb_m (i := 6) (j := 151) rfl rfl rfl
theorem cw_12_56 : u_lay cn_12 cf_12 56 ∈ tbG := tb_m (i := 6) (j := 153) rfl rfl rfl
theorem cw_12_57 : u_lay cn_12 cf_12 57 ∈ tbG := tb_m (i := 6) (j := 155) rfl rfl rfl
theorem cw_12_58 : u_lay cn_12 cf_12 58 ∈ tbG := tb_m (i := 6) (j := 157) rfl rfl rfl
theorem cw_12_59 : u_lay cn_12 cf_12 59 ∈ tbG := tb_m (i := 6) (j := 159) rfl rfl rfl
theorem cw_12_60 : u_lay cn_12 cf_12 60 ∈ tbG := tb_m (i := 6) (j := 161) rfl rfl rfl
theorem cw_12_61 : u_lay cn_12 cf_12 61 ∈ tbG := tb_m (i := 6) (j := 163) rfl rfl rfl
theorem cw_12_62 : u_lay cn_12 cf_12 62 ∈ tbG := tb_m (i := 6) (j := 165) rfl rfl rfl
theorem cw_12_63 : u_lay cn_12 cf_12 63 ∈ tbG := tb_m (i := 6) (j := 167) rfl rfl rfl
theorem cw_12_64 : u_lay cn_12 cf_12 64 ∈ tbG := tb_m (i := 6) (j := 169) rfl rfl rfl
theorem cw_12_65 : u_lay cn_12 cf_12 65 ∈ tbG := tb_m (i := 6) (j := 171) rfl rfl rfl
theorem cw_12 : ∀ w ∈ u_ws cn_12 cf_12 66, w ∈ tbG := by
  show ∀ w ∈ [u_lay cn_12 cf_12 0, u_lay cn_12 cf_12 1, u_lay cn_12 cf_12 2, u_lay cn_12 cf_12 3, u_lay cn_12 cf_12 4, u_lay cn_12 cf_12 5, u_lay cn_12 cf_12 6, u_lay cn_12 cf_12 7, u_lay cn_12 cf_12 8, u_lay cn_12 cf_12 9, u_lay cn_12 cf_12 10, u_lay cn_12 cf_12 11, u_lay cn_12 cf_12 12, u_lay cn_12 cf_12 13, u_lay cn_12 cf_12 14, u_lay cn_12 cf_12 15, u_lay cn_12 cf_12 16, u_lay cn_12 cf_12 17, u_lay cn_12 cf_12 18, u_lay cn_12 cf_12 19, u_lay cn_12 cf_12 20, u_lay cn_12 cf_12 21, u_lay cn_12 cf_12 22, u_lay cn_12 cf_12 23, u_lay cn_12 cf_12 24, u_lay cn_12 cf_12 25, u_lay cn_12 cf_12 26, u_lay cn_12 cf_12 27, u_lay cn_12 cf_12 28, u_lay cn_12 cf_12 29, u_lay cn_12 cf_12 30, u_lay cn_12 cf_12 31, u_lay cn_12 cf_12 32, u_lay cn_12 cf_12 33, u_lay cn_12 cf_12 34, u_lay cn_12 cf_12 35, u_lay cn_12 cf_12 36, u_lay cn_12 cf_12 37, u_lay cn_12 cf_12 38, u_lay cn_12 cf_12 39, u_lay cn_12 cf_12 40, u_lay cn_12 cf_12 41, u_lay cn_12 cf_12 42, u_lay cn_12 cf_12 43, u_lay cn_12 cf_12 44, u_lay cn_12 cf_12 45, u_lay cn_12 cf_12 46, u_lay cn_12 cf_12 47, u_lay cn_12 cf_12 48, u_lay cn_12 cf_12 49, u_lay cn_12 cf_12 50, u_lay cn_12 cf_12 51, u_lay cn_12 cf_12 52, u_lay cn_12 cf_12 53, u_lay cn_12 cf_12 54, u_lay cn_12 cf_12 55, u_lay cn_12 cf_12 56, u_lay cn_12 cf_12 57, u_lay cn_12 cf_12 58, u_lay cn_12 cf_12 59, u_lay cn_12 cf_12 60, u_lay cn_12 cf_12 61, u_lay cn_12 cf_12 62, u_lay cn_12 cf_12 63, u_lay cn_12 cf_12 64, u_lay cn_12 cf_12 65], w ∈ tbG
  exact List.forall_mem_cons.mpr ⟨cw_12_0, List.forall_mem_cons.mpr ⟨cw_12_1, List.forall_mem_cons.mpr ⟨cw_12_2, List.forall_mem_cons.mpr ⟨cw_12_3, List.forall_mem_cons.mpr ⟨cw_12_4, List.forall_mem_cons.mpr ⟨cw_12_5, List.forall_mem_cons.mpr ⟨cw_12_6, List.forall_mem_cons.mpr ⟨cw_12_7, List.forall_mem_cons.mpr ⟨cw_12_8, List.forall_mem_cons.mpr ⟨cw_12_9, List.forall_mem_cons.mpr ⟨cw_12_10, List.forall_mem_cons.mpr ⟨cw_12_11, List.forall_mem_cons.mpr ⟨cw_12_12, List.forall_mem_cons.mpr ⟨cw_12_13, List.forall_mem_cons.mpr ⟨cw_12_14, List.forall_mem_cons.mpr ⟨cw_12_15, List.forall_mem_cons.mpr ⟨cw_12_16, List.forall_mem_cons.mpr ⟨cw_12_17, List.forall_mem_cons.mpr ⟨cw_12_18, List.forall_mem_cons.mpr ⟨cw_12_19, List.forall_mem_cons.mpr ⟨cw_12_20, List.forall_mem_cons.mpr ⟨cw_12_21, List.forall_mem_cons.mpr ⟨cw_12_22, List.forall_mem_cons.mpr ⟨cw_12_23, List.forall_mem_cons.mpr ⟨cw_12_24, List.forall_mem_cons.mpr ⟨cw_12_25, List.forall_mem_cons.mpr ⟨cw_12_26, List.forall_mem_cons.mpr ⟨cw_12_27, List.forall_mem_cons.mpr ⟨cw_12_28, List.forall_mem_cons.mpr ⟨cw_12_29, List.forall_mem_cons.mpr ⟨cw_12_30, List.forall_mem_cons.mpr ⟨cw_12_31, List.forall_mem_cons.mpr ⟨cw_12_32, List.forall_mem_cons.mpr ⟨cw_12_33, List.forall_mem_cons.mpr ⟨cw_12_34, List.forall_mem_cons.mpr ⟨cw_12_35, List.forall_mem_cons.mpr ⟨cw_12_36, List.forall_mem_cons.mpr ⟨cw_12_37, List.forall_mem_cons.mpr ⟨cw_12_38, List.forall_mem_cons.mpr ⟨cw_12_39, List.forall_mem_cons.mpr ⟨cw_12_40, List.forall_mem_cons.mpr ⟨cw_12_41, List.forall_mem_cons.mpr ⟨cw_12_42, List.forall_mem_cons.mpr ⟨cw_12_43, List.forall_mem_cons.mpr ⟨cw_12_44, List.forall_mem_cons.mpr ⟨cw_12_45, List.forall_mem_cons.mpr ⟨cw_12_46, List.forall_mem_cons.mpr ⟨cw_12_47, List.forall_mem_cons.mpr ⟨cw_12_48, List.forall_mem_cons.mpr ⟨cw_12_49, List.forall_mem_cons.mpr ⟨cw_12_50, List.forall_mem_cons.mpr ⟨cw_12_51, List.forall_mem_cons.mpr ⟨cw_12_52, List.forall_mem_cons.mpr ⟨cw_12_53, List.forall_mem_cons.mpr ⟨cw_12_54, List.forall_mem_cons.mpr ⟨cw_12_55, List.forall_mem_cons.mpr ⟨cw_12_56, List.forall_mem_cons.mpr ⟨cw_12_57, List.forall_mem_cons.mpr ⟨cw_12_58, List.forall_mem_cons.mpr ⟨cw_12_59, List.forall_mem_cons.mpr ⟨cw_12_60, List.forall_mem_cons.mpr ⟨cw_12_61, List.forall_mem_cons.mpr ⟨cw_12_62, List.forall_mem_cons.mpr ⟨cw_12_63, List.forall_mem_cons.mpr ⟨cw_12_64, List.forall_mem_cons.mpr ⟨cw_12_65, fun _ h => absurd h List.not_mem_nil⟩⟩⟩⟩⟩⟩⟩⟩⟩⟩⟩⟩⟩⟩⟩⟩⟩⟩⟩⟩⟩⟩⟩⟩⟩⟩⟩⟩⟩⟩⟩⟩⟩⟩⟩⟩⟩⟩⟩⟩⟩⟩⟩⟩⟩⟩⟩⟩⟩⟩⟩⟩⟩⟩⟩⟩⟩⟩⟩⟩⟩⟩⟩⟩⟩⟩
def cy_12 : Nat → FieldType := fun k => ([.array .int, .array .int, .array .byte, .int, .int, .int, .array .int, .array .int, .array .int, .array .int, .array .int, .array .int, .array .int, .array .int, .int, .int, .int, .int, .int, .int, .int, .int, .int, .array .int, .array .int, .int, .array .int, .array .int, .int, .array .int, .int, .int, .array .int, .array .int, .array .int, .array .int, .array .int, .int, .array .int, .array .int, .array .int, .array .long, .int, .int, .array .int, .array .int, .array .int, .array .int, .array .int, .array .int, .int, .int, .int, .array .int, .array .int, .array .int, .array .int, .array .int, .int, .int, .array .int, .array .int, .array .int, .array .int, .array .int, .array .int] : List FieldType).getD k .int
theorem cz_12 : ∀ k, k < 66 → parseFieldDescriptor (cf_12 k).2.2.1 = some (cy_12 k) := by decide +kernel
theorem cm_12 : ∀ a, a < 66 → ∀ b, b < 66 → a ≠ b → (cf_12 a).2.1 ≠ (cf_12 b).2.1 := by decide +kernel
theorem cl0_ok : gx_Cl cl0 tbG := by
  intro ci C F N h
  have hlt : ci < 13 := (List.getElem?_eq_some_iff.mp h).1
  by_cases h0 : ci = 0
  · subst h0; cases h; exact ⟨cw_0, ⟨cy_0, cz_0⟩, cm_0⟩
  by_cases h1 : ci = 1
  · subst h1; cases h; exact ⟨cw_1, ⟨cy_1, cz_1⟩, cm_1⟩
  by_cases h2 : ci = 2
  · subst h2; cases h; exact ⟨cw_2, ⟨cy_2, cz_2⟩, cm_2⟩
  by_cases h3 : ci = 3
  · subst h3; cases h; exact ⟨cw_3, ⟨cy_3, cz_3⟩, cm_3⟩
  by_cases h4 : ci = 4
  · subst h4; cases h; exact ⟨cw_4, ⟨cy_4, cz_4⟩, cm_4⟩
  by_cases h5 : ci = 5
  · subst h5; cases h; exact ⟨cw_5, ⟨cy_5, cz_5⟩, cm_5⟩
  by_cases h6 : ci = 6
  · subst h6; cases h; exact ⟨cw_6, ⟨cy_6, cz_6⟩, cm_6⟩
  by_cases h7 : ci = 7
  · subst h7; cases h; exact ⟨cw_7, ⟨cy_7, cz_7⟩, cm_7⟩
  by_cases h8 : ci = 8
  · subst h8; cases h; exact ⟨cw_8, ⟨cy_8, cz_8⟩, cm_8⟩
  by_cases h9 : ci = 9
  · subst h9; cases h; exact ⟨cw_9, ⟨cy_9, cz_9⟩, cm_9⟩
  by_cases h10 : ci = 10
  · subst h10; cases h; exact ⟨cw_10, ⟨cy_10, cz_10⟩, cm_10⟩
  by_cases h11 : ci = 11
  · subst h11; cases h; exact ⟨cw_11, ⟨cy_11, cz_11⟩, cm_11⟩
  by_cases h12 : ci = 12
  · subst h12; cases h; exact ⟨cw_12, ⟨cy_12, cz_12⟩, cm_12⟩
  omega
