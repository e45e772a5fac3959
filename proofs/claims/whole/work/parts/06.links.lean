/-! The words behind the tables. -/
theorem zdef_0 : ∀ k, k < 12 → tyX0 k = .int ∨ tyX0 k = .boolean ∨ tyX0 k = .long ∨ (∃ n, tyX0 k = .object n) ∨ ∃ t, tyX0 k = .array t := by
  intro k hk
  match k, hk with
  | 0, _ => exact .inr (.inr (.inr (.inr ⟨_, rfl⟩)))
  | 1, _ => exact .inr (.inr (.inr (.inl ⟨_, rfl⟩)))
  | 2, _ => exact .inr (.inr (.inr (.inl ⟨_, rfl⟩)))
  | 3, _ => exact .inr (.inr (.inr (.inl ⟨_, rfl⟩)))
  | 4, _ => exact .inr (.inr (.inr (.inr ⟨_, rfl⟩)))
  | 5, _ => exact .inr (.inr (.inr (.inr ⟨_, rfl⟩)))
  | 6, _ => exact .inr (.inr (.inr (.inr ⟨_, rfl⟩)))
  | 7, _ => exact .inr (.inr (.inr (.inr ⟨_, rfl⟩)))
  | 8, _ => exact .inr (.inr (.inr (.inr ⟨_, rfl⟩)))
  | 9, _ => exact .inr (.inr (.inr (.inr ⟨_, rfl⟩)))
  | 10, _ => exact .inl rfl
  | 11, _ => exact .inl rfl
  | k + 12, hk => exact absurd hk (by omega)
theorem zdef_1 : ∀ k, k < 7 → tyX1 k = .int ∨ tyX1 k = .boolean ∨ tyX1 k = .long ∨ (∃ n, tyX1 k = .object n) ∨ ∃ t, tyX1 k = .array t := by
  intro k hk
  match k, hk with
  | 0, _ => exact .inl rfl
  | 1, _ => exact .inl rfl
  | 2, _ => exact .inr (.inr (.inr (.inr ⟨_, rfl⟩)))
  | 3, _ => exact .inr (.inr (.inr (.inr ⟨_, rfl⟩)))
  | 4, _ => exact .inr (.inr (.inr (.inr ⟨_, rfl⟩)))
  | 5, _ => exact .inr (.inr (.inr (.inr ⟨_, rfl⟩)))
  | 6, _ => exact .inr (.inr (.inr (.inr ⟨_, rfl⟩)))
  | k + 7, hk => exact absurd hk (by omega)
theorem zdef_2 : ∀ k, k < 4 → tyX2 k = .int ∨ tyX2 k = .boolean ∨ tyX2 k = .long ∨ (∃ n, tyX2 k = .object n) ∨ ∃ t, tyX2 k = .array t := by
  intro k hk
  match k, hk with
  | 0, _ => exact .inr (.inr (.inr (.inr ⟨_, rfl⟩)))
  | 1, _ => exact .inr (.inr (.inr (.inr ⟨_, rfl⟩)))
  | 2, _ => exact .inr (.inr (.inr (.inr ⟨_, rfl⟩)))
  | 3, _ => exact .inl rfl
  | k + 4, hk => exact absurd hk (by omega)
theorem zdef_3 : ∀ k, k < 2 → tyX3 k = .int ∨ tyX3 k = .boolean ∨ tyX3 k = .long ∨ (∃ n, tyX3 k = .object n) ∨ ∃ t, tyX3 k = .array t := by
  intro k hk
  match k, hk with
  | 0, _ => exact .inr (.inr (.inl rfl))
  | 1, _ => exact .inr (.inr (.inl rfl))
  | k + 2, hk => exact absurd hk (by omega)
theorem zdef_4 : ∀ k, k < 20 → tyX4 k = .int ∨ tyX4 k = .boolean ∨ tyX4 k = .long ∨ (∃ n, tyX4 k = .object n) ∨ ∃ t, tyX4 k = .array t := by
  intro k hk
  match k, hk with
  | 0, _ => exact .inl rfl
  | 1, _ => exact .inl rfl
  | 2, _ => exact .inr (.inr (.inr (.inr ⟨_, rfl⟩)))
  | 3, _ => exact .inr (.inr (.inr (.inl ⟨_, rfl⟩)))
  | 4, _ => exact .inr (.inr (.inr (.inl ⟨_, rfl⟩)))
  | 5, _ => exact .inr (.inr (.inr (.inl ⟨_, rfl⟩)))
  | 6, _ => exact .inr (.inr (.inr (.inl ⟨_, rfl⟩)))
  | 7, _ => exact .inr (.inr (.inr (.inr ⟨_, rfl⟩)))
  | 8, _ => exact .inr (.inr (.inr (.inr ⟨_, rfl⟩)))
  | 9, _ => exact .inr (.inr (.inr (.inr ⟨_, rfl⟩)))
  | 10, _ => exact .inr (.inr (.inr (.inr ⟨_, rfl⟩)))
  | 11, _ => exact .inr (.inr (.inr (.inl ⟨_, rfl⟩)))
  | 12, _ => exact .inr (.inr (.inr (.inl ⟨_, rfl⟩)))
  | 13, _ => exact .inr (.inr (.inr (.inl ⟨_, rfl⟩)))
  | 14, _ => exact .inr (.inr (.inr (.inl ⟨_, rfl⟩)))
  | 15, _ => exact .inr (.inr (.inr (.inr ⟨_, rfl⟩)))
  | 16, _ => exact .inr (.inr (.inr (.inr ⟨_, rfl⟩)))
  | 17, _ => exact .inr (.inr (.inr (.inr ⟨_, rfl⟩)))
  | 18, _ => exact .inl rfl
  | 19, _ => exact .inl rfl
  | k + 20, hk => exact absurd hk (by omega)
theorem zdef_5 : ∀ k, k < 4 → tyX5 k = .int ∨ tyX5 k = .boolean ∨ tyX5 k = .long ∨ (∃ n, tyX5 k = .object n) ∨ ∃ t, tyX5 k = .array t := by
  intro k hk
  match k, hk with
  | 0, _ => exact .inr (.inr (.inr (.inl ⟨_, rfl⟩)))
  | 1, _ => exact .inr (.inr (.inr (.inr ⟨_, rfl⟩)))
  | 2, _ => exact .inl rfl
  | 3, _ => exact .inl rfl
  | k + 4, hk => exact absurd hk (by omega)
theorem zdef_6 : ∀ k, k < 9 → tyX6 k = .int ∨ tyX6 k = .boolean ∨ tyX6 k = .long ∨ (∃ n, tyX6 k = .object n) ∨ ∃ t, tyX6 k = .array t := by
  intro k hk
  match k, hk with
  | 0, _ => exact .inr (.inr (.inr (.inr ⟨_, rfl⟩)))
  | 1, _ => exact .inr (.inr (.inr (.inr ⟨_, rfl⟩)))
  | 2, _ => exact .inr (.inr (.inr (.inr ⟨_, rfl⟩)))
  | 3, _ => exact .inr (.inr (.inr (.inr ⟨_, rfl⟩)))
  | 4, _ => exact .inr (.inr (.inr (.inr ⟨_, rfl⟩)))
  | 5, _ => exact .inr (.inr (.inr (.inr ⟨_, rfl⟩)))
  | 6, _ => exact .inl rfl
  | 7, _ => exact .inl rfl
  | 8, _ => exact .inl rfl
  | k + 9, hk => exact absurd hk (by omega)
theorem zdef_7 : ∀ k, k < 3 → tyX7 k = .int ∨ tyX7 k = .boolean ∨ tyX7 k = .long ∨ (∃ n, tyX7 k = .object n) ∨ ∃ t, tyX7 k = .array t := by
  intro k hk
  match k, hk with
  | 0, _ => exact .inr (.inr (.inr (.inl ⟨_, rfl⟩)))
  | 1, _ => exact .inr (.inr (.inr (.inl ⟨_, rfl⟩)))
  | 2, _ => exact .inr (.inr (.inr (.inl ⟨_, rfl⟩)))
  | k + 3, hk => exact absurd hk (by omega)
theorem zdef_8 : ∀ k, k < 13 → tyX8 k = .int ∨ tyX8 k = .boolean ∨ tyX8 k = .long ∨ (∃ n, tyX8 k = .object n) ∨ ∃ t, tyX8 k = .array t := by
  intro k hk
  match k, hk with
  | 0, _ => exact .inr (.inr (.inr (.inl ⟨_, rfl⟩)))
  | 1, _ => exact .inr (.inr (.inr (.inl ⟨_, rfl⟩)))
  | 2, _ => exact .inr (.inr (.inr (.inl ⟨_, rfl⟩)))
  | 3, _ => exact .inr (.inr (.inr (.inr ⟨_, rfl⟩)))
  | 4, _ => exact .inr (.inr (.inr (.inr ⟨_, rfl⟩)))
  | 5, _ => exact .inr (.inr (.inr (.inl ⟨_, rfl⟩)))
  | 6, _ => exact .inr (.inr (.inr (.inl ⟨_, rfl⟩)))
  | 7, _ => exact .inr (.inr (.inr (.inl ⟨_, rfl⟩)))
  | 8, _ => exact .inr (.inr (.inr (.inl ⟨_, rfl⟩)))
  | 9, _ => exact .inr (.inr (.inr (.inr ⟨_, rfl⟩)))
  | 10, _ => exact .inr (.inr (.inr (.inr ⟨_, rfl⟩)))
  | 11, _ => exact .inl rfl
  | 12, _ => exact .inl rfl
  | k + 13, hk => exact absurd hk (by omega)
theorem zdef_9 : ∀ k, k < 66 → tyX9 k = .int ∨ tyX9 k = .boolean ∨ tyX9 k = .long ∨ (∃ n, tyX9 k = .object n) ∨ ∃ t, tyX9 k = .array t := by
  intro k hk
  match k, hk with
  | 0, _ => exact .inl rfl
  | 1, _ => exact .inl rfl
  | 2, _ => exact .inr (.inr (.inr (.inr ⟨_, rfl⟩)))
  | 3, _ => exact .inl rfl
  | 4, _ => exact .inr (.inr (.inr (.inr ⟨_, rfl⟩)))
  | 5, _ => exact .inr (.inr (.inr (.inr ⟨_, rfl⟩)))
  | 6, _ => exact .inr (.inr (.inr (.inr ⟨_, rfl⟩)))
  | 7, _ => exact .inl rfl
  | 8, _ => exact .inr (.inr (.inr (.inr ⟨_, rfl⟩)))
  | 9, _ => exact .inr (.inr (.inr (.inr ⟨_, rfl⟩)))
  | 10, _ => exact .inr (.inr (.inr (.inr ⟨_, rfl⟩)))
  | 11, _ => exact .inr (.inr (.inr (.inr ⟨_, rfl⟩)))
  | 12, _ => exact .inr (.inr (.inr (.inr ⟨_, rfl⟩)))
  | 13, _ => exact .inr (.inr (.inr (.inr ⟨_, rfl⟩)))
  | 14, _ => exact .inr (.inr (.inr (.inr ⟨_, rfl⟩)))
  | 15, _ => exact .inl rfl
  | 16, _ => exact .inr (.inr (.inr (.inr ⟨_, rfl⟩)))
  | 17, _ => exact .inl rfl
  | 18, _ => exact .inl rfl
  | 19, _ => exact .inl rfl
  | 20, _ => exact .inr (.inr (.inr (.inr ⟨_, rfl⟩)))
  | 21, _ => exact .inl rfl
  | 22, _ => exact .inr (.inr (.inr (.inr ⟨_, rfl⟩)))
  | 23, _ => exact .inr (.inr (.inr (.inr ⟨_, rfl⟩)))
  | 24, _ => exact .inr (.inr (.inr (.inr ⟨_, rfl⟩)))
  | 25, _ => exact .inl rfl
  | 26, _ => exact .inl rfl
  | 27, _ => exact .inl rfl
  | 28, _ => exact .inr (.inr (.inr (.inr ⟨_, rfl⟩)))
  | 29, _ => exact .inl rfl
  | 30, _ => exact .inr (.inr (.inr (.inr ⟨_, rfl⟩)))
  | 31, _ => exact .inr (.inr (.inr (.inr ⟨_, rfl⟩)))
  | 32, _ => exact .inr (.inr (.inr (.inr ⟨_, rfl⟩)))
  | 33, _ => exact .inr (.inr (.inr (.inr ⟨_, rfl⟩)))
  | 34, _ => exact .inl rfl
  | 35, _ => exact .inl rfl
  | 36, _ => exact .inl rfl
  | 37, _ => exact .inl rfl
  | 38, _ => exact .inl rfl
  | 39, _ => exact .inr (.inr (.inr (.inr ⟨_, rfl⟩)))
  | 40, _ => exact .inr (.inr (.inr (.inr ⟨_, rfl⟩)))
  | 41, _ => exact .inr (.inr (.inr (.inr ⟨_, rfl⟩)))
  | 42, _ => exact .inr (.inr (.inr (.inr ⟨_, rfl⟩)))
  | 43, _ => exact .inr (.inr (.inr (.inr ⟨_, rfl⟩)))
  | 44, _ => exact .inr (.inl rfl)
  | 45, _ => exact .inl rfl
  | 46, _ => exact .inr (.inr (.inr (.inr ⟨_, rfl⟩)))
  | 47, _ => exact .inl rfl
  | 48, _ => exact .inr (.inr (.inr (.inr ⟨_, rfl⟩)))
  | 49, _ => exact .inr (.inr (.inr (.inr ⟨_, rfl⟩)))
  | 50, _ => exact .inr (.inr (.inr (.inr ⟨_, rfl⟩)))
  | 51, _ => exact .inr (.inr (.inr (.inr ⟨_, rfl⟩)))
  | 52, _ => exact .inr (.inr (.inr (.inr ⟨_, rfl⟩)))
  | 53, _ => exact .inr (.inr (.inr (.inr ⟨_, rfl⟩)))
  | 54, _ => exact .inr (.inr (.inr (.inr ⟨_, rfl⟩)))
  | 55, _ => exact .inr (.inr (.inr (.inr ⟨_, rfl⟩)))
  | 56, _ => exact .inr (.inr (.inr (.inr ⟨_, rfl⟩)))
  | 57, _ => exact .inr (.inr (.inr (.inr ⟨_, rfl⟩)))
  | 58, _ => exact .inl rfl
  | 59, _ => exact .inl rfl
  | 60, _ => exact .inr (.inr (.inr (.inr ⟨_, rfl⟩)))
  | 61, _ => exact .inr (.inr (.inr (.inr ⟨_, rfl⟩)))
  | 62, _ => exact .inr (.inr (.inr (.inr ⟨_, rfl⟩)))
  | 63, _ => exact .inr (.inr (.inr (.inr ⟨_, rfl⟩)))
  | 64, _ => exact .inr (.inr (.inr (.inr ⟨_, rfl⟩)))
  | 65, _ => exact .inl rfl
  | k + 66, hk => exact absurd hk (by omega)
theorem zdef (i : Nat) (h : i < 10) : ∀ k, k < zsz i → zty i k = .int ∨ zty i k = .boolean ∨ zty i k = .long ∨ (∃ n, zty i k = .object n) ∨ ∃ t, zty i k = .array t := by
  match i, h with
  | 0, _ => exact zdef_0
  | 1, _ => exact zdef_1
  | 2, _ => exact zdef_2
  | 3, _ => exact zdef_3
  | 4, _ => exact zdef_4
  | 5, _ => exact zdef_5
  | 6, _ => exact zdef_6
  | 7, _ => exact zdef_7
  | 8, _ => exact zdef_8
  | 9, _ => exact zdef_9
theorem zdecl (i : Nat) (h : i < 10) : ∀ k, k < zsz i → (zTX i k).1 = zC i := by
  match i, h with
  | 0, _ => decide +kernel
  | 1, _ => decide +kernel
  | 2, _ => decide +kernel
  | 3, _ => decide +kernel
  | 4, _ => decide +kernel
  | 5, _ => decide +kernel
  | 6, _ => decide +kernel
  | 7, _ => decide +kernel
  | 8, _ => decide +kernel
  | 9, _ => decide +kernel
def zW : List Cond := lw_tbl.filter goodWord
theorem zW_in {w : Cond} (h : w ∈ lw_tbl) (g : goodWord w = true) : w ∈ zW := List.mem_filter.mpr ⟨h, g⟩
theorem zch_1 : ∀ w ∈ tables_1_1, w ∈ lw_tbl := fun w h => List.mem_append_right _ (show w ∈ tables_1 from List.mem_append_left _ h)
theorem zch_2 : ∀ w ∈ tables_1_2, w ∈ lw_tbl := fun w h => List.mem_append_right _ (show w ∈ tables_1 from List.mem_append_right _ (List.mem_append_left _ h))
theorem zch_3 : ∀ w ∈ tables_1_3, w ∈ lw_tbl := fun w h => List.mem_append_right _ (show w ∈ tables_1 from List.mem_append_right _ (List.mem_append_right _ (List.mem_append_left _ h)))
theorem zch_4 : ∀ w ∈ tables_1_4, w ∈ lw_tbl := fun w h => List.mem_append_right _ (show w ∈ tables_1 from List.mem_append_right _ (List.mem_append_right _ (List.mem_append_right _ (List.mem_append_left _ h))))
theorem zch_5 : ∀ w ∈ tables_1_5, w ∈ lw_tbl := fun w h => List.mem_append_right _ (show w ∈ tables_1 from List.mem_append_right _ (List.mem_append_right _ (List.mem_append_right _ (List.mem_append_right _ (List.mem_append_left _ h)))))
theorem zch_6 : ∀ w ∈ tables_1_6, w ∈ lw_tbl := fun w h => List.mem_append_right _ (show w ∈ tables_1 from List.mem_append_right _ (List.mem_append_right _ (List.mem_append_right _ (List.mem_append_right _ (List.mem_append_right _ (List.mem_append_left _ h))))))
theorem zch_7 : ∀ w ∈ tables_1_7, w ∈ lw_tbl := fun w h => List.mem_append_right _ (show w ∈ tables_1 from List.mem_append_right _ (List.mem_append_right _ (List.mem_append_right _ (List.mem_append_right _ (List.mem_append_right _ (List.mem_append_right _ (List.mem_append_left _ h)))))))
theorem zch_8 : ∀ w ∈ tables_1_8, w ∈ lw_tbl := fun w h => List.mem_append_right _ (show w ∈ tables_1 from List.mem_append_right _ (List.mem_append_right _ (List.mem_append_right _ (List.mem_append_right _ (List.mem_append_right _ (List.mem_append_right _ (List.mem_append_right _ (h))))))))
theorem zcl (i : Nat) (h : i < 10) : vwCl[i]? = some (zC i, zTX i, zsz i) := by
  match i, h with
  | 0, _ => rfl
  | 1, _ => rfl
  | 2, _ => rfl
  | 3, _ => rfl
  | 4, _ => rfl
  | 5, _ => rfl
  | 6, _ => rfl
  | 7, _ => rfl
  | 8, _ => rfl
  | 9, _ => rfl
theorem zty_ok (i : Nat) (h : i < 10) : ∀ k, k < zsz i → parseFieldDescriptor (zTX i k).2.2.1 = some (zty i k) := by
  match i, h with
  | 0, _ => exact tyX0_ok
  | 1, _ => exact tyX1_ok
  | 2, _ => exact tyX2_ok
  | 3, _ => exact tyX3_ok
  | 4, _ => exact tyX4_ok
  | 5, _ => exact tyX5_ok
  | 6, _ => exact tyX6_ok
  | 7, _ => exact tyX7_ok
  | 8, _ => exact tyX8_ok
  | 9, _ => exact tyX9_ok
theorem znm_ok (i : Nat) (h : i < 10) : ∀ a, a < zsz i → ∀ b, b < zsz i → a ≠ b → (zTX i a).2.1 ≠ (zTX i b).2.1 := by
  match i, h with
  | 0, _ => exact nmX0
  | 1, _ => exact nmX1
  | 2, _ => exact nmX2
  | 3, _ => exact nmX3
  | 4, _ => exact nmX4
  | 5, _ => exact nmX5
  | 6, _ => exact nmX6
  | 7, _ => exact nmX7
  | 8, _ => exact nmX8
  | 9, _ => exact nmX9
set_option maxRecDepth 100000 in
theorem zu_0_0 : u_lay RX0 TX0 0 ∈ zW := zW_in (zch_1 _ (List.mem_of_getElem? (i := 209) rfl)) rfl
set_option maxRecDepth 100000 in
theorem zu_0_1 : u_lay RX0 TX0 1 ∈ zW := zW_in (zch_1 _ (List.mem_of_getElem? (i := 211) rfl)) rfl
set_option maxRecDepth 100000 in
theorem zu_0_2 : u_lay RX0 TX0 2 ∈ zW := zW_in (zch_1 _ (List.mem_of_getElem? (i := 213) rfl)) rfl
set_option maxRecDepth 100000 in
theorem zu_0_3 : u_lay RX0 TX0 3 ∈ zW := zW_in (zch_1 _ (List.mem_of_getElem? (i := 215) rfl)) rfl
set_option maxRecDepth 100000 in
theorem zu_0_4 : u_lay RX0 TX0 4 ∈ zW := zW_in (zch_1 _ (List.mem_of_getElem? (i := 217) rfl)) rfl
set_option maxRecDepth 100000 in
theorem zu_0_5 : u_lay RX0 TX0 5 ∈ zW := zW_in (zch_1 _ (List.mem_of_getElem? (i := 219) rfl)) rfl
set_option maxRecDepth 100000 in
theorem zu_0_6 : u_lay RX0 TX0 6 ∈ zW := zW_in (zch_1 _ (List.mem_of_getElem? (i := 221) rfl)) rfl
set_option maxRecDepth 100000 in
theorem zu_0_7 : u_lay RX0 TX0 7 ∈ zW := zW_in (zch_1 _ (List.mem_of_getElem? (i := 223) rfl)) rfl
set_option maxRecDepth 100000 in
theorem zu_0_8 : u_lay RX0 TX0 8 ∈ zW := zW_in (zch_1 _ (List.mem_of_getElem? (i := 225) rfl)) rfl
set_option maxRecDepth 100000 in
theorem zu_0_9 : u_lay RX0 TX0 9 ∈ zW := zW_in (zch_1 _ (List.mem_of_getElem? (i := 227) rfl)) rfl
set_option maxRecDepth 100000 in
theorem zu_0_10 : u_lay RX0 TX0 10 ∈ zW := zW_in (zch_1 _ (List.mem_of_getElem? (i := 229) rfl)) rfl
set_option maxRecDepth 100000 in
theorem zu_0_11 : u_lay RX0 TX0 11 ∈ zW := zW_in (zch_1 _ (List.mem_of_getElem? (i := 231) rfl)) rfl
theorem zu_0 : ∀ w ∈ u_ws RX0 TX0 12, w ∈ zW := by
  intro w hw
  obtain ⟨k, hk, rfl⟩ := List.mem_map.mp hw
  have hk := List.mem_range.mp hk
  match k, hk with
  | 0, _ => exact zu_0_0
  | 1, _ => exact zu_0_1
  | 2, _ => exact zu_0_2
  | 3, _ => exact zu_0_3
  | 4, _ => exact zu_0_4
  | 5, _ => exact zu_0_5
  | 6, _ => exact zu_0_6
  | 7, _ => exact zu_0_7
  | 8, _ => exact zu_0_8
  | 9, _ => exact zu_0_9
  | 10, _ => exact zu_0_10
  | 11, _ => exact zu_0_11
  | k + 12, hk => exact absurd hk (by omega)
set_option maxRecDepth 100000 in
theorem zu_1_0 : u_lay RX1 TX1 0 ∈ zW := zW_in (zch_1 _ (List.mem_of_getElem? (i := 61) rfl)) rfl
set_option maxRecDepth 100000 in
theorem zu_1_1 : u_lay RX1 TX1 1 ∈ zW := zW_in (zch_1 _ (List.mem_of_getElem? (i := 63) rfl)) rfl
set_option maxRecDepth 100000 in
theorem zu_1_2 : u_lay RX1 TX1 2 ∈ zW := zW_in (zch_1 _ (List.mem_of_getElem? (i := 65) rfl)) rfl
set_option maxRecDepth 100000 in
theorem zu_1_3 : u_lay RX1 TX1 3 ∈ zW := zW_in (zch_1 _ (List.mem_of_getElem? (i := 67) rfl)) rfl
set_option maxRecDepth 100000 in
theorem zu_1_4 : u_lay RX1 TX1 4 ∈ zW := zW_in (zch_1 _ (List.mem_of_getElem? (i := 69) rfl)) rfl
set_option maxRecDepth 100000 in
theorem zu_1_5 : u_lay RX1 TX1 5 ∈ zW := zW_in (zch_1 _ (List.mem_of_getElem? (i := 71) rfl)) rfl
set_option maxRecDepth 100000 in
theorem zu_1_6 : u_lay RX1 TX1 6 ∈ zW := zW_in (zch_1 _ (List.mem_of_getElem? (i := 73) rfl)) rfl
theorem zu_1 : ∀ w ∈ u_ws RX1 TX1 7, w ∈ zW := by
  intro w hw
  obtain ⟨k, hk, rfl⟩ := List.mem_map.mp hw
  have hk := List.mem_range.mp hk
  match k, hk with
  | 0, _ => exact zu_1_0
  | 1, _ => exact zu_1_1
  | 2, _ => exact zu_1_2
  | 3, _ => exact zu_1_3
  | 4, _ => exact zu_1_4
  | 5, _ => exact zu_1_5
  | 6, _ => exact zu_1_6
  | k + 7, hk => exact absurd hk (by omega)
set_option maxRecDepth 100000 in
theorem zu_2_0 : u_lay RX2 TX2 0 ∈ zW := zW_in (zch_1 _ (List.mem_of_getElem? (i := 92) rfl)) rfl
set_option maxRecDepth 100000 in
theorem zu_2_1 : u_lay RX2 TX2 1 ∈ zW := zW_in (zch_1 _ (List.mem_of_getElem? (i := 94) rfl)) rfl
set_option maxRecDepth 100000 in
theorem zu_2_2 : u_lay RX2 TX2 2 ∈ zW := zW_in (zch_1 _ (List.mem_of_getElem? (i := 96) rfl)) rfl
set_option maxRecDepth 100000 in
theorem zu_2_3 : u_lay RX2 TX2 3 ∈ zW := zW_in (zch_1 _ (List.mem_of_getElem? (i := 98) rfl)) rfl
theorem zu_2 : ∀ w ∈ u_ws RX2 TX2 4, w ∈ zW := by
  intro w hw
  obtain ⟨k, hk, rfl⟩ := List.mem_map.mp hw
  have hk := List.mem_range.mp hk
  match k, hk with
  | 0, _ => exact zu_2_0
  | 1, _ => exact zu_2_1
  | 2, _ => exact zu_2_2
  | 3, _ => exact zu_2_3
  | k + 4, hk => exact absurd hk (by omega)
set_option maxRecDepth 100000 in
theorem zu_3_0 : u_lay RX3 TX3 0 ∈ zW := zW_in (zch_2 _ (List.mem_of_getElem? (i := 9) rfl)) rfl
set_option maxRecDepth 100000 in
theorem zu_3_1 : u_lay RX3 TX3 1 ∈ zW := zW_in (zch_2 _ (List.mem_of_getElem? (i := 11) rfl)) rfl
theorem zu_3 : ∀ w ∈ u_ws RX3 TX3 2, w ∈ zW := by
  intro w hw
  obtain ⟨k, hk, rfl⟩ := List.mem_map.mp hw
  have hk := List.mem_range.mp hk
  match k, hk with
  | 0, _ => exact zu_3_0
  | 1, _ => exact zu_3_1
  | k + 2, hk => exact absurd hk (by omega)
set_option maxRecDepth 100000 in
theorem zu_4_0 : u_lay RX4 TX4 0 ∈ zW := zW_in (zch_2 _ (List.mem_of_getElem? (i := 37) rfl)) rfl
set_option maxRecDepth 100000 in
theorem zu_4_1 : u_lay RX4 TX4 1 ∈ zW := zW_in (zch_2 _ (List.mem_of_getElem? (i := 39) rfl)) rfl
set_option maxRecDepth 100000 in
theorem zu_4_2 : u_lay RX4 TX4 2 ∈ zW := zW_in (zch_2 _ (List.mem_of_getElem? (i := 41) rfl)) rfl
set_option maxRecDepth 100000 in
theorem zu_4_3 : u_lay RX4 TX4 3 ∈ zW := zW_in (zch_2 _ (List.mem_of_getElem? (i := 43) rfl)) rfl
set_option maxRecDepth 100000 in
theorem zu_4_4 : u_lay RX4 TX4 4 ∈ zW := zW_in (zch_2 _ (List.mem_of_getElem? (i := 45) rfl)) rfl
set_option maxRecDepth 100000 in
theorem zu_4_5 : u_lay RX4 TX4 5 ∈ zW := zW_in (zch_2 _ (List.mem_of_getElem? (i := 47) rfl)) rfl
set_option maxRecDepth 100000 in
theorem zu_4_6 : u_lay RX4 TX4 6 ∈ zW := zW_in (zch_2 _ (List.mem_of_getElem? (i := 49) rfl)) rfl
set_option maxRecDepth 100000 in
theorem zu_4_7 : u_lay RX4 TX4 7 ∈ zW := zW_in (zch_2 _ (List.mem_of_getElem? (i := 51) rfl)) rfl
set_option maxRecDepth 100000 in
theorem zu_4_8 : u_lay RX4 TX4 8 ∈ zW := zW_in (zch_2 _ (List.mem_of_getElem? (i := 53) rfl)) rfl
set_option maxRecDepth 100000 in
theorem zu_4_9 : u_lay RX4 TX4 9 ∈ zW := zW_in (zch_2 _ (List.mem_of_getElem? (i := 55) rfl)) rfl
set_option maxRecDepth 100000 in
theorem zu_4_10 : u_lay RX4 TX4 10 ∈ zW := zW_in (zch_2 _ (List.mem_of_getElem? (i := 57) rfl)) rfl
set_option maxRecDepth 100000 in
theorem zu_4_11 : u_lay RX4 TX4 11 ∈ zW := zW_in (zch_2 _ (List.mem_of_getElem? (i := 59) rfl)) rfl
set_option maxRecDepth 100000 in
theorem zu_4_12 : u_lay RX4 TX4 12 ∈ zW := zW_in (zch_2 _ (List.mem_of_getElem? (i := 61) rfl)) rfl
set_option maxRecDepth 100000 in
theorem zu_4_13 : u_lay RX4 TX4 13 ∈ zW := zW_in (zch_2 _ (List.mem_of_getElem? (i := 63) rfl)) rfl
set_option maxRecDepth 100000 in
theorem zu_4_14 : u_lay RX4 TX4 14 ∈ zW := zW_in (zch_2 _ (List.mem_of_getElem? (i := 65) rfl)) rfl
set_option maxRecDepth 100000 in
theorem zu_4_15 : u_lay RX4 TX4 15 ∈ zW := zW_in (zch_2 _ (List.mem_of_getElem? (i := 67) rfl)) rfl
set_option maxRecDepth 100000 in
theorem zu_4_16 : u_lay RX4 TX4 16 ∈ zW := zW_in (zch_2 _ (List.mem_of_getElem? (i := 69) rfl)) rfl
set_option maxRecDepth 100000 in
theorem zu_4_17 : u_lay RX4 TX4 17 ∈ zW := zW_in (zch_2 _ (List.mem_of_getElem? (i := 71) rfl)) rfl
set_option maxRecDepth 100000 in
theorem zu_4_18 : u_lay RX4 TX4 18 ∈ zW := zW_in (zch_2 _ (List.mem_of_getElem? (i := 73) rfl)) rfl
set_option maxRecDepth 100000 in
theorem zu_4_19 : u_lay RX4 TX4 19 ∈ zW := zW_in (zch_2 _ (List.mem_of_getElem? (i := 75) rfl)) rfl
theorem zu_4 : ∀ w ∈ u_ws RX4 TX4 20, w ∈ zW := by
  intro w hw
  obtain ⟨k, hk, rfl⟩ := List.mem_map.mp hw
  have hk := List.mem_range.mp hk
  match k, hk with
  | 0, _ => exact zu_4_0
  | 1, _ => exact zu_4_1
  | 2, _ => exact zu_4_2
  | 3, _ => exact zu_4_3
  | 4, _ => exact zu_4_4
  | 5, _ => exact zu_4_5
  | 6, _ => exact zu_4_6
  | 7, _ => exact zu_4_7
  | 8, _ => exact zu_4_8
  | 9, _ => exact zu_4_9
  | 10, _ => exact zu_4_10
  | 11, _ => exact zu_4_11
  | 12, _ => exact zu_4_12
  | 13, _ => exact zu_4_13
  | 14, _ => exact zu_4_14
  | 15, _ => exact zu_4_15
  | 16, _ => exact zu_4_16
  | 17, _ => exact zu_4_17
  | 18, _ => exact zu_4_18
  | 19, _ => exact zu_4_19
  | k + 20, hk => exact absurd hk (by omega)
set_option maxRecDepth 100000 in
theorem zu_5_0 : u_lay RX5 TX5 0 ∈ zW := zW_in (zch_1 _ (List.mem_of_getElem? (i := 164) rfl)) rfl
set_option maxRecDepth 100000 in
theorem zu_5_1 : u_lay RX5 TX5 1 ∈ zW := zW_in (zch_1 _ (List.mem_of_getElem? (i := 166) rfl)) rfl
set_option maxRecDepth 100000 in
theorem zu_5_2 : u_lay RX5 TX5 2 ∈ zW := zW_in (zch_1 _ (List.mem_of_getElem? (i := 168) rfl)) rfl
set_option maxRecDepth 100000 in
theorem zu_5_3 : u_lay RX5 TX5 3 ∈ zW := zW_in (zch_1 _ (List.mem_of_getElem? (i := 170) rfl)) rfl
theorem zu_5 : ∀ w ∈ u_ws RX5 TX5 4, w ∈ zW := by
  intro w hw
  obtain ⟨k, hk, rfl⟩ := List.mem_map.mp hw
  have hk := List.mem_range.mp hk
  match k, hk with
  | 0, _ => exact zu_5_0
  | 1, _ => exact zu_5_1
  | 2, _ => exact zu_5_2
  | 3, _ => exact zu_5_3
  | k + 4, hk => exact absurd hk (by omega)
set_option maxRecDepth 100000 in
theorem zu_6_0 : u_lay RX6 TX6 0 ∈ zW := zW_in (zch_1 _ (List.mem_of_getElem? (i := 131) rfl)) rfl
set_option maxRecDepth 100000 in
theorem zu_6_1 : u_lay RX6 TX6 1 ∈ zW := zW_in (zch_1 _ (List.mem_of_getElem? (i := 133) rfl)) rfl
set_option maxRecDepth 100000 in
theorem zu_6_2 : u_lay RX6 TX6 2 ∈ zW := zW_in (zch_1 _ (List.mem_of_getElem? (i := 135) rfl)) rfl
set_option maxRecDepth 100000 in
theorem zu_6_3 : u_lay RX6 TX6 3 ∈ zW := zW_in (zch_1 _ (List.mem_of_getElem? (i := 137) rfl)) rfl
set_option maxRecDepth 100000 in
theorem zu_6_4 : u_lay RX6 TX6 4 ∈ zW := zW_in (zch_1 _ (List.mem_of_getElem? (i := 139) rfl)) rfl
set_option maxRecDepth 100000 in
theorem zu_6_5 : u_lay RX6 TX6 5 ∈ zW := zW_in (zch_1 _ (List.mem_of_getElem? (i := 141) rfl)) rfl
set_option maxRecDepth 100000 in
theorem zu_6_6 : u_lay RX6 TX6 6 ∈ zW := zW_in (zch_1 _ (List.mem_of_getElem? (i := 143) rfl)) rfl
set_option maxRecDepth 100000 in
theorem zu_6_7 : u_lay RX6 TX6 7 ∈ zW := zW_in (zch_1 _ (List.mem_of_getElem? (i := 145) rfl)) rfl
set_option maxRecDepth 100000 in
theorem zu_6_8 : u_lay RX6 TX6 8 ∈ zW := zW_in (zch_1 _ (List.mem_of_getElem? (i := 147) rfl)) rfl
theorem zu_6 : ∀ w ∈ u_ws RX6 TX6 9, w ∈ zW := by
  intro w hw
  obtain ⟨k, hk, rfl⟩ := List.mem_map.mp hw
  have hk := List.mem_range.mp hk
  match k, hk with
  | 0, _ => exact zu_6_0
  | 1, _ => exact zu_6_1
  | 2, _ => exact zu_6_2
  | 3, _ => exact zu_6_3
  | 4, _ => exact zu_6_4
  | 5, _ => exact zu_6_5
  | 6, _ => exact zu_6_6
  | 7, _ => exact zu_6_7
  | 8, _ => exact zu_6_8
  | k + 9, hk => exact absurd hk (by omega)
set_option maxRecDepth 100000 in
theorem zu_7_0 : u_lay RX7 TX7 0 ∈ zW := zW_in (zch_1 _ (List.mem_of_getElem? (i := 182) rfl)) rfl
set_option maxRecDepth 100000 in
theorem zu_7_1 : u_lay RX7 TX7 1 ∈ zW := zW_in (zch_1 _ (List.mem_of_getElem? (i := 184) rfl)) rfl
set_option maxRecDepth 100000 in
theorem zu_7_2 : u_lay RX7 TX7 2 ∈ zW := zW_in (zch_1 _ (List.mem_of_getElem? (i := 186) rfl)) rfl
theorem zu_7 : ∀ w ∈ u_ws RX7 TX7 3, w ∈ zW := by
  intro w hw
  obtain ⟨k, hk, rfl⟩ := List.mem_map.mp hw
  have hk := List.mem_range.mp hk
  match k, hk with
  | 0, _ => exact zu_7_0
  | 1, _ => exact zu_7_1
  | 2, _ => exact zu_7_2
  | k + 3, hk => exact absurd hk (by omega)
set_option maxRecDepth 100000 in
theorem zu_8_0 : u_lay RX8 TX8 0 ∈ zW := zW_in (zch_2 _ (List.mem_of_getElem? (i := 91) rfl)) rfl
set_option maxRecDepth 100000 in
theorem zu_8_1 : u_lay RX8 TX8 1 ∈ zW := zW_in (zch_2 _ (List.mem_of_getElem? (i := 93) rfl)) rfl
set_option maxRecDepth 100000 in
theorem zu_8_2 : u_lay RX8 TX8 2 ∈ zW := zW_in (zch_2 _ (List.mem_of_getElem? (i := 95) rfl)) rfl
set_option maxRecDepth 100000 in
theorem zu_8_3 : u_lay RX8 TX8 3 ∈ zW := zW_in (zch_2 _ (List.mem_of_getElem? (i := 97) rfl)) rfl
set_option maxRecDepth 100000 in
theorem zu_8_4 : u_lay RX8 TX8 4 ∈ zW := zW_in (zch_2 _ (List.mem_of_getElem? (i := 99) rfl)) rfl
set_option maxRecDepth 100000 in
theorem zu_8_5 : u_lay RX8 TX8 5 ∈ zW := zW_in (zch_2 _ (List.mem_of_getElem? (i := 101) rfl)) rfl
set_option maxRecDepth 100000 in
theorem zu_8_6 : u_lay RX8 TX8 6 ∈ zW := zW_in (zch_2 _ (List.mem_of_getElem? (i := 103) rfl)) rfl
set_option maxRecDepth 100000 in
theorem zu_8_7 : u_lay RX8 TX8 7 ∈ zW := zW_in (zch_2 _ (List.mem_of_getElem? (i := 105) rfl)) rfl
set_option maxRecDepth 100000 in
theorem zu_8_8 : u_lay RX8 TX8 8 ∈ zW := zW_in (zch_2 _ (List.mem_of_getElem? (i := 107) rfl)) rfl
set_option maxRecDepth 100000 in
theorem zu_8_9 : u_lay RX8 TX8 9 ∈ zW := zW_in (zch_2 _ (List.mem_of_getElem? (i := 109) rfl)) rfl
set_option maxRecDepth 100000 in
theorem zu_8_10 : u_lay RX8 TX8 10 ∈ zW := zW_in (zch_2 _ (List.mem_of_getElem? (i := 111) rfl)) rfl
set_option maxRecDepth 100000 in
theorem zu_8_11 : u_lay RX8 TX8 11 ∈ zW := zW_in (zch_2 _ (List.mem_of_getElem? (i := 113) rfl)) rfl
set_option maxRecDepth 100000 in
theorem zu_8_12 : u_lay RX8 TX8 12 ∈ zW := zW_in (zch_2 _ (List.mem_of_getElem? (i := 115) rfl)) rfl
theorem zu_8 : ∀ w ∈ u_ws RX8 TX8 13, w ∈ zW := by
  intro w hw
  obtain ⟨k, hk, rfl⟩ := List.mem_map.mp hw
  have hk := List.mem_range.mp hk
  match k, hk with
  | 0, _ => exact zu_8_0
  | 1, _ => exact zu_8_1
  | 2, _ => exact zu_8_2
  | 3, _ => exact zu_8_3
  | 4, _ => exact zu_8_4
  | 5, _ => exact zu_8_5
  | 6, _ => exact zu_8_6
  | 7, _ => exact zu_8_7
  | 8, _ => exact zu_8_8
  | 9, _ => exact zu_8_9
  | 10, _ => exact zu_8_10
  | 11, _ => exact zu_8_11
  | 12, _ => exact zu_8_12
  | k + 13, hk => exact absurd hk (by omega)
set_option maxRecDepth 100000 in
theorem zu_9_0 : u_lay RX9 TX9 0 ∈ zW := zW_in (zch_8 _ (List.mem_of_getElem? (i := 0) rfl)) rfl
set_option maxRecDepth 100000 in
theorem zu_9_1 : u_lay RX9 TX9 1 ∈ zW := zW_in (zch_8 _ (List.mem_of_getElem? (i := 2) rfl)) rfl
set_option maxRecDepth 100000 in
theorem zu_9_2 : u_lay RX9 TX9 2 ∈ zW := zW_in (zch_8 _ (List.mem_of_getElem? (i := 4) rfl)) rfl
set_option maxRecDepth 100000 in
theorem zu_9_3 : u_lay RX9 TX9 3 ∈ zW := zW_in (zch_8 _ (List.mem_of_getElem? (i := 6) rfl)) rfl
set_option maxRecDepth 100000 in
theorem zu_9_4 : u_lay RX9 TX9 4 ∈ zW := zW_in (zch_8 _ (List.mem_of_getElem? (i := 8) rfl)) rfl
set_option maxRecDepth 100000 in
theorem zu_9_5 : u_lay RX9 TX9 5 ∈ zW := zW_in (zch_8 _ (List.mem_of_getElem? (i := 10) rfl)) rfl
set_option maxRecDepth 100000 in
theorem zu_9_6 : u_lay RX9 TX9 6 ∈ zW := zW_in (zch_8 _ (List.mem_of_getElem? (i := 12) rfl)) rfl
set_option maxRecDepth 100000 in
theorem zu_9_7 : u_lay RX9 TX9 7 ∈ zW := zW_in (zch_8 _ (List.mem_of_getElem? (i := 14) rfl)) rfl
set_option maxRecDepth 100000 in
theorem zu_9_8 : u_lay RX9 TX9 8 ∈ zW := zW_in (zch_8 _ (List.mem_of_getElem? (i := 16) rfl)) rfl
set_option maxRecDepth 100000 in
theorem zu_9_9 : u_lay RX9 TX9 9 ∈ zW := zW_in (zch_8 _ (List.mem_of_getElem? (i := 18) rfl)) rfl
set_option maxRecDepth 100000 in
theorem zu_9_10 : u_lay RX9 TX9 10 ∈ zW := zW_in (zch_8 _ (List.mem_of_getElem? (i := 20) rfl)) rfl
set_option maxRecDepth 100000 in
theorem zu_9_11 : u_lay RX9 TX9 11 ∈ zW := zW_in (zch_8 _ (List.mem_of_getElem? (i := 22) rfl)) rfl
set_option maxRecDepth 100000 in
theorem zu_9_12 : u_lay RX9 TX9 12 ∈ zW := zW_in (zch_8 _ (List.mem_of_getElem? (i := 24) rfl)) rfl
set_option maxRecDepth 100000 in
theorem zu_9_13 : u_lay RX9 TX9 13 ∈ zW := zW_in (zch_8 _ (List.mem_of_getElem? (i := 26) rfl)) rfl
set_option maxRecDepth 100000 in
theorem zu_9_14 : u_lay RX9 TX9 14 ∈ zW := zW_in (zch_8 _ (List.mem_of_getElem? (i := 28) rfl)) rfl
set_option maxRecDepth 100000 in
theorem zu_9_15 : u_lay RX9 TX9 15 ∈ zW := zW_in (zch_8 _ (List.mem_of_getElem? (i := 30) rfl)) rfl
set_option maxRecDepth 100000 in
theorem zu_9_16 : u_lay RX9 TX9 16 ∈ zW := zW_in (zch_8 _ (List.mem_of_getElem? (i := 32) rfl)) rfl
set_option maxRecDepth 100000 in
theorem zu_9_17 : u_lay RX9 TX9 17 ∈ zW := zW_in (zch_8 _ (List.mem_of_getElem? (i := 34) rfl)) rfl
set_option maxRecDepth 100000 in
theorem zu_9_18 : u_lay RX9 TX9 18 ∈ zW := zW_in (zch_8 _ (List.mem_of_getElem? (i := 36) rfl)) rfl
set_option maxRecDepth 100000 in
theorem zu_9_19 : u_lay RX9 TX9 19 ∈ zW := zW_in (zch_8 _ (List.mem_of_getElem? (i := 38) rfl)) rfl
set_option maxRecDepth 100000 in
theorem zu_9_20 : u_lay RX9 TX9 20 ∈ zW := zW_in (zch_8 _ (List.mem_of_getElem? (i := 40) rfl)) rfl
set_option maxRecDepth 100000 in
theorem zu_9_21 : u_lay RX9 TX9 21 ∈ zW := zW_in (zch_8 _ (List.mem_of_getElem? (i := 42) rfl)) rfl
set_option maxRecDepth 100000 in
theorem zu_9_22 : u_lay RX9 TX9 22 ∈ zW := zW_in (zch_8 _ (List.mem_of_getElem? (i := 44) rfl)) rfl
set_option maxRecDepth 100000 in
theorem zu_9_23 : u_lay RX9 TX9 23 ∈ zW := zW_in (zch_8 _ (List.mem_of_getElem? (i := 46) rfl)) rfl
set_option maxRecDepth 100000 in
theorem zu_9_24 : u_lay RX9 TX9 24 ∈ zW := zW_in (zch_8 _ (List.mem_of_getElem? (i := 48) rfl)) rfl
set_option maxRecDepth 100000 in
theorem zu_9_25 : u_lay RX9 TX9 25 ∈ zW := zW_in (zch_8 _ (List.mem_of_getElem? (i := 50) rfl)) rfl
set_option maxRecDepth 100000 in
theorem zu_9_26 : u_lay RX9 TX9 26 ∈ zW := zW_in (zch_8 _ (List.mem_of_getElem? (i := 52) rfl)) rfl
set_option maxRecDepth 100000 in
theorem zu_9_27 : u_lay RX9 TX9 27 ∈ zW := zW_in (zch_8 _ (List.mem_of_getElem? (i := 54) rfl)) rfl
set_option maxRecDepth 100000 in
theorem zu_9_28 : u_lay RX9 TX9 28 ∈ zW := zW_in (zch_8 _ (List.mem_of_getElem? (i := 56) rfl)) rfl
set_option maxRecDepth 100000 in
theorem zu_9_29 : u_lay RX9 TX9 29 ∈ zW := zW_in (zch_8 _ (List.mem_of_getElem? (i := 58) rfl)) rfl
set_option maxRecDepth 100000 in
theorem zu_9_30 : u_lay RX9 TX9 30 ∈ zW := zW_in (zch_8 _ (List.mem_of_getElem? (i := 60) rfl)) rfl
set_option maxRecDepth 100000 in
theorem zu_9_31 : u_lay RX9 TX9 31 ∈ zW := zW_in (zch_8 _ (List.mem_of_getElem? (i := 62) rfl)) rfl
set_option maxRecDepth 100000 in
theorem zu_9_32 : u_lay RX9 TX9 32 ∈ zW := zW_in (zch_8 _ (List.mem_of_getElem? (i := 64) rfl)) rfl
set_option maxRecDepth 100000 in
theorem zu_9_33 : u_lay RX9 TX9 33 ∈ zW := zW_in (zch_8 _ (List.mem_of_getElem? (i := 66) rfl)) rfl
set_option maxRecDepth 100000 in
theorem zu_9_34 : u_lay RX9 TX9 34 ∈ zW := zW_in (zch_8 _ (List.mem_of_getElem? (i := 68) rfl)) rfl
set_option maxRecDepth 100000 in
theorem zu_9_35 : u_lay RX9 TX9 35 ∈ zW := zW_in (zch_8 _ (List.mem_of_getElem? (i := 70) rfl)) rfl
set_option maxRecDepth 100000 in
theorem zu_9_36 : u_lay RX9 TX9 36 ∈ zW := zW_in (zch_8 _ (List.mem_of_getElem? (i := 72) rfl)) rfl
set_option maxRecDepth 100000 in
theorem zu_9_37 : u_lay RX9 TX9 37 ∈ zW := zW_in (zch_8 _ (List.mem_of_getElem? (i := 74) rfl)) rfl
set_option maxRecDepth 100000 in
theorem zu_9_38 : u_lay RX9 TX9 38 ∈ zW := zW_in (zch_8 _ (List.mem_of_getElem? (i := 76) rfl)) rfl
set_option maxRecDepth 100000 in
theorem zu_9_39 : u_lay RX9 TX9 39 ∈ zW := zW_in (zch_8 _ (List.mem_of_getElem? (i := 78) rfl)) rfl
set_option maxRecDepth 100000 in
theorem zu_9_40 : u_lay RX9 TX9 40 ∈ zW := zW_in (zch_8 _ (List.mem_of_getElem? (i := 80) rfl)) rfl
set_option maxRecDepth 100000 in
theorem zu_9_41 : u_lay RX9 TX9 41 ∈ zW := zW_in (zch_8 _ (List.mem_of_getElem? (i := 82) rfl)) rfl
set_option maxRecDepth 100000 in
theorem zu_9_42 : u_lay RX9 TX9 42 ∈ zW := zW_in (zch_8 _ (List.mem_of_getElem? (i := 84) rfl)) rfl
set_option maxRecDepth 100000 in
theorem zu_9_43 : u_lay RX9 TX9 43 ∈ zW := zW_in (zch_8 _ (List.mem_of_getElem? (i := 86) rfl)) rfl
set_option maxRecDepth 100000 in
theorem zu_9_44 : u_lay RX9 TX9 44 ∈ zW := zW_in (zch_8 _ (List.mem_of_getElem? (i := 88) rfl)) rfl
set_option maxRecDepth 100000 in
theorem zu_9_45 : u_lay RX9 TX9 45 ∈ zW := zW_in (zch_8 _ (List.mem_of_getElem? (i := 90) rfl)) rfl
set_option maxRecDepth 100000 in
theorem zu_9_46 : u_lay RX9 TX9 46 ∈ zW := zW_in (zch_8 _ (List.mem_of_getElem? (i := 92) rfl)) rfl
set_option maxRecDepth 100000 in
theorem zu_9_47 : u_lay RX9 TX9 47 ∈ zW := zW_in (zch_8 _ (List.mem_of_getElem? (i := 94) rfl)) rfl
set_option maxRecDepth 100000 in
theorem zu_9_48 : u_lay RX9 TX9 48 ∈ zW := zW_in (zch_8 _ (List.mem_of_getElem? (i := 96) rfl)) rfl
set_option maxRecDepth 100000 in
theorem zu_9_49 : u_lay RX9 TX9 49 ∈ zW := zW_in (zch_8 _ (List.mem_of_getElem? (i := 98) rfl)) rfl
set_option maxRecDepth 100000 in
theorem zu_9_50 : u_lay RX9 TX9 50 ∈ zW := zW_in (zch_8 _ (List.mem_of_getElem? (i := 100) rfl)) rfl
set_option maxRecDepth 100000 in
theorem zu_9_51 : u_lay RX9 TX9 51 ∈ zW := zW_in (zch_8 _ (List.mem_of_getElem? (i := 102) rfl)) rfl
set_option maxRecDepth 100000 in
theorem zu_9_52 : u_lay RX9 TX9 52 ∈ zW := zW_in (zch_8 _ (List.mem_of_getElem? (i := 104) rfl)) rfl
set_option maxRecDepth 100000 in
theorem zu_9_53 : u_lay RX9 TX9 53 ∈ zW := zW_in (zch_8 _ (List.mem_of_getElem? (i := 106) rfl)) rfl
set_option maxRecDepth 100000 in
theorem zu_9_54 : u_lay RX9 TX9 54 ∈ zW := zW_in (zch_8 _ (List.mem_of_getElem? (i := 108) rfl)) rfl
set_option maxRecDepth 100000 in
theorem zu_9_55 : u_lay RX9 TX9 55 ∈ zW := zW_in (zch_8 _ (List.mem_of_getElem? (i := 110) rfl)) rfl
set_option maxRecDepth 100000 in
theorem zu_9_56 : u_lay RX9 TX9 56 ∈ zW := zW_in (zch_8 _ (List.mem_of_getElem? (i := 112) rfl)) rfl
set_option maxRecDepth 100000 in
theorem zu_9_57 : u_lay RX9 TX9 57 ∈ zW := zW_in (zch_8 _ (List.mem_of_getElem? (i := 114) rfl)) rfl
set_option maxRecDepth 100000 in
theorem zu_9_58 : u_lay RX9 TX9 58 ∈ zW := zW_in (zch_8 _ (List.mem_of_getElem? (i := 116) rfl)) rfl
set_option maxRecDepth 100000 in
theorem zu_9_59 : u_lay RX9 TX9 59 ∈ zW := zW_in (zch_8 _ (List.mem_of_getElem? (i := 118) rfl)) rfl
set_option maxRecDepth 100000 in
theorem zu_9_60 : u_lay RX9 TX9 60 ∈ zW := zW_in (zch_8 _ (List.mem_of_getElem? (i := 120) rfl)) rfl
set_option maxRecDepth 100000 in
theorem zu_9_61 : u_lay RX9 TX9 61 ∈ zW := zW_in (zch_8 _ (List.mem_of_getElem? (i := 122) rfl)) rfl
set_option maxRecDepth 100000 in
theorem zu_9_62 : u_lay RX9 TX9 62 ∈ zW := zW_in (zch_8 _ (List.mem_of_getElem? (i := 124) rfl)) rfl
set_option maxRecDepth 100000 in
theorem zu_9_63 : u_lay RX9 TX9 63 ∈ zW := zW_in (zch_8 _ (List.mem_of_getElem? (i := 126) rfl)) rfl
set_option maxRecDepth 100000 in
theorem zu_9_64 : u_lay RX9 TX9 64 ∈ zW := zW_in (zch_8 _ (List.mem_of_getElem? (i := 128) rfl)) rfl
set_option maxRecDepth 100000 in
theorem zu_9_65 : u_lay RX9 TX9 65 ∈ zW := zW_in (zch_8 _ (List.mem_of_getElem? (i := 130) rfl)) rfl
theorem zu_9 : ∀ w ∈ u_ws RX9 TX9 66, w ∈ zW := by
  intro w hw
  obtain ⟨k, hk, rfl⟩ := List.mem_map.mp hw
  have hk := List.mem_range.mp hk
  match k, hk with
  | 0, _ => exact zu_9_0
  | 1, _ => exact zu_9_1
  | 2, _ => exact zu_9_2
  | 3, _ => exact zu_9_3
  | 4, _ => exact zu_9_4
  | 5, _ => exact zu_9_5
  | 6, _ => exact zu_9_6
  | 7, _ => exact zu_9_7
  | 8, _ => exact zu_9_8
  | 9, _ => exact zu_9_9
  | 10, _ => exact zu_9_10
  | 11, _ => exact zu_9_11
  | 12, _ => exact zu_9_12
  | 13, _ => exact zu_9_13
  | 14, _ => exact zu_9_14
  | 15, _ => exact zu_9_15
  | 16, _ => exact zu_9_16
  | 17, _ => exact zu_9_17
  | 18, _ => exact zu_9_18
  | 19, _ => exact zu_9_19
  | 20, _ => exact zu_9_20
  | 21, _ => exact zu_9_21
  | 22, _ => exact zu_9_22
  | 23, _ => exact zu_9_23
  | 24, _ => exact zu_9_24
  | 25, _ => exact zu_9_25
  | 26, _ => exact zu_9_26
  | 27, _ => exact zu_9_27
  | 28, _ => exact zu_9_28
  | 29, _ => exact zu_9_29
  | 30, _ => exact zu_9_30
  | 31, _ => exact zu_9_31
  | 32, _ => exact zu_9_32
  | 33, _ => exact zu_9_33
  | 34, _ => exact zu_9_34
  | 35, _ => exact zu_9_35
  | 36, _ => exact zu_9_36
  | 37, _ => exact zu_9_37
  | 38, _ => exact zu_9_38
  | 39, _ => exact zu_9_39
  | 40, _ => exact zu_9_40
  | 41, _ => exact zu_9_41
  | 42, _ => exact zu_9_42
  | 43, _ => exact zu_9_43
  | 44, _ => exact zu_9_44
  | 45, _ => exact zu_9_45
  | 46, _ => exact zu_9_46
  | 47, _ => exact zu_9_47
  | 48, _ => exact zu_9_48
  | 49, _ => exact zu_9_49
  | 50, _ => exact zu_9_50
  | 51, _ => exact zu_9_51
  | 52, _ => exact zu_9_52
  | 53, _ => exact zu_9_53
  | 54, _ => exact zu_9_54
  | 55, _ => exact zu_9_55
  | 56, _ => exact zu_9_56
  | 57, _ => exact zu_9_57
  | 58, _ => exact zu_9_58
  | 59, _ => exact zu_9_59
  | 60, _ => exact zu_9_60
  | 61, _ => exact zu_9_61
  | 62, _ => exact zu_9_62
  | 63, _ => exact zu_9_63
  | 64, _ => exact zu_9_64
  | 65, _ => exact zu_9_65
  | k + 66, hk => exact absurd hk (by omega)
theorem zu_ok (i : Nat) (h : i < 10) : ∀ w ∈ u_ws (zC i) (zTX i) (zsz i), w ∈ zW := by
  match i, h with
  | 0, _ => exact zu_0
  | 1, _ => exact zu_1
  | 2, _ => exact zu_2
  | 3, _ => exact zu_3
  | 4, _ => exact zu_4
  | 5, _ => exact zu_5
  | 6, _ => exact zu_6
  | 7, _ => exact zu_7
  | 8, _ => exact zu_8
  | 9, _ => exact zu_9
