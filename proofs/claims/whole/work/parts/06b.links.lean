/-! The words of the fields, the methods, the calls. -/
def zrfty (t : FieldType) : Bool := match t with
  | .object _ => true
  | .array _ => true
  | _ => false
def zFLp (f : Nat × Nat × Nat × Nat × Nat) : Prop := Cond.fieldLink (zC f.1) f.2.1 (zTX f.2.2.1 f.2.2.2.1).1 (zTX f.2.2.1 f.2.2.2.1).2.1 (zTX f.2.2.1 f.2.2.2.1).2.2.1 ∈ zW ∧ f.2.2.1 < 10 ∧ f.2.2.2.1 < zsz f.2.2.1 ∧ (match f.2.2.2.2 with
  | 0 => zty f.2.2.1 f.2.2.2.1 = .int
  | 1 => zty f.2.2.1 f.2.2.2.1 = .long
  | 2 => zrfty (zty f.2.2.1 f.2.2.2.1) = true
  | _ => zty f.2.2.1 f.2.2.2.1 = .boolean)
set_option maxRecDepth 100000 in
theorem zFL_ok_0_0 : zFLp (0, 9, 0, 0, 2) := ⟨zW_in (zch_1 _ (List.mem_of_getElem? (i := 196) rfl)) rfl, by decide, by decide +kernel, rfl⟩
set_option maxRecDepth 100000 in
theorem zFL_ok_0_1 : zFLp (0, 15, 0, 4, 2) := ⟨zW_in (zch_1 _ (List.mem_of_getElem? (i := 201) rfl)) rfl, by decide, by decide +kernel, rfl⟩
set_option maxRecDepth 100000 in
theorem zFL_ok_0_2 : zFLp (0, 18, 0, 5, 2) := ⟨zW_in (zch_1 _ (List.mem_of_getElem? (i := 202) rfl)) rfl, by decide, by decide +kernel, rfl⟩
set_option maxRecDepth 100000 in
theorem zFL_ok_0_3 : zFLp (0, 21, 0, 6, 2) := ⟨zW_in (zch_1 _ (List.mem_of_getElem? (i := 203) rfl)) rfl, by decide, by decide +kernel, rfl⟩
set_option maxRecDepth 100000 in
theorem zFL_ok_0_4 : zFLp (0, 24, 0, 7, 2) := ⟨zW_in (zch_1 _ (List.mem_of_getElem? (i := 204) rfl)) rfl, by decide, by decide +kernel, rfl⟩
set_option maxRecDepth 100000 in
theorem zFL_ok_0_5 : zFLp (0, 28, 0, 8, 2) := ⟨zW_in (zch_1 _ (List.mem_of_getElem? (i := 205) rfl)) rfl, by decide, by decide +kernel, rfl⟩
set_option maxRecDepth 100000 in
theorem zFL_ok_0_6 : zFLp (0, 31, 0, 9, 2) := ⟨zW_in (zch_1 _ (List.mem_of_getElem? (i := 206) rfl)) rfl, by decide, by decide +kernel, rfl⟩
set_option maxRecDepth 100000 in
theorem zFL_ok_0_7 : zFLp (0, 34, 0, 1, 2) := ⟨zW_in (zch_1 _ (List.mem_of_getElem? (i := 198) rfl)) rfl, by decide, by decide +kernel, rfl⟩
set_option maxRecDepth 100000 in
theorem zFL_ok_0_8 : zFLp (0, 38, 0, 2, 2) := ⟨zW_in (zch_1 _ (List.mem_of_getElem? (i := 199) rfl)) rfl, by decide, by decide +kernel, rfl⟩
set_option maxRecDepth 100000 in
theorem zFL_ok_0_9 : zFLp (0, 42, 0, 3, 2) := ⟨zW_in (zch_1 _ (List.mem_of_getElem? (i := 200) rfl)) rfl, by decide, by decide +kernel, rfl⟩
set_option maxRecDepth 100000 in
theorem zFL_ok_0_10 : zFLp (0, 46, 1, 1, 0) := ⟨zW_in (zch_1 _ (List.mem_of_getElem? (i := 39) rfl)) rfl, by decide, by decide +kernel, rfl⟩
set_option maxRecDepth 100000 in
theorem zFL_ok_0_11 : zFLp (0, 52, 1, 0, 0) := ⟨zW_in (zch_1 _ (List.mem_of_getElem? (i := 37) rfl)) rfl, by decide, by decide +kernel, rfl⟩
theorem zFL_ok_0 : ∀ f ∈ [(0, 9, 0, 0, 2), (0, 15, 0, 4, 2), (0, 18, 0, 5, 2), (0, 21, 0, 6, 2), (0, 24, 0, 7, 2), (0, 28, 0, 8, 2), (0, 31, 0, 9, 2), (0, 34, 0, 1, 2), (0, 38, 0, 2, 2), (0, 42, 0, 3, 2), (0, 46, 1, 1, 0), (0, 52, 1, 0, 0)], zFLp f := List.forall_mem_cons.mpr ⟨zFL_ok_0_0, List.forall_mem_cons.mpr ⟨zFL_ok_0_1, List.forall_mem_cons.mpr ⟨zFL_ok_0_2, List.forall_mem_cons.mpr ⟨zFL_ok_0_3, List.forall_mem_cons.mpr ⟨zFL_ok_0_4, List.forall_mem_cons.mpr ⟨zFL_ok_0_5, List.forall_mem_cons.mpr ⟨zFL_ok_0_6, List.forall_mem_cons.mpr ⟨zFL_ok_0_7, List.forall_mem_cons.mpr ⟨zFL_ok_0_8, List.forall_mem_cons.mpr ⟨zFL_ok_0_9, List.forall_mem_cons.mpr ⟨zFL_ok_0_10, List.forall_mem_cons.mpr ⟨zFL_ok_0_11, fun _ h => absurd h List.not_mem_nil⟩⟩⟩⟩⟩⟩⟩⟩⟩⟩⟩⟩
set_option maxRecDepth 100000 in
theorem zFL_ok_1_0 : zFLp (0, 59, 6, 6, 0) := ⟨zW_in (zch_1 _ (List.mem_of_getElem? (i := 123) rfl)) rfl, by decide, by decide +kernel, rfl⟩
set_option maxRecDepth 100000 in
theorem zFL_ok_1_1 : zFLp (0, 89, 0, 10, 0) := ⟨zW_in (zch_1 _ (List.mem_of_getElem? (i := 207) rfl)) rfl, by decide, by decide +kernel, rfl⟩
set_option maxRecDepth 100000 in
theorem zFL_ok_1_2 : zFLp (0, 122, 0, 11, 0) := ⟨zW_in (zch_1 _ (List.mem_of_getElem? (i := 208) rfl)) rfl, by decide, by decide +kernel, rfl⟩
set_option maxRecDepth 100000 in
theorem zFL_ok_1_3 : zFLp (1, 9, 1, 2, 2) := ⟨zW_in (zch_1 _ (List.mem_of_getElem? (i := 45) rfl)) rfl, by decide, by decide +kernel, rfl⟩
set_option maxRecDepth 100000 in
theorem zFL_ok_1_4 : zFLp (1, 15, 1, 3, 2) := ⟨zW_in (zch_1 _ (List.mem_of_getElem? (i := 48) rfl)) rfl, by decide, by decide +kernel, rfl⟩
set_option maxRecDepth 100000 in
theorem zFL_ok_1_5 : zFLp (1, 18, 1, 4, 2) := ⟨zW_in (zch_1 _ (List.mem_of_getElem? (i := 52) rfl)) rfl, by decide, by decide +kernel, rfl⟩
set_option maxRecDepth 100000 in
theorem zFL_ok_1_6 : zFLp (1, 22, 1, 5, 2) := ⟨zW_in (zch_1 _ (List.mem_of_getElem? (i := 54) rfl)) rfl, by decide, by decide +kernel, rfl⟩
set_option maxRecDepth 100000 in
theorem zFL_ok_1_7 : zFLp (1, 25, 1, 6, 2) := ⟨zW_in (zch_1 _ (List.mem_of_getElem? (i := 57) rfl)) rfl, by decide, by decide +kernel, rfl⟩
set_option maxRecDepth 100000 in
theorem zFL_ok_1_8 : zFLp (1, 28, 1, 0, 0) := ⟨zW_in (zch_1 _ (List.mem_of_getElem? (i := 35) rfl)) rfl, by decide, by decide +kernel, rfl⟩
set_option maxRecDepth 100000 in
theorem zFL_ok_1_9 : zFLp (1, 32, 1, 1, 0) := ⟨zW_in (zch_1 _ (List.mem_of_getElem? (i := 41) rfl)) rfl, by decide, by decide +kernel, rfl⟩
set_option maxRecDepth 100000 in
theorem zFL_ok_1_10 : zFLp (2, 9, 2, 0, 2) := ⟨zW_in (zch_1 _ (List.mem_of_getElem? (i := 84) rfl)) rfl, by decide, by decide +kernel, rfl⟩
set_option maxRecDepth 100000 in
theorem zFL_ok_1_11 : zFLp (2, 15, 2, 1, 2) := ⟨zW_in (zch_1 _ (List.mem_of_getElem? (i := 89) rfl)) rfl, by decide, by decide +kernel, rfl⟩
theorem zFL_ok_1 : ∀ f ∈ [(0, 59, 6, 6, 0), (0, 89, 0, 10, 0), (0, 122, 0, 11, 0), (1, 9, 1, 2, 2), (1, 15, 1, 3, 2), (1, 18, 1, 4, 2), (1, 22, 1, 5, 2), (1, 25, 1, 6, 2), (1, 28, 1, 0, 0), (1, 32, 1, 1, 0), (2, 9, 2, 0, 2), (2, 15, 2, 1, 2)], zFLp f := List.forall_mem_cons.mpr ⟨zFL_ok_1_0, List.forall_mem_cons.mpr ⟨zFL_ok_1_1, List.forall_mem_cons.mpr ⟨zFL_ok_1_2, List.forall_mem_cons.mpr ⟨zFL_ok_1_3, List.forall_mem_cons.mpr ⟨zFL_ok_1_4, List.forall_mem_cons.mpr ⟨zFL_ok_1_5, List.forall_mem_cons.mpr ⟨zFL_ok_1_6, List.forall_mem_cons.mpr ⟨zFL_ok_1_7, List.forall_mem_cons.mpr ⟨zFL_ok_1_8, List.forall_mem_cons.mpr ⟨zFL_ok_1_9, List.forall_mem_cons.mpr ⟨zFL_ok_1_10, List.forall_mem_cons.mpr ⟨zFL_ok_1_11, fun _ h => absurd h List.not_mem_nil⟩⟩⟩⟩⟩⟩⟩⟩⟩⟩⟩⟩
set_option maxRecDepth 100000 in
theorem zFL_ok_2_0 : zFLp (2, 18, 2, 2, 2) := ⟨zW_in (zch_1 _ (List.mem_of_getElem? (i := 90) rfl)) rfl, by decide, by decide +kernel, rfl⟩
set_option maxRecDepth 100000 in
theorem zFL_ok_2_1 : zFLp (2, 27, 2, 3, 0) := ⟨zW_in (zch_1 _ (List.mem_of_getElem? (i := 91) rfl)) rfl, by decide, by decide +kernel, rfl⟩
set_option maxRecDepth 100000 in
theorem zFL_ok_2_2 : zFLp (3, 7, 3, 0, 1) := ⟨zW_in (zch_2 _ (List.mem_of_getElem? (i := 7) rfl)) rfl, by decide, by decide +kernel, rfl⟩
set_option maxRecDepth 100000 in
theorem zFL_ok_2_3 : zFLp (3, 13, 3, 1, 1) := ⟨zW_in (zch_2 _ (List.mem_of_getElem? (i := 8) rfl)) rfl, by decide, by decide +kernel, rfl⟩
set_option maxRecDepth 100000 in
theorem zFL_ok_2_4 : zFLp (4, 11, 4, 2, 2) := ⟨zW_in (zch_2 _ (List.mem_of_getElem? (i := 18) rfl)) rfl, by decide, by decide +kernel, rfl⟩
set_option maxRecDepth 100000 in
theorem zFL_ok_2_5 : zFLp (4, 15, 4, 7, 2) := ⟨zW_in (zch_2 _ (List.mem_of_getElem? (i := 24) rfl)) rfl, by decide, by decide +kernel, rfl⟩
set_option maxRecDepth 100000 in
theorem zFL_ok_2_6 : zFLp (4, 18, 4, 8, 2) := ⟨zW_in (zch_2 _ (List.mem_of_getElem? (i := 25) rfl)) rfl, by decide, by decide +kernel, rfl⟩
set_option maxRecDepth 100000 in
theorem zFL_ok_2_7 : zFLp (4, 21, 4, 9, 2) := ⟨zW_in (zch_2 _ (List.mem_of_getElem? (i := 26) rfl)) rfl, by decide, by decide +kernel, rfl⟩
set_option maxRecDepth 100000 in
theorem zFL_ok_2_8 : zFLp (4, 26, 4, 10, 2) := ⟨zW_in (zch_2 _ (List.mem_of_getElem? (i := 27) rfl)) rfl, by decide, by decide +kernel, rfl⟩
set_option maxRecDepth 100000 in
theorem zFL_ok_2_9 : zFLp (4, 31, 4, 11, 2) := ⟨zW_in (zch_2 _ (List.mem_of_getElem? (i := 28) rfl)) rfl, by decide, by decide +kernel, rfl⟩
set_option maxRecDepth 100000 in
theorem zFL_ok_2_10 : zFLp (4, 35, 4, 12, 2) := ⟨zW_in (zch_2 _ (List.mem_of_getElem? (i := 29) rfl)) rfl, by decide, by decide +kernel, rfl⟩
set_option maxRecDepth 100000 in
theorem zFL_ok_2_11 : zFLp (4, 38, 4, 13, 2) := ⟨zW_in (zch_2 _ (List.mem_of_getElem? (i := 30) rfl)) rfl, by decide, by decide +kernel, rfl⟩
theorem zFL_ok_2 : ∀ f ∈ [(2, 18, 2, 2, 2), (2, 27, 2, 3, 0), (3, 7, 3, 0, 1), (3, 13, 3, 1, 1), (4, 11, 4, 2, 2), (4, 15, 4, 7, 2), (4, 18, 4, 8, 2), (4, 21, 4, 9, 2), (4, 26, 4, 10, 2), (4, 31, 4, 11, 2), (4, 35, 4, 12, 2), (4, 38, 4, 13, 2)], zFLp f := List.forall_mem_cons.mpr ⟨zFL_ok_2_0, List.forall_mem_cons.mpr ⟨zFL_ok_2_1, List.forall_mem_cons.mpr ⟨zFL_ok_2_2, List.forall_mem_cons.mpr ⟨zFL_ok_2_3, List.forall_mem_cons.mpr ⟨zFL_ok_2_4, List.forall_mem_cons.mpr ⟨zFL_ok_2_5, List.forall_mem_cons.mpr ⟨zFL_ok_2_6, List.forall_mem_cons.mpr ⟨zFL_ok_2_7, List.forall_mem_cons.mpr ⟨zFL_ok_2_8, List.forall_mem_cons.mpr ⟨zFL_ok_2_9, List.forall_mem_cons.mpr ⟨zFL_ok_2_10, List.forall_mem_cons.mpr ⟨zFL_ok_2_11, fun _ h => absurd h List.not_mem_nil⟩⟩⟩⟩⟩⟩⟩⟩⟩⟩⟩⟩
set_option maxRecDepth 100000 in
theorem zFL_ok_3_0 : zFLp (4, 41, 4, 14, 2) := ⟨zW_in (zch_2 _ (List.mem_of_getElem? (i := 31) rfl)) rfl, by decide, by decide +kernel, rfl⟩
set_option maxRecDepth 100000 in
theorem zFL_ok_3_1 : zFLp (4, 44, 4, 15, 2) := ⟨zW_in (zch_2 _ (List.mem_of_getElem? (i := 32) rfl)) rfl, by decide, by decide +kernel, rfl⟩
set_option maxRecDepth 100000 in
theorem zFL_ok_3_2 : zFLp (4, 47, 4, 16, 2) := ⟨zW_in (zch_2 _ (List.mem_of_getElem? (i := 33) rfl)) rfl, by decide, by decide +kernel, rfl⟩
set_option maxRecDepth 100000 in
theorem zFL_ok_3_3 : zFLp (4, 50, 4, 17, 2) := ⟨zW_in (zch_2 _ (List.mem_of_getElem? (i := 34) rfl)) rfl, by decide, by decide +kernel, rfl⟩
set_option maxRecDepth 100000 in
theorem zFL_ok_3_4 : zFLp (4, 53, 4, 3, 2) := ⟨zW_in (zch_2 _ (List.mem_of_getElem? (i := 20) rfl)) rfl, by decide, by decide +kernel, rfl⟩
set_option maxRecDepth 100000 in
theorem zFL_ok_3_5 : zFLp (4, 57, 4, 4, 2) := ⟨zW_in (zch_2 _ (List.mem_of_getElem? (i := 21) rfl)) rfl, by decide, by decide +kernel, rfl⟩
set_option maxRecDepth 100000 in
theorem zFL_ok_3_6 : zFLp (4, 61, 4, 5, 2) := ⟨zW_in (zch_2 _ (List.mem_of_getElem? (i := 22) rfl)) rfl, by decide, by decide +kernel, rfl⟩
set_option maxRecDepth 100000 in
theorem zFL_ok_3_7 : zFLp (4, 65, 4, 6, 2) := ⟨zW_in (zch_2 _ (List.mem_of_getElem? (i := 23) rfl)) rfl, by decide, by decide +kernel, rfl⟩
set_option maxRecDepth 100000 in
theorem zFL_ok_3_8 : zFLp (4, 69, 1, 0, 0) := ⟨zW_in (zch_1 _ (List.mem_of_getElem? (i := 34) rfl)) rfl, by decide, by decide +kernel, rfl⟩
set_option maxRecDepth 100000 in
theorem zFL_ok_3_9 : zFLp (4, 75, 1, 1, 0) := ⟨zW_in (zch_1 _ (List.mem_of_getElem? (i := 40) rfl)) rfl, by decide, by decide +kernel, rfl⟩
set_option maxRecDepth 100000 in
theorem zFL_ok_3_10 : zFLp (4, 78, 4, 18, 0) := ⟨zW_in (zch_2 _ (List.mem_of_getElem? (i := 35) rfl)) rfl, by decide, by decide +kernel, rfl⟩
set_option maxRecDepth 100000 in
theorem zFL_ok_3_11 : zFLp (4, 98, 2, 0, 2) := ⟨zW_in (zch_1 _ (List.mem_of_getElem? (i := 87) rfl)) rfl, by decide, by decide +kernel, rfl⟩
theorem zFL_ok_3 : ∀ f ∈ [(4, 41, 4, 14, 2), (4, 44, 4, 15, 2), (4, 47, 4, 16, 2), (4, 50, 4, 17, 2), (4, 53, 4, 3, 2), (4, 57, 4, 4, 2), (4, 61, 4, 5, 2), (4, 65, 4, 6, 2), (4, 69, 1, 0, 0), (4, 75, 1, 1, 0), (4, 78, 4, 18, 0), (4, 98, 2, 0, 2)], zFLp f := List.forall_mem_cons.mpr ⟨zFL_ok_3_0, List.forall_mem_cons.mpr ⟨zFL_ok_3_1, List.forall_mem_cons.mpr ⟨zFL_ok_3_2, List.forall_mem_cons.mpr ⟨zFL_ok_3_3, List.forall_mem_cons.mpr ⟨zFL_ok_3_4, List.forall_mem_cons.mpr ⟨zFL_ok_3_5, List.forall_mem_cons.mpr ⟨zFL_ok_3_6, List.forall_mem_cons.mpr ⟨zFL_ok_3_7, List.forall_mem_cons.mpr ⟨zFL_ok_3_8, List.forall_mem_cons.mpr ⟨zFL_ok_3_9, List.forall_mem_cons.mpr ⟨zFL_ok_3_10, List.forall_mem_cons.mpr ⟨zFL_ok_3_11, fun _ h => absurd h List.not_mem_nil⟩⟩⟩⟩⟩⟩⟩⟩⟩⟩⟩⟩
set_option maxRecDepth 100000 in
theorem zFL_ok_4_0 : zFLp (4, 167, 4, 0, 0) := ⟨zW_in (zch_2 _ (List.mem_of_getElem? (i := 14) rfl)) rfl, by decide, by decide +kernel, rfl⟩
set_option maxRecDepth 100000 in
theorem zFL_ok_4_1 : zFLp (4, 186, 6, 6, 0) := ⟨zW_in (zch_1 _ (List.mem_of_getElem? (i := 126) rfl)) rfl, by decide, by decide +kernel, rfl⟩
set_option maxRecDepth 100000 in
theorem zFL_ok_4_2 : zFLp (4, 210, 4, 1, 0) := ⟨zW_in (zch_2 _ (List.mem_of_getElem? (i := 16) rfl)) rfl, by decide, by decide +kernel, rfl⟩
set_option maxRecDepth 100000 in
theorem zFL_ok_4_3 : zFLp (4, 213, 1, 3, 2) := ⟨zW_in (zch_1 _ (List.mem_of_getElem? (i := 51) rfl)) rfl, by decide, by decide +kernel, rfl⟩
set_option maxRecDepth 100000 in
theorem zFL_ok_4_4 : zFLp (4, 222, 4, 19, 0) := ⟨zW_in (zch_2 _ (List.mem_of_getElem? (i := 36) rfl)) rfl, by decide, by decide +kernel, rfl⟩
set_option maxRecDepth 100000 in
theorem zFL_ok_4_5 : zFLp (4, 245, 6, 3, 2) := ⟨zW_in (zch_1 _ (List.mem_of_getElem? (i := 117) rfl)) rfl, by decide, by decide +kernel, rfl⟩
set_option maxRecDepth 100000 in
theorem zFL_ok_4_6 : zFLp (4, 248, 1, 6, 2) := ⟨zW_in (zch_1 _ (List.mem_of_getElem? (i := 60) rfl)) rfl, by decide, by decide +kernel, rfl⟩
set_option maxRecDepth 100000 in
theorem zFL_ok_4_7 : zFLp (5, 12, 5, 0, 2) := ⟨zW_in (zch_1 _ (List.mem_of_getElem? (i := 159) rfl)) rfl, by decide, by decide +kernel, rfl⟩
set_option maxRecDepth 100000 in
theorem zFL_ok_4_8 : zFLp (5, 18, 5, 1, 2) := ⟨zW_in (zch_1 _ (List.mem_of_getElem? (i := 161) rfl)) rfl, by decide, by decide +kernel, rfl⟩
set_option maxRecDepth 100000 in
theorem zFL_ok_4_9 : zFLp (5, 25, 5, 3, 0) := ⟨zW_in (zch_1 _ (List.mem_of_getElem? (i := 163) rfl)) rfl, by decide, by decide +kernel, rfl⟩
set_option maxRecDepth 100000 in
theorem zFL_ok_4_10 : zFLp (5, 35, 5, 2, 0) := ⟨zW_in (zch_1 _ (List.mem_of_getElem? (i := 162) rfl)) rfl, by decide, by decide +kernel, rfl⟩
set_option maxRecDepth 100000 in
theorem zFL_ok_4_11 : zFLp (5, 62, 2, 0, 2) := ⟨zW_in (zch_1 _ (List.mem_of_getElem? (i := 86) rfl)) rfl, by decide, by decide +kernel, rfl⟩
theorem zFL_ok_4 : ∀ f ∈ [(4, 167, 4, 0, 0), (4, 186, 6, 6, 0), (4, 210, 4, 1, 0), (4, 213, 1, 3, 2), (4, 222, 4, 19, 0), (4, 245, 6, 3, 2), (4, 248, 1, 6, 2), (5, 12, 5, 0, 2), (5, 18, 5, 1, 2), (5, 25, 5, 3, 0), (5, 35, 5, 2, 0), (5, 62, 2, 0, 2)], zFLp f := List.forall_mem_cons.mpr ⟨zFL_ok_4_0, List.forall_mem_cons.mpr ⟨zFL_ok_4_1, List.forall_mem_cons.mpr ⟨zFL_ok_4_2, List.forall_mem_cons.mpr ⟨zFL_ok_4_3, List.forall_mem_cons.mpr ⟨zFL_ok_4_4, List.forall_mem_cons.mpr ⟨zFL_ok_4_5, List.forall_mem_cons.mpr ⟨zFL_ok_4_6, List.forall_mem_cons.mpr ⟨zFL_ok_4_7, List.forall_mem_cons.mpr ⟨zFL_ok_4_8, List.forall_mem_cons.mpr ⟨zFL_ok_4_9, List.forall_mem_cons.mpr ⟨zFL_ok_4_10, List.forall_mem_cons.mpr ⟨zFL_ok_4_11, fun _ h => absurd h List.not_mem_nil⟩⟩⟩⟩⟩⟩⟩⟩⟩⟩⟩⟩
set_option maxRecDepth 100000 in
theorem zFL_ok_5_0 : zFLp (6, 9, 6, 0, 2) := ⟨zW_in (zch_1 _ (List.mem_of_getElem? (i := 110) rfl)) rfl, by decide, by decide +kernel, rfl⟩
set_option maxRecDepth 100000 in
theorem zFL_ok_5_1 : zFLp (6, 15, 6, 1, 2) := ⟨zW_in (zch_1 _ (List.mem_of_getElem? (i := 111) rfl)) rfl, by decide, by decide +kernel, rfl⟩
set_option maxRecDepth 100000 in
theorem zFL_ok_5_2 : zFLp (6, 18, 6, 2, 2) := ⟨zW_in (zch_1 _ (List.mem_of_getElem? (i := 113) rfl)) rfl, by decide, by decide +kernel, rfl⟩
set_option maxRecDepth 100000 in
theorem zFL_ok_5_3 : zFLp (6, 21, 6, 3, 2) := ⟨zW_in (zch_1 _ (List.mem_of_getElem? (i := 115) rfl)) rfl, by decide, by decide +kernel, rfl⟩
set_option maxRecDepth 100000 in
theorem zFL_ok_5_4 : zFLp (6, 24, 6, 4, 2) := ⟨zW_in (zch_1 _ (List.mem_of_getElem? (i := 118) rfl)) rfl, by decide, by decide +kernel, rfl⟩
set_option maxRecDepth 100000 in
theorem zFL_ok_5_5 : zFLp (6, 27, 6, 5, 2) := ⟨zW_in (zch_1 _ (List.mem_of_getElem? (i := 120) rfl)) rfl, by decide, by decide +kernel, rfl⟩
set_option maxRecDepth 100000 in
theorem zFL_ok_5_6 : zFLp (6, 30, 6, 7, 0) := ⟨zW_in (zch_1 _ (List.mem_of_getElem? (i := 127) rfl)) rfl, by decide, by decide +kernel, rfl⟩
set_option maxRecDepth 100000 in
theorem zFL_ok_5_7 : zFLp (6, 34, 6, 8, 0) := ⟨zW_in (zch_1 _ (List.mem_of_getElem? (i := 129) rfl)) rfl, by decide, by decide +kernel, rfl⟩
set_option maxRecDepth 100000 in
theorem zFL_ok_5_8 : zFLp (6, 49, 6, 6, 0) := ⟨zW_in (zch_1 _ (List.mem_of_getElem? (i := 124) rfl)) rfl, by decide, by decide +kernel, rfl⟩
set_option maxRecDepth 100000 in
theorem zFL_ok_5_9 : zFLp (6, 67, 1, 3, 2) := ⟨zW_in (zch_1 _ (List.mem_of_getElem? (i := 50) rfl)) rfl, by decide, by decide +kernel, rfl⟩
set_option maxRecDepth 100000 in
theorem zFL_ok_5_10 : zFLp (6, 72, 1, 1, 0) := ⟨zW_in (zch_1 _ (List.mem_of_getElem? (i := 44) rfl)) rfl, by decide, by decide +kernel, rfl⟩
set_option maxRecDepth 100000 in
theorem zFL_ok_5_11 : zFLp (6, 90, 1, 6, 2) := ⟨zW_in (zch_1 _ (List.mem_of_getElem? (i := 59) rfl)) rfl, by decide, by decide +kernel, rfl⟩
theorem zFL_ok_5 : ∀ f ∈ [(6, 9, 6, 0, 2), (6, 15, 6, 1, 2), (6, 18, 6, 2, 2), (6, 21, 6, 3, 2), (6, 24, 6, 4, 2), (6, 27, 6, 5, 2), (6, 30, 6, 7, 0), (6, 34, 6, 8, 0), (6, 49, 6, 6, 0), (6, 67, 1, 3, 2), (6, 72, 1, 1, 0), (6, 90, 1, 6, 2)], zFLp f := List.forall_mem_cons.mpr ⟨zFL_ok_5_0, List.forall_mem_cons.mpr ⟨zFL_ok_5_1, List.forall_mem_cons.mpr ⟨zFL_ok_5_2, List.forall_mem_cons.mpr ⟨zFL_ok_5_3, List.forall_mem_cons.mpr ⟨zFL_ok_5_4, List.forall_mem_cons.mpr ⟨zFL_ok_5_5, List.forall_mem_cons.mpr ⟨zFL_ok_5_6, List.forall_mem_cons.mpr ⟨zFL_ok_5_7, List.forall_mem_cons.mpr ⟨zFL_ok_5_8, List.forall_mem_cons.mpr ⟨zFL_ok_5_9, List.forall_mem_cons.mpr ⟨zFL_ok_5_10, List.forall_mem_cons.mpr ⟨zFL_ok_5_11, fun _ h => absurd h List.not_mem_nil⟩⟩⟩⟩⟩⟩⟩⟩⟩⟩⟩⟩
set_option maxRecDepth 100000 in
theorem zFL_ok_6_0 : zFLp (6, 93, 1, 5, 2) := ⟨zW_in (zch_1 _ (List.mem_of_getElem? (i := 56) rfl)) rfl, by decide, by decide +kernel, rfl⟩
set_option maxRecDepth 100000 in
theorem zFL_ok_6_1 : zFLp (6, 96, 1, 2, 2) := ⟨zW_in (zch_1 _ (List.mem_of_getElem? (i := 47) rfl)) rfl, by decide, by decide +kernel, rfl⟩
set_option maxRecDepth 100000 in
theorem zFL_ok_6_2 : zFLp (7, 9, 7, 0, 2) := ⟨zW_in (zch_1 _ (List.mem_of_getElem? (i := 179) rfl)) rfl, by decide, by decide +kernel, rfl⟩
set_option maxRecDepth 100000 in
theorem zFL_ok_6_3 : zFLp (7, 15, 7, 1, 2) := ⟨zW_in (zch_1 _ (List.mem_of_getElem? (i := 180) rfl)) rfl, by decide, by decide +kernel, rfl⟩
set_option maxRecDepth 100000 in
theorem zFL_ok_6_4 : zFLp (7, 19, 7, 2, 2) := ⟨zW_in (zch_1 _ (List.mem_of_getElem? (i := 181) rfl)) rfl, by decide, by decide +kernel, rfl⟩
set_option maxRecDepth 100000 in
theorem zFL_ok_6_5 : zFLp (7, 29, 6, 6, 0) := ⟨zW_in (zch_1 _ (List.mem_of_getElem? (i := 122) rfl)) rfl, by decide, by decide +kernel, rfl⟩
set_option maxRecDepth 100000 in
theorem zFL_ok_6_6 : zFLp (7, 45, 2, 0, 2) := ⟨zW_in (zch_1 _ (List.mem_of_getElem? (i := 85) rfl)) rfl, by decide, by decide +kernel, rfl⟩
set_option maxRecDepth 100000 in
theorem zFL_ok_6_7 : zFLp (7, 85, 1, 1, 0) := ⟨zW_in (zch_1 _ (List.mem_of_getElem? (i := 43) rfl)) rfl, by decide, by decide +kernel, rfl⟩
set_option maxRecDepth 100000 in
theorem zFL_ok_6_8 : zFLp (7, 100, 1, 0, 0) := ⟨zW_in (zch_1 _ (List.mem_of_getElem? (i := 38) rfl)) rfl, by decide, by decide +kernel, rfl⟩
set_option maxRecDepth 100000 in
theorem zFL_ok_6_9 : zFLp (8, 10, 8, 0, 2) := ⟨zW_in (zch_2 _ (List.mem_of_getElem? (i := 78) rfl)) rfl, by decide, by decide +kernel, rfl⟩
set_option maxRecDepth 100000 in
theorem zFL_ok_6_10 : zFLp (8, 19, 8, 1, 2) := ⟨zW_in (zch_2 _ (List.mem_of_getElem? (i := 79) rfl)) rfl, by decide, by decide +kernel, rfl⟩
set_option maxRecDepth 100000 in
theorem zFL_ok_6_11 : zFLp (8, 26, 8, 2, 2) := ⟨zW_in (zch_2 _ (List.mem_of_getElem? (i := 80) rfl)) rfl, by decide, by decide +kernel, rfl⟩
theorem zFL_ok_6 : ∀ f ∈ [(6, 93, 1, 5, 2), (6, 96, 1, 2, 2), (7, 9, 7, 0, 2), (7, 15, 7, 1, 2), (7, 19, 7, 2, 2), (7, 29, 6, 6, 0), (7, 45, 2, 0, 2), (7, 85, 1, 1, 0), (7, 100, 1, 0, 0), (8, 10, 8, 0, 2), (8, 19, 8, 1, 2), (8, 26, 8, 2, 2)], zFLp f := List.forall_mem_cons.mpr ⟨zFL_ok_6_0, List.forall_mem_cons.mpr ⟨zFL_ok_6_1, List.forall_mem_cons.mpr ⟨zFL_ok_6_2, List.forall_mem_cons.mpr ⟨zFL_ok_6_3, List.forall_mem_cons.mpr ⟨zFL_ok_6_4, List.forall_mem_cons.mpr ⟨zFL_ok_6_5, List.forall_mem_cons.mpr ⟨zFL_ok_6_6, List.forall_mem_cons.mpr ⟨zFL_ok_6_7, List.forall_mem_cons.mpr ⟨zFL_ok_6_8, List.forall_mem_cons.mpr ⟨zFL_ok_6_9, List.forall_mem_cons.mpr ⟨zFL_ok_6_10, List.forall_mem_cons.mpr ⟨zFL_ok_6_11, fun _ h => absurd h List.not_mem_nil⟩⟩⟩⟩⟩⟩⟩⟩⟩⟩⟩⟩
set_option maxRecDepth 100000 in
theorem zFL_ok_7_0 : zFLp (8, 30, 8, 3, 2) := ⟨zW_in (zch_2 _ (List.mem_of_getElem? (i := 81) rfl)) rfl, by decide, by decide +kernel, rfl⟩
set_option maxRecDepth 100000 in
theorem zFL_ok_7_1 : zFLp (8, 34, 8, 4, 2) := ⟨zW_in (zch_2 _ (List.mem_of_getElem? (i := 82) rfl)) rfl, by decide, by decide +kernel, rfl⟩
set_option maxRecDepth 100000 in
theorem zFL_ok_7_2 : zFLp (8, 43, 8, 5, 2) := ⟨zW_in (zch_2 _ (List.mem_of_getElem? (i := 83) rfl)) rfl, by decide, by decide +kernel, rfl⟩
set_option maxRecDepth 100000 in
theorem zFL_ok_7_3 : zFLp (8, 52, 8, 6, 2) := ⟨zW_in (zch_2 _ (List.mem_of_getElem? (i := 84) rfl)) rfl, by decide, by decide +kernel, rfl⟩
set_option maxRecDepth 100000 in
theorem zFL_ok_7_4 : zFLp (8, 61, 8, 7, 2) := ⟨zW_in (zch_2 _ (List.mem_of_getElem? (i := 85) rfl)) rfl, by decide, by decide +kernel, rfl⟩
set_option maxRecDepth 100000 in
theorem zFL_ok_7_5 : zFLp (8, 70, 8, 8, 2) := ⟨zW_in (zch_2 _ (List.mem_of_getElem? (i := 86) rfl)) rfl, by decide, by decide +kernel, rfl⟩
set_option maxRecDepth 100000 in
theorem zFL_ok_7_6 : zFLp (8, 74, 8, 9, 2) := ⟨zW_in (zch_2 _ (List.mem_of_getElem? (i := 87) rfl)) rfl, by decide, by decide +kernel, rfl⟩
set_option maxRecDepth 100000 in
theorem zFL_ok_7_7 : zFLp (8, 77, 8, 10, 2) := ⟨zW_in (zch_2 _ (List.mem_of_getElem? (i := 88) rfl)) rfl, by decide, by decide +kernel, rfl⟩
set_option maxRecDepth 100000 in
theorem zFL_ok_7_8 : zFLp (8, 80, 1, 0, 0) := ⟨zW_in (zch_1 _ (List.mem_of_getElem? (i := 36) rfl)) rfl, by decide, by decide +kernel, rfl⟩
set_option maxRecDepth 100000 in
theorem zFL_ok_7_9 : zFLp (8, 84, 1, 2, 2) := ⟨zW_in (zch_1 _ (List.mem_of_getElem? (i := 46) rfl)) rfl, by decide, by decide +kernel, rfl⟩
set_option maxRecDepth 100000 in
theorem zFL_ok_7_10 : zFLp (8, 87, 6, 4, 2) := ⟨zW_in (zch_1 _ (List.mem_of_getElem? (i := 119) rfl)) rfl, by decide, by decide +kernel, rfl⟩
set_option maxRecDepth 100000 in
theorem zFL_ok_7_11 : zFLp (8, 90, 1, 1, 0) := ⟨zW_in (zch_1 _ (List.mem_of_getElem? (i := 42) rfl)) rfl, by decide, by decide +kernel, rfl⟩
theorem zFL_ok_7 : ∀ f ∈ [(8, 30, 8, 3, 2), (8, 34, 8, 4, 2), (8, 43, 8, 5, 2), (8, 52, 8, 6, 2), (8, 61, 8, 7, 2), (8, 70, 8, 8, 2), (8, 74, 8, 9, 2), (8, 77, 8, 10, 2), (8, 80, 1, 0, 0), (8, 84, 1, 2, 2), (8, 87, 6, 4, 2), (8, 90, 1, 1, 0)], zFLp f := List.forall_mem_cons.mpr ⟨zFL_ok_7_0, List.forall_mem_cons.mpr ⟨zFL_ok_7_1, List.forall_mem_cons.mpr ⟨zFL_ok_7_2, List.forall_mem_cons.mpr ⟨zFL_ok_7_3, List.forall_mem_cons.mpr ⟨zFL_ok_7_4, List.forall_mem_cons.mpr ⟨zFL_ok_7_5, List.forall_mem_cons.mpr ⟨zFL_ok_7_6, List.forall_mem_cons.mpr ⟨zFL_ok_7_7, List.forall_mem_cons.mpr ⟨zFL_ok_7_8, List.forall_mem_cons.mpr ⟨zFL_ok_7_9, List.forall_mem_cons.mpr ⟨zFL_ok_7_10, List.forall_mem_cons.mpr ⟨zFL_ok_7_11, fun _ h => absurd h List.not_mem_nil⟩⟩⟩⟩⟩⟩⟩⟩⟩⟩⟩⟩
set_option maxRecDepth 100000 in
theorem zFL_ok_8_0 : zFLp (8, 93, 1, 3, 2) := ⟨zW_in (zch_1 _ (List.mem_of_getElem? (i := 49) rfl)) rfl, by decide, by decide +kernel, rfl⟩
set_option maxRecDepth 100000 in
theorem zFL_ok_8_1 : zFLp (8, 96, 1, 4, 2) := ⟨zW_in (zch_1 _ (List.mem_of_getElem? (i := 53) rfl)) rfl, by decide, by decide +kernel, rfl⟩
set_option maxRecDepth 100000 in
theorem zFL_ok_8_2 : zFLp (8, 100, 1, 5, 2) := ⟨zW_in (zch_1 _ (List.mem_of_getElem? (i := 55) rfl)) rfl, by decide, by decide +kernel, rfl⟩
set_option maxRecDepth 100000 in
theorem zFL_ok_8_3 : zFLp (8, 103, 1, 6, 2) := ⟨zW_in (zch_1 _ (List.mem_of_getElem? (i := 58) rfl)) rfl, by decide, by decide +kernel, rfl⟩
set_option maxRecDepth 100000 in
theorem zFL_ok_8_4 : zFLp (8, 106, 8, 11, 0) := ⟨zW_in (zch_2 _ (List.mem_of_getElem? (i := 89) rfl)) rfl, by decide, by decide +kernel, rfl⟩
set_option maxRecDepth 100000 in
theorem zFL_ok_8_5 : zFLp (8, 113, 5, 0, 2) := ⟨zW_in (zch_1 _ (List.mem_of_getElem? (i := 160) rfl)) rfl, by decide, by decide +kernel, rfl⟩
set_option maxRecDepth 100000 in
theorem zFL_ok_8_6 : zFLp (8, 124, 6, 5, 2) := ⟨zW_in (zch_1 _ (List.mem_of_getElem? (i := 121) rfl)) rfl, by decide, by decide +kernel, rfl⟩
set_option maxRecDepth 100000 in
theorem zFL_ok_8_7 : zFLp (8, 130, 6, 6, 0) := ⟨zW_in (zch_1 _ (List.mem_of_getElem? (i := 125) rfl)) rfl, by decide, by decide +kernel, rfl⟩
set_option maxRecDepth 100000 in
theorem zFL_ok_8_8 : zFLp (8, 202, 6, 2, 2) := ⟨zW_in (zch_1 _ (List.mem_of_getElem? (i := 114) rfl)) rfl, by decide, by decide +kernel, rfl⟩
set_option maxRecDepth 100000 in
theorem zFL_ok_8_9 : zFLp (8, 205, 6, 3, 2) := ⟨zW_in (zch_1 _ (List.mem_of_getElem? (i := 116) rfl)) rfl, by decide, by decide +kernel, rfl⟩
set_option maxRecDepth 100000 in
theorem zFL_ok_8_10 : zFLp (8, 208, 6, 1, 2) := ⟨zW_in (zch_1 _ (List.mem_of_getElem? (i := 112) rfl)) rfl, by decide, by decide +kernel, rfl⟩
set_option maxRecDepth 100000 in
theorem zFL_ok_8_11 : zFLp (8, 217, 0, 0, 2) := ⟨zW_in (zch_1 _ (List.mem_of_getElem? (i := 197) rfl)) rfl, by decide, by decide +kernel, rfl⟩
theorem zFL_ok_8 : ∀ f ∈ [(8, 93, 1, 3, 2), (8, 96, 1, 4, 2), (8, 100, 1, 5, 2), (8, 103, 1, 6, 2), (8, 106, 8, 11, 0), (8, 113, 5, 0, 2), (8, 124, 6, 5, 2), (8, 130, 6, 6, 0), (8, 202, 6, 2, 2), (8, 205, 6, 3, 2), (8, 208, 6, 1, 2), (8, 217, 0, 0, 2)], zFLp f := List.forall_mem_cons.mpr ⟨zFL_ok_8_0, List.forall_mem_cons.mpr ⟨zFL_ok_8_1, List.forall_mem_cons.mpr ⟨zFL_ok_8_2, List.forall_mem_cons.mpr ⟨zFL_ok_8_3, List.forall_mem_cons.mpr ⟨zFL_ok_8_4, List.forall_mem_cons.mpr ⟨zFL_ok_8_5, List.forall_mem_cons.mpr ⟨zFL_ok_8_6, List.forall_mem_cons.mpr ⟨zFL_ok_8_7, List.forall_mem_cons.mpr ⟨zFL_ok_8_8, List.forall_mem_cons.mpr ⟨zFL_ok_8_9, List.forall_mem_cons.mpr ⟨zFL_ok_8_10, List.forall_mem_cons.mpr ⟨zFL_ok_8_11, fun _ h => absurd h List.not_mem_nil⟩⟩⟩⟩⟩⟩⟩⟩⟩⟩⟩⟩
set_option maxRecDepth 100000 in
theorem zFL_ok_9_0 : zFLp (8, 259, 2, 0, 2) := ⟨zW_in (zch_1 _ (List.mem_of_getElem? (i := 88) rfl)) rfl, by decide, by decide +kernel, rfl⟩
set_option maxRecDepth 100000 in
theorem zFL_ok_9_1 : zFLp (8, 299, 4, 0, 0) := ⟨zW_in (zch_2 _ (List.mem_of_getElem? (i := 15) rfl)) rfl, by decide, by decide +kernel, rfl⟩
set_option maxRecDepth 100000 in
theorem zFL_ok_9_2 : zFLp (8, 317, 4, 1, 0) := ⟨zW_in (zch_2 _ (List.mem_of_getElem? (i := 17) rfl)) rfl, by decide, by decide +kernel, rfl⟩
set_option maxRecDepth 100000 in
theorem zFL_ok_9_3 : zFLp (8, 323, 4, 2, 2) := ⟨zW_in (zch_2 _ (List.mem_of_getElem? (i := 19) rfl)) rfl, by decide, by decide +kernel, rfl⟩
set_option maxRecDepth 100000 in
theorem zFL_ok_9_4 : zFLp (8, 353, 6, 7, 0) := ⟨zW_in (zch_1 _ (List.mem_of_getElem? (i := 128) rfl)) rfl, by decide, by decide +kernel, rfl⟩
set_option maxRecDepth 100000 in
theorem zFL_ok_9_5 : zFLp (8, 356, 6, 8, 0) := ⟨zW_in (zch_1 _ (List.mem_of_getElem? (i := 130) rfl)) rfl, by decide, by decide +kernel, rfl⟩
set_option maxRecDepth 100000 in
theorem zFL_ok_9_6 : zFLp (8, 359, 8, 12, 0) := ⟨zW_in (zch_2 _ (List.mem_of_getElem? (i := 90) rfl)) rfl, by decide, by decide +kernel, rfl⟩
set_option maxRecDepth 100000 in
theorem zFL_ok_9_7 : zFLp (9, 3, 9, 0, 0) := ⟨zW_in (zch_7 _ (List.mem_of_getElem? (i := 174) rfl)) rfl, by decide, by decide +kernel, rfl⟩
set_option maxRecDepth 100000 in
theorem zFL_ok_9_8 : zFLp (9, 7, 9, 2, 2) := ⟨zW_in (zch_7 _ (List.mem_of_getElem? (i := 176) rfl)) rfl, by decide, by decide +kernel, rfl⟩
set_option maxRecDepth 100000 in
theorem zFL_ok_9_9 : zFLp (9, 11, 9, 1, 0) := ⟨zW_in (zch_7 _ (List.mem_of_getElem? (i := 175) rfl)) rfl, by decide, by decide +kernel, rfl⟩
set_option maxRecDepth 100000 in
theorem zFL_ok_9_10 : zFLp (9, 22, 9, 3, 0) := ⟨zW_in (zch_7 _ (List.mem_of_getElem? (i := 177) rfl)) rfl, by decide, by decide +kernel, rfl⟩
set_option maxRecDepth 100000 in
theorem zFL_ok_9_11 : zFLp (9, 25, 9, 4, 2) := ⟨zW_in (zch_7 _ (List.mem_of_getElem? (i := 178) rfl)) rfl, by decide, by decide +kernel, rfl⟩
theorem zFL_ok_9 : ∀ f ∈ [(8, 259, 2, 0, 2), (8, 299, 4, 0, 0), (8, 317, 4, 1, 0), (8, 323, 4, 2, 2), (8, 353, 6, 7, 0), (8, 356, 6, 8, 0), (8, 359, 8, 12, 0), (9, 3, 9, 0, 0), (9, 7, 9, 2, 2), (9, 11, 9, 1, 0), (9, 22, 9, 3, 0), (9, 25, 9, 4, 2)], zFLp f := List.forall_mem_cons.mpr ⟨zFL_ok_9_0, List.forall_mem_cons.mpr ⟨zFL_ok_9_1, List.forall_mem_cons.mpr ⟨zFL_ok_9_2, List.forall_mem_cons.mpr ⟨zFL_ok_9_3, List.forall_mem_cons.mpr ⟨zFL_ok_9_4, List.forall_mem_cons.mpr ⟨zFL_ok_9_5, List.forall_mem_cons.mpr ⟨zFL_ok_9_6, List.forall_mem_cons.mpr ⟨zFL_ok_9_7, List.forall_mem_cons.mpr ⟨zFL_ok_9_8, List.forall_mem_cons.mpr ⟨zFL_ok_9_9, List.forall_mem_cons.mpr ⟨zFL_ok_9_10, List.forall_mem_cons.mpr ⟨zFL_ok_9_11, fun _ h => absurd h List.not_mem_nil⟩⟩⟩⟩⟩⟩⟩⟩⟩⟩⟩⟩
set_option maxRecDepth 100000 in
theorem zFL_ok_10_0 : zFLp (9, 28, 9, 5, 2) := ⟨zW_in (zch_7 _ (List.mem_of_getElem? (i := 179) rfl)) rfl, by decide, by decide +kernel, rfl⟩
set_option maxRecDepth 100000 in
theorem zFL_ok_10_1 : zFLp (9, 37, 9, 7, 0) := ⟨zW_in (zch_7 _ (List.mem_of_getElem? (i := 181) rfl)) rfl, by decide, by decide +kernel, rfl⟩
set_option maxRecDepth 100000 in
theorem zFL_ok_10_2 : zFLp (9, 40, 9, 8, 2) := ⟨zW_in (zch_7 _ (List.mem_of_getElem? (i := 182) rfl)) rfl, by decide, by decide +kernel, rfl⟩
set_option maxRecDepth 100000 in
theorem zFL_ok_10_3 : zFLp (9, 43, 9, 9, 2) := ⟨zW_in (zch_7 _ (List.mem_of_getElem? (i := 183) rfl)) rfl, by decide, by decide +kernel, rfl⟩
set_option maxRecDepth 100000 in
theorem zFL_ok_10_4 : zFLp (9, 47, 9, 10, 2) := ⟨zW_in (zch_7 _ (List.mem_of_getElem? (i := 184) rfl)) rfl, by decide, by decide +kernel, rfl⟩
set_option maxRecDepth 100000 in
theorem zFL_ok_10_5 : zFLp (9, 50, 9, 11, 2) := ⟨zW_in (zch_7 _ (List.mem_of_getElem? (i := 185) rfl)) rfl, by decide, by decide +kernel, rfl⟩
set_option maxRecDepth 100000 in
theorem zFL_ok_10_6 : zFLp (9, 53, 9, 14, 2) := ⟨zW_in (zch_7 _ (List.mem_of_getElem? (i := 188) rfl)) rfl, by decide, by decide +kernel, rfl⟩
set_option maxRecDepth 100000 in
theorem zFL_ok_10_7 : zFLp (9, 56, 9, 16, 2) := ⟨zW_in (zch_7 _ (List.mem_of_getElem? (i := 190) rfl)) rfl, by decide, by decide +kernel, rfl⟩
set_option maxRecDepth 100000 in
theorem zFL_ok_10_8 : zFLp (9, 59, 9, 34, 0) := ⟨zW_in (zch_7 _ (List.mem_of_getElem? (i := 208) rfl)) rfl, by decide, by decide +kernel, rfl⟩
set_option maxRecDepth 100000 in
theorem zFL_ok_10_9 : zFLp (9, 62, 9, 33, 2) := ⟨zW_in (zch_7 _ (List.mem_of_getElem? (i := 207) rfl)) rfl, by decide, by decide +kernel, rfl⟩
set_option maxRecDepth 100000 in
theorem zFL_ok_10_10 : zFLp (9, 65, 9, 35, 0) := ⟨zW_in (zch_7 _ (List.mem_of_getElem? (i := 209) rfl)) rfl, by decide, by decide +kernel, rfl⟩
set_option maxRecDepth 100000 in
theorem zFL_ok_10_11 : zFLp (9, 68, 9, 36, 0) := ⟨zW_in (zch_7 _ (List.mem_of_getElem? (i := 210) rfl)) rfl, by decide, by decide +kernel, rfl⟩
theorem zFL_ok_10 : ∀ f ∈ [(9, 28, 9, 5, 2), (9, 37, 9, 7, 0), (9, 40, 9, 8, 2), (9, 43, 9, 9, 2), (9, 47, 9, 10, 2), (9, 50, 9, 11, 2), (9, 53, 9, 14, 2), (9, 56, 9, 16, 2), (9, 59, 9, 34, 0), (9, 62, 9, 33, 2), (9, 65, 9, 35, 0), (9, 68, 9, 36, 0)], zFLp f := List.forall_mem_cons.mpr ⟨zFL_ok_10_0, List.forall_mem_cons.mpr ⟨zFL_ok_10_1, List.forall_mem_cons.mpr ⟨zFL_ok_10_2, List.forall_mem_cons.mpr ⟨zFL_ok_10_3, List.forall_mem_cons.mpr ⟨zFL_ok_10_4, List.forall_mem_cons.mpr ⟨zFL_ok_10_5, List.forall_mem_cons.mpr ⟨zFL_ok_10_6, List.forall_mem_cons.mpr ⟨zFL_ok_10_7, List.forall_mem_cons.mpr ⟨zFL_ok_10_8, List.forall_mem_cons.mpr ⟨zFL_ok_10_9, List.forall_mem_cons.mpr ⟨zFL_ok_10_10, List.forall_mem_cons.mpr ⟨zFL_ok_10_11, fun _ h => absurd h List.not_mem_nil⟩⟩⟩⟩⟩⟩⟩⟩⟩⟩⟩⟩
set_option maxRecDepth 100000 in
theorem zFL_ok_11_0 : zFLp (9, 95, 9, 30, 2) := ⟨zW_in (zch_7 _ (List.mem_of_getElem? (i := 204) rfl)) rfl, by decide, by decide +kernel, rfl⟩
set_option maxRecDepth 100000 in
theorem zFL_ok_11_1 : zFLp (9, 98, 9, 29, 0) := ⟨zW_in (zch_7 _ (List.mem_of_getElem? (i := 203) rfl)) rfl, by decide, by decide +kernel, rfl⟩
set_option maxRecDepth 100000 in
theorem zFL_ok_11_2 : zFLp (9, 101, 9, 31, 2) := ⟨zW_in (zch_7 _ (List.mem_of_getElem? (i := 205) rfl)) rfl, by decide, by decide +kernel, rfl⟩
set_option maxRecDepth 100000 in
theorem zFL_ok_11_3 : zFLp (9, 104, 9, 32, 2) := ⟨zW_in (zch_7 _ (List.mem_of_getElem? (i := 206) rfl)) rfl, by decide, by decide +kernel, rfl⟩
set_option maxRecDepth 100000 in
theorem zFL_ok_11_4 : zFLp (9, 110, 9, 28, 2) := ⟨zW_in (zch_7 _ (List.mem_of_getElem? (i := 202) rfl)) rfl, by decide, by decide +kernel, rfl⟩
set_option maxRecDepth 100000 in
theorem zFL_ok_11_5 : zFLp (9, 113, 9, 25, 0) := ⟨zW_in (zch_7 _ (List.mem_of_getElem? (i := 199) rfl)) rfl, by decide, by decide +kernel, rfl⟩
set_option maxRecDepth 100000 in
theorem zFL_ok_11_6 : zFLp (9, 116, 9, 26, 0) := ⟨zW_in (zch_7 _ (List.mem_of_getElem? (i := 200) rfl)) rfl, by decide, by decide +kernel, rfl⟩
set_option maxRecDepth 100000 in
theorem zFL_ok_11_7 : zFLp (9, 119, 9, 27, 0) := ⟨zW_in (zch_7 _ (List.mem_of_getElem? (i := 201) rfl)) rfl, by decide, by decide +kernel, rfl⟩
set_option maxRecDepth 100000 in
theorem zFL_ok_11_8 : zFLp (9, 131, 9, 17, 0) := ⟨zW_in (zch_7 _ (List.mem_of_getElem? (i := 191) rfl)) rfl, by decide, by decide +kernel, rfl⟩
set_option maxRecDepth 100000 in
theorem zFL_ok_11_9 : zFLp (9, 134, 9, 18, 0) := ⟨zW_in (zch_7 _ (List.mem_of_getElem? (i := 192) rfl)) rfl, by decide, by decide +kernel, rfl⟩
set_option maxRecDepth 100000 in
theorem zFL_ok_11_10 : zFLp (9, 137, 9, 19, 0) := ⟨zW_in (zch_7 _ (List.mem_of_getElem? (i := 193) rfl)) rfl, by decide, by decide +kernel, rfl⟩
set_option maxRecDepth 100000 in
theorem zFL_ok_11_11 : zFLp (9, 140, 9, 21, 0) := ⟨zW_in (zch_7 _ (List.mem_of_getElem? (i := 195) rfl)) rfl, by decide, by decide +kernel, rfl⟩
theorem zFL_ok_11 : ∀ f ∈ [(9, 95, 9, 30, 2), (9, 98, 9, 29, 0), (9, 101, 9, 31, 2), (9, 104, 9, 32, 2), (9, 110, 9, 28, 2), (9, 113, 9, 25, 0), (9, 116, 9, 26, 0), (9, 119, 9, 27, 0), (9, 131, 9, 17, 0), (9, 134, 9, 18, 0), (9, 137, 9, 19, 0), (9, 140, 9, 21, 0)], zFLp f := List.forall_mem_cons.mpr ⟨zFL_ok_11_0, List.forall_mem_cons.mpr ⟨zFL_ok_11_1, List.forall_mem_cons.mpr ⟨zFL_ok_11_2, List.forall_mem_cons.mpr ⟨zFL_ok_11_3, List.forall_mem_cons.mpr ⟨zFL_ok_11_4, List.forall_mem_cons.mpr ⟨zFL_ok_11_5, List.forall_mem_cons.mpr ⟨zFL_ok_11_6, List.forall_mem_cons.mpr ⟨zFL_ok_11_7, List.forall_mem_cons.mpr ⟨zFL_ok_11_8, List.forall_mem_cons.mpr ⟨zFL_ok_11_9, List.forall_mem_cons.mpr ⟨zFL_ok_11_10, List.forall_mem_cons.mpr ⟨zFL_ok_11_11, fun _ h => absurd h List.not_mem_nil⟩⟩⟩⟩⟩⟩⟩⟩⟩⟩⟩⟩
set_option maxRecDepth 100000 in
theorem zFL_ok_12_0 : zFLp (9, 143, 9, 20, 2) := ⟨zW_in (zch_7 _ (List.mem_of_getElem? (i := 194) rfl)) rfl, by decide, by decide +kernel, rfl⟩
set_option maxRecDepth 100000 in
theorem zFL_ok_12_1 : zFLp (9, 146, 9, 22, 2) := ⟨zW_in (zch_7 _ (List.mem_of_getElem? (i := 196) rfl)) rfl, by decide, by decide +kernel, rfl⟩
set_option maxRecDepth 100000 in
theorem zFL_ok_12_2 : zFLp (9, 149, 9, 23, 2) := ⟨zW_in (zch_7 _ (List.mem_of_getElem? (i := 197) rfl)) rfl, by decide, by decide +kernel, rfl⟩
set_option maxRecDepth 100000 in
theorem zFL_ok_12_3 : zFLp (9, 152, 9, 24, 2) := ⟨zW_in (zch_7 _ (List.mem_of_getElem? (i := 198) rfl)) rfl, by decide, by decide +kernel, rfl⟩
set_option maxRecDepth 100000 in
theorem zFL_ok_12_4 : zFLp (9, 155, 9, 37, 0) := ⟨zW_in (zch_7 _ (List.mem_of_getElem? (i := 211) rfl)) rfl, by decide, by decide +kernel, rfl⟩
set_option maxRecDepth 100000 in
theorem zFL_ok_12_5 : zFLp (9, 158, 9, 15, 0) := ⟨zW_in (zch_7 _ (List.mem_of_getElem? (i := 189) rfl)) rfl, by decide, by decide +kernel, rfl⟩
set_option maxRecDepth 100000 in
theorem zFL_ok_12_6 : zFLp (9, 168, 9, 38, 0) := ⟨zW_in (zch_7 _ (List.mem_of_getElem? (i := 212) rfl)) rfl, by decide, by decide +kernel, rfl⟩
set_option maxRecDepth 100000 in
theorem zFL_ok_12_7 : zFLp (9, 206, 9, 6, 2) := ⟨zW_in (zch_7 _ (List.mem_of_getElem? (i := 180) rfl)) rfl, by decide, by decide +kernel, rfl⟩
set_option maxRecDepth 100000 in
theorem zFL_ok_12_8 : zFLp (9, 234, 9, 12, 2) := ⟨zW_in (zch_7 _ (List.mem_of_getElem? (i := 186) rfl)) rfl, by decide, by decide +kernel, rfl⟩
set_option maxRecDepth 100000 in
theorem zFL_ok_12_9 : zFLp (9, 237, 9, 13, 2) := ⟨zW_in (zch_7 _ (List.mem_of_getElem? (i := 187) rfl)) rfl, by decide, by decide +kernel, rfl⟩
set_option maxRecDepth 100000 in
theorem zFL_ok_12_10 : zFLp (9, 247, 9, 39, 2) := ⟨zW_in (zch_7 _ (List.mem_of_getElem? (i := 213) rfl)) rfl, by decide, by decide +kernel, rfl⟩
set_option maxRecDepth 100000 in
theorem zFL_ok_12_11 : zFLp (9, 250, 9, 44, 3) := ⟨zW_in (zch_7 _ (List.mem_of_getElem? (i := 218) rfl)) rfl, by decide, by decide +kernel, rfl⟩
theorem zFL_ok_12 : ∀ f ∈ [(9, 143, 9, 20, 2), (9, 146, 9, 22, 2), (9, 149, 9, 23, 2), (9, 152, 9, 24, 2), (9, 155, 9, 37, 0), (9, 158, 9, 15, 0), (9, 168, 9, 38, 0), (9, 206, 9, 6, 2), (9, 234, 9, 12, 2), (9, 237, 9, 13, 2), (9, 247, 9, 39, 2), (9, 250, 9, 44, 3)], zFLp f := List.forall_mem_cons.mpr ⟨zFL_ok_12_0, List.forall_mem_cons.mpr ⟨zFL_ok_12_1, List.forall_mem_cons.mpr ⟨zFL_ok_12_2, List.forall_mem_cons.mpr ⟨zFL_ok_12_3, List.forall_mem_cons.mpr ⟨zFL_ok_12_4, List.forall_mem_cons.mpr ⟨zFL_ok_12_5, List.forall_mem_cons.mpr ⟨zFL_ok_12_6, List.forall_mem_cons.mpr ⟨zFL_ok_12_7, List.forall_mem_cons.mpr ⟨zFL_ok_12_8, List.forall_mem_cons.mpr ⟨zFL_ok_12_9, List.forall_mem_cons.mpr ⟨zFL_ok_12_10, List.forall_mem_cons.mpr ⟨zFL_ok_12_11, fun _ h => absurd h List.not_mem_nil⟩⟩⟩⟩⟩⟩⟩⟩⟩⟩⟩⟩
set_option maxRecDepth 100000 in
theorem zFL_ok_13_0 : zFLp (9, 257, 9, 40, 2) := ⟨zW_in (zch_7 _ (List.mem_of_getElem? (i := 214) rfl)) rfl, by decide, by decide +kernel, rfl⟩
set_option maxRecDepth 100000 in
theorem zFL_ok_13_1 : zFLp (9, 263, 9, 41, 2) := ⟨zW_in (zch_7 _ (List.mem_of_getElem? (i := 215) rfl)) rfl, by decide, by decide +kernel, rfl⟩
set_option maxRecDepth 100000 in
theorem zFL_ok_13_2 : zFLp (9, 266, 9, 42, 2) := ⟨zW_in (zch_7 _ (List.mem_of_getElem? (i := 216) rfl)) rfl, by decide, by decide +kernel, rfl⟩
set_option maxRecDepth 100000 in
theorem zFL_ok_13_3 : zFLp (9, 278, 9, 43, 2) := ⟨zW_in (zch_7 _ (List.mem_of_getElem? (i := 217) rfl)) rfl, by decide, by decide +kernel, rfl⟩
set_option maxRecDepth 100000 in
theorem zFL_ok_13_4 : zFLp (9, 298, 9, 45, 0) := ⟨zW_in (zch_7 _ (List.mem_of_getElem? (i := 219) rfl)) rfl, by decide, by decide +kernel, rfl⟩
set_option maxRecDepth 100000 in
theorem zFL_ok_13_5 : zFLp (9, 322, 9, 46, 2) := ⟨zW_in (zch_7 _ (List.mem_of_getElem? (i := 220) rfl)) rfl, by decide, by decide +kernel, rfl⟩
set_option maxRecDepth 100000 in
theorem zFL_ok_13_6 : zFLp (9, 325, 9, 47, 0) := ⟨zW_in (zch_7 _ (List.mem_of_getElem? (i := 221) rfl)) rfl, by decide, by decide +kernel, rfl⟩
set_option maxRecDepth 100000 in
theorem zFL_ok_13_7 : zFLp (9, 328, 9, 50, 2) := ⟨zW_in (zch_7 _ (List.mem_of_getElem? (i := 224) rfl)) rfl, by decide, by decide +kernel, rfl⟩
set_option maxRecDepth 100000 in
theorem zFL_ok_13_8 : zFLp (9, 340, 9, 48, 2) := ⟨zW_in (zch_7 _ (List.mem_of_getElem? (i := 222) rfl)) rfl, by decide, by decide +kernel, rfl⟩
set_option maxRecDepth 100000 in
theorem zFL_ok_13_9 : zFLp (9, 350, 9, 49, 2) := ⟨zW_in (zch_7 _ (List.mem_of_getElem? (i := 223) rfl)) rfl, by decide, by decide +kernel, rfl⟩
set_option maxRecDepth 100000 in
theorem zFL_ok_13_10 : zFLp (9, 359, 9, 51, 2) := ⟨zW_in (zch_7 _ (List.mem_of_getElem? (i := 225) rfl)) rfl, by decide, by decide +kernel, rfl⟩
set_option maxRecDepth 100000 in
theorem zFL_ok_13_11 : zFLp (9, 362, 9, 52, 2) := ⟨zW_in (zch_7 _ (List.mem_of_getElem? (i := 226) rfl)) rfl, by decide, by decide +kernel, rfl⟩
theorem zFL_ok_13 : ∀ f ∈ [(9, 257, 9, 40, 2), (9, 263, 9, 41, 2), (9, 266, 9, 42, 2), (9, 278, 9, 43, 2), (9, 298, 9, 45, 0), (9, 322, 9, 46, 2), (9, 325, 9, 47, 0), (9, 328, 9, 50, 2), (9, 340, 9, 48, 2), (9, 350, 9, 49, 2), (9, 359, 9, 51, 2), (9, 362, 9, 52, 2)], zFLp f := List.forall_mem_cons.mpr ⟨zFL_ok_13_0, List.forall_mem_cons.mpr ⟨zFL_ok_13_1, List.forall_mem_cons.mpr ⟨zFL_ok_13_2, List.forall_mem_cons.mpr ⟨zFL_ok_13_3, List.forall_mem_cons.mpr ⟨zFL_ok_13_4, List.forall_mem_cons.mpr ⟨zFL_ok_13_5, List.forall_mem_cons.mpr ⟨zFL_ok_13_6, List.forall_mem_cons.mpr ⟨zFL_ok_13_7, List.forall_mem_cons.mpr ⟨zFL_ok_13_8, List.forall_mem_cons.mpr ⟨zFL_ok_13_9, List.forall_mem_cons.mpr ⟨zFL_ok_13_10, List.forall_mem_cons.mpr ⟨zFL_ok_13_11, fun _ h => absurd h List.not_mem_nil⟩⟩⟩⟩⟩⟩⟩⟩⟩⟩⟩⟩
set_option maxRecDepth 100000 in
theorem zFL_ok_14_0 : zFLp (9, 374, 9, 53, 2) := ⟨zW_in (zch_7 _ (List.mem_of_getElem? (i := 227) rfl)) rfl, by decide, by decide +kernel, rfl⟩
set_option maxRecDepth 100000 in
theorem zFL_ok_14_1 : zFLp (9, 377, 9, 54, 2) := ⟨zW_in (zch_7 _ (List.mem_of_getElem? (i := 228) rfl)) rfl, by decide, by decide +kernel, rfl⟩
set_option maxRecDepth 100000 in
theorem zFL_ok_14_2 : zFLp (9, 389, 9, 58, 0) := ⟨zW_in (zch_7 _ (List.mem_of_getElem? (i := 232) rfl)) rfl, by decide, by decide +kernel, rfl⟩
set_option maxRecDepth 100000 in
theorem zFL_ok_14_3 : zFLp (9, 392, 9, 56, 2) := ⟨zW_in (zch_7 _ (List.mem_of_getElem? (i := 230) rfl)) rfl, by decide, by decide +kernel, rfl⟩
set_option maxRecDepth 100000 in
theorem zFL_ok_14_4 : zFLp (9, 395, 9, 55, 2) := ⟨zW_in (zch_7 _ (List.mem_of_getElem? (i := 229) rfl)) rfl, by decide, by decide +kernel, rfl⟩
set_option maxRecDepth 100000 in
theorem zFL_ok_14_5 : zFLp (9, 398, 9, 57, 2) := ⟨zW_in (zch_7 _ (List.mem_of_getElem? (i := 231) rfl)) rfl, by decide, by decide +kernel, rfl⟩
set_option maxRecDepth 100000 in
theorem zFL_ok_14_6 : zFLp (9, 405, 9, 59, 0) := ⟨zW_in (zch_7 _ (List.mem_of_getElem? (i := 233) rfl)) rfl, by decide, by decide +kernel, rfl⟩
set_option maxRecDepth 100000 in
theorem zFL_ok_14_7 : zFLp (9, 423, 9, 60, 2) := ⟨zW_in (zch_7 _ (List.mem_of_getElem? (i := 234) rfl)) rfl, by decide, by decide +kernel, rfl⟩
set_option maxRecDepth 100000 in
theorem zFL_ok_14_8 : zFLp (9, 443, 9, 64, 2) := ⟨zW_in (zch_7 _ (List.mem_of_getElem? (i := 238) rfl)) rfl, by decide, by decide +kernel, rfl⟩
set_option maxRecDepth 100000 in
theorem zFL_ok_14_9 : zFLp (9, 446, 9, 65, 0) := ⟨zW_in (zch_7 _ (List.mem_of_getElem? (i := 239) rfl)) rfl, by decide, by decide +kernel, rfl⟩
set_option maxRecDepth 100000 in
theorem zFL_ok_14_10 : zFLp (9, 449, 9, 61, 2) := ⟨zW_in (zch_7 _ (List.mem_of_getElem? (i := 235) rfl)) rfl, by decide, by decide +kernel, rfl⟩
set_option maxRecDepth 100000 in
theorem zFL_ok_14_11 : zFLp (9, 452, 9, 62, 2) := ⟨zW_in (zch_7 _ (List.mem_of_getElem? (i := 236) rfl)) rfl, by decide, by decide +kernel, rfl⟩
theorem zFL_ok_14 : ∀ f ∈ [(9, 374, 9, 53, 2), (9, 377, 9, 54, 2), (9, 389, 9, 58, 0), (9, 392, 9, 56, 2), (9, 395, 9, 55, 2), (9, 398, 9, 57, 2), (9, 405, 9, 59, 0), (9, 423, 9, 60, 2), (9, 443, 9, 64, 2), (9, 446, 9, 65, 0), (9, 449, 9, 61, 2), (9, 452, 9, 62, 2)], zFLp f := List.forall_mem_cons.mpr ⟨zFL_ok_14_0, List.forall_mem_cons.mpr ⟨zFL_ok_14_1, List.forall_mem_cons.mpr ⟨zFL_ok_14_2, List.forall_mem_cons.mpr ⟨zFL_ok_14_3, List.forall_mem_cons.mpr ⟨zFL_ok_14_4, List.forall_mem_cons.mpr ⟨zFL_ok_14_5, List.forall_mem_cons.mpr ⟨zFL_ok_14_6, List.forall_mem_cons.mpr ⟨zFL_ok_14_7, List.forall_mem_cons.mpr ⟨zFL_ok_14_8, List.forall_mem_cons.mpr ⟨zFL_ok_14_9, List.forall_mem_cons.mpr ⟨zFL_ok_14_10, List.forall_mem_cons.mpr ⟨zFL_ok_14_11, fun _ h => absurd h List.not_mem_nil⟩⟩⟩⟩⟩⟩⟩⟩⟩⟩⟩⟩
set_option maxRecDepth 100000 in
theorem zFL_ok_15_0 : zFLp (9, 455, 9, 63, 2) := ⟨zW_in (zch_7 _ (List.mem_of_getElem? (i := 237) rfl)) rfl, by decide, by decide +kernel, rfl⟩
theorem zFL_ok_15 : ∀ f ∈ [(9, 455, 9, 63, 2)], zFLp f := List.forall_mem_cons.mpr ⟨zFL_ok_15_0, fun _ h => absurd h List.not_mem_nil⟩
set_option maxRecDepth 100000 in
theorem zFL_ok : ∀ f ∈ zFL, zFLp f := by
  show ∀ f ∈ [(0, 9, 0, 0, 2), (0, 15, 0, 4, 2), (0, 18, 0, 5, 2), (0, 21, 0, 6, 2), (0, 24, 0, 7, 2), (0, 28, 0, 8, 2), (0, 31, 0, 9, 2), (0, 34, 0, 1, 2), (0, 38, 0, 2, 2), (0, 42, 0, 3, 2), (0, 46, 1, 1, 0), (0, 52, 1, 0, 0)] ++ ([(0, 59, 6, 6, 0), (0, 89, 0, 10, 0), (0, 122, 0, 11, 0), (1, 9, 1, 2, 2), (1, 15, 1, 3, 2), (1, 18, 1, 4, 2), (1, 22, 1, 5, 2), (1, 25, 1, 6, 2), (1, 28, 1, 0, 0), (1, 32, 1, 1, 0), (2, 9, 2, 0, 2), (2, 15, 2, 1, 2)] ++ ([(2, 18, 2, 2, 2), (2, 27, 2, 3, 0), (3, 7, 3, 0, 1), (3, 13, 3, 1, 1), (4, 11, 4, 2, 2), (4, 15, 4, 7, 2), (4, 18, 4, 8, 2), (4, 21, 4, 9, 2), (4, 26, 4, 10, 2), (4, 31, 4, 11, 2), (4, 35, 4, 12, 2), (4, 38, 4, 13, 2)] ++ ([(4, 41, 4, 14, 2), (4, 44, 4, 15, 2), (4, 47, 4, 16, 2), (4, 50, 4, 17, 2), (4, 53, 4, 3, 2), (4, 57, 4, 4, 2), (4, 61, 4, 5, 2), (4, 65, 4, 6, 2), (4, 69, 1, 0, 0), (4, 75, 1, 1, 0), (4, 78, 4, 18, 0), (4, 98, 2, 0, 2)] ++ ([(4, 167, 4, 0, 0), (4, 186, 6, 6, 0), (4, 210, 4, 1, 0), (4, 213, 1, 3, 2), (4, 222, 4, 19, 0), (4, 245, 6, 3, 2), (4, 248, 1, 6, 2), (5, 12, 5, 0, 2), (5, 18, 5, 1, 2), (5, 25, 5, 3, 0), (5, 35, 5, 2, 0), (5, 62, 2, 0, 2)] ++ ([(6, 9, 6, 0, 2), (6, 15, 6, 1, 2), (6, 18, 6, 2, 2), (6, 21, 6, 3, 2), (6, 24, 6, 4, 2), (6, 27, 6, 5, 2), (6, 30, 6, 7, 0), (6, 34, 6, 8, 0), (6, 49, 6, 6, 0), (6, 67, 1, 3, 2), (6, 72, 1, 1, 0), (6, 90, 1, 6, 2)] ++ ([(6, 93, 1, 5, 2), (6, 96, 1, 2, 2), (7, 9, 7, 0, 2), (7, 15, 7, 1, 2), (7, 19, 7, 2, 2), (7, 29, 6, 6, 0), (7, 45, 2, 0, 2), (7, 85, 1, 1, 0), (7, 100, 1, 0, 0), (8, 10, 8, 0, 2), (8, 19, 8, 1, 2), (8, 26, 8, 2, 2)] ++ ([(8, 30, 8, 3, 2), (8, 34, 8, 4, 2), (8, 43, 8, 5, 2), (8, 52, 8, 6, 2), (8, 61, 8, 7, 2), (8, 70, 8, 8, 2), (8, 74, 8, 9, 2), (8, 77, 8, 10, 2), (8, 80, 1, 0, 0), (8, 84, 1, 2, 2), (8, 87, 6, 4, 2), (8, 90, 1, 1, 0)] ++ ([(8, 93, 1, 3, 2), (8, 96, 1, 4, 2), (8, 100, 1, 5, 2), (8, 103, 1, 6, 2), (8, 106, 8, 11, 0), (8, 113, 5, 0, 2), (8, 124, 6, 5, 2), (8, 130, 6, 6, 0), (8, 202, 6, 2, 2), (8, 205, 6, 3, 2), (8, 208, 6, 1, 2), (8, 217, 0, 0, 2)] ++ ([(8, 259, 2, 0, 2), (8, 299, 4, 0, 0), (8, 317, 4, 1, 0), (8, 323, 4, 2, 2), (8, 353, 6, 7, 0), (8, 356, 6, 8, 0), (8, 359, 8, 12, 0), (9, 3, 9, 0, 0), (9, 7, 9, 2, 2), (9, 11, 9, 1, 0), (9, 22, 9, 3, 0), (9, 25, 9, 4, 2)] ++ ([(9, 28, 9, 5, 2), (9, 37, 9, 7, 0), (9, 40, 9, 8, 2), (9, 43, 9, 9, 2), (9, 47, 9, 10, 2), (9, 50, 9, 11, 2), (9, 53, 9, 14, 2), (9, 56, 9, 16, 2), (9, 59, 9, 34, 0), (9, 62, 9, 33, 2), (9, 65, 9, 35, 0), (9, 68, 9, 36, 0)] ++ ([(9, 95, 9, 30, 2), (9, 98, 9, 29, 0), (9, 101, 9, 31, 2), (9, 104, 9, 32, 2), (9, 110, 9, 28, 2), (9, 113, 9, 25, 0), (9, 116, 9, 26, 0), (9, 119, 9, 27, 0), (9, 131, 9, 17, 0), (9, 134, 9, 18, 0), (9, 137, 9, 19, 0), (9, 140, 9, 21, 0)] ++ ([(9, 143, 9, 20, 2), (9, 146, 9, 22, 2), (9, 149, 9, 23, 2), (9, 152, 9, 24, 2), (9, 155, 9, 37, 0), (9, 158, 9, 15, 0), (9, 168, 9, 38, 0), (9, 206, 9, 6, 2), (9, 234, 9, 12, 2), (9, 237, 9, 13, 2), (9, 247, 9, 39, 2), (9, 250, 9, 44, 3)] ++ ([(9, 257, 9, 40, 2), (9, 263, 9, 41, 2), (9, 266, 9, 42, 2), (9, 278, 9, 43, 2), (9, 298, 9, 45, 0), (9, 322, 9, 46, 2), (9, 325, 9, 47, 0), (9, 328, 9, 50, 2), (9, 340, 9, 48, 2), (9, 350, 9, 49, 2), (9, 359, 9, 51, 2), (9, 362, 9, 52, 2)] ++ ([(9, 374, 9, 53, 2), (9, 377, 9, 54, 2), (9, 389, 9, 58, 0), (9, 392, 9, 56, 2), (9, 395, 9, 55, 2), (9, 398, 9, 57, 2), (9, 405, 9, 59, 0), (9, 423, 9, 60, 2), (9, 443, 9, 64, 2), (9, 446, 9, 65, 0), (9, 449, 9, 61, 2), (9, 452, 9, 62, 2)] ++ ([(9, 455, 9, 63, 2)]))))))))))))))), zFLp f
  exact List.forall_mem_append.mpr ⟨zFL_ok_0, List.forall_mem_append.mpr ⟨zFL_ok_1, List.forall_mem_append.mpr ⟨zFL_ok_2, List.forall_mem_append.mpr ⟨zFL_ok_3, List.forall_mem_append.mpr ⟨zFL_ok_4, List.forall_mem_append.mpr ⟨zFL_ok_5, List.forall_mem_append.mpr ⟨zFL_ok_6, List.forall_mem_append.mpr ⟨zFL_ok_7, List.forall_mem_append.mpr ⟨zFL_ok_8, List.forall_mem_append.mpr ⟨zFL_ok_9, List.forall_mem_append.mpr ⟨zFL_ok_10, List.forall_mem_append.mpr ⟨zFL_ok_11, List.forall_mem_append.mpr ⟨zFL_ok_12, List.forall_mem_append.mpr ⟨zFL_ok_13, List.forall_mem_append.mpr ⟨zFL_ok_14, zFL_ok_15⟩⟩⟩⟩⟩⟩⟩⟩⟩⟩⟩⟩⟩⟩⟩
def zMok (mi : zMi) : Prop := Cond.code mi.1.1 mi.1.2.1 mi.1.2.2.1 mi.1.2.2.2 ∈ zW ∧ Cond.initialized mi.1.1.cls ∈ zW ∧ mi.1.1.cls = zC mi.2.1.1 ∧ plainName mi.1.1.cls = true ∧ (mi.1.1.cls ≠ "java/lang/invoke/MethodHandle" ∧ mi.1.1.cls ≠ "java/lang/invoke/VarHandle") ∧ mi.1.2.2.1 ≤ 9
set_option maxRecDepth 100000 in
theorem zmo_0 : zMok zm_0 := ⟨zW_in (zch_1 _ (List.mem_of_getElem? (i := 193) rfl)) rfl, zW_in (zch_1 _ (List.mem_of_getElem? (i := 8) rfl)) rfl, rfl, by decide +kernel, ⟨by decide +kernel, by decide +kernel⟩, by decide⟩
set_option maxRecDepth 100000 in
theorem zmo_1 : zMok zm_1 := ⟨zW_in (zch_3 _ (List.mem_of_getElem? (i := 144) rfl)) rfl, zW_in (zch_1 _ (List.mem_of_getElem? (i := 8) rfl)) rfl, rfl, by decide +kernel, ⟨by decide +kernel, by decide +kernel⟩, by decide⟩
set_option maxRecDepth 100000 in
theorem zmo_2 : zMok zm_2 := ⟨zW_in (zch_3 _ (List.mem_of_getElem? (i := 148) rfl)) rfl, zW_in (zch_1 _ (List.mem_of_getElem? (i := 8) rfl)) rfl, rfl, by decide +kernel, ⟨by decide +kernel, by decide +kernel⟩, by decide⟩
set_option maxRecDepth 100000 in
theorem zmo_3 : zMok zm_3 := ⟨zW_in (zch_3 _ (List.mem_of_getElem? (i := 206) rfl)) rfl, zW_in (zch_1 _ (List.mem_of_getElem? (i := 8) rfl)) rfl, rfl, by decide +kernel, ⟨by decide +kernel, by decide +kernel⟩, by decide⟩
set_option maxRecDepth 100000 in
theorem zmo_4 : zMok zm_4 := ⟨zW_in (zch_3 _ (List.mem_of_getElem? (i := 161) rfl)) rfl, zW_in (zch_1 _ (List.mem_of_getElem? (i := 8) rfl)) rfl, rfl, by decide +kernel, ⟨by decide +kernel, by decide +kernel⟩, by decide⟩
set_option maxRecDepth 100000 in
theorem zmo_5 : zMok zm_5 := ⟨zW_in (zch_3 _ (List.mem_of_getElem? (i := 157) rfl)) rfl, zW_in (zch_1 _ (List.mem_of_getElem? (i := 8) rfl)) rfl, rfl, by decide +kernel, ⟨by decide +kernel, by decide +kernel⟩, by decide⟩
set_option maxRecDepth 100000 in
theorem zmo_6 : zMok zm_6 := ⟨zW_in (zch_3 _ (List.mem_of_getElem? (i := 186) rfl)) rfl, zW_in (zch_1 _ (List.mem_of_getElem? (i := 8) rfl)) rfl, rfl, by decide +kernel, ⟨by decide +kernel, by decide +kernel⟩, by decide⟩
set_option maxRecDepth 100000 in
theorem zmo_7 : zMok zm_7 := ⟨zW_in (zch_3 _ (List.mem_of_getElem? (i := 182) rfl)) rfl, zW_in (zch_1 _ (List.mem_of_getElem? (i := 8) rfl)) rfl, rfl, by decide +kernel, ⟨by decide +kernel, by decide +kernel⟩, by decide⟩
set_option maxRecDepth 100000 in
theorem zmo_8 : zMok zm_8 := ⟨zW_in (zch_3 _ (List.mem_of_getElem? (i := 165) rfl)) rfl, zW_in (zch_1 _ (List.mem_of_getElem? (i := 8) rfl)) rfl, rfl, by decide +kernel, ⟨by decide +kernel, by decide +kernel⟩, by decide⟩
set_option maxRecDepth 100000 in
theorem zmo_9 : zMok zm_9 := ⟨zW_in (zch_3 _ (List.mem_of_getElem? (i := 171) rfl)) rfl, zW_in (zch_1 _ (List.mem_of_getElem? (i := 8) rfl)) rfl, rfl, by decide +kernel, ⟨by decide +kernel, by decide +kernel⟩, by decide⟩
set_option maxRecDepth 100000 in
theorem zmo_10 : zMok zm_10 := ⟨zW_in (zch_5 _ (List.mem_of_getElem? (i := 23) rfl)) rfl, zW_in (zch_1 _ (List.mem_of_getElem? (i := 8) rfl)) rfl, rfl, by decide +kernel, ⟨by decide +kernel, by decide +kernel⟩, by decide⟩
set_option maxRecDepth 100000 in
theorem zmo_11 : zMok zm_11 := ⟨zW_in (zch_5 _ (List.mem_of_getElem? (i := 27) rfl)) rfl, zW_in (zch_1 _ (List.mem_of_getElem? (i := 8) rfl)) rfl, rfl, by decide +kernel, ⟨by decide +kernel, by decide +kernel⟩, by decide⟩
set_option maxRecDepth 100000 in
theorem zmo_12 : zMok zm_12 := ⟨zW_in (zch_5 _ (List.mem_of_getElem? (i := 31) rfl)) rfl, zW_in (zch_1 _ (List.mem_of_getElem? (i := 8) rfl)) rfl, rfl, by decide +kernel, ⟨by decide +kernel, by decide +kernel⟩, by decide⟩
set_option maxRecDepth 100000 in
theorem zmo_13 : zMok zm_13 := ⟨zW_in (zch_1 _ (List.mem_of_getElem? (i := 32) rfl)) rfl, zW_in (zch_1 _ (List.mem_of_getElem? (i := 2) rfl)) rfl, rfl, by decide +kernel, ⟨by decide +kernel, by decide +kernel⟩, by decide⟩
set_option maxRecDepth 100000 in
theorem zmo_14 : zMok zm_14 := ⟨zW_in (zch_2 _ (List.mem_of_getElem? (i := 208) rfl)) rfl, zW_in (zch_1 _ (List.mem_of_getElem? (i := 2) rfl)) rfl, rfl, by decide +kernel, ⟨by decide +kernel, by decide +kernel⟩, by decide⟩
set_option maxRecDepth 100000 in
theorem zmo_15 : zMok zm_15 := ⟨zW_in (zch_2 _ (List.mem_of_getElem? (i := 216) rfl)) rfl, zW_in (zch_1 _ (List.mem_of_getElem? (i := 2) rfl)) rfl, rfl, by decide +kernel, ⟨by decide +kernel, by decide +kernel⟩, by decide⟩
set_option maxRecDepth 100000 in
theorem zmo_16 : zMok zm_16 := ⟨zW_in (zch_3 _ (List.mem_of_getElem? (i := 69) rfl)) rfl, zW_in (zch_1 _ (List.mem_of_getElem? (i := 2) rfl)) rfl, rfl, by decide +kernel, ⟨by decide +kernel, by decide +kernel⟩, by decide⟩
set_option maxRecDepth 100000 in
theorem zmo_17 : zMok zm_17 := ⟨zW_in (zch_1 _ (List.mem_of_getElem? (i := 82) rfl)) rfl, zW_in (zch_1 _ (List.mem_of_getElem? (i := 3) rfl)) rfl, rfl, by decide +kernel, ⟨by decide +kernel, by decide +kernel⟩, by decide⟩
set_option maxRecDepth 100000 in
theorem zmo_18 : zMok zm_18 := ⟨zW_in (zch_2 _ (List.mem_of_getElem? (i := 145) rfl)) rfl, zW_in (zch_1 _ (List.mem_of_getElem? (i := 3) rfl)) rfl, rfl, by decide +kernel, ⟨by decide +kernel, by decide +kernel⟩, by decide⟩
set_option maxRecDepth 100000 in
theorem zmo_19 : zMok zm_19 := ⟨zW_in (zch_2 _ (List.mem_of_getElem? (i := 197) rfl)) rfl, zW_in (zch_1 _ (List.mem_of_getElem? (i := 3) rfl)) rfl, rfl, by decide +kernel, ⟨by decide +kernel, by decide +kernel⟩, by decide⟩
set_option maxRecDepth 100000 in
theorem zmo_20 : zMok zm_20 := ⟨zW_in (zch_2 _ (List.mem_of_getElem? (i := 173) rfl)) rfl, zW_in (zch_1 _ (List.mem_of_getElem? (i := 3) rfl)) rfl, rfl, by decide +kernel, ⟨by decide +kernel, by decide +kernel⟩, by decide⟩
set_option maxRecDepth 100000 in
theorem zmo_21 : zMok zm_21 := ⟨zW_in (zch_2 _ (List.mem_of_getElem? (i := 181) rfl)) rfl, zW_in (zch_1 _ (List.mem_of_getElem? (i := 3) rfl)) rfl, rfl, by decide +kernel, ⟨by decide +kernel, by decide +kernel⟩, by decide⟩
set_option maxRecDepth 100000 in
theorem zmo_22 : zMok zm_22 := ⟨zW_in (zch_2 _ (List.mem_of_getElem? (i := 193) rfl)) rfl, zW_in (zch_1 _ (List.mem_of_getElem? (i := 3) rfl)) rfl, rfl, by decide +kernel, ⟨by decide +kernel, by decide +kernel⟩, by decide⟩
set_option maxRecDepth 100000 in
theorem zmo_23 : zMok zm_23 := ⟨zW_in (zch_2 _ (List.mem_of_getElem? (i := 229) rfl)) rfl, zW_in (zch_1 _ (List.mem_of_getElem? (i := 3) rfl)) rfl, rfl, by decide +kernel, ⟨by decide +kernel, by decide +kernel⟩, by decide⟩
set_option maxRecDepth 100000 in
theorem zmo_24 : zMok zm_24 := ⟨zW_in (zch_3 _ (List.mem_of_getElem? (i := 4) rfl)) rfl, zW_in (zch_1 _ (List.mem_of_getElem? (i := 3) rfl)) rfl, rfl, by decide +kernel, ⟨by decide +kernel, by decide +kernel⟩, by decide⟩
set_option maxRecDepth 100000 in
theorem zmo_25 : zMok zm_25 := ⟨zW_in (zch_2 _ (List.mem_of_getElem? (i := 224) rfl)) rfl, zW_in (zch_1 _ (List.mem_of_getElem? (i := 3) rfl)) rfl, rfl, by decide +kernel, ⟨by decide +kernel, by decide +kernel⟩, by decide⟩
set_option maxRecDepth 100000 in
theorem zmo_26 : zMok zm_26 := ⟨zW_in (zch_2 _ (List.mem_of_getElem? (i := 5) rfl)) rfl, zW_in (zch_1 _ (List.mem_of_getElem? (i := 10) rfl)) rfl, rfl, by decide +kernel, ⟨by decide +kernel, by decide +kernel⟩, by decide⟩
set_option maxRecDepth 100000 in
theorem zmo_27 : zMok zm_27 := ⟨zW_in (zch_4 _ (List.mem_of_getElem? (i := 100) rfl)) rfl, zW_in (zch_1 _ (List.mem_of_getElem? (i := 10) rfl)) rfl, rfl, by decide +kernel, ⟨by decide +kernel, by decide +kernel⟩, by decide⟩
set_option maxRecDepth 100000 in
theorem zmo_28 : zMok zm_28 := ⟨zW_in (zch_4 _ (List.mem_of_getElem? (i := 161) rfl)) rfl, zW_in (zch_1 _ (List.mem_of_getElem? (i := 10) rfl)) rfl, rfl, by decide +kernel, ⟨by decide +kernel, by decide +kernel⟩, by decide⟩
set_option maxRecDepth 100000 in
theorem zmo_29 : zMok zm_29 := ⟨zW_in (zch_4 _ (List.mem_of_getElem? (i := 104) rfl)) rfl, zW_in (zch_1 _ (List.mem_of_getElem? (i := 10) rfl)) rfl, rfl, by decide +kernel, ⟨by decide +kernel, by decide +kernel⟩, by decide⟩
set_option maxRecDepth 100000 in
theorem zmo_30 : zMok zm_30 := ⟨zW_in (zch_4 _ (List.mem_of_getElem? (i := 144) rfl)) rfl, zW_in (zch_1 _ (List.mem_of_getElem? (i := 10) rfl)) rfl, rfl, by decide +kernel, ⟨by decide +kernel, by decide +kernel⟩, by decide⟩
set_option maxRecDepth 100000 in
theorem zmo_31 : zMok zm_31 := ⟨zW_in (zch_4 _ (List.mem_of_getElem? (i := 136) rfl)) rfl, zW_in (zch_1 _ (List.mem_of_getElem? (i := 10) rfl)) rfl, rfl, by decide +kernel, ⟨by decide +kernel, by decide +kernel⟩, by decide⟩
set_option maxRecDepth 100000 in
theorem zmo_32 : zMok zm_32 := ⟨zW_in (zch_4 _ (List.mem_of_getElem? (i := 140) rfl)) rfl, zW_in (zch_1 _ (List.mem_of_getElem? (i := 10) rfl)) rfl, rfl, by decide +kernel, ⟨by decide +kernel, by decide +kernel⟩, by decide⟩
set_option maxRecDepth 100000 in
theorem zmo_33 : zMok zm_33 := ⟨zW_in (zch_4 _ (List.mem_of_getElem? (i := 169) rfl)) rfl, zW_in (zch_1 _ (List.mem_of_getElem? (i := 10) rfl)) rfl, rfl, by decide +kernel, ⟨by decide +kernel, by decide +kernel⟩, by decide⟩
set_option maxRecDepth 100000 in
theorem zmo_34 : zMok zm_34 := ⟨zW_in (zch_4 _ (List.mem_of_getElem? (i := 165) rfl)) rfl, zW_in (zch_1 _ (List.mem_of_getElem? (i := 10) rfl)) rfl, rfl, by decide +kernel, ⟨by decide +kernel, by decide +kernel⟩, by decide⟩
set_option maxRecDepth 100000 in
theorem zmo_35 : zMok zm_35 := ⟨zW_in (zch_4 _ (List.mem_of_getElem? (i := 177) rfl)) rfl, zW_in (zch_1 _ (List.mem_of_getElem? (i := 10) rfl)) rfl, rfl, by decide +kernel, ⟨by decide +kernel, by decide +kernel⟩, by decide⟩
set_option maxRecDepth 100000 in
theorem zmo_36 : zMok zm_36 := ⟨zW_in (zch_4 _ (List.mem_of_getElem? (i := 121) rfl)) rfl, zW_in (zch_1 _ (List.mem_of_getElem? (i := 10) rfl)) rfl, rfl, by decide +kernel, ⟨by decide +kernel, by decide +kernel⟩, by decide⟩
set_option maxRecDepth 100000 in
theorem zmo_37 : zMok zm_37 := ⟨zW_in (zch_1 _ (List.mem_of_getElem? (i := 238) rfl)) rfl, zW_in (zch_1 _ (List.mem_of_getElem? (i := 9) rfl)) rfl, rfl, by decide +kernel, ⟨by decide +kernel, by decide +kernel⟩, by decide⟩
set_option maxRecDepth 100000 in
theorem zmo_38 : zMok zm_38 := ⟨zW_in (zch_4 _ (List.mem_of_getElem? (i := 57) rfl)) rfl, zW_in (zch_1 _ (List.mem_of_getElem? (i := 9) rfl)) rfl, rfl, by decide +kernel, ⟨by decide +kernel, by decide +kernel⟩, by decide⟩
set_option maxRecDepth 100000 in
theorem zmo_39 : zMok zm_39 := ⟨zW_in (zch_4 _ (List.mem_of_getElem? (i := 74) rfl)) rfl, zW_in (zch_1 _ (List.mem_of_getElem? (i := 9) rfl)) rfl, rfl, by decide +kernel, ⟨by decide +kernel, by decide +kernel⟩, by decide⟩
set_option maxRecDepth 100000 in
theorem zmo_40 : zMok zm_40 := ⟨zW_in (zch_4 _ (List.mem_of_getElem? (i := 61) rfl)) rfl, zW_in (zch_1 _ (List.mem_of_getElem? (i := 9) rfl)) rfl, rfl, by decide +kernel, ⟨by decide +kernel, by decide +kernel⟩, by decide⟩
set_option maxRecDepth 100000 in
theorem zmo_41 : zMok zm_41 := ⟨zW_in (zch_4 _ (List.mem_of_getElem? (i := 65) rfl)) rfl, zW_in (zch_1 _ (List.mem_of_getElem? (i := 9) rfl)) rfl, rfl, by decide +kernel, ⟨by decide +kernel, by decide +kernel⟩, by decide⟩
set_option maxRecDepth 100000 in
theorem zmo_42 : zMok zm_42 := ⟨zW_in (zch_4 _ (List.mem_of_getElem? (i := 77) rfl)) rfl, zW_in (zch_1 _ (List.mem_of_getElem? (i := 9) rfl)) rfl, rfl, by decide +kernel, ⟨by decide +kernel, by decide +kernel⟩, by decide⟩
set_option maxRecDepth 100000 in
theorem zmo_43 : zMok zm_43 := ⟨zW_in (zch_4 _ (List.mem_of_getElem? (i := 84) rfl)) rfl, zW_in (zch_1 _ (List.mem_of_getElem? (i := 9) rfl)) rfl, rfl, by decide +kernel, ⟨by decide +kernel, by decide +kernel⟩, by decide⟩
set_option maxRecDepth 100000 in
theorem zmo_44 : zMok zm_44 := ⟨zW_in (zch_4 _ (List.mem_of_getElem? (i := 70) rfl)) rfl, zW_in (zch_1 _ (List.mem_of_getElem? (i := 9) rfl)) rfl, rfl, by decide +kernel, ⟨by decide +kernel, by decide +kernel⟩, by decide⟩
set_option maxRecDepth 100000 in
theorem zmo_45 : zMok zm_45 := ⟨zW_in (zch_4 _ (List.mem_of_getElem? (i := 81) rfl)) rfl, zW_in (zch_1 _ (List.mem_of_getElem? (i := 9) rfl)) rfl, rfl, by decide +kernel, ⟨by decide +kernel, by decide +kernel⟩, by decide⟩
set_option maxRecDepth 100000 in
theorem zmo_46 : zMok zm_46 := ⟨zW_in (zch_4 _ (List.mem_of_getElem? (i := 90) rfl)) rfl, zW_in (zch_1 _ (List.mem_of_getElem? (i := 9) rfl)) rfl, rfl, by decide +kernel, ⟨by decide +kernel, by decide +kernel⟩, by decide⟩
set_option maxRecDepth 100000 in
theorem zmo_47 : zMok zm_47 := ⟨zW_in (zch_4 _ (List.mem_of_getElem? (i := 94) rfl)) rfl, zW_in (zch_1 _ (List.mem_of_getElem? (i := 9) rfl)) rfl, rfl, by decide +kernel, ⟨by decide +kernel, by decide +kernel⟩, by decide⟩
set_option maxRecDepth 100000 in
theorem zmo_48 : zMok zm_48 := ⟨zW_in (zch_4 _ (List.mem_of_getElem? (i := 108) rfl)) rfl, zW_in (zch_1 _ (List.mem_of_getElem? (i := 9) rfl)) rfl, rfl, by decide +kernel, ⟨by decide +kernel, by decide +kernel⟩, by decide⟩
set_option maxRecDepth 100000 in
theorem zmo_49 : zMok zm_49 := ⟨zW_in (zch_4 _ (List.mem_of_getElem? (i := 113) rfl)) rfl, zW_in (zch_1 _ (List.mem_of_getElem? (i := 9) rfl)) rfl, rfl, by decide +kernel, ⟨by decide +kernel, by decide +kernel⟩, by decide⟩
set_option maxRecDepth 100000 in
theorem zmo_50 : zMok zm_50 := ⟨zW_in (zch_4 _ (List.mem_of_getElem? (i := 117) rfl)) rfl, zW_in (zch_1 _ (List.mem_of_getElem? (i := 9) rfl)) rfl, rfl, by decide +kernel, ⟨by decide +kernel, by decide +kernel⟩, by decide⟩
set_option maxRecDepth 100000 in
theorem zmo_51 : zMok zm_51 := ⟨zW_in (zch_4 _ (List.mem_of_getElem? (i := 131) rfl)) rfl, zW_in (zch_1 _ (List.mem_of_getElem? (i := 9) rfl)) rfl, rfl, by decide +kernel, ⟨by decide +kernel, by decide +kernel⟩, by decide⟩
set_option maxRecDepth 100000 in
theorem zmo_52 : zMok zm_52 := ⟨zW_in (zch_4 _ (List.mem_of_getElem? (i := 153) rfl)) rfl, zW_in (zch_1 _ (List.mem_of_getElem? (i := 9) rfl)) rfl, rfl, by decide +kernel, ⟨by decide +kernel, by decide +kernel⟩, by decide⟩
set_option maxRecDepth 100000 in
theorem zmo_53 : zMok zm_53 := ⟨zW_in (zch_4 _ (List.mem_of_getElem? (i := 181) rfl)) rfl, zW_in (zch_1 _ (List.mem_of_getElem? (i := 9) rfl)) rfl, rfl, by decide +kernel, ⟨by decide +kernel, by decide +kernel⟩, by decide⟩
set_option maxRecDepth 100000 in
theorem zmo_54 : zMok zm_54 := ⟨zW_in (zch_4 _ (List.mem_of_getElem? (i := 157) rfl)) rfl, zW_in (zch_1 _ (List.mem_of_getElem? (i := 9) rfl)) rfl, rfl, by decide +kernel, ⟨by decide +kernel, by decide +kernel⟩, by decide⟩
set_option maxRecDepth 100000 in
theorem zmo_55 : zMok zm_55 := ⟨zW_in (zch_4 _ (List.mem_of_getElem? (i := 173) rfl)) rfl, zW_in (zch_1 _ (List.mem_of_getElem? (i := 9) rfl)) rfl, rfl, by decide +kernel, ⟨by decide +kernel, by decide +kernel⟩, by decide⟩
set_option maxRecDepth 100000 in
theorem zmo_56 : zMok zm_56 := ⟨zW_in (zch_4 _ (List.mem_of_getElem? (i := 194) rfl)) rfl, zW_in (zch_1 _ (List.mem_of_getElem? (i := 9) rfl)) rfl, rfl, by decide +kernel, ⟨by decide +kernel, by decide +kernel⟩, by decide⟩
set_option maxRecDepth 100000 in
theorem zmo_57 : zMok zm_57 := ⟨zW_in (zch_4 _ (List.mem_of_getElem? (i := 198) rfl)) rfl, zW_in (zch_1 _ (List.mem_of_getElem? (i := 9) rfl)) rfl, rfl, by decide +kernel, ⟨by decide +kernel, by decide +kernel⟩, by decide⟩
set_option maxRecDepth 100000 in
theorem zmo_58 : zMok zm_58 := ⟨zW_in (zch_4 _ (List.mem_of_getElem? (i := 207) rfl)) rfl, zW_in (zch_1 _ (List.mem_of_getElem? (i := 9) rfl)) rfl, rfl, by decide +kernel, ⟨by decide +kernel, by decide +kernel⟩, by decide⟩
set_option maxRecDepth 100000 in
theorem zmo_59 : zMok zm_59 := ⟨zW_in (zch_4 _ (List.mem_of_getElem? (i := 217) rfl)) rfl, zW_in (zch_1 _ (List.mem_of_getElem? (i := 9) rfl)) rfl, rfl, by decide +kernel, ⟨by decide +kernel, by decide +kernel⟩, by decide⟩
set_option maxRecDepth 100000 in
theorem zmo_60 : zMok zm_60 := ⟨zW_in (zch_4 _ (List.mem_of_getElem? (i := 213) rfl)) rfl, zW_in (zch_1 _ (List.mem_of_getElem? (i := 9) rfl)) rfl, rfl, by decide +kernel, ⟨by decide +kernel, by decide +kernel⟩, by decide⟩
set_option maxRecDepth 100000 in
theorem zmo_61 : zMok zm_61 := ⟨zW_in (zch_4 _ (List.mem_of_getElem? (i := 229) rfl)) rfl, zW_in (zch_1 _ (List.mem_of_getElem? (i := 9) rfl)) rfl, rfl, by decide +kernel, ⟨by decide +kernel, by decide +kernel⟩, by decide⟩
set_option maxRecDepth 100000 in
theorem zmo_62 : zMok zm_62 := ⟨zW_in (zch_4 _ (List.mem_of_getElem? (i := 233) rfl)) rfl, zW_in (zch_1 _ (List.mem_of_getElem? (i := 9) rfl)) rfl, rfl, by decide +kernel, ⟨by decide +kernel, by decide +kernel⟩, by decide⟩
set_option maxRecDepth 100000 in
theorem zmo_63 : zMok zm_63 := ⟨zW_in (zch_4 _ (List.mem_of_getElem? (i := 239) rfl)) rfl, zW_in (zch_1 _ (List.mem_of_getElem? (i := 9) rfl)) rfl, rfl, by decide +kernel, ⟨by decide +kernel, by decide +kernel⟩, by decide⟩
set_option maxRecDepth 100000 in
theorem zmo_64 : zMok zm_64 := ⟨zW_in (zch_5 _ (List.mem_of_getElem? (i := 7) rfl)) rfl, zW_in (zch_1 _ (List.mem_of_getElem? (i := 9) rfl)) rfl, rfl, by decide +kernel, ⟨by decide +kernel, by decide +kernel⟩, by decide⟩
set_option maxRecDepth 100000 in
theorem zmo_65 : zMok zm_65 := ⟨zW_in (zch_5 _ (List.mem_of_getElem? (i := 11) rfl)) rfl, zW_in (zch_1 _ (List.mem_of_getElem? (i := 9) rfl)) rfl, rfl, by decide +kernel, ⟨by decide +kernel, by decide +kernel⟩, by decide⟩
set_option maxRecDepth 100000 in
theorem zmo_66 : zMok zm_66 := ⟨zW_in (zch_5 _ (List.mem_of_getElem? (i := 15) rfl)) rfl, zW_in (zch_1 _ (List.mem_of_getElem? (i := 9) rfl)) rfl, rfl, by decide +kernel, ⟨by decide +kernel, by decide +kernel⟩, by decide⟩
set_option maxRecDepth 100000 in
theorem zmo_67 : zMok zm_67 := ⟨zW_in (zch_5 _ (List.mem_of_getElem? (i := 3) rfl)) rfl, zW_in (zch_1 _ (List.mem_of_getElem? (i := 9) rfl)) rfl, rfl, by decide +kernel, ⟨by decide +kernel, by decide +kernel⟩, by decide⟩
set_option maxRecDepth 100000 in
theorem zmo_68 : zMok zm_68 := ⟨zW_in (zch_1 _ (List.mem_of_getElem? (i := 155) rfl)) rfl, zW_in (zch_1 _ (List.mem_of_getElem? (i := 6) rfl)) rfl, rfl, by decide +kernel, ⟨by decide +kernel, by decide +kernel⟩, by decide⟩
set_option maxRecDepth 100000 in
theorem zmo_69 : zMok zm_69 := ⟨zW_in (zch_2 _ (List.mem_of_getElem? (i := 141) rfl)) rfl, zW_in (zch_1 _ (List.mem_of_getElem? (i := 6) rfl)) rfl, rfl, by decide +kernel, ⟨by decide +kernel, by decide +kernel⟩, by decide⟩
set_option maxRecDepth 100000 in
theorem zmo_70 : zMok zm_70 := ⟨zW_in (zch_2 _ (List.mem_of_getElem? (i := 153) rfl)) rfl, zW_in (zch_1 _ (List.mem_of_getElem? (i := 6) rfl)) rfl, rfl, by decide +kernel, ⟨by decide +kernel, by decide +kernel⟩, by decide⟩
set_option maxRecDepth 100000 in
theorem zmo_71 : zMok zm_71 := ⟨zW_in (zch_2 _ (List.mem_of_getElem? (i := 161) rfl)) rfl, zW_in (zch_1 _ (List.mem_of_getElem? (i := 6) rfl)) rfl, rfl, by decide +kernel, ⟨by decide +kernel, by decide +kernel⟩, by decide⟩
set_option maxRecDepth 100000 in
theorem zmo_72 : zMok zm_72 := ⟨zW_in (zch_2 _ (List.mem_of_getElem? (i := 169) rfl)) rfl, zW_in (zch_1 _ (List.mem_of_getElem? (i := 6) rfl)) rfl, rfl, by decide +kernel, ⟨by decide +kernel, by decide +kernel⟩, by decide⟩
set_option maxRecDepth 100000 in
theorem zmo_73 : zMok zm_73 := ⟨zW_in (zch_2 _ (List.mem_of_getElem? (i := 177) rfl)) rfl, zW_in (zch_1 _ (List.mem_of_getElem? (i := 6) rfl)) rfl, rfl, by decide +kernel, ⟨by decide +kernel, by decide +kernel⟩, by decide⟩
set_option maxRecDepth 100000 in
theorem zmo_74 : zMok zm_74 := ⟨zW_in (zch_2 _ (List.mem_of_getElem? (i := 185) rfl)) rfl, zW_in (zch_1 _ (List.mem_of_getElem? (i := 6) rfl)) rfl, rfl, by decide +kernel, ⟨by decide +kernel, by decide +kernel⟩, by decide⟩
set_option maxRecDepth 100000 in
theorem zmo_75 : zMok zm_75 := ⟨zW_in (zch_2 _ (List.mem_of_getElem? (i := 157) rfl)) rfl, zW_in (zch_1 _ (List.mem_of_getElem? (i := 6) rfl)) rfl, rfl, by decide +kernel, ⟨by decide +kernel, by decide +kernel⟩, by decide⟩
set_option maxRecDepth 100000 in
theorem zmo_76 : zMok zm_76 := ⟨zW_in (zch_2 _ (List.mem_of_getElem? (i := 165) rfl)) rfl, zW_in (zch_1 _ (List.mem_of_getElem? (i := 6) rfl)) rfl, rfl, by decide +kernel, ⟨by decide +kernel, by decide +kernel⟩, by decide⟩
set_option maxRecDepth 100000 in
theorem zmo_77 : zMok zm_77 := ⟨zW_in (zch_2 _ (List.mem_of_getElem? (i := 189) rfl)) rfl, zW_in (zch_1 _ (List.mem_of_getElem? (i := 6) rfl)) rfl, rfl, by decide +kernel, ⟨by decide +kernel, by decide +kernel⟩, by decide⟩
set_option maxRecDepth 100000 in
theorem zmo_78 : zMok zm_78 := ⟨zW_in (zch_1 _ (List.mem_of_getElem? (i := 105) rfl)) rfl, zW_in (zch_1 _ (List.mem_of_getElem? (i := 4) rfl)) rfl, rfl, by decide +kernel, ⟨by decide +kernel, by decide +kernel⟩, by decide⟩
set_option maxRecDepth 100000 in
theorem zmo_79 : zMok zm_79 := ⟨zW_in (zch_5 _ (List.mem_of_getElem? (i := 95) rfl)) rfl, zW_in (zch_1 _ (List.mem_of_getElem? (i := 4) rfl)) rfl, rfl, by decide +kernel, ⟨by decide +kernel, by decide +kernel⟩, by decide⟩
set_option maxRecDepth 100000 in
theorem zmo_80 : zMok zm_80 := ⟨zW_in (zch_2 _ (List.mem_of_getElem? (i := 236) rfl)) rfl, zW_in (zch_1 _ (List.mem_of_getElem? (i := 4) rfl)) rfl, rfl, by decide +kernel, ⟨by decide +kernel, by decide +kernel⟩, by decide⟩
set_option maxRecDepth 100000 in
theorem zmo_81 : zMok zm_81 := ⟨zW_in (zch_3 _ (List.mem_of_getElem? (i := 0) rfl)) rfl, zW_in (zch_1 _ (List.mem_of_getElem? (i := 4) rfl)) rfl, rfl, by decide +kernel, ⟨by decide +kernel, by decide +kernel⟩, by decide⟩
set_option maxRecDepth 100000 in
theorem zmo_82 : zMok zm_82 := ⟨zW_in (zch_3 _ (List.mem_of_getElem? (i := 20) rfl)) rfl, zW_in (zch_1 _ (List.mem_of_getElem? (i := 4) rfl)) rfl, rfl, by decide +kernel, ⟨by decide +kernel, by decide +kernel⟩, by decide⟩
set_option maxRecDepth 100000 in
theorem zmo_83 : zMok zm_83 := ⟨zW_in (zch_3 _ (List.mem_of_getElem? (i := 25) rfl)) rfl, zW_in (zch_1 _ (List.mem_of_getElem? (i := 4) rfl)) rfl, rfl, by decide +kernel, ⟨by decide +kernel, by decide +kernel⟩, by decide⟩
set_option maxRecDepth 100000 in
theorem zmo_84 : zMok zm_84 := ⟨zW_in (zch_5 _ (List.mem_of_getElem? (i := 87) rfl)) rfl, zW_in (zch_1 _ (List.mem_of_getElem? (i := 4) rfl)) rfl, rfl, by decide +kernel, ⟨by decide +kernel, by decide +kernel⟩, by decide⟩
set_option maxRecDepth 100000 in
theorem zmo_85 : zMok zm_85 := ⟨zW_in (zch_3 _ (List.mem_of_getElem? (i := 35) rfl)) rfl, zW_in (zch_1 _ (List.mem_of_getElem? (i := 4) rfl)) rfl, rfl, by decide +kernel, ⟨by decide +kernel, by decide +kernel⟩, by decide⟩
set_option maxRecDepth 100000 in
theorem zmo_86 : zMok zm_86 := ⟨zW_in (zch_3 _ (List.mem_of_getElem? (i := 43) rfl)) rfl, zW_in (zch_1 _ (List.mem_of_getElem? (i := 4) rfl)) rfl, rfl, by decide +kernel, ⟨by decide +kernel, by decide +kernel⟩, by decide⟩
set_option maxRecDepth 100000 in
theorem zmo_87 : zMok zm_87 := ⟨zW_in (zch_3 _ (List.mem_of_getElem? (i := 87) rfl)) rfl, zW_in (zch_1 _ (List.mem_of_getElem? (i := 4) rfl)) rfl, rfl, by decide +kernel, ⟨by decide +kernel, by decide +kernel⟩, by decide⟩
set_option maxRecDepth 100000 in
theorem zmo_88 : zMok zm_88 := ⟨zW_in (zch_3 _ (List.mem_of_getElem? (i := 104) rfl)) rfl, zW_in (zch_1 _ (List.mem_of_getElem? (i := 4) rfl)) rfl, rfl, by decide +kernel, ⟨by decide +kernel, by decide +kernel⟩, by decide⟩
set_option maxRecDepth 100000 in
theorem zmo_89 : zMok zm_89 := ⟨zW_in (zch_3 _ (List.mem_of_getElem? (i := 110) rfl)) rfl, zW_in (zch_1 _ (List.mem_of_getElem? (i := 4) rfl)) rfl, rfl, by decide +kernel, ⟨by decide +kernel, by decide +kernel⟩, by decide⟩
set_option maxRecDepth 100000 in
theorem zmo_90 : zMok zm_90 := ⟨zW_in (zch_3 _ (List.mem_of_getElem? (i := 114) rfl)) rfl, zW_in (zch_1 _ (List.mem_of_getElem? (i := 4) rfl)) rfl, rfl, by decide +kernel, ⟨by decide +kernel, by decide +kernel⟩, by decide⟩
set_option maxRecDepth 100000 in
theorem zmo_91 : zMok zm_91 := ⟨zW_in (zch_1 _ (List.mem_of_getElem? (i := 177) rfl)) rfl, zW_in (zch_1 _ (List.mem_of_getElem? (i := 7) rfl)) rfl, rfl, by decide +kernel, ⟨by decide +kernel, by decide +kernel⟩, by decide⟩
set_option maxRecDepth 100000 in
theorem zmo_92 : zMok zm_92 := ⟨zW_in (zch_2 _ (List.mem_of_getElem? (i := 220) rfl)) rfl, zW_in (zch_1 _ (List.mem_of_getElem? (i := 7) rfl)) rfl, rfl, by decide +kernel, ⟨by decide +kernel, by decide +kernel⟩, by decide⟩
set_option maxRecDepth 100000 in
theorem zmo_93 : zMok zm_93 := ⟨zW_in (zch_3 _ (List.mem_of_getElem? (i := 12) rfl)) rfl, zW_in (zch_1 _ (List.mem_of_getElem? (i := 7) rfl)) rfl, rfl, by decide +kernel, ⟨by decide +kernel, by decide +kernel⟩, by decide⟩
set_option maxRecDepth 100000 in
theorem zmo_94 : zMok zm_94 := ⟨zW_in (zch_3 _ (List.mem_of_getElem? (i := 16) rfl)) rfl, zW_in (zch_1 _ (List.mem_of_getElem? (i := 7) rfl)) rfl, rfl, by decide +kernel, ⟨by decide +kernel, by decide +kernel⟩, by decide⟩
set_option maxRecDepth 100000 in
theorem zmo_95 : zMok zm_95 := ⟨zW_in (zch_3 _ (List.mem_of_getElem? (i := 83) rfl)) rfl, zW_in (zch_1 _ (List.mem_of_getElem? (i := 7) rfl)) rfl, rfl, by decide +kernel, ⟨by decide +kernel, by decide +kernel⟩, by decide⟩
set_option maxRecDepth 100000 in
theorem zmo_96 : zMok zm_96 := ⟨zW_in (zch_3 _ (List.mem_of_getElem? (i := 91) rfl)) rfl, zW_in (zch_1 _ (List.mem_of_getElem? (i := 7) rfl)) rfl, rfl, by decide +kernel, ⟨by decide +kernel, by decide +kernel⟩, by decide⟩
set_option maxRecDepth 100000 in
theorem zmo_97 : zMok zm_97 := ⟨zW_in (zch_3 _ (List.mem_of_getElem? (i := 77) rfl)) rfl, zW_in (zch_1 _ (List.mem_of_getElem? (i := 7) rfl)) rfl, rfl, by decide +kernel, ⟨by decide +kernel, by decide +kernel⟩, by decide⟩
set_option maxRecDepth 100000 in
theorem zmo_98 : zMok zm_98 := ⟨zW_in (zch_3 _ (List.mem_of_getElem? (i := 95) rfl)) rfl, zW_in (zch_1 _ (List.mem_of_getElem? (i := 7) rfl)) rfl, rfl, by decide +kernel, ⟨by decide +kernel, by decide +kernel⟩, by decide⟩
set_option maxRecDepth 100000 in
theorem zmo_99 : zMok zm_99 := ⟨zW_in (zch_3 _ (List.mem_of_getElem? (i := 65) rfl)) rfl, zW_in (zch_1 _ (List.mem_of_getElem? (i := 7) rfl)) rfl, rfl, by decide +kernel, ⟨by decide +kernel, by decide +kernel⟩, by decide⟩
set_option maxRecDepth 100000 in
theorem zmo_100 : zMok zm_100 := ⟨zW_in (zch_4 _ (List.mem_of_getElem? (i := 5) rfl)) rfl, zW_in (zch_1 _ (List.mem_of_getElem? (i := 7) rfl)) rfl, rfl, by decide +kernel, ⟨by decide +kernel, by decide +kernel⟩, by decide⟩
set_option maxRecDepth 100000 in
theorem zmo_101 : zMok zm_101 := ⟨zW_in (zch_4 _ (List.mem_of_getElem? (i := 9) rfl)) rfl, zW_in (zch_1 _ (List.mem_of_getElem? (i := 7) rfl)) rfl, rfl, by decide +kernel, ⟨by decide +kernel, by decide +kernel⟩, by decide⟩
set_option maxRecDepth 100000 in
theorem zmo_102 : zMok zm_102 := ⟨zW_in (zch_4 _ (List.mem_of_getElem? (i := 18) rfl)) rfl, zW_in (zch_1 _ (List.mem_of_getElem? (i := 7) rfl)) rfl, rfl, by decide +kernel, ⟨by decide +kernel, by decide +kernel⟩, by decide⟩
set_option maxRecDepth 100000 in
theorem zmo_103 : zMok zm_103 := ⟨zW_in (zch_3 _ (List.mem_of_getElem? (i := 228) rfl)) rfl, zW_in (zch_1 _ (List.mem_of_getElem? (i := 7) rfl)) rfl, rfl, by decide +kernel, ⟨by decide +kernel, by decide +kernel⟩, by decide⟩
set_option maxRecDepth 100000 in
theorem zmo_104 : zMok zm_104 := ⟨zW_in (zch_1 _ (List.mem_of_getElem? (i := 24) rfl)) rfl, zW_in (zch_1 _ (List.mem_of_getElem? (i := 1) rfl)) rfl, rfl, by decide +kernel, ⟨by decide +kernel, by decide +kernel⟩, by decide⟩
set_option maxRecDepth 100000 in
theorem zmo_105 : zMok zm_105 := ⟨zW_in (zch_2 _ (List.mem_of_getElem? (i := 121) rfl)) rfl, zW_in (zch_1 _ (List.mem_of_getElem? (i := 1) rfl)) rfl, rfl, by decide +kernel, ⟨by decide +kernel, by decide +kernel⟩, by decide⟩
set_option maxRecDepth 100000 in
theorem zmo_106 : zMok zm_106 := ⟨zW_in (zch_2 _ (List.mem_of_getElem? (i := 125) rfl)) rfl, zW_in (zch_1 _ (List.mem_of_getElem? (i := 1) rfl)) rfl, rfl, by decide +kernel, ⟨by decide +kernel, by decide +kernel⟩, by decide⟩
set_option maxRecDepth 100000 in
theorem zmo_107 : zMok zm_107 := ⟨zW_in (zch_2 _ (List.mem_of_getElem? (i := 129) rfl)) rfl, zW_in (zch_1 _ (List.mem_of_getElem? (i := 1) rfl)) rfl, rfl, by decide +kernel, ⟨by decide +kernel, by decide +kernel⟩, by decide⟩
set_option maxRecDepth 100000 in
theorem zmo_108 : zMok zm_108 := ⟨zW_in (zch_2 _ (List.mem_of_getElem? (i := 133) rfl)) rfl, zW_in (zch_1 _ (List.mem_of_getElem? (i := 1) rfl)) rfl, rfl, by decide +kernel, ⟨by decide +kernel, by decide +kernel⟩, by decide⟩
set_option maxRecDepth 100000 in
theorem zmo_109 : zMok zm_109 := ⟨zW_in (zch_2 _ (List.mem_of_getElem? (i := 137) rfl)) rfl, zW_in (zch_1 _ (List.mem_of_getElem? (i := 1) rfl)) rfl, rfl, by decide +kernel, ⟨by decide +kernel, by decide +kernel⟩, by decide⟩
set_option maxRecDepth 100000 in
theorem zmo_110 : zMok zm_110 := ⟨zW_in (zch_2 _ (List.mem_of_getElem? (i := 204) rfl)) rfl, zW_in (zch_1 _ (List.mem_of_getElem? (i := 1) rfl)) rfl, rfl, by decide +kernel, ⟨by decide +kernel, by decide +kernel⟩, by decide⟩
set_option maxRecDepth 100000 in
theorem zmo_111 : zMok zm_111 := ⟨zW_in (zch_2 _ (List.mem_of_getElem? (i := 212) rfl)) rfl, zW_in (zch_1 _ (List.mem_of_getElem? (i := 1) rfl)) rfl, rfl, by decide +kernel, ⟨by decide +kernel, by decide +kernel⟩, by decide⟩
set_option maxRecDepth 100000 in
theorem zmo_112 : zMok zm_112 := ⟨zW_in (zch_3 _ (List.mem_of_getElem? (i := 8) rfl)) rfl, zW_in (zch_1 _ (List.mem_of_getElem? (i := 1) rfl)) rfl, rfl, by decide +kernel, ⟨by decide +kernel, by decide +kernel⟩, by decide⟩
set_option maxRecDepth 100000 in
theorem zmo_113 : zMok zm_113 := ⟨zW_in (zch_3 _ (List.mem_of_getElem? (i := 29) rfl)) rfl, zW_in (zch_1 _ (List.mem_of_getElem? (i := 1) rfl)) rfl, rfl, by decide +kernel, ⟨by decide +kernel, by decide +kernel⟩, by decide⟩
set_option maxRecDepth 100000 in
theorem zmo_114 : zMok zm_114 := ⟨zW_in (zch_3 _ (List.mem_of_getElem? (i := 39) rfl)) rfl, zW_in (zch_1 _ (List.mem_of_getElem? (i := 1) rfl)) rfl, rfl, by decide +kernel, ⟨by decide +kernel, by decide +kernel⟩, by decide⟩
set_option maxRecDepth 100000 in
theorem zmo_115 : zMok zm_115 := ⟨zW_in (zch_3 _ (List.mem_of_getElem? (i := 49) rfl)) rfl, zW_in (zch_1 _ (List.mem_of_getElem? (i := 1) rfl)) rfl, rfl, by decide +kernel, ⟨by decide +kernel, by decide +kernel⟩, by decide⟩
set_option maxRecDepth 100000 in
theorem zmo_116 : zMok zm_116 := ⟨zW_in (zch_3 _ (List.mem_of_getElem? (i := 53) rfl)) rfl, zW_in (zch_1 _ (List.mem_of_getElem? (i := 1) rfl)) rfl, rfl, by decide +kernel, ⟨by decide +kernel, by decide +kernel⟩, by decide⟩
set_option maxRecDepth 100000 in
theorem zmo_117 : zMok zm_117 := ⟨zW_in (zch_3 _ (List.mem_of_getElem? (i := 57) rfl)) rfl, zW_in (zch_1 _ (List.mem_of_getElem? (i := 1) rfl)) rfl, rfl, by decide +kernel, ⟨by decide +kernel, by decide +kernel⟩, by decide⟩
set_option maxRecDepth 100000 in
theorem zmo_118 : zMok zm_118 := ⟨zW_in (zch_3 _ (List.mem_of_getElem? (i := 100) rfl)) rfl, zW_in (zch_1 _ (List.mem_of_getElem? (i := 1) rfl)) rfl, rfl, by decide +kernel, ⟨by decide +kernel, by decide +kernel⟩, by decide⟩
set_option maxRecDepth 100000 in
theorem zmo_119 : zMok zm_119 := ⟨zW_in (zch_3 _ (List.mem_of_getElem? (i := 118) rfl)) rfl, zW_in (zch_1 _ (List.mem_of_getElem? (i := 1) rfl)) rfl, rfl, by decide +kernel, ⟨by decide +kernel, by decide +kernel⟩, by decide⟩
set_option maxRecDepth 100000 in
theorem zmo_120 : zMok zm_120 := ⟨zW_in (zch_3 _ (List.mem_of_getElem? (i := 122) rfl)) rfl, zW_in (zch_1 _ (List.mem_of_getElem? (i := 1) rfl)) rfl, rfl, by decide +kernel, ⟨by decide +kernel, by decide +kernel⟩, by decide⟩
set_option maxRecDepth 100000 in
theorem zmo_121 : zMok zm_121 := ⟨zW_in (zch_3 _ (List.mem_of_getElem? (i := 126) rfl)) rfl, zW_in (zch_1 _ (List.mem_of_getElem? (i := 1) rfl)) rfl, rfl, by decide +kernel, ⟨by decide +kernel, by decide +kernel⟩, by decide⟩
set_option maxRecDepth 100000 in
theorem zmo_122 : zMok zm_122 := ⟨zW_in (zch_3 _ (List.mem_of_getElem? (i := 130) rfl)) rfl, zW_in (zch_1 _ (List.mem_of_getElem? (i := 1) rfl)) rfl, rfl, by decide +kernel, ⟨by decide +kernel, by decide +kernel⟩, by decide⟩
set_option maxRecDepth 100000 in
theorem zmo_123 : zMok zm_123 := ⟨zW_in (zch_3 _ (List.mem_of_getElem? (i := 136) rfl)) rfl, zW_in (zch_1 _ (List.mem_of_getElem? (i := 1) rfl)) rfl, rfl, by decide +kernel, ⟨by decide +kernel, by decide +kernel⟩, by decide⟩
set_option maxRecDepth 100000 in
theorem zmo_124 : zMok zm_124 := ⟨zW_in (zch_3 _ (List.mem_of_getElem? (i := 140) rfl)) rfl, zW_in (zch_1 _ (List.mem_of_getElem? (i := 1) rfl)) rfl, rfl, by decide +kernel, ⟨by decide +kernel, by decide +kernel⟩, by decide⟩
set_option maxRecDepth 100000 in
theorem zmo_125 : zMok zm_125 := ⟨zW_in (zch_3 _ (List.mem_of_getElem? (i := 194) rfl)) rfl, zW_in (zch_1 _ (List.mem_of_getElem? (i := 1) rfl)) rfl, rfl, by decide +kernel, ⟨by decide +kernel, by decide +kernel⟩, by decide⟩
set_option maxRecDepth 100000 in
theorem zmo_126 : zMok zm_126 := ⟨zW_in (zch_3 _ (List.mem_of_getElem? (i := 198) rfl)) rfl, zW_in (zch_1 _ (List.mem_of_getElem? (i := 1) rfl)) rfl, rfl, by decide +kernel, ⟨by decide +kernel, by decide +kernel⟩, by decide⟩
set_option maxRecDepth 100000 in
theorem zmo_127 : zMok zm_127 := ⟨zW_in (zch_3 _ (List.mem_of_getElem? (i := 202) rfl)) rfl, zW_in (zch_1 _ (List.mem_of_getElem? (i := 1) rfl)) rfl, rfl, by decide +kernel, ⟨by decide +kernel, by decide +kernel⟩, by decide⟩
set_option maxRecDepth 100000 in
theorem zmo_128 : zMok zm_128 := ⟨zW_in (zch_3 _ (List.mem_of_getElem? (i := 211) rfl)) rfl, zW_in (zch_1 _ (List.mem_of_getElem? (i := 1) rfl)) rfl, rfl, by decide +kernel, ⟨by decide +kernel, by decide +kernel⟩, by decide⟩
set_option maxRecDepth 100000 in
theorem zmo_129 : zMok zm_129 := ⟨zW_in (zch_3 _ (List.mem_of_getElem? (i := 215) rfl)) rfl, zW_in (zch_1 _ (List.mem_of_getElem? (i := 1) rfl)) rfl, rfl, by decide +kernel, ⟨by decide +kernel, by decide +kernel⟩, by decide⟩
set_option maxRecDepth 100000 in
theorem zmo_130 : zMok zm_130 := ⟨zW_in (zch_3 _ (List.mem_of_getElem? (i := 220) rfl)) rfl, zW_in (zch_1 _ (List.mem_of_getElem? (i := 1) rfl)) rfl, rfl, by decide +kernel, ⟨by decide +kernel, by decide +kernel⟩, by decide⟩
set_option maxRecDepth 100000 in
theorem zmo_131 : zMok zm_131 := ⟨zW_in (zch_3 _ (List.mem_of_getElem? (i := 224) rfl)) rfl, zW_in (zch_1 _ (List.mem_of_getElem? (i := 1) rfl)) rfl, rfl, by decide +kernel, ⟨by decide +kernel, by decide +kernel⟩, by decide⟩
set_option maxRecDepth 100000 in
theorem zmo_132 : zMok zm_132 := ⟨zW_in (zch_3 _ (List.mem_of_getElem? (i := 233) rfl)) rfl, zW_in (zch_1 _ (List.mem_of_getElem? (i := 1) rfl)) rfl, rfl, by decide +kernel, ⟨by decide +kernel, by decide +kernel⟩, by decide⟩
set_option maxRecDepth 100000 in
theorem zmo_133 : zMok zm_133 := ⟨zW_in (zch_3 _ (List.mem_of_getElem? (i := 237) rfl)) rfl, zW_in (zch_1 _ (List.mem_of_getElem? (i := 1) rfl)) rfl, rfl, by decide +kernel, ⟨by decide +kernel, by decide +kernel⟩, by decide⟩
set_option maxRecDepth 100000 in
theorem zmo_134 : zMok zm_134 := ⟨zW_in (zch_4 _ (List.mem_of_getElem? (i := 1) rfl)) rfl, zW_in (zch_1 _ (List.mem_of_getElem? (i := 1) rfl)) rfl, rfl, by decide +kernel, ⟨by decide +kernel, by decide +kernel⟩, by decide⟩
set_option maxRecDepth 100000 in
theorem zmo_135 : zMok zm_135 := ⟨zW_in (zch_4 _ (List.mem_of_getElem? (i := 14) rfl)) rfl, zW_in (zch_1 _ (List.mem_of_getElem? (i := 1) rfl)) rfl, rfl, by decide +kernel, ⟨by decide +kernel, by decide +kernel⟩, by decide⟩
set_option maxRecDepth 100000 in
theorem zmo_136 : zMok zm_136 := ⟨zW_in (zch_4 _ (List.mem_of_getElem? (i := 24) rfl)) rfl, zW_in (zch_1 _ (List.mem_of_getElem? (i := 1) rfl)) rfl, rfl, by decide +kernel, ⟨by decide +kernel, by decide +kernel⟩, by decide⟩
set_option maxRecDepth 100000 in
theorem zmo_137 : zMok zm_137 := ⟨zW_in (zch_4 _ (List.mem_of_getElem? (i := 28) rfl)) rfl, zW_in (zch_1 _ (List.mem_of_getElem? (i := 1) rfl)) rfl, rfl, by decide +kernel, ⟨by decide +kernel, by decide +kernel⟩, by decide⟩
set_option maxRecDepth 100000 in
theorem zmo_138 : zMok zm_138 := ⟨zW_in (zch_4 _ (List.mem_of_getElem? (i := 32) rfl)) rfl, zW_in (zch_1 _ (List.mem_of_getElem? (i := 1) rfl)) rfl, rfl, by decide +kernel, ⟨by decide +kernel, by decide +kernel⟩, by decide⟩
set_option maxRecDepth 100000 in
theorem zmo_139 : zMok zm_139 := ⟨zW_in (zch_4 _ (List.mem_of_getElem? (i := 36) rfl)) rfl, zW_in (zch_1 _ (List.mem_of_getElem? (i := 1) rfl)) rfl, rfl, by decide +kernel, ⟨by decide +kernel, by decide +kernel⟩, by decide⟩
set_option maxRecDepth 100000 in
theorem zmo_140 : zMok zm_140 := ⟨zW_in (zch_4 _ (List.mem_of_getElem? (i := 40) rfl)) rfl, zW_in (zch_1 _ (List.mem_of_getElem? (i := 1) rfl)) rfl, rfl, by decide +kernel, ⟨by decide +kernel, by decide +kernel⟩, by decide⟩
set_option maxRecDepth 100000 in
theorem zmo_141 : zMok zm_141 := ⟨zW_in (zch_4 _ (List.mem_of_getElem? (i := 48) rfl)) rfl, zW_in (zch_1 _ (List.mem_of_getElem? (i := 1) rfl)) rfl, rfl, by decide +kernel, ⟨by decide +kernel, by decide +kernel⟩, by decide⟩
set_option maxRecDepth 100000 in
theorem zmo_142 : zMok zm_142 := ⟨zW_in (zch_4 _ (List.mem_of_getElem? (i := 44) rfl)) rfl, zW_in (zch_1 _ (List.mem_of_getElem? (i := 1) rfl)) rfl, rfl, by decide +kernel, ⟨by decide +kernel, by decide +kernel⟩, by decide⟩
set_option maxRecDepth 100000 in
theorem zmo_143 : zMok zm_143 := ⟨zW_in (zch_4 _ (List.mem_of_getElem? (i := 53) rfl)) rfl, zW_in (zch_1 _ (List.mem_of_getElem? (i := 1) rfl)) rfl, rfl, by decide +kernel, ⟨by decide +kernel, by decide +kernel⟩, by decide⟩
set_option maxRecDepth 100000 in
theorem zmo_144 : zMok zm_144 := ⟨zW_in (zch_4 _ (List.mem_of_getElem? (i := 149) rfl)) rfl, zW_in (zch_1 _ (List.mem_of_getElem? (i := 1) rfl)) rfl, rfl, by decide +kernel, ⟨by decide +kernel, by decide +kernel⟩, by decide⟩
set_option maxRecDepth 100000 in
theorem zmo_145 : zMok zm_145 := ⟨zW_in (zch_4 _ (List.mem_of_getElem? (i := 190) rfl)) rfl, zW_in (zch_1 _ (List.mem_of_getElem? (i := 1) rfl)) rfl, rfl, by decide +kernel, ⟨by decide +kernel, by decide +kernel⟩, by decide⟩
set_option maxRecDepth 100000 in
theorem zmo_146 : zMok zm_146 := ⟨zW_in (zch_4 _ (List.mem_of_getElem? (i := 203) rfl)) rfl, zW_in (zch_1 _ (List.mem_of_getElem? (i := 1) rfl)) rfl, rfl, by decide +kernel, ⟨by decide +kernel, by decide +kernel⟩, by decide⟩
set_option maxRecDepth 100000 in
theorem zmo_147 : zMok zm_147 := ⟨zW_in (zch_4 _ (List.mem_of_getElem? (i := 221) rfl)) rfl, zW_in (zch_1 _ (List.mem_of_getElem? (i := 1) rfl)) rfl, rfl, by decide +kernel, ⟨by decide +kernel, by decide +kernel⟩, by decide⟩
set_option maxRecDepth 100000 in
theorem zmo_148 : zMok zm_148 := ⟨zW_in (zch_4 _ (List.mem_of_getElem? (i := 225) rfl)) rfl, zW_in (zch_1 _ (List.mem_of_getElem? (i := 1) rfl)) rfl, rfl, by decide +kernel, ⟨by decide +kernel, by decide +kernel⟩, by decide⟩
set_option maxRecDepth 100000 in
theorem zmo_149 : zMok zm_149 := ⟨zW_in (zch_4 _ (List.mem_of_getElem? (i := 185) rfl)) rfl, zW_in (zch_1 _ (List.mem_of_getElem? (i := 1) rfl)) rfl, rfl, by decide +kernel, ⟨by decide +kernel, by decide +kernel⟩, by decide⟩
set_option maxRecDepth 100000 in
theorem zmo_150 : zMok zm_150 := ⟨zW_in (zch_5 _ (List.mem_of_getElem? (i := 19) rfl)) rfl, zW_in (zch_1 _ (List.mem_of_getElem? (i := 1) rfl)) rfl, rfl, by decide +kernel, ⟨by decide +kernel, by decide +kernel⟩, by decide⟩
set_option maxRecDepth 100000 in
theorem zmo_151 : zMok zm_151 := ⟨zW_in (zch_5 _ (List.mem_of_getElem? (i := 36) rfl)) rfl, zW_in (zch_1 _ (List.mem_of_getElem? (i := 1) rfl)) rfl, rfl, by decide +kernel, ⟨by decide +kernel, by decide +kernel⟩, by decide⟩
set_option maxRecDepth 100000 in
theorem zmo_152 : zMok zm_152 := ⟨zW_in (zch_5 _ (List.mem_of_getElem? (i := 40) rfl)) rfl, zW_in (zch_1 _ (List.mem_of_getElem? (i := 1) rfl)) rfl, rfl, by decide +kernel, ⟨by decide +kernel, by decide +kernel⟩, by decide⟩
set_option maxRecDepth 100000 in
theorem zmo_153 : zMok zm_153 := ⟨zW_in (zch_5 _ (List.mem_of_getElem? (i := 44) rfl)) rfl, zW_in (zch_1 _ (List.mem_of_getElem? (i := 1) rfl)) rfl, rfl, by decide +kernel, ⟨by decide +kernel, by decide +kernel⟩, by decide⟩
set_option maxRecDepth 100000 in
theorem zmo_154 : zMok zm_154 := ⟨zW_in (zch_5 _ (List.mem_of_getElem? (i := 47) rfl)) rfl, zW_in (zch_1 _ (List.mem_of_getElem? (i := 1) rfl)) rfl, rfl, by decide +kernel, ⟨by decide +kernel, by decide +kernel⟩, by decide⟩
set_option maxRecDepth 100000 in
theorem zmo_155 : zMok zm_155 := ⟨zW_in (zch_5 _ (List.mem_of_getElem? (i := 51) rfl)) rfl, zW_in (zch_1 _ (List.mem_of_getElem? (i := 1) rfl)) rfl, rfl, by decide +kernel, ⟨by decide +kernel, by decide +kernel⟩, by decide⟩
set_option maxRecDepth 100000 in
theorem zmo_156 : zMok zm_156 := ⟨zW_in (zch_5 _ (List.mem_of_getElem? (i := 55) rfl)) rfl, zW_in (zch_1 _ (List.mem_of_getElem? (i := 1) rfl)) rfl, rfl, by decide +kernel, ⟨by decide +kernel, by decide +kernel⟩, by decide⟩
set_option maxRecDepth 100000 in
theorem zmo_157 : zMok zm_157 := ⟨zW_in (zch_5 _ (List.mem_of_getElem? (i := 59) rfl)) rfl, zW_in (zch_1 _ (List.mem_of_getElem? (i := 1) rfl)) rfl, rfl, by decide +kernel, ⟨by decide +kernel, by decide +kernel⟩, by decide⟩
set_option maxRecDepth 100000 in
theorem zmo_158 : zMok zm_158 := ⟨zW_in (zch_5 _ (List.mem_of_getElem? (i := 63) rfl)) rfl, zW_in (zch_1 _ (List.mem_of_getElem? (i := 1) rfl)) rfl, rfl, by decide +kernel, ⟨by decide +kernel, by decide +kernel⟩, by decide⟩
set_option maxRecDepth 100000 in
theorem zmo_159 : zMok zm_159 := ⟨zW_in (zch_5 _ (List.mem_of_getElem? (i := 67) rfl)) rfl, zW_in (zch_1 _ (List.mem_of_getElem? (i := 1) rfl)) rfl, rfl, by decide +kernel, ⟨by decide +kernel, by decide +kernel⟩, by decide⟩
set_option maxRecDepth 100000 in
theorem zmo_160 : zMok zm_160 := ⟨zW_in (zch_5 _ (List.mem_of_getElem? (i := 71) rfl)) rfl, zW_in (zch_1 _ (List.mem_of_getElem? (i := 1) rfl)) rfl, rfl, by decide +kernel, ⟨by decide +kernel, by decide +kernel⟩, by decide⟩
set_option maxRecDepth 100000 in
theorem zmo_161 : zMok zm_161 := ⟨zW_in (zch_5 _ (List.mem_of_getElem? (i := 75) rfl)) rfl, zW_in (zch_1 _ (List.mem_of_getElem? (i := 1) rfl)) rfl, rfl, by decide +kernel, ⟨by decide +kernel, by decide +kernel⟩, by decide⟩
set_option maxRecDepth 100000 in
theorem zmo_162 : zMok zm_162 := ⟨zW_in (zch_5 _ (List.mem_of_getElem? (i := 79) rfl)) rfl, zW_in (zch_1 _ (List.mem_of_getElem? (i := 1) rfl)) rfl, rfl, by decide +kernel, ⟨by decide +kernel, by decide +kernel⟩, by decide⟩
set_option maxRecDepth 100000 in
theorem zmo_163 : zMok zm_163 := ⟨zW_in (zch_5 _ (List.mem_of_getElem? (i := 83) rfl)) rfl, zW_in (zch_1 _ (List.mem_of_getElem? (i := 1) rfl)) rfl, rfl, by decide +kernel, ⟨by decide +kernel, by decide +kernel⟩, by decide⟩
set_option maxRecDepth 100000 in
theorem zmo_164 : zMok zm_164 := ⟨zW_in (zch_5 _ (List.mem_of_getElem? (i := 91) rfl)) rfl, zW_in (zch_1 _ (List.mem_of_getElem? (i := 1) rfl)) rfl, rfl, by decide +kernel, ⟨by decide +kernel, by decide +kernel⟩, by decide⟩
set_option maxRecDepth 100000 in
theorem zmo_165 : zMok zm_165 := ⟨zW_in (zch_5 _ (List.mem_of_getElem? (i := 100) rfl)) rfl, zW_in (zch_1 _ (List.mem_of_getElem? (i := 1) rfl)) rfl, rfl, by decide +kernel, ⟨by decide +kernel, by decide +kernel⟩, by decide⟩
set_option maxRecDepth 100000 in
theorem zmo_166 : zMok zm_166 := ⟨zW_in (zch_5 _ (List.mem_of_getElem? (i := 104) rfl)) rfl, zW_in (zch_1 _ (List.mem_of_getElem? (i := 1) rfl)) rfl, rfl, by decide +kernel, ⟨by decide +kernel, by decide +kernel⟩, by decide⟩
set_option maxRecDepth 100000 in
theorem zmo_167 : zMok zm_167 := ⟨zW_in (zch_3 _ (List.mem_of_getElem? (i := 61) rfl)) rfl, zW_in (zch_1 _ (List.mem_of_getElem? (i := 1) rfl)) rfl, rfl, by decide +kernel, ⟨by decide +kernel, by decide +kernel⟩, by decide⟩
set_option maxRecDepth 100000 in
theorem zmo_168 : zMok zm_168 := ⟨zW_in (zch_3 _ (List.mem_of_getElem? (i := 73) rfl)) rfl, zW_in (zch_1 _ (List.mem_of_getElem? (i := 1) rfl)) rfl, rfl, by decide +kernel, ⟨by decide +kernel, by decide +kernel⟩, by decide⟩
set_option maxRecDepth 100000 in
theorem zmo_169 : zMok zm_169 := ⟨zW_in (zch_3 _ (List.mem_of_getElem? (i := 190) rfl)) rfl, zW_in (zch_1 _ (List.mem_of_getElem? (i := 1) rfl)) rfl, rfl, by decide +kernel, ⟨by decide +kernel, by decide +kernel⟩, by decide⟩
set_option maxRecDepth 100000 in
theorem zmo_170 : zMok zm_170 := ⟨zW_in (zch_5 _ (List.mem_of_getElem? (i := 177) rfl)) rfl, zW_in (zch_1 _ (List.mem_of_getElem? (i := 11) rfl)) rfl, rfl, by decide +kernel, ⟨by decide +kernel, by decide +kernel⟩, by decide⟩
set_option maxRecDepth 100000 in
theorem zmo_171 : zMok zm_171 := ⟨zW_in (zch_5 _ (List.mem_of_getElem? (i := 185) rfl)) rfl, zW_in (zch_1 _ (List.mem_of_getElem? (i := 11) rfl)) rfl, rfl, by decide +kernel, ⟨by decide +kernel, by decide +kernel⟩, by decide⟩
set_option maxRecDepth 100000 in
theorem zmo_172 : zMok zm_172 := ⟨zW_in (zch_6 _ (List.mem_of_getElem? (i := 27) rfl)) rfl, zW_in (zch_1 _ (List.mem_of_getElem? (i := 11) rfl)) rfl, rfl, by decide +kernel, ⟨by decide +kernel, by decide +kernel⟩, by decide⟩
set_option maxRecDepth 100000 in
theorem zmo_173 : zMok zm_173 := ⟨zW_in (zch_5 _ (List.mem_of_getElem? (i := 218) rfl)) rfl, zW_in (zch_1 _ (List.mem_of_getElem? (i := 11) rfl)) rfl, rfl, by decide +kernel, ⟨by decide +kernel, by decide +kernel⟩, by decide⟩
set_option maxRecDepth 100000 in
theorem zmo_174 : zMok zm_174 := ⟨zW_in (zch_6 _ (List.mem_of_getElem? (i := 88) rfl)) rfl, zW_in (zch_1 _ (List.mem_of_getElem? (i := 11) rfl)) rfl, rfl, by decide +kernel, ⟨by decide +kernel, by decide +kernel⟩, by decide⟩
set_option maxRecDepth 100000 in
theorem zmo_175 : zMok zm_175 := ⟨zW_in (zch_5 _ (List.mem_of_getElem? (i := 181) rfl)) rfl, zW_in (zch_1 _ (List.mem_of_getElem? (i := 11) rfl)) rfl, rfl, by decide +kernel, ⟨by decide +kernel, by decide +kernel⟩, by decide⟩
set_option maxRecDepth 100000 in
theorem zmo_176 : zMok zm_176 := ⟨zW_in (zch_5 _ (List.mem_of_getElem? (i := 190) rfl)) rfl, zW_in (zch_1 _ (List.mem_of_getElem? (i := 11) rfl)) rfl, rfl, by decide +kernel, ⟨by decide +kernel, by decide +kernel⟩, by decide⟩
set_option maxRecDepth 100000 in
theorem zmo_177 : zMok zm_177 := ⟨zW_in (zch_6 _ (List.mem_of_getElem? (i := 4) rfl)) rfl, zW_in (zch_1 _ (List.mem_of_getElem? (i := 11) rfl)) rfl, rfl, by decide +kernel, ⟨by decide +kernel, by decide +kernel⟩, by decide⟩
set_option maxRecDepth 100000 in
theorem zmo_178 : zMok zm_178 := ⟨zW_in (zch_6 _ (List.mem_of_getElem? (i := 12) rfl)) rfl, zW_in (zch_1 _ (List.mem_of_getElem? (i := 11) rfl)) rfl, rfl, by decide +kernel, ⟨by decide +kernel, by decide +kernel⟩, by decide⟩
set_option maxRecDepth 100000 in
theorem zmo_179 : zMok zm_179 := ⟨zW_in (zch_5 _ (List.mem_of_getElem? (i := 197) rfl)) rfl, zW_in (zch_1 _ (List.mem_of_getElem? (i := 11) rfl)) rfl, rfl, by decide +kernel, ⟨by decide +kernel, by decide +kernel⟩, by decide⟩
set_option maxRecDepth 100000 in
theorem zmo_180 : zMok zm_180 := ⟨zW_in (zch_5 _ (List.mem_of_getElem? (i := 201) rfl)) rfl, zW_in (zch_1 _ (List.mem_of_getElem? (i := 11) rfl)) rfl, rfl, by decide +kernel, ⟨by decide +kernel, by decide +kernel⟩, by decide⟩
set_option maxRecDepth 100000 in
theorem zmo_181 : zMok zm_181 := ⟨zW_in (zch_5 _ (List.mem_of_getElem? (i := 215) rfl)) rfl, zW_in (zch_1 _ (List.mem_of_getElem? (i := 11) rfl)) rfl, rfl, by decide +kernel, ⟨by decide +kernel, by decide +kernel⟩, by decide⟩
set_option maxRecDepth 100000 in
theorem zmo_182 : zMok zm_182 := ⟨zW_in (zch_5 _ (List.mem_of_getElem? (i := 230) rfl)) rfl, zW_in (zch_1 _ (List.mem_of_getElem? (i := 11) rfl)) rfl, rfl, by decide +kernel, ⟨by decide +kernel, by decide +kernel⟩, by decide⟩
set_option maxRecDepth 100000 in
theorem zmo_183 : zMok zm_183 := ⟨zW_in (zch_5 _ (List.mem_of_getElem? (i := 226) rfl)) rfl, zW_in (zch_1 _ (List.mem_of_getElem? (i := 11) rfl)) rfl, rfl, by decide +kernel, ⟨by decide +kernel, by decide +kernel⟩, by decide⟩
set_option maxRecDepth 100000 in
theorem zmo_184 : zMok zm_184 := ⟨zW_in (zch_5 _ (List.mem_of_getElem? (i := 236) rfl)) rfl, zW_in (zch_1 _ (List.mem_of_getElem? (i := 11) rfl)) rfl, rfl, by decide +kernel, ⟨by decide +kernel, by decide +kernel⟩, by decide⟩
set_option maxRecDepth 100000 in
theorem zmo_185 : zMok zm_185 := ⟨zW_in (zch_5 _ (List.mem_of_getElem? (i := 222) rfl)) rfl, zW_in (zch_1 _ (List.mem_of_getElem? (i := 11) rfl)) rfl, rfl, by decide +kernel, ⟨by decide +kernel, by decide +kernel⟩, by decide⟩
set_option maxRecDepth 100000 in
theorem zmo_186 : zMok zm_186 := ⟨zW_in (zch_5 _ (List.mem_of_getElem? (i := 211) rfl)) rfl, zW_in (zch_1 _ (List.mem_of_getElem? (i := 11) rfl)) rfl, rfl, by decide +kernel, ⟨by decide +kernel, by decide +kernel⟩, by decide⟩
set_option maxRecDepth 100000 in
theorem zmo_187 : zMok zm_187 := ⟨zW_in (zch_5 _ (List.mem_of_getElem? (i := 205) rfl)) rfl, zW_in (zch_1 _ (List.mem_of_getElem? (i := 11) rfl)) rfl, rfl, by decide +kernel, ⟨by decide +kernel, by decide +kernel⟩, by decide⟩
set_option maxRecDepth 100000 in
theorem zmo_188 : zMok zm_188 := ⟨zW_in (zch_6 _ (List.mem_of_getElem? (i := 35) rfl)) rfl, zW_in (zch_1 _ (List.mem_of_getElem? (i := 11) rfl)) rfl, rfl, by decide +kernel, ⟨by decide +kernel, by decide +kernel⟩, by decide⟩
set_option maxRecDepth 100000 in
theorem zmo_189 : zMok zm_189 := ⟨zW_in (zch_6 _ (List.mem_of_getElem? (i := 20) rfl)) rfl, zW_in (zch_1 _ (List.mem_of_getElem? (i := 11) rfl)) rfl, rfl, by decide +kernel, ⟨by decide +kernel, by decide +kernel⟩, by decide⟩
set_option maxRecDepth 100000 in
theorem zmo_190 : zMok zm_190 := ⟨zW_in (zch_6 _ (List.mem_of_getElem? (i := 31) rfl)) rfl, zW_in (zch_1 _ (List.mem_of_getElem? (i := 11) rfl)) rfl, rfl, by decide +kernel, ⟨by decide +kernel, by decide +kernel⟩, by decide⟩
set_option maxRecDepth 100000 in
theorem zmo_191 : zMok zm_191 := ⟨zW_in (zch_6 _ (List.mem_of_getElem? (i := 39) rfl)) rfl, zW_in (zch_1 _ (List.mem_of_getElem? (i := 11) rfl)) rfl, rfl, by decide +kernel, ⟨by decide +kernel, by decide +kernel⟩, by decide⟩
set_option maxRecDepth 100000 in
theorem zmo_192 : zMok zm_192 := ⟨zW_in (zch_6 _ (List.mem_of_getElem? (i := 24) rfl)) rfl, zW_in (zch_1 _ (List.mem_of_getElem? (i := 11) rfl)) rfl, rfl, by decide +kernel, ⟨by decide +kernel, by decide +kernel⟩, by decide⟩
set_option maxRecDepth 100000 in
theorem zmo_193 : zMok zm_193 := ⟨zW_in (zch_6 _ (List.mem_of_getElem? (i := 96) rfl)) rfl, zW_in (zch_1 _ (List.mem_of_getElem? (i := 11) rfl)) rfl, rfl, by decide +kernel, ⟨by decide +kernel, by decide +kernel⟩, by decide⟩
set_option maxRecDepth 100000 in
theorem zmo_194 : zMok zm_194 := ⟨zW_in (zch_6 _ (List.mem_of_getElem? (i := 16) rfl)) rfl, zW_in (zch_1 _ (List.mem_of_getElem? (i := 11) rfl)) rfl, rfl, by decide +kernel, ⟨by decide +kernel, by decide +kernel⟩, by decide⟩
set_option maxRecDepth 100000 in
theorem zmo_195 : zMok zm_195 := ⟨zW_in (zch_6 _ (List.mem_of_getElem? (i := 51) rfl)) rfl, zW_in (zch_1 _ (List.mem_of_getElem? (i := 11) rfl)) rfl, rfl, by decide +kernel, ⟨by decide +kernel, by decide +kernel⟩, by decide⟩
set_option maxRecDepth 100000 in
theorem zmo_196 : zMok zm_196 := ⟨zW_in (zch_6 _ (List.mem_of_getElem? (i := 47) rfl)) rfl, zW_in (zch_1 _ (List.mem_of_getElem? (i := 11) rfl)) rfl, rfl, by decide +kernel, ⟨by decide +kernel, by decide +kernel⟩, by decide⟩
set_option maxRecDepth 100000 in
theorem zmo_197 : zMok zm_197 := ⟨zW_in (zch_6 _ (List.mem_of_getElem? (i := 92) rfl)) rfl, zW_in (zch_1 _ (List.mem_of_getElem? (i := 11) rfl)) rfl, rfl, by decide +kernel, ⟨by decide +kernel, by decide +kernel⟩, by decide⟩
set_option maxRecDepth 100000 in
theorem zmo_198 : zMok zm_198 := ⟨zW_in (zch_6 _ (List.mem_of_getElem? (i := 100) rfl)) rfl, zW_in (zch_1 _ (List.mem_of_getElem? (i := 11) rfl)) rfl, rfl, by decide +kernel, ⟨by decide +kernel, by decide +kernel⟩, by decide⟩
set_option maxRecDepth 100000 in
theorem zmo_199 : zMok zm_199 := ⟨zW_in (zch_6 _ (List.mem_of_getElem? (i := 84) rfl)) rfl, zW_in (zch_1 _ (List.mem_of_getElem? (i := 11) rfl)) rfl, rfl, by decide +kernel, ⟨by decide +kernel, by decide +kernel⟩, by decide⟩
set_option maxRecDepth 100000 in
theorem zmo_200 : zMok zm_200 := ⟨zW_in (zch_6 _ (List.mem_of_getElem? (i := 80) rfl)) rfl, zW_in (zch_1 _ (List.mem_of_getElem? (i := 11) rfl)) rfl, rfl, by decide +kernel, ⟨by decide +kernel, by decide +kernel⟩, by decide⟩
set_option maxRecDepth 100000 in
theorem zmo_201 : zMok zm_201 := ⟨zW_in (zch_6 _ (List.mem_of_getElem? (i := 0) rfl)) rfl, zW_in (zch_1 _ (List.mem_of_getElem? (i := 11) rfl)) rfl, rfl, by decide +kernel, ⟨by decide +kernel, by decide +kernel⟩, by decide⟩
set_option maxRecDepth 100000 in
theorem zmo_202 : zMok zm_202 := ⟨zW_in (zch_6 _ (List.mem_of_getElem? (i := 8) rfl)) rfl, zW_in (zch_1 _ (List.mem_of_getElem? (i := 11) rfl)) rfl, rfl, by decide +kernel, ⟨by decide +kernel, by decide +kernel⟩, by decide⟩
set_option maxRecDepth 100000 in
theorem zmo_203 : zMok zm_203 := ⟨zW_in (zch_6 _ (List.mem_of_getElem? (i := 43) rfl)) rfl, zW_in (zch_1 _ (List.mem_of_getElem? (i := 11) rfl)) rfl, rfl, by decide +kernel, ⟨by decide +kernel, by decide +kernel⟩, by decide⟩
set_option maxRecDepth 100000 in
theorem zmo_204 : zMok zm_204 := ⟨zW_in (zch_6 _ (List.mem_of_getElem? (i := 59) rfl)) rfl, zW_in (zch_1 _ (List.mem_of_getElem? (i := 11) rfl)) rfl, rfl, by decide +kernel, ⟨by decide +kernel, by decide +kernel⟩, by decide⟩
set_option maxRecDepth 100000 in
theorem zmo_205 : zMok zm_205 := ⟨zW_in (zch_6 _ (List.mem_of_getElem? (i := 55) rfl)) rfl, zW_in (zch_1 _ (List.mem_of_getElem? (i := 11) rfl)) rfl, rfl, by decide +kernel, ⟨by decide +kernel, by decide +kernel⟩, by decide⟩
set_option maxRecDepth 100000 in
theorem zmo_206 : zMok zm_206 := ⟨zW_in (zch_6 _ (List.mem_of_getElem? (i := 72) rfl)) rfl, zW_in (zch_1 _ (List.mem_of_getElem? (i := 11) rfl)) rfl, rfl, by decide +kernel, ⟨by decide +kernel, by decide +kernel⟩, by decide⟩
set_option maxRecDepth 100000 in
theorem zmo_207 : zMok zm_207 := ⟨zW_in (zch_6 _ (List.mem_of_getElem? (i := 68) rfl)) rfl, zW_in (zch_1 _ (List.mem_of_getElem? (i := 11) rfl)) rfl, rfl, by decide +kernel, ⟨by decide +kernel, by decide +kernel⟩, by decide⟩
set_option maxRecDepth 100000 in
theorem zmo_208 : zMok zm_208 := ⟨zW_in (zch_6 _ (List.mem_of_getElem? (i := 63) rfl)) rfl, zW_in (zch_1 _ (List.mem_of_getElem? (i := 11) rfl)) rfl, rfl, by decide +kernel, ⟨by decide +kernel, by decide +kernel⟩, by decide⟩
set_option maxRecDepth 100000 in
theorem zmo_209 : zMok zm_209 := ⟨zW_in (zch_6 _ (List.mem_of_getElem? (i := 76) rfl)) rfl, zW_in (zch_1 _ (List.mem_of_getElem? (i := 11) rfl)) rfl, rfl, by decide +kernel, ⟨by decide +kernel, by decide +kernel⟩, by decide⟩
set_option maxRecDepth 100000 in
theorem zmo_210 : zMok zm_210 := ⟨zW_in (zch_6 _ (List.mem_of_getElem? (i := 112) rfl)) rfl, zW_in (zch_1 _ (List.mem_of_getElem? (i := 11) rfl)) rfl, rfl, by decide +kernel, ⟨by decide +kernel, by decide +kernel⟩, by decide⟩
set_option maxRecDepth 100000 in
theorem zmo_211 : zMok zm_211 := ⟨zW_in (zch_6 _ (List.mem_of_getElem? (i := 108) rfl)) rfl, zW_in (zch_1 _ (List.mem_of_getElem? (i := 11) rfl)) rfl, rfl, by decide +kernel, ⟨by decide +kernel, by decide +kernel⟩, by decide⟩
set_option maxRecDepth 100000 in
theorem zmo_212 : zMok zm_212 := ⟨zW_in (zch_6 _ (List.mem_of_getElem? (i := 104) rfl)) rfl, zW_in (zch_1 _ (List.mem_of_getElem? (i := 11) rfl)) rfl, rfl, by decide +kernel, ⟨by decide +kernel, by decide +kernel⟩, by decide⟩
set_option maxRecDepth 100000 in
theorem zmo_213 : zMok zm_213 := ⟨zW_in (zch_6 _ (List.mem_of_getElem? (i := 116) rfl)) rfl, zW_in (zch_1 _ (List.mem_of_getElem? (i := 11) rfl)) rfl, rfl, by decide +kernel, ⟨by decide +kernel, by decide +kernel⟩, by decide⟩
set_option maxRecDepth 100000 in
theorem zmo_214 : zMok zm_214 := ⟨zW_in (zch_6 _ (List.mem_of_getElem? (i := 120) rfl)) rfl, zW_in (zch_1 _ (List.mem_of_getElem? (i := 11) rfl)) rfl, rfl, by decide +kernel, ⟨by decide +kernel, by decide +kernel⟩, by decide⟩
set_option maxRecDepth 100000 in
theorem zmo_215 : zMok zm_215 := ⟨zW_in (zch_6 _ (List.mem_of_getElem? (i := 124) rfl)) rfl, zW_in (zch_1 _ (List.mem_of_getElem? (i := 11) rfl)) rfl, rfl, by decide +kernel, ⟨by decide +kernel, by decide +kernel⟩, by decide⟩
set_option maxRecDepth 100000 in
theorem zmo_216 : zMok zm_216 := ⟨zW_in (zch_6 _ (List.mem_of_getElem? (i := 128) rfl)) rfl, zW_in (zch_1 _ (List.mem_of_getElem? (i := 11) rfl)) rfl, rfl, by decide +kernel, ⟨by decide +kernel, by decide +kernel⟩, by decide⟩
set_option maxRecDepth 100000 in
theorem zmo_217 : zMok zm_217 := ⟨zW_in (zch_6 _ (List.mem_of_getElem? (i := 144) rfl)) rfl, zW_in (zch_1 _ (List.mem_of_getElem? (i := 11) rfl)) rfl, rfl, by decide +kernel, ⟨by decide +kernel, by decide +kernel⟩, by decide⟩
set_option maxRecDepth 100000 in
theorem zmo_218 : zMok zm_218 := ⟨zW_in (zch_6 _ (List.mem_of_getElem? (i := 152) rfl)) rfl, zW_in (zch_1 _ (List.mem_of_getElem? (i := 11) rfl)) rfl, rfl, by decide +kernel, ⟨by decide +kernel, by decide +kernel⟩, by decide⟩
set_option maxRecDepth 100000 in
theorem zmo_219 : zMok zm_219 := ⟨zW_in (zch_6 _ (List.mem_of_getElem? (i := 148) rfl)) rfl, zW_in (zch_1 _ (List.mem_of_getElem? (i := 11) rfl)) rfl, rfl, by decide +kernel, ⟨by decide +kernel, by decide +kernel⟩, by decide⟩
set_option maxRecDepth 100000 in
theorem zmo_220 : zMok zm_220 := ⟨zW_in (zch_6 _ (List.mem_of_getElem? (i := 140) rfl)) rfl, zW_in (zch_1 _ (List.mem_of_getElem? (i := 11) rfl)) rfl, rfl, by decide +kernel, ⟨by decide +kernel, by decide +kernel⟩, by decide⟩
set_option maxRecDepth 100000 in
theorem zmo_221 : zMok zm_221 := ⟨zW_in (zch_6 _ (List.mem_of_getElem? (i := 136) rfl)) rfl, zW_in (zch_1 _ (List.mem_of_getElem? (i := 11) rfl)) rfl, rfl, by decide +kernel, ⟨by decide +kernel, by decide +kernel⟩, by decide⟩
set_option maxRecDepth 100000 in
theorem zmo_222 : zMok zm_222 := ⟨zW_in (zch_6 _ (List.mem_of_getElem? (i := 157) rfl)) rfl, zW_in (zch_1 _ (List.mem_of_getElem? (i := 11) rfl)) rfl, rfl, by decide +kernel, ⟨by decide +kernel, by decide +kernel⟩, by decide⟩
set_option maxRecDepth 100000 in
theorem zmo_223 : zMok zm_223 := ⟨zW_in (zch_6 _ (List.mem_of_getElem? (i := 132) rfl)) rfl, zW_in (zch_1 _ (List.mem_of_getElem? (i := 11) rfl)) rfl, rfl, by decide +kernel, ⟨by decide +kernel, by decide +kernel⟩, by decide⟩
set_option maxRecDepth 100000 in
theorem zmo_224 : zMok zm_224 := ⟨zW_in (zch_6 _ (List.mem_of_getElem? (i := 165) rfl)) rfl, zW_in (zch_1 _ (List.mem_of_getElem? (i := 11) rfl)) rfl, rfl, by decide +kernel, ⟨by decide +kernel, by decide +kernel⟩, by decide⟩
set_option maxRecDepth 100000 in
theorem zmo_225 : zMok zm_225 := ⟨zW_in (zch_6 _ (List.mem_of_getElem? (i := 161) rfl)) rfl, zW_in (zch_1 _ (List.mem_of_getElem? (i := 11) rfl)) rfl, rfl, by decide +kernel, ⟨by decide +kernel, by decide +kernel⟩, by decide⟩
set_option maxRecDepth 100000 in
theorem zmo_226 : zMok zm_226 := ⟨zW_in (zch_6 _ (List.mem_of_getElem? (i := 169) rfl)) rfl, zW_in (zch_1 _ (List.mem_of_getElem? (i := 11) rfl)) rfl, rfl, by decide +kernel, ⟨by decide +kernel, by decide +kernel⟩, by decide⟩
set_option maxRecDepth 100000 in
theorem zmo_227 : zMok zm_227 := ⟨zW_in (zch_6 _ (List.mem_of_getElem? (i := 177) rfl)) rfl, zW_in (zch_1 _ (List.mem_of_getElem? (i := 11) rfl)) rfl, rfl, by decide +kernel, ⟨by decide +kernel, by decide +kernel⟩, by decide⟩
set_option maxRecDepth 100000 in
theorem zmo_228 : zMok zm_228 := ⟨zW_in (zch_6 _ (List.mem_of_getElem? (i := 173) rfl)) rfl, zW_in (zch_1 _ (List.mem_of_getElem? (i := 11) rfl)) rfl, rfl, by decide +kernel, ⟨by decide +kernel, by decide +kernel⟩, by decide⟩
set_option maxRecDepth 100000 in
theorem zmo_229 : zMok zm_229 := ⟨zW_in (zch_6 _ (List.mem_of_getElem? (i := 181) rfl)) rfl, zW_in (zch_1 _ (List.mem_of_getElem? (i := 11) rfl)) rfl, rfl, by decide +kernel, ⟨by decide +kernel, by decide +kernel⟩, by decide⟩
set_option maxRecDepth 100000 in
theorem zmo_230 : zMok zm_230 := ⟨zW_in (zch_6 _ (List.mem_of_getElem? (i := 185) rfl)) rfl, zW_in (zch_1 _ (List.mem_of_getElem? (i := 11) rfl)) rfl, rfl, by decide +kernel, ⟨by decide +kernel, by decide +kernel⟩, by decide⟩
set_option maxRecDepth 100000 in
theorem zmo_231 : zMok zm_231 := ⟨zW_in (zch_6 _ (List.mem_of_getElem? (i := 190) rfl)) rfl, zW_in (zch_1 _ (List.mem_of_getElem? (i := 11) rfl)) rfl, rfl, by decide +kernel, ⟨by decide +kernel, by decide +kernel⟩, by decide⟩
set_option maxRecDepth 100000 in
theorem zmo_232 : zMok zm_232 := ⟨zW_in (zch_6 _ (List.mem_of_getElem? (i := 207) rfl)) rfl, zW_in (zch_1 _ (List.mem_of_getElem? (i := 11) rfl)) rfl, rfl, by decide +kernel, ⟨by decide +kernel, by decide +kernel⟩, by decide⟩
set_option maxRecDepth 100000 in
theorem zmo_233 : zMok zm_233 := ⟨zW_in (zch_6 _ (List.mem_of_getElem? (i := 211) rfl)) rfl, zW_in (zch_1 _ (List.mem_of_getElem? (i := 11) rfl)) rfl, rfl, by decide +kernel, ⟨by decide +kernel, by decide +kernel⟩, by decide⟩
set_option maxRecDepth 100000 in
theorem zmo_234 : zMok zm_234 := ⟨zW_in (zch_6 _ (List.mem_of_getElem? (i := 203) rfl)) rfl, zW_in (zch_1 _ (List.mem_of_getElem? (i := 11) rfl)) rfl, rfl, by decide +kernel, ⟨by decide +kernel, by decide +kernel⟩, by decide⟩
set_option maxRecDepth 100000 in
theorem zmo_235 : zMok zm_235 := ⟨zW_in (zch_6 _ (List.mem_of_getElem? (i := 199) rfl)) rfl, zW_in (zch_1 _ (List.mem_of_getElem? (i := 11) rfl)) rfl, rfl, by decide +kernel, ⟨by decide +kernel, by decide +kernel⟩, by decide⟩
set_option maxRecDepth 100000 in
theorem zmo_236 : zMok zm_236 := ⟨zW_in (zch_6 _ (List.mem_of_getElem? (i := 194) rfl)) rfl, zW_in (zch_1 _ (List.mem_of_getElem? (i := 11) rfl)) rfl, rfl, by decide +kernel, ⟨by decide +kernel, by decide +kernel⟩, by decide⟩
set_option maxRecDepth 100000 in
theorem zmo_237 : zMok zm_237 := ⟨zW_in (zch_6 _ (List.mem_of_getElem? (i := 215) rfl)) rfl, zW_in (zch_1 _ (List.mem_of_getElem? (i := 11) rfl)) rfl, rfl, by decide +kernel, ⟨by decide +kernel, by decide +kernel⟩, by decide⟩
set_option maxRecDepth 100000 in
theorem zmo_238 : zMok zm_238 := ⟨zW_in (zch_6 _ (List.mem_of_getElem? (i := 219) rfl)) rfl, zW_in (zch_1 _ (List.mem_of_getElem? (i := 11) rfl)) rfl, rfl, by decide +kernel, ⟨by decide +kernel, by decide +kernel⟩, by decide⟩
set_option maxRecDepth 100000 in
theorem zmo_239 : zMok zm_239 := ⟨zW_in (zch_6 _ (List.mem_of_getElem? (i := 227) rfl)) rfl, zW_in (zch_1 _ (List.mem_of_getElem? (i := 11) rfl)) rfl, rfl, by decide +kernel, ⟨by decide +kernel, by decide +kernel⟩, by decide⟩
set_option maxRecDepth 100000 in
theorem zmo_240 : zMok zm_240 := ⟨zW_in (zch_6 _ (List.mem_of_getElem? (i := 231) rfl)) rfl, zW_in (zch_1 _ (List.mem_of_getElem? (i := 11) rfl)) rfl, rfl, by decide +kernel, ⟨by decide +kernel, by decide +kernel⟩, by decide⟩
set_option maxRecDepth 100000 in
theorem zmo_241 : zMok zm_241 := ⟨zW_in (zch_6 _ (List.mem_of_getElem? (i := 223) rfl)) rfl, zW_in (zch_1 _ (List.mem_of_getElem? (i := 11) rfl)) rfl, rfl, by decide +kernel, ⟨by decide +kernel, by decide +kernel⟩, by decide⟩
set_option maxRecDepth 100000 in
theorem zmo_242 : zMok zm_242 := ⟨zW_in (zch_6 _ (List.mem_of_getElem? (i := 235) rfl)) rfl, zW_in (zch_1 _ (List.mem_of_getElem? (i := 11) rfl)) rfl, rfl, by decide +kernel, ⟨by decide +kernel, by decide +kernel⟩, by decide⟩
set_option maxRecDepth 100000 in
theorem zmo_243 : zMok zm_243 := ⟨zW_in (zch_6 _ (List.mem_of_getElem? (i := 239) rfl)) rfl, zW_in (zch_1 _ (List.mem_of_getElem? (i := 11) rfl)) rfl, rfl, by decide +kernel, ⟨by decide +kernel, by decide +kernel⟩, by decide⟩
set_option maxRecDepth 100000 in
theorem zmo_244 : zMok zm_244 := ⟨zW_in (zch_7 _ (List.mem_of_getElem? (i := 7) rfl)) rfl, zW_in (zch_1 _ (List.mem_of_getElem? (i := 11) rfl)) rfl, rfl, by decide +kernel, ⟨by decide +kernel, by decide +kernel⟩, by decide⟩
set_option maxRecDepth 100000 in
theorem zmo_245 : zMok zm_245 := ⟨zW_in (zch_7 _ (List.mem_of_getElem? (i := 23) rfl)) rfl, zW_in (zch_1 _ (List.mem_of_getElem? (i := 11) rfl)) rfl, rfl, by decide +kernel, ⟨by decide +kernel, by decide +kernel⟩, by decide⟩
set_option maxRecDepth 100000 in
theorem zmo_246 : zMok zm_246 := ⟨zW_in (zch_7 _ (List.mem_of_getElem? (i := 19) rfl)) rfl, zW_in (zch_1 _ (List.mem_of_getElem? (i := 11) rfl)) rfl, rfl, by decide +kernel, ⟨by decide +kernel, by decide +kernel⟩, by decide⟩
set_option maxRecDepth 100000 in
theorem zmo_247 : zMok zm_247 := ⟨zW_in (zch_7 _ (List.mem_of_getElem? (i := 30) rfl)) rfl, zW_in (zch_1 _ (List.mem_of_getElem? (i := 11) rfl)) rfl, rfl, by decide +kernel, ⟨by decide +kernel, by decide +kernel⟩, by decide⟩
set_option maxRecDepth 100000 in
theorem zmo_248 : zMok zm_248 := ⟨zW_in (zch_7 _ (List.mem_of_getElem? (i := 27) rfl)) rfl, zW_in (zch_1 _ (List.mem_of_getElem? (i := 11) rfl)) rfl, rfl, by decide +kernel, ⟨by decide +kernel, by decide +kernel⟩, by decide⟩
set_option maxRecDepth 100000 in
theorem zmo_249 : zMok zm_249 := ⟨zW_in (zch_7 _ (List.mem_of_getElem? (i := 15) rfl)) rfl, zW_in (zch_1 _ (List.mem_of_getElem? (i := 11) rfl)) rfl, rfl, by decide +kernel, ⟨by decide +kernel, by decide +kernel⟩, by decide⟩
set_option maxRecDepth 100000 in
theorem zmo_250 : zMok zm_250 := ⟨zW_in (zch_7 _ (List.mem_of_getElem? (i := 11) rfl)) rfl, zW_in (zch_1 _ (List.mem_of_getElem? (i := 11) rfl)) rfl, rfl, by decide +kernel, ⟨by decide +kernel, by decide +kernel⟩, by decide⟩
set_option maxRecDepth 100000 in
theorem zmo_251 : zMok zm_251 := ⟨zW_in (zch_7 _ (List.mem_of_getElem? (i := 3) rfl)) rfl, zW_in (zch_1 _ (List.mem_of_getElem? (i := 11) rfl)) rfl, rfl, by decide +kernel, ⟨by decide +kernel, by decide +kernel⟩, by decide⟩
set_option maxRecDepth 100000 in
theorem zmo_252 : zMok zm_252 := ⟨zW_in (zch_7 _ (List.mem_of_getElem? (i := 42) rfl)) rfl, zW_in (zch_1 _ (List.mem_of_getElem? (i := 11) rfl)) rfl, rfl, by decide +kernel, ⟨by decide +kernel, by decide +kernel⟩, by decide⟩
set_option maxRecDepth 100000 in
theorem zmo_253 : zMok zm_253 := ⟨zW_in (zch_7 _ (List.mem_of_getElem? (i := 38) rfl)) rfl, zW_in (zch_1 _ (List.mem_of_getElem? (i := 11) rfl)) rfl, rfl, by decide +kernel, ⟨by decide +kernel, by decide +kernel⟩, by decide⟩
set_option maxRecDepth 100000 in
theorem zmo_254 : zMok zm_254 := ⟨zW_in (zch_7 _ (List.mem_of_getElem? (i := 46) rfl)) rfl, zW_in (zch_1 _ (List.mem_of_getElem? (i := 11) rfl)) rfl, rfl, by decide +kernel, ⟨by decide +kernel, by decide +kernel⟩, by decide⟩
set_option maxRecDepth 100000 in
theorem zmo_255 : zMok zm_255 := ⟨zW_in (zch_7 _ (List.mem_of_getElem? (i := 34) rfl)) rfl, zW_in (zch_1 _ (List.mem_of_getElem? (i := 11) rfl)) rfl, rfl, by decide +kernel, ⟨by decide +kernel, by decide +kernel⟩, by decide⟩
set_option maxRecDepth 100000 in
theorem zmo_256 : zMok zm_256 := ⟨zW_in (zch_7 _ (List.mem_of_getElem? (i := 50) rfl)) rfl, zW_in (zch_1 _ (List.mem_of_getElem? (i := 11) rfl)) rfl, rfl, by decide +kernel, ⟨by decide +kernel, by decide +kernel⟩, by decide⟩
set_option maxRecDepth 100000 in
theorem zmo_257 : zMok zm_257 := ⟨zW_in (zch_7 _ (List.mem_of_getElem? (i := 62) rfl)) rfl, zW_in (zch_1 _ (List.mem_of_getElem? (i := 11) rfl)) rfl, rfl, by decide +kernel, ⟨by decide +kernel, by decide +kernel⟩, by decide⟩
set_option maxRecDepth 100000 in
theorem zmo_258 : zMok zm_258 := ⟨zW_in (zch_7 _ (List.mem_of_getElem? (i := 58) rfl)) rfl, zW_in (zch_1 _ (List.mem_of_getElem? (i := 11) rfl)) rfl, rfl, by decide +kernel, ⟨by decide +kernel, by decide +kernel⟩, by decide⟩
set_option maxRecDepth 100000 in
theorem zmo_259 : zMok zm_259 := ⟨zW_in (zch_7 _ (List.mem_of_getElem? (i := 66) rfl)) rfl, zW_in (zch_1 _ (List.mem_of_getElem? (i := 11) rfl)) rfl, rfl, by decide +kernel, ⟨by decide +kernel, by decide +kernel⟩, by decide⟩
set_option maxRecDepth 100000 in
theorem zmo_260 : zMok zm_260 := ⟨zW_in (zch_7 _ (List.mem_of_getElem? (i := 54) rfl)) rfl, zW_in (zch_1 _ (List.mem_of_getElem? (i := 11) rfl)) rfl, rfl, by decide +kernel, ⟨by decide +kernel, by decide +kernel⟩, by decide⟩
set_option maxRecDepth 100000 in
theorem zmo_261 : zMok zm_261 := ⟨zW_in (zch_7 _ (List.mem_of_getElem? (i := 74) rfl)) rfl, zW_in (zch_1 _ (List.mem_of_getElem? (i := 11) rfl)) rfl, rfl, by decide +kernel, ⟨by decide +kernel, by decide +kernel⟩, by decide⟩
set_option maxRecDepth 100000 in
theorem zmo_262 : zMok zm_262 := ⟨zW_in (zch_7 _ (List.mem_of_getElem? (i := 70) rfl)) rfl, zW_in (zch_1 _ (List.mem_of_getElem? (i := 11) rfl)) rfl, rfl, by decide +kernel, ⟨by decide +kernel, by decide +kernel⟩, by decide⟩
set_option maxRecDepth 100000 in
theorem zmo_263 : zMok zm_263 := ⟨zW_in (zch_7 _ (List.mem_of_getElem? (i := 86) rfl)) rfl, zW_in (zch_1 _ (List.mem_of_getElem? (i := 11) rfl)) rfl, rfl, by decide +kernel, ⟨by decide +kernel, by decide +kernel⟩, by decide⟩
set_option maxRecDepth 100000 in
theorem zmo_264 : zMok zm_264 := ⟨zW_in (zch_7 _ (List.mem_of_getElem? (i := 82) rfl)) rfl, zW_in (zch_1 _ (List.mem_of_getElem? (i := 11) rfl)) rfl, rfl, by decide +kernel, ⟨by decide +kernel, by decide +kernel⟩, by decide⟩
set_option maxRecDepth 100000 in
theorem zmo_265 : zMok zm_265 := ⟨zW_in (zch_7 _ (List.mem_of_getElem? (i := 78) rfl)) rfl, zW_in (zch_1 _ (List.mem_of_getElem? (i := 11) rfl)) rfl, rfl, by decide +kernel, ⟨by decide +kernel, by decide +kernel⟩, by decide⟩
set_option maxRecDepth 100000 in
theorem zmo_266 : zMok zm_266 := ⟨zW_in (zch_7 _ (List.mem_of_getElem? (i := 98) rfl)) rfl, zW_in (zch_1 _ (List.mem_of_getElem? (i := 11) rfl)) rfl, rfl, by decide +kernel, ⟨by decide +kernel, by decide +kernel⟩, by decide⟩
set_option maxRecDepth 100000 in
theorem zmo_267 : zMok zm_267 := ⟨zW_in (zch_7 _ (List.mem_of_getElem? (i := 95) rfl)) rfl, zW_in (zch_1 _ (List.mem_of_getElem? (i := 11) rfl)) rfl, rfl, by decide +kernel, ⟨by decide +kernel, by decide +kernel⟩, by decide⟩
set_option maxRecDepth 100000 in
theorem zmo_268 : zMok zm_268 := ⟨zW_in (zch_7 _ (List.mem_of_getElem? (i := 90) rfl)) rfl, zW_in (zch_1 _ (List.mem_of_getElem? (i := 11) rfl)) rfl, rfl, by decide +kernel, ⟨by decide +kernel, by decide +kernel⟩, by decide⟩
set_option maxRecDepth 100000 in
theorem zmo_269 : zMok zm_269 := ⟨zW_in (zch_7 _ (List.mem_of_getElem? (i := 110) rfl)) rfl, zW_in (zch_1 _ (List.mem_of_getElem? (i := 11) rfl)) rfl, rfl, by decide +kernel, ⟨by decide +kernel, by decide +kernel⟩, by decide⟩
set_option maxRecDepth 100000 in
theorem zmo_270 : zMok zm_270 := ⟨zW_in (zch_7 _ (List.mem_of_getElem? (i := 106) rfl)) rfl, zW_in (zch_1 _ (List.mem_of_getElem? (i := 11) rfl)) rfl, rfl, by decide +kernel, ⟨by decide +kernel, by decide +kernel⟩, by decide⟩
set_option maxRecDepth 100000 in
theorem zmo_271 : zMok zm_271 := ⟨zW_in (zch_7 _ (List.mem_of_getElem? (i := 118) rfl)) rfl, zW_in (zch_1 _ (List.mem_of_getElem? (i := 11) rfl)) rfl, rfl, by decide +kernel, ⟨by decide +kernel, by decide +kernel⟩, by decide⟩
set_option maxRecDepth 100000 in
theorem zmo_272 : zMok zm_272 := ⟨zW_in (zch_7 _ (List.mem_of_getElem? (i := 102) rfl)) rfl, zW_in (zch_1 _ (List.mem_of_getElem? (i := 11) rfl)) rfl, rfl, by decide +kernel, ⟨by decide +kernel, by decide +kernel⟩, by decide⟩
set_option maxRecDepth 100000 in
theorem zmo_273 : zMok zm_273 := ⟨zW_in (zch_7 _ (List.mem_of_getElem? (i := 114) rfl)) rfl, zW_in (zch_1 _ (List.mem_of_getElem? (i := 11) rfl)) rfl, rfl, by decide +kernel, ⟨by decide +kernel, by decide +kernel⟩, by decide⟩
set_option maxRecDepth 100000 in
theorem zmo_274 : zMok zm_274 := ⟨zW_in (zch_7 _ (List.mem_of_getElem? (i := 122) rfl)) rfl, zW_in (zch_1 _ (List.mem_of_getElem? (i := 11) rfl)) rfl, rfl, by decide +kernel, ⟨by decide +kernel, by decide +kernel⟩, by decide⟩
set_option maxRecDepth 100000 in
theorem zmo_275 : zMok zm_275 := ⟨zW_in (zch_7 _ (List.mem_of_getElem? (i := 127) rfl)) rfl, zW_in (zch_1 _ (List.mem_of_getElem? (i := 11) rfl)) rfl, rfl, by decide +kernel, ⟨by decide +kernel, by decide +kernel⟩, by decide⟩
set_option maxRecDepth 100000 in
theorem zmo_276 : zMok zm_276 := ⟨zW_in (zch_7 _ (List.mem_of_getElem? (i := 131) rfl)) rfl, zW_in (zch_1 _ (List.mem_of_getElem? (i := 11) rfl)) rfl, rfl, by decide +kernel, ⟨by decide +kernel, by decide +kernel⟩, by decide⟩
set_option maxRecDepth 100000 in
theorem zmo_277 : zMok zm_277 := ⟨zW_in (zch_7 _ (List.mem_of_getElem? (i := 139) rfl)) rfl, zW_in (zch_1 _ (List.mem_of_getElem? (i := 11) rfl)) rfl, rfl, by decide +kernel, ⟨by decide +kernel, by decide +kernel⟩, by decide⟩
set_option maxRecDepth 100000 in
theorem zmo_278 : zMok zm_278 := ⟨zW_in (zch_7 _ (List.mem_of_getElem? (i := 135) rfl)) rfl, zW_in (zch_1 _ (List.mem_of_getElem? (i := 11) rfl)) rfl, rfl, by decide +kernel, ⟨by decide +kernel, by decide +kernel⟩, by decide⟩
set_option maxRecDepth 100000 in
theorem zmo_279 : zMok zm_279 := ⟨zW_in (zch_7 _ (List.mem_of_getElem? (i := 147) rfl)) rfl, zW_in (zch_1 _ (List.mem_of_getElem? (i := 11) rfl)) rfl, rfl, by decide +kernel, ⟨by decide +kernel, by decide +kernel⟩, by decide⟩
set_option maxRecDepth 100000 in
theorem zmo_280 : zMok zm_280 := ⟨zW_in (zch_7 _ (List.mem_of_getElem? (i := 143) rfl)) rfl, zW_in (zch_1 _ (List.mem_of_getElem? (i := 11) rfl)) rfl, rfl, by decide +kernel, ⟨by decide +kernel, by decide +kernel⟩, by decide⟩
set_option maxRecDepth 100000 in
theorem zmo_281 : zMok zm_281 := ⟨zW_in (zch_7 _ (List.mem_of_getElem? (i := 155) rfl)) rfl, zW_in (zch_1 _ (List.mem_of_getElem? (i := 11) rfl)) rfl, rfl, by decide +kernel, ⟨by decide +kernel, by decide +kernel⟩, by decide⟩
set_option maxRecDepth 100000 in
theorem zmo_282 : zMok zm_282 := ⟨zW_in (zch_7 _ (List.mem_of_getElem? (i := 163) rfl)) rfl, zW_in (zch_1 _ (List.mem_of_getElem? (i := 11) rfl)) rfl, rfl, by decide +kernel, ⟨by decide +kernel, by decide +kernel⟩, by decide⟩
set_option maxRecDepth 100000 in
theorem zmo_283 : zMok zm_283 := ⟨zW_in (zch_7 _ (List.mem_of_getElem? (i := 151) rfl)) rfl, zW_in (zch_1 _ (List.mem_of_getElem? (i := 11) rfl)) rfl, rfl, by decide +kernel, ⟨by decide +kernel, by decide +kernel⟩, by decide⟩
set_option maxRecDepth 100000 in
theorem zmo_284 : zMok zm_284 := ⟨zW_in (zch_7 _ (List.mem_of_getElem? (i := 159) rfl)) rfl, zW_in (zch_1 _ (List.mem_of_getElem? (i := 11) rfl)) rfl, rfl, by decide +kernel, ⟨by decide +kernel, by decide +kernel⟩, by decide⟩
set_option maxRecDepth 100000 in
theorem zmo_285 : zMok zm_285 := ⟨zW_in (zch_7 _ (List.mem_of_getElem? (i := 167) rfl)) rfl, zW_in (zch_1 _ (List.mem_of_getElem? (i := 11) rfl)) rfl, rfl, by decide +kernel, ⟨by decide +kernel, by decide +kernel⟩, by decide⟩
set_option maxRecDepth 100000 in
theorem zmo_286 : zMok zm_286 := ⟨zW_in (zch_7 _ (List.mem_of_getElem? (i := 171) rfl)) rfl, zW_in (zch_1 _ (List.mem_of_getElem? (i := 11) rfl)) rfl, rfl, by decide +kernel, ⟨by decide +kernel, by decide +kernel⟩, by decide⟩
set_option maxRecDepth 100000 in
theorem zmo_287 : zMok zm_287 := ⟨zW_in (zch_8 _ (List.mem_of_getElem? (i := 136) rfl)) rfl, zW_in (zch_1 _ (List.mem_of_getElem? (i := 11) rfl)) rfl, rfl, by decide +kernel, ⟨by decide +kernel, by decide +kernel⟩, by decide⟩
set_option maxRecDepth 100000 in
theorem zmo_288 : zMok zm_288 := ⟨zW_in (zch_3 _ (List.mem_of_getElem? (i := 175) rfl)) rfl, zW_in (zch_1 _ (List.mem_of_getElem? (i := 14) rfl)) rfl, rfl, by decide +kernel, ⟨by decide +kernel, by decide +kernel⟩, by decide⟩
set_option maxRecDepth 100000 in
theorem zmo_289 : zMok zm_289 := ⟨zW_in (zch_4 _ (List.mem_of_getElem? (i := 124) rfl)) rfl, zW_in (zch_1 _ (List.mem_of_getElem? (i := 15) rfl)) rfl, rfl, by decide +kernel, ⟨by decide +kernel, by decide +kernel⟩, by decide⟩
set_option maxRecDepth 100000 in
theorem zmo_290 : zMok zm_290 := ⟨zW_in (zch_1 _ (List.mem_of_getElem? (i := 109) rfl)) rfl, zW_in (zch_1 _ (List.mem_of_getElem? (i := 5) rfl)) rfl, rfl, by decide +kernel, ⟨by decide +kernel, by decide +kernel⟩, by decide⟩
def zMo (mi : zMi) : Prop := mi.2.1.1 = 10 ∨ zMok mi
theorem zmol_0 : ∀ mi ∈ zMl_0, zMo mi := List.forall_mem_cons.mpr ⟨.inr zmo_0, List.forall_mem_cons.mpr ⟨.inr zmo_1, List.forall_mem_cons.mpr ⟨.inr zmo_2, List.forall_mem_cons.mpr ⟨.inr zmo_3, List.forall_mem_cons.mpr ⟨.inr zmo_4, List.forall_mem_cons.mpr ⟨.inr zmo_5, List.forall_mem_cons.mpr ⟨.inr zmo_6, List.forall_mem_cons.mpr ⟨.inr zmo_7, List.forall_mem_cons.mpr ⟨.inr zmo_8, List.forall_mem_cons.mpr ⟨.inr zmo_9, List.forall_mem_cons.mpr ⟨.inr zmo_10, List.forall_mem_cons.mpr ⟨.inr zmo_11, List.forall_mem_cons.mpr ⟨.inr zmo_12, List.forall_mem_cons.mpr ⟨.inr zmo_13, List.forall_mem_cons.mpr ⟨.inr zmo_14, List.forall_mem_cons.mpr ⟨.inr zmo_15, List.forall_mem_cons.mpr ⟨.inr zmo_16, List.forall_mem_cons.mpr ⟨.inr zmo_17, List.forall_mem_cons.mpr ⟨.inr zmo_18, List.forall_mem_cons.mpr ⟨.inr zmo_19, List.forall_mem_cons.mpr ⟨.inr zmo_20, List.forall_mem_cons.mpr ⟨.inr zmo_21, List.forall_mem_cons.mpr ⟨.inr zmo_22, List.forall_mem_cons.mpr ⟨.inr zmo_23, List.forall_mem_cons.mpr ⟨.inr zmo_24, List.forall_mem_cons.mpr ⟨.inr zmo_25, List.forall_mem_cons.mpr ⟨.inr zmo_26, List.forall_mem_cons.mpr ⟨.inr zmo_27, List.forall_mem_cons.mpr ⟨.inr zmo_28, List.forall_mem_cons.mpr ⟨.inr zmo_29, List.forall_mem_cons.mpr ⟨.inr zmo_30, List.forall_mem_cons.mpr ⟨.inr zmo_31, List.forall_mem_cons.mpr ⟨.inr zmo_32, List.forall_mem_cons.mpr ⟨.inr zmo_33, List.forall_mem_cons.mpr ⟨.inr zmo_34, List.forall_mem_cons.mpr ⟨.inr zmo_35, List.forall_mem_cons.mpr ⟨.inr zmo_36, List.forall_mem_cons.mpr ⟨.inr zmo_37, List.forall_mem_cons.mpr ⟨.inr zmo_38, List.forall_mem_cons.mpr ⟨.inr zmo_39, List.forall_mem_cons.mpr ⟨.inr zmo_40, List.forall_mem_cons.mpr ⟨.inr zmo_41, List.forall_mem_cons.mpr ⟨.inr zmo_42, List.forall_mem_cons.mpr ⟨.inr zmo_43, List.forall_mem_cons.mpr ⟨.inr zmo_44, List.forall_mem_cons.mpr ⟨.inr zmo_45, List.forall_mem_cons.mpr ⟨.inr zmo_46, List.forall_mem_cons.mpr ⟨.inr zmo_47, List.forall_mem_cons.mpr ⟨.inr zmo_48, List.forall_mem_cons.mpr ⟨.inr zmo_49, fun _ h => absurd h List.not_mem_nil⟩⟩⟩⟩⟩⟩⟩⟩⟩⟩⟩⟩⟩⟩⟩⟩⟩⟩⟩⟩⟩⟩⟩⟩⟩⟩⟩⟩⟩⟩⟩⟩⟩⟩⟩⟩⟩⟩⟩⟩⟩⟩⟩⟩⟩⟩⟩⟩⟩⟩
theorem zmol_1 : ∀ mi ∈ zMl_1, zMo mi := List.forall_mem_cons.mpr ⟨.inr zmo_50, List.forall_mem_cons.mpr ⟨.inr zmo_51, List.forall_mem_cons.mpr ⟨.inr zmo_52, List.forall_mem_cons.mpr ⟨.inr zmo_53, List.forall_mem_cons.mpr ⟨.inr zmo_54, List.forall_mem_cons.mpr ⟨.inr zmo_55, List.forall_mem_cons.mpr ⟨.inr zmo_56, List.forall_mem_cons.mpr ⟨.inr zmo_57, List.forall_mem_cons.mpr ⟨.inr zmo_58, List.forall_mem_cons.mpr ⟨.inr zmo_59, List.forall_mem_cons.mpr ⟨.inr zmo_60, List.forall_mem_cons.mpr ⟨.inr zmo_61, List.forall_mem_cons.mpr ⟨.inr zmo_62, List.forall_mem_cons.mpr ⟨.inr zmo_63, List.forall_mem_cons.mpr ⟨.inr zmo_64, List.forall_mem_cons.mpr ⟨.inr zmo_65, List.forall_mem_cons.mpr ⟨.inr zmo_66, List.forall_mem_cons.mpr ⟨.inr zmo_67, List.forall_mem_cons.mpr ⟨.inr zmo_68, List.forall_mem_cons.mpr ⟨.inr zmo_69, List.forall_mem_cons.mpr ⟨.inr zmo_70, List.forall_mem_cons.mpr ⟨.inr zmo_71, List.forall_mem_cons.mpr ⟨.inr zmo_72, List.forall_mem_cons.mpr ⟨.inr zmo_73, List.forall_mem_cons.mpr ⟨.inr zmo_74, List.forall_mem_cons.mpr ⟨.inr zmo_75, List.forall_mem_cons.mpr ⟨.inr zmo_76, List.forall_mem_cons.mpr ⟨.inr zmo_77, List.forall_mem_cons.mpr ⟨.inr zmo_78, List.forall_mem_cons.mpr ⟨.inr zmo_79, List.forall_mem_cons.mpr ⟨.inr zmo_80, List.forall_mem_cons.mpr ⟨.inr zmo_81, List.forall_mem_cons.mpr ⟨.inr zmo_82, List.forall_mem_cons.mpr ⟨.inr zmo_83, List.forall_mem_cons.mpr ⟨.inr zmo_84, List.forall_mem_cons.mpr ⟨.inr zmo_85, List.forall_mem_cons.mpr ⟨.inr zmo_86, List.forall_mem_cons.mpr ⟨.inr zmo_87, List.forall_mem_cons.mpr ⟨.inr zmo_88, List.forall_mem_cons.mpr ⟨.inr zmo_89, List.forall_mem_cons.mpr ⟨.inr zmo_90, List.forall_mem_cons.mpr ⟨.inr zmo_91, List.forall_mem_cons.mpr ⟨.inr zmo_92, List.forall_mem_cons.mpr ⟨.inr zmo_93, List.forall_mem_cons.mpr ⟨.inr zmo_94, List.forall_mem_cons.mpr ⟨.inr zmo_95, List.forall_mem_cons.mpr ⟨.inr zmo_96, List.forall_mem_cons.mpr ⟨.inr zmo_97, List.forall_mem_cons.mpr ⟨.inr zmo_98, List.forall_mem_cons.mpr ⟨.inr zmo_99, fun _ h => absurd h List.not_mem_nil⟩⟩⟩⟩⟩⟩⟩⟩⟩⟩⟩⟩⟩⟩⟩⟩⟩⟩⟩⟩⟩⟩⟩⟩⟩⟩⟩⟩⟩⟩⟩⟩⟩⟩⟩⟩⟩⟩⟩⟩⟩⟩⟩⟩⟩⟩⟩⟩⟩⟩
theorem zmol_2 : ∀ mi ∈ zMl_2, zMo mi := List.forall_mem_cons.mpr ⟨.inr zmo_100, List.forall_mem_cons.mpr ⟨.inr zmo_101, List.forall_mem_cons.mpr ⟨.inr zmo_102, List.forall_mem_cons.mpr ⟨.inr zmo_103, List.forall_mem_cons.mpr ⟨.inr zmo_104, List.forall_mem_cons.mpr ⟨.inr zmo_105, List.forall_mem_cons.mpr ⟨.inr zmo_106, List.forall_mem_cons.mpr ⟨.inr zmo_107, List.forall_mem_cons.mpr ⟨.inr zmo_108, List.forall_mem_cons.mpr ⟨.inr zmo_109, List.forall_mem_cons.mpr ⟨.inr zmo_110, List.forall_mem_cons.mpr ⟨.inr zmo_111, List.forall_mem_cons.mpr ⟨.inr zmo_112, List.forall_mem_cons.mpr ⟨.inr zmo_113, List.forall_mem_cons.mpr ⟨.inr zmo_114, List.forall_mem_cons.mpr ⟨.inr zmo_115, List.forall_mem_cons.mpr ⟨.inr zmo_116, List.forall_mem_cons.mpr ⟨.inr zmo_117, List.forall_mem_cons.mpr ⟨.inr zmo_118, List.forall_mem_cons.mpr ⟨.inr zmo_119, List.forall_mem_cons.mpr ⟨.inr zmo_120, List.forall_mem_cons.mpr ⟨.inr zmo_121, List.forall_mem_cons.mpr ⟨.inr zmo_122, List.forall_mem_cons.mpr ⟨.inr zmo_123, List.forall_mem_cons.mpr ⟨.inr zmo_124, List.forall_mem_cons.mpr ⟨.inr zmo_125, List.forall_mem_cons.mpr ⟨.inr zmo_126, List.forall_mem_cons.mpr ⟨.inr zmo_127, List.forall_mem_cons.mpr ⟨.inr zmo_128, List.forall_mem_cons.mpr ⟨.inr zmo_129, List.forall_mem_cons.mpr ⟨.inr zmo_130, List.forall_mem_cons.mpr ⟨.inr zmo_131, List.forall_mem_cons.mpr ⟨.inr zmo_132, List.forall_mem_cons.mpr ⟨.inr zmo_133, List.forall_mem_cons.mpr ⟨.inr zmo_134, List.forall_mem_cons.mpr ⟨.inr zmo_135, List.forall_mem_cons.mpr ⟨.inr zmo_136, List.forall_mem_cons.mpr ⟨.inr zmo_137, List.forall_mem_cons.mpr ⟨.inr zmo_138, List.forall_mem_cons.mpr ⟨.inr zmo_139, List.forall_mem_cons.mpr ⟨.inr zmo_140, List.forall_mem_cons.mpr ⟨.inr zmo_141, List.forall_mem_cons.mpr ⟨.inr zmo_142, List.forall_mem_cons.mpr ⟨.inr zmo_143, List.forall_mem_cons.mpr ⟨.inr zmo_144, List.forall_mem_cons.mpr ⟨.inr zmo_145, List.forall_mem_cons.mpr ⟨.inr zmo_146, List.forall_mem_cons.mpr ⟨.inr zmo_147, List.forall_mem_cons.mpr ⟨.inr zmo_148, List.forall_mem_cons.mpr ⟨.inr zmo_149, fun _ h => absurd h List.not_mem_nil⟩⟩⟩⟩⟩⟩⟩⟩⟩⟩⟩⟩⟩⟩⟩⟩⟩⟩⟩⟩⟩⟩⟩⟩⟩⟩⟩⟩⟩⟩⟩⟩⟩⟩⟩⟩⟩⟩⟩⟩⟩⟩⟩⟩⟩⟩⟩⟩⟩⟩
theorem zmol_3 : ∀ mi ∈ zMl_3, zMo mi := List.forall_mem_cons.mpr ⟨.inr zmo_150, List.forall_mem_cons.mpr ⟨.inr zmo_151, List.forall_mem_cons.mpr ⟨.inr zmo_152, List.forall_mem_cons.mpr ⟨.inr zmo_153, List.forall_mem_cons.mpr ⟨.inr zmo_154, List.forall_mem_cons.mpr ⟨.inr zmo_155, List.forall_mem_cons.mpr ⟨.inr zmo_156, List.forall_mem_cons.mpr ⟨.inr zmo_157, List.forall_mem_cons.mpr ⟨.inr zmo_158, List.forall_mem_cons.mpr ⟨.inr zmo_159, List.forall_mem_cons.mpr ⟨.inr zmo_160, List.forall_mem_cons.mpr ⟨.inr zmo_161, List.forall_mem_cons.mpr ⟨.inr zmo_162, List.forall_mem_cons.mpr ⟨.inr zmo_163, List.forall_mem_cons.mpr ⟨.inr zmo_164, List.forall_mem_cons.mpr ⟨.inr zmo_165, List.forall_mem_cons.mpr ⟨.inr zmo_166, List.forall_mem_cons.mpr ⟨.inr zmo_167, List.forall_mem_cons.mpr ⟨.inr zmo_168, List.forall_mem_cons.mpr ⟨.inr zmo_169, List.forall_mem_cons.mpr ⟨.inr zmo_170, List.forall_mem_cons.mpr ⟨.inr zmo_171, List.forall_mem_cons.mpr ⟨.inr zmo_172, List.forall_mem_cons.mpr ⟨.inr zmo_173, List.forall_mem_cons.mpr ⟨.inr zmo_174, List.forall_mem_cons.mpr ⟨.inr zmo_175, List.forall_mem_cons.mpr ⟨.inr zmo_176, List.forall_mem_cons.mpr ⟨.inr zmo_177, List.forall_mem_cons.mpr ⟨.inr zmo_178, List.forall_mem_cons.mpr ⟨.inr zmo_179, List.forall_mem_cons.mpr ⟨.inr zmo_180, List.forall_mem_cons.mpr ⟨.inr zmo_181, List.forall_mem_cons.mpr ⟨.inr zmo_182, List.forall_mem_cons.mpr ⟨.inr zmo_183, List.forall_mem_cons.mpr ⟨.inr zmo_184, List.forall_mem_cons.mpr ⟨.inr zmo_185, List.forall_mem_cons.mpr ⟨.inr zmo_186, List.forall_mem_cons.mpr ⟨.inr zmo_187, List.forall_mem_cons.mpr ⟨.inr zmo_188, List.forall_mem_cons.mpr ⟨.inr zmo_189, List.forall_mem_cons.mpr ⟨.inr zmo_190, List.forall_mem_cons.mpr ⟨.inr zmo_191, List.forall_mem_cons.mpr ⟨.inr zmo_192, List.forall_mem_cons.mpr ⟨.inr zmo_193, List.forall_mem_cons.mpr ⟨.inr zmo_194, List.forall_mem_cons.mpr ⟨.inr zmo_195, List.forall_mem_cons.mpr ⟨.inr zmo_196, List.forall_mem_cons.mpr ⟨.inr zmo_197, List.forall_mem_cons.mpr ⟨.inr zmo_198, List.forall_mem_cons.mpr ⟨.inr zmo_199, fun _ h => absurd h List.not_mem_nil⟩⟩⟩⟩⟩⟩⟩⟩⟩⟩⟩⟩⟩⟩⟩⟩⟩⟩⟩⟩⟩⟩⟩⟩⟩⟩⟩⟩⟩⟩⟩⟩⟩⟩⟩⟩⟩⟩⟩⟩⟩⟩⟩⟩⟩⟩⟩⟩⟩⟩
theorem zmol_4 : ∀ mi ∈ zMl_4, zMo mi := List.forall_mem_cons.mpr ⟨.inr zmo_200, List.forall_mem_cons.mpr ⟨.inr zmo_201, List.forall_mem_cons.mpr ⟨.inr zmo_202, List.forall_mem_cons.mpr ⟨.inr zmo_203, List.forall_mem_cons.mpr ⟨.inr zmo_204, List.forall_mem_cons.mpr ⟨.inr zmo_205, List.forall_mem_cons.mpr ⟨.inr zmo_206, List.forall_mem_cons.mpr ⟨.inr zmo_207, List.forall_mem_cons.mpr ⟨.inr zmo_208, List.forall_mem_cons.mpr ⟨.inr zmo_209, List.forall_mem_cons.mpr ⟨.inr zmo_210, List.forall_mem_cons.mpr ⟨.inr zmo_211, List.forall_mem_cons.mpr ⟨.inr zmo_212, List.forall_mem_cons.mpr ⟨.inr zmo_213, List.forall_mem_cons.mpr ⟨.inr zmo_214, List.forall_mem_cons.mpr ⟨.inr zmo_215, List.forall_mem_cons.mpr ⟨.inr zmo_216, List.forall_mem_cons.mpr ⟨.inr zmo_217, List.forall_mem_cons.mpr ⟨.inr zmo_218, List.forall_mem_cons.mpr ⟨.inr zmo_219, List.forall_mem_cons.mpr ⟨.inr zmo_220, List.forall_mem_cons.mpr ⟨.inr zmo_221, List.forall_mem_cons.mpr ⟨.inr zmo_222, List.forall_mem_cons.mpr ⟨.inr zmo_223, List.forall_mem_cons.mpr ⟨.inr zmo_224, List.forall_mem_cons.mpr ⟨.inr zmo_225, List.forall_mem_cons.mpr ⟨.inr zmo_226, List.forall_mem_cons.mpr ⟨.inr zmo_227, List.forall_mem_cons.mpr ⟨.inr zmo_228, List.forall_mem_cons.mpr ⟨.inr zmo_229, List.forall_mem_cons.mpr ⟨.inr zmo_230, List.forall_mem_cons.mpr ⟨.inr zmo_231, List.forall_mem_cons.mpr ⟨.inr zmo_232, List.forall_mem_cons.mpr ⟨.inr zmo_233, List.forall_mem_cons.mpr ⟨.inr zmo_234, List.forall_mem_cons.mpr ⟨.inr zmo_235, List.forall_mem_cons.mpr ⟨.inr zmo_236, List.forall_mem_cons.mpr ⟨.inr zmo_237, List.forall_mem_cons.mpr ⟨.inr zmo_238, List.forall_mem_cons.mpr ⟨.inr zmo_239, List.forall_mem_cons.mpr ⟨.inr zmo_240, List.forall_mem_cons.mpr ⟨.inr zmo_241, List.forall_mem_cons.mpr ⟨.inr zmo_242, List.forall_mem_cons.mpr ⟨.inr zmo_243, List.forall_mem_cons.mpr ⟨.inr zmo_244, List.forall_mem_cons.mpr ⟨.inr zmo_245, List.forall_mem_cons.mpr ⟨.inr zmo_246, List.forall_mem_cons.mpr ⟨.inr zmo_247, List.forall_mem_cons.mpr ⟨.inr zmo_248, List.forall_mem_cons.mpr ⟨.inr zmo_249, fun _ h => absurd h List.not_mem_nil⟩⟩⟩⟩⟩⟩⟩⟩⟩⟩⟩⟩⟩⟩⟩⟩⟩⟩⟩⟩⟩⟩⟩⟩⟩⟩⟩⟩⟩⟩⟩⟩⟩⟩⟩⟩⟩⟩⟩⟩⟩⟩⟩⟩⟩⟩⟩⟩⟩⟩
theorem zmol_5 : ∀ mi ∈ zMl_5, zMo mi := List.forall_mem_cons.mpr ⟨.inr zmo_250, List.forall_mem_cons.mpr ⟨.inr zmo_251, List.forall_mem_cons.mpr ⟨.inr zmo_252, List.forall_mem_cons.mpr ⟨.inr zmo_253, List.forall_mem_cons.mpr ⟨.inr zmo_254, List.forall_mem_cons.mpr ⟨.inr zmo_255, List.forall_mem_cons.mpr ⟨.inr zmo_256, List.forall_mem_cons.mpr ⟨.inr zmo_257, List.forall_mem_cons.mpr ⟨.inr zmo_258, List.forall_mem_cons.mpr ⟨.inr zmo_259, List.forall_mem_cons.mpr ⟨.inr zmo_260, List.forall_mem_cons.mpr ⟨.inr zmo_261, List.forall_mem_cons.mpr ⟨.inr zmo_262, List.forall_mem_cons.mpr ⟨.inr zmo_263, List.forall_mem_cons.mpr ⟨.inr zmo_264, List.forall_mem_cons.mpr ⟨.inr zmo_265, List.forall_mem_cons.mpr ⟨.inr zmo_266, List.forall_mem_cons.mpr ⟨.inr zmo_267, List.forall_mem_cons.mpr ⟨.inr zmo_268, List.forall_mem_cons.mpr ⟨.inr zmo_269, List.forall_mem_cons.mpr ⟨.inr zmo_270, List.forall_mem_cons.mpr ⟨.inr zmo_271, List.forall_mem_cons.mpr ⟨.inr zmo_272, List.forall_mem_cons.mpr ⟨.inr zmo_273, List.forall_mem_cons.mpr ⟨.inr zmo_274, List.forall_mem_cons.mpr ⟨.inr zmo_275, List.forall_mem_cons.mpr ⟨.inr zmo_276, List.forall_mem_cons.mpr ⟨.inr zmo_277, List.forall_mem_cons.mpr ⟨.inr zmo_278, List.forall_mem_cons.mpr ⟨.inr zmo_279, List.forall_mem_cons.mpr ⟨.inr zmo_280, List.forall_mem_cons.mpr ⟨.inr zmo_281, List.forall_mem_cons.mpr ⟨.inr zmo_282, List.forall_mem_cons.mpr ⟨.inr zmo_283, List.forall_mem_cons.mpr ⟨.inr zmo_284, List.forall_mem_cons.mpr ⟨.inr zmo_285, List.forall_mem_cons.mpr ⟨.inr zmo_286, List.forall_mem_cons.mpr ⟨.inr zmo_287, List.forall_mem_cons.mpr ⟨.inr zmo_288, List.forall_mem_cons.mpr ⟨.inr zmo_289, List.forall_mem_cons.mpr ⟨.inr zmo_290, List.forall_mem_cons.mpr ⟨.inl rfl, fun _ h => absurd h List.not_mem_nil⟩⟩⟩⟩⟩⟩⟩⟩⟩⟩⟩⟩⟩⟩⟩⟩⟩⟩⟩⟩⟩⟩⟩⟩⟩⟩⟩⟩⟩⟩⟩⟩⟩⟩⟩⟩⟩⟩⟩⟩⟩⟩
theorem zmo_all : ∀ mi ∈ zMl, zMo mi := List.forall_mem_append.mpr ⟨zmol_0, List.forall_mem_append.mpr ⟨zmol_1, List.forall_mem_append.mpr ⟨zmol_2, List.forall_mem_append.mpr ⟨zmol_3, List.forall_mem_append.mpr ⟨zmol_4, zmol_5⟩⟩⟩⟩⟩
theorem zmo_of {k : Nat} {mi : zMi} (h : zM k = some mi) (h2 : mi.2.1.1 ≠ 10) : zMok mi := (zmo_all mi (List.mem_of_getElem? h)).resolve_left h2
def zNx (U : State) : Prop := (va_Nw (.methodLinkNest RX4 30 yX3_init RX8) U ∧ va_Nw (.methodLinkNest RX5 11 yX2_init RX8) U ∧ va_Nw (.methodLinkNest RX8 9 yX1_init RX8) U ∧ va_Nw (.methodLinkNest RX8 18 yX2_init RX8) U) ∧ va_AO RX3 U ∧ va_AO RX6 U
theorem zNx_warm {s U : State} (hW : s.WarmedH U.vm) (h : zNx s) : zNx U := ⟨⟨h.1.1.warmM hW, h.1.2.1.warmM hW, h.1.2.2.1.warmM hW, h.1.2.2.2.warmM hW⟩, h.2.1.moved hW.alike, h.2.2.moved hW.alike⟩
def znp (mi : zMi) (n : Nat) : Prop := (parseMethodDescriptor mi.1.1.desc).map (fun d => d.parameters.length) = some n
def zpV (own : String) (i : Nat) (mi : zMi) : Prop := Cond.methodLink own i mi.1.1 ∈ zW ∧ Cond.instanceMethod mi.1.1 ∈ zW ∧ Cond.selects mi.1.1.cls mi.1.1 mi.1.1 ∈ zW ∧ mi.2.1.1 < 10 ∧ ∃ n, mi.2.1.2.1 = n + 1 ∧ znp mi n
def zpS (own : String) (i : Nat) (mi : zMi) : Prop := Cond.methodLink own i mi.1.1 ∈ zW ∧ Cond.static mi.1.1 ∈ zW ∧ mi.2.1.1 ≠ 10 ∧ znp mi mi.2.1.2.1
def zpI (own : String) (i : Nat) (mi : zMi) : Prop := Cond.methodLink own i mi.1.1 ∈ zW ∧ Cond.instanceMethod mi.1.1 ∈ zW ∧ mi.1.1.name = "<init>" ∧ mi.1.2.2.2 = none ∧ mi.2.1.1 ≠ 10 ∧ ∃ n, mi.2.1.2.1 = n + 1 ∧ znp mi n
def zpN (own : String) (i : Nat) (mi : zMi) : Prop := (∀ U, zNx U → va_Nw (.methodLinkNest own i mi.1.1 RX8) U) ∧ Cond.instanceMethod mi.1.1 ∈ zW ∧ mi.1.1.name = "<init>" ∧ mi.1.2.2.2 = none ∧ mi.2.1.1 ≠ 10 ∧ ∃ n, mi.2.1.2.1 = n + 1 ∧ znp mi n
def zpO (own : String) (i : Nat) : Prop := Cond.methodLink own i objectInit ∈ zW ∧ Cond.instanceMethod objectInit ∈ zW ∧ Cond.code objectInit ⟨#[0xb1]⟩ 1 none ∈ zW
def zpA (own : String) (i : Nat) : Prop := Cond.methodLink own i arraycopyName ∈ zW ∧ Cond.native arraycopyName ∈ zW ∧ Cond.static arraycopyName ∈ zW ∧ Cond.initialized "java/lang/System" ∈ zW
def zpM (own : String) (i : Nat) (y : MethodName) (cc : ByteArray) : Prop := Cond.methodLink own i y ∈ zW ∧ Cond.static y ∈ zW ∧ Cond.initialized "java/lang/Math" ∈ zW ∧ Cond.code y cc 2 (some .int) ∈ zW
def zCLp (f : Nat × Nat × Nat × Nat × Nat) : Prop := match f.2.2.2.1, f.2.2.2.2 with
  | 4, 2 => ∃ mi, zM f.2.2.1 = some mi ∧ zpI (zC f.1) f.2.1 mi
  | 4, 3 => ∃ mi, zM f.2.2.1 = some mi ∧ zpN (zC f.1) f.2.1 mi
  | 5, 2 => zpO (zC f.1) f.2.1
  | 6, 1 => zpA (zC f.1) f.2.1
  | 7, 1 => f.1 = 10
  | 8, 1 => zpM (zC f.1) f.2.1 Lib.Math.max.name Lib.Math.max.code
  | 9, 1 => zpM (zC f.1) f.2.1 Lib.Math.min.name Lib.Math.min.code
  | 4, _ => False
  | 5, _ => False
  | 6, _ => False
  | 7, _ => False
  | 8, _ => False
  | 9, _ => False
  | _, 0 => ∃ mi, zM f.2.2.1 = some mi ∧ zpV (zC f.1) f.2.1 mi
  | _, 1 => ∃ mi, zM f.2.2.1 = some mi ∧ zpS (zC f.1) f.2.1 mi
  | _, _ => False
theorem znp_2 : znp zm_2 4 := by unfold znp; decide +kernel
set_option maxRecDepth 100000 in
theorem zin_2 : Cond.instanceMethod zm_2.1.1 ∈ zW := zW_in (zch_3 _ (List.mem_of_getElem? (i := 147) rfl)) rfl
set_option maxRecDepth 100000 in
theorem zse_2 : Cond.selects zm_2.1.1.cls zm_2.1.1 zm_2.1.1 ∈ zW := zW_in (List.mem_of_getElem? (i := 15) (by decide +kernel)) rfl
theorem znp_94 : znp zm_94 2 := by unfold znp; decide +kernel
set_option maxRecDepth 100000 in
theorem zin_94 : Cond.instanceMethod zm_94.1.1 ∈ zW := zW_in (zch_3 _ (List.mem_of_getElem? (i := 14) rfl)) rfl
set_option maxRecDepth 100000 in
theorem zse_94 : Cond.selects zm_94.1.1.cls zm_94.1.1 zm_94.1.1 ∈ zW := zW_in (zch_3 _ (List.mem_of_getElem? (i := 15) rfl)) rfl
theorem znp_95 : znp zm_95 2 := by unfold znp; decide +kernel
set_option maxRecDepth 100000 in
theorem zin_95 : Cond.instanceMethod zm_95.1.1 ∈ zW := zW_in (zch_3 _ (List.mem_of_getElem? (i := 81) rfl)) rfl
set_option maxRecDepth 100000 in
theorem zse_95 : Cond.selects zm_95.1.1.cls zm_95.1.1 zm_95.1.1 ∈ zW := zW_in (zch_3 _ (List.mem_of_getElem? (i := 82) rfl)) rfl
theorem znp_16 : znp zm_16 1 := by unfold znp; decide +kernel
set_option maxRecDepth 100000 in
theorem zin_16 : Cond.instanceMethod zm_16.1.1 ∈ zW := zW_in (zch_3 _ (List.mem_of_getElem? (i := 67) rfl)) rfl
set_option maxRecDepth 100000 in
theorem zse_16 : Cond.selects zm_16.1.1.cls zm_16.1.1 zm_16.1.1 ∈ zW := zW_in (zch_3 _ (List.mem_of_getElem? (i := 68) rfl)) rfl
theorem znp_92 : znp zm_92 3 := by unfold znp; decide +kernel
set_option maxRecDepth 100000 in
theorem zin_92 : Cond.instanceMethod zm_92.1.1 ∈ zW := zW_in (zch_2 _ (List.mem_of_getElem? (i := 218) rfl)) rfl
set_option maxRecDepth 100000 in
theorem zse_92 : Cond.selects zm_92.1.1.cls zm_92.1.1 zm_92.1.1 ∈ zW := zW_in (zch_2 _ (List.mem_of_getElem? (i := 219) rfl)) rfl
theorem znp_80 : znp zm_80 2 := by unfold znp; decide +kernel
set_option maxRecDepth 100000 in
theorem zin_80 : Cond.instanceMethod zm_80.1.1 ∈ zW := zW_in (zch_2 _ (List.mem_of_getElem? (i := 234) rfl)) rfl
set_option maxRecDepth 100000 in
theorem zse_80 : Cond.selects zm_80.1.1.cls zm_80.1.1 zm_80.1.1 ∈ zW := zW_in (zch_2 _ (List.mem_of_getElem? (i := 235) rfl)) rfl
theorem znp_8 : znp zm_8 0 := by unfold znp; decide +kernel
set_option maxRecDepth 100000 in
theorem zin_8 : Cond.instanceMethod zm_8.1.1 ∈ zW := zW_in (zch_3 _ (List.mem_of_getElem? (i := 164) rfl)) rfl
set_option maxRecDepth 100000 in
theorem zse_8 : Cond.selects zm_8.1.1.cls zm_8.1.1 zm_8.1.1 ∈ zW := zW_in (List.mem_of_getElem? (i := 16) (by decide +kernel)) rfl
theorem znp_290 : znp zm_290 2 := by unfold znp; decide +kernel
set_option maxRecDepth 100000 in
theorem zst_290 : Cond.static zm_290.1.1 ∈ zW := zW_in (zch_1 _ (List.mem_of_getElem? (i := 108) rfl)) rfl
theorem znp_9 : znp zm_9 3 := by unfold znp; decide +kernel
set_option maxRecDepth 100000 in
theorem zin_9 : Cond.instanceMethod zm_9.1.1 ∈ zW := zW_in (zch_3 _ (List.mem_of_getElem? (i := 170) rfl)) rfl
set_option maxRecDepth 100000 in
theorem zse_9 : Cond.selects zm_9.1.1.cls zm_9.1.1 zm_9.1.1 ∈ zW := zW_in (List.mem_of_getElem? (i := 17) (by decide +kernel)) rfl
theorem znp_4 : znp zm_4 0 := by unfold znp; decide +kernel
set_option maxRecDepth 100000 in
theorem zin_4 : Cond.instanceMethod zm_4.1.1 ∈ zW := zW_in (zch_3 _ (List.mem_of_getElem? (i := 159) rfl)) rfl
set_option maxRecDepth 100000 in
theorem zse_4 : Cond.selects zm_4.1.1.cls zm_4.1.1 zm_4.1.1 ∈ zW := zW_in (zch_3 _ (List.mem_of_getElem? (i := 160) rfl)) rfl
theorem znp_6 : znp zm_6 4 := by unfold znp; decide +kernel
set_option maxRecDepth 100000 in
theorem zin_6 : Cond.instanceMethod zm_6.1.1 ∈ zW := zW_in (zch_3 _ (List.mem_of_getElem? (i := 185) rfl)) rfl
set_option maxRecDepth 100000 in
theorem zse_6 : Cond.selects zm_6.1.1.cls zm_6.1.1 zm_6.1.1 ∈ zW := zW_in (List.mem_of_getElem? (i := 19) (by decide +kernel)) rfl
theorem znp_7 : znp zm_7 3 := by unfold znp; decide +kernel
set_option maxRecDepth 100000 in
theorem zin_7 : Cond.instanceMethod zm_7.1.1 ∈ zW := zW_in (zch_3 _ (List.mem_of_getElem? (i := 181) rfl)) rfl
set_option maxRecDepth 100000 in
theorem zse_7 : Cond.selects zm_7.1.1.cls zm_7.1.1 zm_7.1.1 ∈ zW := zW_in (List.mem_of_getElem? (i := 18) (by decide +kernel)) rfl
theorem znp_288 : znp zm_288 1 := by unfold znp; decide +kernel
set_option maxRecDepth 100000 in
theorem zst_288 : Cond.static zm_288.1.1 ∈ zW := zW_in (zch_3 _ (List.mem_of_getElem? (i := 174) rfl)) rfl
theorem znp_11 : znp zm_11 4 := by unfold znp; decide +kernel
set_option maxRecDepth 100000 in
theorem zin_11 : Cond.instanceMethod zm_11.1.1 ∈ zW := zW_in (zch_5 _ (List.mem_of_getElem? (i := 26) rfl)) rfl
set_option maxRecDepth 100000 in
theorem zse_11 : Cond.selects zm_11.1.1.cls zm_11.1.1 zm_11.1.1 ∈ zW := zW_in (List.mem_of_getElem? (i := 45) (by decide +kernel)) rfl
theorem znp_12 : znp zm_12 0 := by unfold znp; decide +kernel
set_option maxRecDepth 100000 in
theorem zin_12 : Cond.instanceMethod zm_12.1.1 ∈ zW := zW_in (zch_5 _ (List.mem_of_getElem? (i := 30) rfl)) rfl
set_option maxRecDepth 100000 in
theorem zse_12 : Cond.selects zm_12.1.1.cls zm_12.1.1 zm_12.1.1 ∈ zW := zW_in (List.mem_of_getElem? (i := 46) (by decide +kernel)) rfl
theorem znp_289 : znp zm_289 1 := by unfold znp; decide +kernel
set_option maxRecDepth 100000 in
theorem zst_289 : Cond.static zm_289.1.1 ∈ zW := zW_in (zch_4 _ (List.mem_of_getElem? (i := 123) rfl)) rfl
theorem znp_26 : znp zm_26 0 := by unfold znp; decide +kernel
set_option maxRecDepth 100000 in
theorem zin_26 : Cond.instanceMethod zm_26.1.1 ∈ zW := zW_in (zch_2 _ (List.mem_of_getElem? (i := 4) rfl)) rfl
theorem znp_41 : znp zm_41 2 := by unfold znp; decide +kernel
set_option maxRecDepth 100000 in
theorem zin_41 : Cond.instanceMethod zm_41.1.1 ∈ zW := zW_in (zch_4 _ (List.mem_of_getElem? (i := 64) rfl)) rfl
set_option maxRecDepth 100000 in
theorem zse_41 : Cond.selects zm_41.1.1.cls zm_41.1.1 zm_41.1.1 ∈ zW := zW_in (List.mem_of_getElem? (i := 27) (by decide +kernel)) rfl
theorem znp_44 : znp zm_44 1 := by unfold znp; decide +kernel
set_option maxRecDepth 100000 in
theorem zin_44 : Cond.instanceMethod zm_44.1.1 ∈ zW := zW_in (zch_4 _ (List.mem_of_getElem? (i := 69) rfl)) rfl
set_option maxRecDepth 100000 in
theorem zse_44 : Cond.selects zm_44.1.1.cls zm_44.1.1 zm_44.1.1 ∈ zW := zW_in (List.mem_of_getElem? (i := 28) (by decide +kernel)) rfl
theorem znp_45 : znp zm_45 1 := by unfold znp; decide +kernel
set_option maxRecDepth 100000 in
theorem zin_45 : Cond.instanceMethod zm_45.1.1 ∈ zW := zW_in (zch_4 _ (List.mem_of_getElem? (i := 80) rfl)) rfl
set_option maxRecDepth 100000 in
theorem zse_45 : Cond.selects zm_45.1.1.cls zm_45.1.1 zm_45.1.1 ∈ zW := zW_in (List.mem_of_getElem? (i := 29) (by decide +kernel)) rfl
theorem znp_46 : znp zm_46 1 := by unfold znp; decide +kernel
set_option maxRecDepth 100000 in
theorem zin_46 : Cond.instanceMethod zm_46.1.1 ∈ zW := zW_in (zch_4 _ (List.mem_of_getElem? (i := 89) rfl)) rfl
set_option maxRecDepth 100000 in
theorem zse_46 : Cond.selects zm_46.1.1.cls zm_46.1.1 zm_46.1.1 ∈ zW := zW_in (List.mem_of_getElem? (i := 30) (by decide +kernel)) rfl
theorem znp_27 : znp zm_27 0 := by unfold znp; decide +kernel
set_option maxRecDepth 100000 in
theorem zin_27 : Cond.instanceMethod zm_27.1.1 ∈ zW := zW_in (zch_4 _ (List.mem_of_getElem? (i := 98) rfl)) rfl
set_option maxRecDepth 100000 in
theorem zse_27 : Cond.selects zm_27.1.1.cls zm_27.1.1 zm_27.1.1 ∈ zW := zW_in (zch_4 _ (List.mem_of_getElem? (i := 99) rfl)) rfl
theorem znp_29 : znp zm_29 1 := by unfold znp; decide +kernel
set_option maxRecDepth 100000 in
theorem zin_29 : Cond.instanceMethod zm_29.1.1 ∈ zW := zW_in (zch_4 _ (List.mem_of_getElem? (i := 102) rfl)) rfl
set_option maxRecDepth 100000 in
theorem zse_29 : Cond.selects zm_29.1.1.cls zm_29.1.1 zm_29.1.1 ∈ zW := zW_in (zch_4 _ (List.mem_of_getElem? (i := 103) rfl)) rfl
theorem znp_39 : znp zm_39 2 := by unfold znp; decide +kernel
set_option maxRecDepth 100000 in
theorem zin_39 : Cond.instanceMethod zm_39.1.1 ∈ zW := zW_in (zch_4 _ (List.mem_of_getElem? (i := 72) rfl)) rfl
set_option maxRecDepth 100000 in
theorem zse_39 : Cond.selects zm_39.1.1.cls zm_39.1.1 zm_39.1.1 ∈ zW := zW_in (zch_4 _ (List.mem_of_getElem? (i := 73) rfl)) rfl
theorem znp_42 : znp zm_42 2 := by unfold znp; decide +kernel
set_option maxRecDepth 100000 in
theorem zst_42 : Cond.static zm_42.1.1 ∈ zW := zW_in (zch_4 _ (List.mem_of_getElem? (i := 76) rfl)) rfl
theorem znp_43 : znp zm_43 2 := by unfold znp; decide +kernel
set_option maxRecDepth 100000 in
theorem zst_43 : Cond.static zm_43.1.1 ∈ zW := zW_in (zch_4 _ (List.mem_of_getElem? (i := 83) rfl)) rfl
theorem znp_47 : znp zm_47 2 := by unfold znp; decide +kernel
set_option maxRecDepth 100000 in
theorem zin_47 : Cond.instanceMethod zm_47.1.1 ∈ zW := zW_in (zch_4 _ (List.mem_of_getElem? (i := 93) rfl)) rfl
set_option maxRecDepth 100000 in
theorem zse_47 : Cond.selects zm_47.1.1.cls zm_47.1.1 zm_47.1.1 ∈ zW := zW_in (List.mem_of_getElem? (i := 31) (by decide +kernel)) rfl
theorem znp_23 : znp zm_23 1 := by unfold znp; decide +kernel
set_option maxRecDepth 100000 in
theorem zin_23 : Cond.instanceMethod zm_23.1.1 ∈ zW := zW_in (zch_2 _ (List.mem_of_getElem? (i := 227) rfl)) rfl
set_option maxRecDepth 100000 in
theorem zse_23 : Cond.selects zm_23.1.1.cls zm_23.1.1 zm_23.1.1 ∈ zW := zW_in (zch_2 _ (List.mem_of_getElem? (i := 228) rfl)) rfl
theorem znp_24 : znp zm_24 2 := by unfold znp; decide +kernel
set_option maxRecDepth 100000 in
theorem zin_24 : Cond.instanceMethod zm_24.1.1 ∈ zW := zW_in (zch_3 _ (List.mem_of_getElem? (i := 2) rfl)) rfl
set_option maxRecDepth 100000 in
theorem zse_24 : Cond.selects zm_24.1.1.cls zm_24.1.1 zm_24.1.1 ∈ zW := zW_in (zch_3 _ (List.mem_of_getElem? (i := 3) rfl)) rfl
theorem znp_36 : znp zm_36 0 := by unfold znp; decide +kernel
set_option maxRecDepth 100000 in
theorem zin_36 : Cond.instanceMethod zm_36.1.1 ∈ zW := zW_in (zch_4 _ (List.mem_of_getElem? (i := 119) rfl)) rfl
set_option maxRecDepth 100000 in
theorem zse_36 : Cond.selects zm_36.1.1.cls zm_36.1.1 zm_36.1.1 ∈ zW := zW_in (zch_4 _ (List.mem_of_getElem? (i := 120) rfl)) rfl
theorem znp_49 : znp zm_49 1 := by unfold znp; decide +kernel
set_option maxRecDepth 100000 in
theorem zin_49 : Cond.instanceMethod zm_49.1.1 ∈ zW := zW_in (zch_4 _ (List.mem_of_getElem? (i := 111) rfl)) rfl
set_option maxRecDepth 100000 in
theorem zse_49 : Cond.selects zm_49.1.1.cls zm_49.1.1 zm_49.1.1 ∈ zW := zW_in (zch_4 _ (List.mem_of_getElem? (i := 112) rfl)) rfl
theorem znp_31 : znp zm_31 1 := by unfold znp; decide +kernel
set_option maxRecDepth 100000 in
theorem zin_31 : Cond.instanceMethod zm_31.1.1 ∈ zW := zW_in (zch_4 _ (List.mem_of_getElem? (i := 134) rfl)) rfl
set_option maxRecDepth 100000 in
theorem zse_31 : Cond.selects zm_31.1.1.cls zm_31.1.1 zm_31.1.1 ∈ zW := zW_in (zch_4 _ (List.mem_of_getElem? (i := 135) rfl)) rfl
theorem znp_32 : znp zm_32 1 := by unfold znp; decide +kernel
set_option maxRecDepth 100000 in
theorem zin_32 : Cond.instanceMethod zm_32.1.1 ∈ zW := zW_in (zch_4 _ (List.mem_of_getElem? (i := 138) rfl)) rfl
set_option maxRecDepth 100000 in
theorem zse_32 : Cond.selects zm_32.1.1.cls zm_32.1.1 zm_32.1.1 ∈ zW := zW_in (zch_4 _ (List.mem_of_getElem? (i := 139) rfl)) rfl
theorem znp_30 : znp zm_30 1 := by unfold znp; decide +kernel
set_option maxRecDepth 100000 in
theorem zin_30 : Cond.instanceMethod zm_30.1.1 ∈ zW := zW_in (zch_4 _ (List.mem_of_getElem? (i := 142) rfl)) rfl
set_option maxRecDepth 100000 in
theorem zse_30 : Cond.selects zm_30.1.1.cls zm_30.1.1 zm_30.1.1 ∈ zW := zW_in (zch_4 _ (List.mem_of_getElem? (i := 143) rfl)) rfl
theorem znp_54 : znp zm_54 2 := by unfold znp; decide +kernel
set_option maxRecDepth 100000 in
theorem zin_54 : Cond.instanceMethod zm_54.1.1 ∈ zW := zW_in (zch_4 _ (List.mem_of_getElem? (i := 156) rfl)) rfl
set_option maxRecDepth 100000 in
theorem zse_54 : Cond.selects zm_54.1.1.cls zm_54.1.1 zm_54.1.1 ∈ zW := zW_in (List.mem_of_getElem? (i := 32) (by decide +kernel)) rfl
theorem znp_28 : znp zm_28 1 := by unfold znp; decide +kernel
set_option maxRecDepth 100000 in
theorem zin_28 : Cond.instanceMethod zm_28.1.1 ∈ zW := zW_in (zch_4 _ (List.mem_of_getElem? (i := 159) rfl)) rfl
set_option maxRecDepth 100000 in
theorem zse_28 : Cond.selects zm_28.1.1.cls zm_28.1.1 zm_28.1.1 ∈ zW := zW_in (zch_4 _ (List.mem_of_getElem? (i := 160) rfl)) rfl
theorem znp_34 : znp zm_34 1 := by unfold znp; decide +kernel
set_option maxRecDepth 100000 in
theorem zin_34 : Cond.instanceMethod zm_34.1.1 ∈ zW := zW_in (zch_4 _ (List.mem_of_getElem? (i := 163) rfl)) rfl
set_option maxRecDepth 100000 in
theorem zse_34 : Cond.selects zm_34.1.1.cls zm_34.1.1 zm_34.1.1 ∈ zW := zW_in (zch_4 _ (List.mem_of_getElem? (i := 164) rfl)) rfl
theorem znp_33 : znp zm_33 1 := by unfold znp; decide +kernel
set_option maxRecDepth 100000 in
theorem zin_33 : Cond.instanceMethod zm_33.1.1 ∈ zW := zW_in (zch_4 _ (List.mem_of_getElem? (i := 167) rfl)) rfl
set_option maxRecDepth 100000 in
theorem zse_33 : Cond.selects zm_33.1.1.cls zm_33.1.1 zm_33.1.1 ∈ zW := zW_in (zch_4 _ (List.mem_of_getElem? (i := 168) rfl)) rfl
theorem znp_55 : znp zm_55 0 := by unfold znp; decide +kernel
set_option maxRecDepth 100000 in
theorem zin_55 : Cond.instanceMethod zm_55.1.1 ∈ zW := zW_in (zch_4 _ (List.mem_of_getElem? (i := 172) rfl)) rfl
set_option maxRecDepth 100000 in
theorem zse_55 : Cond.selects zm_55.1.1.cls zm_55.1.1 zm_55.1.1 ∈ zW := zW_in (List.mem_of_getElem? (i := 33) (by decide +kernel)) rfl
theorem znp_35 : znp zm_35 1 := by unfold znp; decide +kernel
set_option maxRecDepth 100000 in
theorem zin_35 : Cond.instanceMethod zm_35.1.1 ∈ zW := zW_in (zch_4 _ (List.mem_of_getElem? (i := 175) rfl)) rfl
set_option maxRecDepth 100000 in
theorem zse_35 : Cond.selects zm_35.1.1.cls zm_35.1.1 zm_35.1.1 ∈ zW := zW_in (zch_4 _ (List.mem_of_getElem? (i := 176) rfl)) rfl
theorem znp_57 : znp zm_57 0 := by unfold znp; decide +kernel
set_option maxRecDepth 100000 in
theorem zin_57 : Cond.instanceMethod zm_57.1.1 ∈ zW := zW_in (zch_4 _ (List.mem_of_getElem? (i := 197) rfl)) rfl
set_option maxRecDepth 100000 in
theorem zse_57 : Cond.selects zm_57.1.1.cls zm_57.1.1 zm_57.1.1 ∈ zW := zW_in (List.mem_of_getElem? (i := 35) (by decide +kernel)) rfl
theorem znp_48 : znp zm_48 0 := by unfold znp; decide +kernel
set_option maxRecDepth 100000 in
theorem zin_48 : Cond.instanceMethod zm_48.1.1 ∈ zW := zW_in (zch_4 _ (List.mem_of_getElem? (i := 106) rfl)) rfl
set_option maxRecDepth 100000 in
theorem zse_48 : Cond.selects zm_48.1.1.cls zm_48.1.1 zm_48.1.1 ∈ zW := zW_in (zch_4 _ (List.mem_of_getElem? (i := 107) rfl)) rfl
theorem znp_51 : znp zm_51 1 := by unfold znp; decide +kernel
set_option maxRecDepth 100000 in
theorem zin_51 : Cond.instanceMethod zm_51.1.1 ∈ zW := zW_in (zch_4 _ (List.mem_of_getElem? (i := 129) rfl)) rfl
set_option maxRecDepth 100000 in
theorem zse_51 : Cond.selects zm_51.1.1.cls zm_51.1.1 zm_51.1.1 ∈ zW := zW_in (zch_4 _ (List.mem_of_getElem? (i := 130) rfl)) rfl
theorem znp_60 : znp zm_60 1 := by unfold znp; decide +kernel
set_option maxRecDepth 100000 in
theorem zin_60 : Cond.instanceMethod zm_60.1.1 ∈ zW := zW_in (zch_4 _ (List.mem_of_getElem? (i := 212) rfl)) rfl
set_option maxRecDepth 100000 in
theorem zse_60 : Cond.selects zm_60.1.1.cls zm_60.1.1 zm_60.1.1 ∈ zW := zW_in (List.mem_of_getElem? (i := 36) (by decide +kernel)) rfl
theorem znp_59 : znp zm_59 3 := by unfold znp; decide +kernel
set_option maxRecDepth 100000 in
theorem zin_59 : Cond.instanceMethod zm_59.1.1 ∈ zW := zW_in (zch_4 _ (List.mem_of_getElem? (i := 216) rfl)) rfl
set_option maxRecDepth 100000 in
theorem zse_59 : Cond.selects zm_59.1.1.cls zm_59.1.1 zm_59.1.1 ∈ zW := zW_in (List.mem_of_getElem? (i := 37) (by decide +kernel)) rfl
theorem znp_62 : znp zm_62 2 := by unfold znp; decide +kernel
set_option maxRecDepth 100000 in
theorem zin_62 : Cond.instanceMethod zm_62.1.1 ∈ zW := zW_in (zch_4 _ (List.mem_of_getElem? (i := 232) rfl)) rfl
set_option maxRecDepth 100000 in
theorem zse_62 : Cond.selects zm_62.1.1.cls zm_62.1.1 zm_62.1.1 ∈ zW := zW_in (List.mem_of_getElem? (i := 39) (by decide +kernel)) rfl
theorem znp_63 : znp zm_63 2 := by unfold znp; decide +kernel
set_option maxRecDepth 100000 in
theorem zin_63 : Cond.instanceMethod zm_63.1.1 ∈ zW := zW_in (zch_4 _ (List.mem_of_getElem? (i := 238) rfl)) rfl
set_option maxRecDepth 100000 in
theorem zse_63 : Cond.selects zm_63.1.1.cls zm_63.1.1 zm_63.1.1 ∈ zW := zW_in (List.mem_of_getElem? (i := 40) (by decide +kernel)) rfl
theorem znp_64 : znp zm_64 3 := by unfold znp; decide +kernel
set_option maxRecDepth 100000 in
theorem zin_64 : Cond.instanceMethod zm_64.1.1 ∈ zW := zW_in (zch_5 _ (List.mem_of_getElem? (i := 6) rfl)) rfl
set_option maxRecDepth 100000 in
theorem zse_64 : Cond.selects zm_64.1.1.cls zm_64.1.1 zm_64.1.1 ∈ zW := zW_in (List.mem_of_getElem? (i := 42) (by decide +kernel)) rfl
theorem znp_93 : znp zm_93 3 := by unfold znp; decide +kernel
set_option maxRecDepth 100000 in
theorem zin_93 : Cond.instanceMethod zm_93.1.1 ∈ zW := zW_in (zch_3 _ (List.mem_of_getElem? (i := 10) rfl)) rfl
set_option maxRecDepth 100000 in
theorem zse_93 : Cond.selects zm_93.1.1.cls zm_93.1.1 zm_93.1.1 ∈ zW := zW_in (zch_3 _ (List.mem_of_getElem? (i := 11) rfl)) rfl
theorem znp_67 : znp zm_67 2 := by unfold znp; decide +kernel
set_option maxRecDepth 100000 in
theorem zin_67 : Cond.instanceMethod zm_67.1.1 ∈ zW := zW_in (zch_5 _ (List.mem_of_getElem? (i := 2) rfl)) rfl
set_option maxRecDepth 100000 in
theorem zse_67 : Cond.selects zm_67.1.1.cls zm_67.1.1 zm_67.1.1 ∈ zW := zW_in (List.mem_of_getElem? (i := 41) (by decide +kernel)) rfl
theorem znp_65 : znp zm_65 2 := by unfold znp; decide +kernel
set_option maxRecDepth 100000 in
theorem zin_65 : Cond.instanceMethod zm_65.1.1 ∈ zW := zW_in (zch_5 _ (List.mem_of_getElem? (i := 10) rfl)) rfl
set_option maxRecDepth 100000 in
theorem zse_65 : Cond.selects zm_65.1.1.cls zm_65.1.1 zm_65.1.1 ∈ zW := zW_in (List.mem_of_getElem? (i := 43) (by decide +kernel)) rfl
theorem znp_66 : znp zm_66 2 := by unfold znp; decide +kernel
set_option maxRecDepth 100000 in
theorem zin_66 : Cond.instanceMethod zm_66.1.1 ∈ zW := zW_in (zch_5 _ (List.mem_of_getElem? (i := 14) rfl)) rfl
set_option maxRecDepth 100000 in
theorem zse_66 : Cond.selects zm_66.1.1.cls zm_66.1.1 zm_66.1.1 ∈ zW := zW_in (List.mem_of_getElem? (i := 44) (by decide +kernel)) rfl
theorem znp_17 : znp zm_17 0 := by unfold znp; decide +kernel
set_option maxRecDepth 100000 in
theorem zin_17 : Cond.instanceMethod zm_17.1.1 ∈ zW := zW_in (zch_1 _ (List.mem_of_getElem? (i := 81) rfl)) rfl
theorem znp_18 : znp zm_18 0 := by unfold znp; decide +kernel
set_option maxRecDepth 100000 in
theorem zin_18 : Cond.instanceMethod zm_18.1.1 ∈ zW := zW_in (zch_2 _ (List.mem_of_getElem? (i := 143) rfl)) rfl
set_option maxRecDepth 100000 in
theorem zse_18 : Cond.selects zm_18.1.1.cls zm_18.1.1 zm_18.1.1 ∈ zW := zW_in (zch_2 _ (List.mem_of_getElem? (i := 144) rfl)) rfl
theorem znp_70 : znp zm_70 0 := by unfold znp; decide +kernel
set_option maxRecDepth 100000 in
theorem zin_70 : Cond.instanceMethod zm_70.1.1 ∈ zW := zW_in (zch_2 _ (List.mem_of_getElem? (i := 152) rfl)) rfl
set_option maxRecDepth 100000 in
theorem zse_70 : Cond.selects zm_70.1.1.cls zm_70.1.1 zm_70.1.1 ∈ zW := zW_in (List.mem_of_getElem? (i := 0) (by decide +kernel)) rfl
theorem znp_75 : znp zm_75 1 := by unfold znp; decide +kernel
set_option maxRecDepth 100000 in
theorem zin_75 : Cond.instanceMethod zm_75.1.1 ∈ zW := zW_in (zch_2 _ (List.mem_of_getElem? (i := 156) rfl)) rfl
set_option maxRecDepth 100000 in
theorem zse_75 : Cond.selects zm_75.1.1.cls zm_75.1.1 zm_75.1.1 ∈ zW := zW_in (List.mem_of_getElem? (i := 1) (by decide +kernel)) rfl
theorem znp_71 : znp zm_71 1 := by unfold znp; decide +kernel
set_option maxRecDepth 100000 in
theorem zin_71 : Cond.instanceMethod zm_71.1.1 ∈ zW := zW_in (zch_2 _ (List.mem_of_getElem? (i := 160) rfl)) rfl
set_option maxRecDepth 100000 in
theorem zse_71 : Cond.selects zm_71.1.1.cls zm_71.1.1 zm_71.1.1 ∈ zW := zW_in (List.mem_of_getElem? (i := 2) (by decide +kernel)) rfl
theorem znp_72 : znp zm_72 0 := by unfold znp; decide +kernel
set_option maxRecDepth 100000 in
theorem zin_72 : Cond.instanceMethod zm_72.1.1 ∈ zW := zW_in (zch_2 _ (List.mem_of_getElem? (i := 168) rfl)) rfl
set_option maxRecDepth 100000 in
theorem zse_72 : Cond.selects zm_72.1.1.cls zm_72.1.1 zm_72.1.1 ∈ zW := zW_in (List.mem_of_getElem? (i := 4) (by decide +kernel)) rfl
theorem znp_73 : znp zm_73 0 := by unfold znp; decide +kernel
set_option maxRecDepth 100000 in
theorem zin_73 : Cond.instanceMethod zm_73.1.1 ∈ zW := zW_in (zch_2 _ (List.mem_of_getElem? (i := 176) rfl)) rfl
set_option maxRecDepth 100000 in
theorem zse_73 : Cond.selects zm_73.1.1.cls zm_73.1.1 zm_73.1.1 ∈ zW := zW_in (List.mem_of_getElem? (i := 5) (by decide +kernel)) rfl
theorem znp_74 : znp zm_74 0 := by unfold znp; decide +kernel
set_option maxRecDepth 100000 in
theorem zin_74 : Cond.instanceMethod zm_74.1.1 ∈ zW := zW_in (zch_2 _ (List.mem_of_getElem? (i := 184) rfl)) rfl
set_option maxRecDepth 100000 in
theorem zse_74 : Cond.selects zm_74.1.1.cls zm_74.1.1 zm_74.1.1 ∈ zW := zW_in (List.mem_of_getElem? (i := 6) (by decide +kernel)) rfl
theorem znp_76 : znp zm_76 0 := by unfold znp; decide +kernel
set_option maxRecDepth 100000 in
theorem zin_76 : Cond.instanceMethod zm_76.1.1 ∈ zW := zW_in (zch_2 _ (List.mem_of_getElem? (i := 164) rfl)) rfl
set_option maxRecDepth 100000 in
theorem zse_76 : Cond.selects zm_76.1.1.cls zm_76.1.1 zm_76.1.1 ∈ zW := zW_in (List.mem_of_getElem? (i := 3) (by decide +kernel)) rfl
theorem znp_20 : znp zm_20 1 := by unfold znp; decide +kernel
set_option maxRecDepth 100000 in
theorem zin_20 : Cond.instanceMethod zm_20.1.1 ∈ zW := zW_in (zch_2 _ (List.mem_of_getElem? (i := 171) rfl)) rfl
set_option maxRecDepth 100000 in
theorem zse_20 : Cond.selects zm_20.1.1.cls zm_20.1.1 zm_20.1.1 ∈ zW := zW_in (zch_2 _ (List.mem_of_getElem? (i := 172) rfl)) rfl
theorem znp_21 : znp zm_21 2 := by unfold znp; decide +kernel
set_option maxRecDepth 100000 in
theorem zin_21 : Cond.instanceMethod zm_21.1.1 ∈ zW := zW_in (zch_2 _ (List.mem_of_getElem? (i := 179) rfl)) rfl
set_option maxRecDepth 100000 in
theorem zse_21 : Cond.selects zm_21.1.1.cls zm_21.1.1 zm_21.1.1 ∈ zW := zW_in (zch_2 _ (List.mem_of_getElem? (i := 180) rfl)) rfl
theorem znp_77 : znp zm_77 0 := by unfold znp; decide +kernel
set_option maxRecDepth 100000 in
theorem zin_77 : Cond.instanceMethod zm_77.1.1 ∈ zW := zW_in (zch_2 _ (List.mem_of_getElem? (i := 188) rfl)) rfl
set_option maxRecDepth 100000 in
theorem zse_77 : Cond.selects zm_77.1.1.cls zm_77.1.1 zm_77.1.1 ∈ zW := zW_in (List.mem_of_getElem? (i := 7) (by decide +kernel)) rfl
theorem znp_22 : znp zm_22 3 := by unfold znp; decide +kernel
set_option maxRecDepth 100000 in
theorem zin_22 : Cond.instanceMethod zm_22.1.1 ∈ zW := zW_in (zch_2 _ (List.mem_of_getElem? (i := 191) rfl)) rfl
set_option maxRecDepth 100000 in
theorem zse_22 : Cond.selects zm_22.1.1.cls zm_22.1.1 zm_22.1.1 ∈ zW := zW_in (zch_2 _ (List.mem_of_getElem? (i := 192) rfl)) rfl
theorem znp_81 : znp zm_81 2 := by unfold znp; decide +kernel
set_option maxRecDepth 100000 in
theorem zin_81 : Cond.instanceMethod zm_81.1.1 ∈ zW := zW_in (zch_2 _ (List.mem_of_getElem? (i := 238) rfl)) rfl
set_option maxRecDepth 100000 in
theorem zse_81 : Cond.selects zm_81.1.1.cls zm_81.1.1 zm_81.1.1 ∈ zW := zW_in (zch_2 _ (List.mem_of_getElem? (i := 239) rfl)) rfl
theorem znp_83 : znp zm_83 1 := by unfold znp; decide +kernel
set_option maxRecDepth 100000 in
theorem zst_83 : Cond.static zm_83.1.1 ∈ zW := zW_in (zch_3 _ (List.mem_of_getElem? (i := 24) rfl)) rfl
theorem znp_85 : znp zm_85 2 := by unfold znp; decide +kernel
set_option maxRecDepth 100000 in
theorem zin_85 : Cond.instanceMethod zm_85.1.1 ∈ zW := zW_in (zch_3 _ (List.mem_of_getElem? (i := 33) rfl)) rfl
set_option maxRecDepth 100000 in
theorem zse_85 : Cond.selects zm_85.1.1.cls zm_85.1.1 zm_85.1.1 ∈ zW := zW_in (zch_3 _ (List.mem_of_getElem? (i := 34) rfl)) rfl
theorem znp_14 : znp zm_14 1 := by unfold znp; decide +kernel
set_option maxRecDepth 100000 in
theorem zin_14 : Cond.instanceMethod zm_14.1.1 ∈ zW := zW_in (zch_2 _ (List.mem_of_getElem? (i := 206) rfl)) rfl
set_option maxRecDepth 100000 in
theorem zse_14 : Cond.selects zm_14.1.1.cls zm_14.1.1 zm_14.1.1 ∈ zW := zW_in (zch_2 _ (List.mem_of_getElem? (i := 207) rfl)) rfl
theorem znp_87 : znp zm_87 3 := by unfold znp; decide +kernel
set_option maxRecDepth 100000 in
theorem zin_87 : Cond.instanceMethod zm_87.1.1 ∈ zW := zW_in (zch_3 _ (List.mem_of_getElem? (i := 85) rfl)) rfl
set_option maxRecDepth 100000 in
theorem zse_87 : Cond.selects zm_87.1.1.cls zm_87.1.1 zm_87.1.1 ∈ zW := zW_in (zch_3 _ (List.mem_of_getElem? (i := 86) rfl)) rfl
theorem znp_89 : znp zm_89 3 := by unfold znp; decide +kernel
set_option maxRecDepth 100000 in
theorem zin_89 : Cond.instanceMethod zm_89.1.1 ∈ zW := zW_in (zch_3 _ (List.mem_of_getElem? (i := 109) rfl)) rfl
set_option maxRecDepth 100000 in
theorem zse_89 : Cond.selects zm_89.1.1.cls zm_89.1.1 zm_89.1.1 ∈ zW := zW_in (List.mem_of_getElem? (i := 12) (by decide +kernel)) rfl
theorem znp_90 : znp zm_90 3 := by unfold znp; decide +kernel
set_option maxRecDepth 100000 in
theorem zin_90 : Cond.instanceMethod zm_90.1.1 ∈ zW := zW_in (zch_3 _ (List.mem_of_getElem? (i := 113) rfl)) rfl
set_option maxRecDepth 100000 in
theorem zse_90 : Cond.selects zm_90.1.1.cls zm_90.1.1 zm_90.1.1 ∈ zW := zW_in (List.mem_of_getElem? (i := 13) (by decide +kernel)) rfl
theorem znp_25 : znp zm_25 2 := by unfold znp; decide +kernel
set_option maxRecDepth 100000 in
theorem zin_25 : Cond.instanceMethod zm_25.1.1 ∈ zW := zW_in (zch_2 _ (List.mem_of_getElem? (i := 222) rfl)) rfl
set_option maxRecDepth 100000 in
theorem zse_25 : Cond.selects zm_25.1.1.cls zm_25.1.1 zm_25.1.1 ∈ zW := zW_in (zch_2 _ (List.mem_of_getElem? (i := 223) rfl)) rfl
theorem znp_82 : znp zm_82 2 := by unfold znp; decide +kernel
set_option maxRecDepth 100000 in
theorem zin_82 : Cond.instanceMethod zm_82.1.1 ∈ zW := zW_in (zch_3 _ (List.mem_of_getElem? (i := 18) rfl)) rfl
set_option maxRecDepth 100000 in
theorem zse_82 : Cond.selects zm_82.1.1.cls zm_82.1.1 zm_82.1.1 ∈ zW := zW_in (zch_3 _ (List.mem_of_getElem? (i := 19) rfl)) rfl
theorem znp_96 : znp zm_96 2 := by unfold znp; decide +kernel
set_option maxRecDepth 100000 in
theorem zin_96 : Cond.instanceMethod zm_96.1.1 ∈ zW := zW_in (zch_3 _ (List.mem_of_getElem? (i := 89) rfl)) rfl
set_option maxRecDepth 100000 in
theorem zse_96 : Cond.selects zm_96.1.1.cls zm_96.1.1 zm_96.1.1 ∈ zW := zW_in (zch_3 _ (List.mem_of_getElem? (i := 90) rfl)) rfl
theorem znp_97 : znp zm_97 3 := by unfold znp; decide +kernel
set_option maxRecDepth 100000 in
theorem zin_97 : Cond.instanceMethod zm_97.1.1 ∈ zW := zW_in (zch_3 _ (List.mem_of_getElem? (i := 75) rfl)) rfl
set_option maxRecDepth 100000 in
theorem zse_97 : Cond.selects zm_97.1.1.cls zm_97.1.1 zm_97.1.1 ∈ zW := zW_in (zch_3 _ (List.mem_of_getElem? (i := 76) rfl)) rfl
theorem znp_13 : znp zm_13 0 := by unfold znp; decide +kernel
set_option maxRecDepth 100000 in
theorem zin_13 : Cond.instanceMethod zm_13.1.1 ∈ zW := zW_in (zch_1 _ (List.mem_of_getElem? (i := 31) rfl)) rfl
theorem znp_78 : znp zm_78 0 := by unfold znp; decide +kernel
set_option maxRecDepth 100000 in
theorem zin_78 : Cond.instanceMethod zm_78.1.1 ∈ zW := zW_in (zch_1 _ (List.mem_of_getElem? (i := 104) rfl)) rfl
theorem znp_68 : znp zm_68 1 := by unfold znp; decide +kernel
set_option maxRecDepth 100000 in
theorem zin_68 : Cond.instanceMethod zm_68.1.1 ∈ zW := zW_in (zch_1 _ (List.mem_of_getElem? (i := 154) rfl)) rfl
theorem znp_91 : znp zm_91 3 := by unfold znp; decide +kernel
set_option maxRecDepth 100000 in
theorem zin_91 : Cond.instanceMethod zm_91.1.1 ∈ zW := zW_in (zch_1 _ (List.mem_of_getElem? (i := 176) rfl)) rfl
theorem znp_0 : znp zm_0 3 := by unfold znp; decide +kernel
set_option maxRecDepth 100000 in
theorem zin_0 : Cond.instanceMethod zm_0.1.1 ∈ zW := zW_in (zch_1 _ (List.mem_of_getElem? (i := 192) rfl)) rfl
theorem znp_37 : znp zm_37 4 := by unfold znp; decide +kernel
set_option maxRecDepth 100000 in
theorem zin_37 : Cond.instanceMethod zm_37.1.1 ∈ zW := zW_in (zch_1 _ (List.mem_of_getElem? (i := 237) rfl)) rfl
theorem znp_69 : znp zm_69 1 := by unfold znp; decide +kernel
set_option maxRecDepth 100000 in
theorem zin_69 : Cond.instanceMethod zm_69.1.1 ∈ zW := zW_in (zch_2 _ (List.mem_of_getElem? (i := 139) rfl)) rfl
set_option maxRecDepth 100000 in
theorem zse_69 : Cond.selects zm_69.1.1.cls zm_69.1.1 zm_69.1.1 ∈ zW := zW_in (zch_2 _ (List.mem_of_getElem? (i := 140) rfl)) rfl
theorem znp_19 : znp zm_19 1 := by unfold znp; decide +kernel
set_option maxRecDepth 100000 in
theorem zin_19 : Cond.instanceMethod zm_19.1.1 ∈ zW := zW_in (zch_2 _ (List.mem_of_getElem? (i := 195) rfl)) rfl
set_option maxRecDepth 100000 in
theorem zse_19 : Cond.selects zm_19.1.1.cls zm_19.1.1 zm_19.1.1 ∈ zW := zW_in (zch_2 _ (List.mem_of_getElem? (i := 196) rfl)) rfl
theorem znp_15 : znp zm_15 1 := by unfold znp; decide +kernel
set_option maxRecDepth 100000 in
theorem zin_15 : Cond.instanceMethod zm_15.1.1 ∈ zW := zW_in (zch_2 _ (List.mem_of_getElem? (i := 214) rfl)) rfl
set_option maxRecDepth 100000 in
theorem zse_15 : Cond.selects zm_15.1.1.cls zm_15.1.1 zm_15.1.1 ∈ zW := zW_in (zch_2 _ (List.mem_of_getElem? (i := 215) rfl)) rfl
theorem znp_86 : znp zm_86 0 := by unfold znp; decide +kernel
set_option maxRecDepth 100000 in
theorem zin_86 : Cond.instanceMethod zm_86.1.1 ∈ zW := zW_in (zch_3 _ (List.mem_of_getElem? (i := 41) rfl)) rfl
set_option maxRecDepth 100000 in
theorem zse_86 : Cond.selects zm_86.1.1.cls zm_86.1.1 zm_86.1.1 ∈ zW := zW_in (zch_3 _ (List.mem_of_getElem? (i := 42) rfl)) rfl
theorem znp_115 : znp zm_115 2 := by unfold znp; decide +kernel
set_option maxRecDepth 100000 in
theorem zin_115 : Cond.instanceMethod zm_115.1.1 ∈ zW := zW_in (zch_3 _ (List.mem_of_getElem? (i := 48) rfl)) rfl
set_option maxRecDepth 100000 in
theorem zse_115 : Cond.selects zm_115.1.1.cls zm_115.1.1 zm_115.1.1 ∈ zW := zW_in (List.mem_of_getElem? (i := 8) (by decide +kernel)) rfl
theorem znp_116 : znp zm_116 0 := by unfold znp; decide +kernel
set_option maxRecDepth 100000 in
theorem zin_116 : Cond.instanceMethod zm_116.1.1 ∈ zW := zW_in (zch_3 _ (List.mem_of_getElem? (i := 52) rfl)) rfl
set_option maxRecDepth 100000 in
theorem zse_116 : Cond.selects zm_116.1.1.cls zm_116.1.1 zm_116.1.1 ∈ zW := zW_in (List.mem_of_getElem? (i := 9) (by decide +kernel)) rfl
theorem znp_167 : znp zm_167 0 := by unfold znp; decide +kernel
set_option maxRecDepth 100000 in
theorem zin_167 : Cond.instanceMethod zm_167.1.1 ∈ zW := zW_in (zch_3 _ (List.mem_of_getElem? (i := 60) rfl)) rfl
set_option maxRecDepth 100000 in
theorem zse_167 : Cond.selects zm_167.1.1.cls zm_167.1.1 zm_167.1.1 ∈ zW := zW_in (List.mem_of_getElem? (i := 10) (by decide +kernel)) rfl
theorem znp_99 : znp zm_99 1 := by unfold znp; decide +kernel
set_option maxRecDepth 100000 in
theorem zin_99 : Cond.instanceMethod zm_99.1.1 ∈ zW := zW_in (zch_3 _ (List.mem_of_getElem? (i := 63) rfl)) rfl
set_option maxRecDepth 100000 in
theorem zse_99 : Cond.selects zm_99.1.1.cls zm_99.1.1 zm_99.1.1 ∈ zW := zW_in (zch_3 _ (List.mem_of_getElem? (i := 64) rfl)) rfl
theorem znp_168 : znp zm_168 1 := by unfold znp; decide +kernel
set_option maxRecDepth 100000 in
theorem zin_168 : Cond.instanceMethod zm_168.1.1 ∈ zW := zW_in (zch_3 _ (List.mem_of_getElem? (i := 72) rfl)) rfl
set_option maxRecDepth 100000 in
theorem zse_168 : Cond.selects zm_168.1.1.cls zm_168.1.1 zm_168.1.1 ∈ zW := zW_in (List.mem_of_getElem? (i := 11) (by decide +kernel)) rfl
theorem znp_98 : znp zm_98 2 := by unfold znp; decide +kernel
set_option maxRecDepth 100000 in
theorem zin_98 : Cond.instanceMethod zm_98.1.1 ∈ zW := zW_in (zch_3 _ (List.mem_of_getElem? (i := 93) rfl)) rfl
set_option maxRecDepth 100000 in
theorem zse_98 : Cond.selects zm_98.1.1.cls zm_98.1.1 zm_98.1.1 ∈ zW := zW_in (zch_3 _ (List.mem_of_getElem? (i := 94) rfl)) rfl
theorem znp_88 : znp zm_88 1 := by unfold znp; decide +kernel
set_option maxRecDepth 100000 in
theorem zin_88 : Cond.instanceMethod zm_88.1.1 ∈ zW := zW_in (zch_3 _ (List.mem_of_getElem? (i := 102) rfl)) rfl
set_option maxRecDepth 100000 in
theorem zse_88 : Cond.selects zm_88.1.1.cls zm_88.1.1 zm_88.1.1 ∈ zW := zW_in (zch_3 _ (List.mem_of_getElem? (i := 103) rfl)) rfl
theorem znp_121 : znp zm_121 2 := by unfold znp; decide +kernel
set_option maxRecDepth 100000 in
theorem zin_121 : Cond.instanceMethod zm_121.1.1 ∈ zW := zW_in (zch_3 _ (List.mem_of_getElem? (i := 125) rfl)) rfl
set_option maxRecDepth 100000 in
theorem zse_121 : Cond.selects zm_121.1.1.cls zm_121.1.1 zm_121.1.1 ∈ zW := zW_in (List.mem_of_getElem? (i := 14) (by decide +kernel)) rfl
theorem znp_1 : znp zm_1 2 := by unfold znp; decide +kernel
set_option maxRecDepth 100000 in
theorem zin_1 : Cond.instanceMethod zm_1.1.1 ∈ zW := zW_in (zch_3 _ (List.mem_of_getElem? (i := 142) rfl)) rfl
set_option maxRecDepth 100000 in
theorem zse_1 : Cond.selects zm_1.1.1.cls zm_1.1.1 zm_1.1.1 ∈ zW := zW_in (zch_3 _ (List.mem_of_getElem? (i := 143) rfl)) rfl
theorem znp_5 : znp zm_5 0 := by unfold znp; decide +kernel
set_option maxRecDepth 100000 in
theorem zin_5 : Cond.instanceMethod zm_5.1.1 ∈ zW := zW_in (zch_3 _ (List.mem_of_getElem? (i := 155) rfl)) rfl
set_option maxRecDepth 100000 in
theorem zse_5 : Cond.selects zm_5.1.1.cls zm_5.1.1 zm_5.1.1 ∈ zW := zW_in (zch_3 _ (List.mem_of_getElem? (i := 156) rfl)) rfl
theorem znp_169 : znp zm_169 1 := by unfold znp; decide +kernel
set_option maxRecDepth 100000 in
theorem zin_169 : Cond.instanceMethod zm_169.1.1 ∈ zW := zW_in (zch_3 _ (List.mem_of_getElem? (i := 189) rfl)) rfl
set_option maxRecDepth 100000 in
theorem zse_169 : Cond.selects zm_169.1.1.cls zm_169.1.1 zm_169.1.1 ∈ zW := zW_in (List.mem_of_getElem? (i := 20) (by decide +kernel)) rfl
theorem znp_126 : znp zm_126 0 := by unfold znp; decide +kernel
set_option maxRecDepth 100000 in
theorem zin_126 : Cond.instanceMethod zm_126.1.1 ∈ zW := zW_in (zch_3 _ (List.mem_of_getElem? (i := 197) rfl)) rfl
set_option maxRecDepth 100000 in
theorem zse_126 : Cond.selects zm_126.1.1.cls zm_126.1.1 zm_126.1.1 ∈ zW := zW_in (List.mem_of_getElem? (i := 21) (by decide +kernel)) rfl
theorem znp_3 : znp zm_3 1 := by unfold znp; decide +kernel
set_option maxRecDepth 100000 in
theorem zin_3 : Cond.instanceMethod zm_3.1.1 ∈ zW := zW_in (zch_3 _ (List.mem_of_getElem? (i := 204) rfl)) rfl
set_option maxRecDepth 100000 in
theorem zse_3 : Cond.selects zm_3.1.1.cls zm_3.1.1 zm_3.1.1 ∈ zW := zW_in (zch_3 _ (List.mem_of_getElem? (i := 205) rfl)) rfl
theorem znp_129 : znp zm_129 1 := by unfold znp; decide +kernel
set_option maxRecDepth 100000 in
theorem zin_129 : Cond.instanceMethod zm_129.1.1 ∈ zW := zW_in (zch_3 _ (List.mem_of_getElem? (i := 214) rfl)) rfl
set_option maxRecDepth 100000 in
theorem zse_129 : Cond.selects zm_129.1.1.cls zm_129.1.1 zm_129.1.1 ∈ zW := zW_in (List.mem_of_getElem? (i := 22) (by decide +kernel)) rfl
theorem znp_103 : znp zm_103 1 := by unfold znp; decide +kernel
set_option maxRecDepth 100000 in
theorem zin_103 : Cond.instanceMethod zm_103.1.1 ∈ zW := zW_in (zch_3 _ (List.mem_of_getElem? (i := 226) rfl)) rfl
set_option maxRecDepth 100000 in
theorem zse_103 : Cond.selects zm_103.1.1.cls zm_103.1.1 zm_103.1.1 ∈ zW := zW_in (zch_3 _ (List.mem_of_getElem? (i := 227) rfl)) rfl
theorem znp_132 : znp zm_132 1 := by unfold znp; decide +kernel
set_option maxRecDepth 100000 in
theorem zin_132 : Cond.instanceMethod zm_132.1.1 ∈ zW := zW_in (zch_3 _ (List.mem_of_getElem? (i := 232) rfl)) rfl
set_option maxRecDepth 100000 in
theorem zse_132 : Cond.selects zm_132.1.1.cls zm_132.1.1 zm_132.1.1 ∈ zW := zW_in (List.mem_of_getElem? (i := 23) (by decide +kernel)) rfl
theorem znp_100 : znp zm_100 1 := by unfold znp; decide +kernel
set_option maxRecDepth 100000 in
theorem zin_100 : Cond.instanceMethod zm_100.1.1 ∈ zW := zW_in (zch_4 _ (List.mem_of_getElem? (i := 3) rfl)) rfl
set_option maxRecDepth 100000 in
theorem zse_100 : Cond.selects zm_100.1.1.cls zm_100.1.1 zm_100.1.1 ∈ zW := zW_in (zch_4 _ (List.mem_of_getElem? (i := 4) rfl)) rfl
theorem znp_101 : znp zm_101 1 := by unfold znp; decide +kernel
set_option maxRecDepth 100000 in
theorem zin_101 : Cond.instanceMethod zm_101.1.1 ∈ zW := zW_in (zch_4 _ (List.mem_of_getElem? (i := 7) rfl)) rfl
set_option maxRecDepth 100000 in
theorem zse_101 : Cond.selects zm_101.1.1.cls zm_101.1.1 zm_101.1.1 ∈ zW := zW_in (zch_4 _ (List.mem_of_getElem? (i := 8) rfl)) rfl
theorem znp_102 : znp zm_102 1 := by unfold znp; decide +kernel
set_option maxRecDepth 100000 in
theorem zin_102 : Cond.instanceMethod zm_102.1.1 ∈ zW := zW_in (zch_4 _ (List.mem_of_getElem? (i := 16) rfl)) rfl
set_option maxRecDepth 100000 in
theorem zse_102 : Cond.selects zm_102.1.1.cls zm_102.1.1 zm_102.1.1 ∈ zW := zW_in (zch_4 _ (List.mem_of_getElem? (i := 17) rfl)) rfl
theorem znp_139 : znp zm_139 2 := by unfold znp; decide +kernel
set_option maxRecDepth 100000 in
theorem zin_139 : Cond.instanceMethod zm_139.1.1 ∈ zW := zW_in (zch_4 _ (List.mem_of_getElem? (i := 35) rfl)) rfl
set_option maxRecDepth 100000 in
theorem zse_139 : Cond.selects zm_139.1.1.cls zm_139.1.1 zm_139.1.1 ∈ zW := zW_in (List.mem_of_getElem? (i := 24) (by decide +kernel)) rfl
theorem znp_142 : znp zm_142 0 := by unfold znp; decide +kernel
set_option maxRecDepth 100000 in
theorem zin_142 : Cond.instanceMethod zm_142.1.1 ∈ zW := zW_in (zch_4 _ (List.mem_of_getElem? (i := 43) rfl)) rfl
set_option maxRecDepth 100000 in
theorem zse_142 : Cond.selects zm_142.1.1.cls zm_142.1.1 zm_142.1.1 ∈ zW := zW_in (List.mem_of_getElem? (i := 25) (by decide +kernel)) rfl
theorem znp_141 : znp zm_141 1 := by unfold znp; decide +kernel
set_option maxRecDepth 100000 in
theorem zin_141 : Cond.instanceMethod zm_141.1.1 ∈ zW := zW_in (zch_4 _ (List.mem_of_getElem? (i := 47) rfl)) rfl
set_option maxRecDepth 100000 in
theorem zse_141 : Cond.selects zm_141.1.1.cls zm_141.1.1 zm_141.1.1 ∈ zW := zW_in (List.mem_of_getElem? (i := 26) (by decide +kernel)) rfl
theorem znp_38 : znp zm_38 0 := by unfold znp; decide +kernel
set_option maxRecDepth 100000 in
theorem zin_38 : Cond.instanceMethod zm_38.1.1 ∈ zW := zW_in (zch_4 _ (List.mem_of_getElem? (i := 55) rfl)) rfl
set_option maxRecDepth 100000 in
theorem zse_38 : Cond.selects zm_38.1.1.cls zm_38.1.1 zm_38.1.1 ∈ zW := zW_in (zch_4 _ (List.mem_of_getElem? (i := 56) rfl)) rfl
theorem znp_40 : znp zm_40 0 := by unfold znp; decide +kernel
set_option maxRecDepth 100000 in
theorem zin_40 : Cond.instanceMethod zm_40.1.1 ∈ zW := zW_in (zch_4 _ (List.mem_of_getElem? (i := 59) rfl)) rfl
set_option maxRecDepth 100000 in
theorem zse_40 : Cond.selects zm_40.1.1.cls zm_40.1.1 zm_40.1.1 ∈ zW := zW_in (zch_4 _ (List.mem_of_getElem? (i := 60) rfl)) rfl
theorem znp_50 : znp zm_50 0 := by unfold znp; decide +kernel
set_option maxRecDepth 100000 in
theorem zin_50 : Cond.instanceMethod zm_50.1.1 ∈ zW := zW_in (zch_4 _ (List.mem_of_getElem? (i := 115) rfl)) rfl
set_option maxRecDepth 100000 in
theorem zse_50 : Cond.selects zm_50.1.1.cls zm_50.1.1 zm_50.1.1 ∈ zW := zW_in (zch_4 _ (List.mem_of_getElem? (i := 116) rfl)) rfl
theorem znp_52 : znp zm_52 0 := by unfold znp; decide +kernel
set_option maxRecDepth 100000 in
theorem zin_52 : Cond.instanceMethod zm_52.1.1 ∈ zW := zW_in (zch_4 _ (List.mem_of_getElem? (i := 151) rfl)) rfl
set_option maxRecDepth 100000 in
theorem zse_52 : Cond.selects zm_52.1.1.cls zm_52.1.1 zm_52.1.1 ∈ zW := zW_in (zch_4 _ (List.mem_of_getElem? (i := 152) rfl)) rfl
theorem znp_53 : znp zm_53 2 := by unfold znp; decide +kernel
set_option maxRecDepth 100000 in
theorem zin_53 : Cond.instanceMethod zm_53.1.1 ∈ zW := zW_in (zch_4 _ (List.mem_of_getElem? (i := 179) rfl)) rfl
set_option maxRecDepth 100000 in
theorem zse_53 : Cond.selects zm_53.1.1.cls zm_53.1.1 zm_53.1.1 ∈ zW := zW_in (zch_4 _ (List.mem_of_getElem? (i := 180) rfl)) rfl
theorem znp_149 : znp zm_149 1 := by unfold znp; decide +kernel
set_option maxRecDepth 100000 in
theorem zin_149 : Cond.instanceMethod zm_149.1.1 ∈ zW := zW_in (zch_4 _ (List.mem_of_getElem? (i := 184) rfl)) rfl
set_option maxRecDepth 100000 in
theorem zse_149 : Cond.selects zm_149.1.1.cls zm_149.1.1 zm_149.1.1 ∈ zW := zW_in (List.mem_of_getElem? (i := 34) (by decide +kernel)) rfl
theorem znp_56 : znp zm_56 0 := by unfold znp; decide +kernel
set_option maxRecDepth 100000 in
theorem zin_56 : Cond.instanceMethod zm_56.1.1 ∈ zW := zW_in (zch_4 _ (List.mem_of_getElem? (i := 192) rfl)) rfl
set_option maxRecDepth 100000 in
theorem zse_56 : Cond.selects zm_56.1.1.cls zm_56.1.1 zm_56.1.1 ∈ zW := zW_in (zch_4 _ (List.mem_of_getElem? (i := 193) rfl)) rfl
theorem znp_58 : znp zm_58 0 := by unfold znp; decide +kernel
set_option maxRecDepth 100000 in
theorem zin_58 : Cond.instanceMethod zm_58.1.1 ∈ zW := zW_in (zch_4 _ (List.mem_of_getElem? (i := 205) rfl)) rfl
set_option maxRecDepth 100000 in
theorem zse_58 : Cond.selects zm_58.1.1.cls zm_58.1.1 zm_58.1.1 ∈ zW := zW_in (zch_4 _ (List.mem_of_getElem? (i := 206) rfl)) rfl
theorem znp_147 : znp zm_147 1 := by unfold znp; decide +kernel
set_option maxRecDepth 100000 in
theorem zin_147 : Cond.instanceMethod zm_147.1.1 ∈ zW := zW_in (zch_4 _ (List.mem_of_getElem? (i := 220) rfl)) rfl
set_option maxRecDepth 100000 in
theorem zse_147 : Cond.selects zm_147.1.1.cls zm_147.1.1 zm_147.1.1 ∈ zW := zW_in (List.mem_of_getElem? (i := 38) (by decide +kernel)) rfl
theorem znp_61 : znp zm_61 1 := by unfold znp; decide +kernel
set_option maxRecDepth 100000 in
theorem zin_61 : Cond.instanceMethod zm_61.1.1 ∈ zW := zW_in (zch_4 _ (List.mem_of_getElem? (i := 227) rfl)) rfl
set_option maxRecDepth 100000 in
theorem zse_61 : Cond.selects zm_61.1.1.cls zm_61.1.1 zm_61.1.1 ∈ zW := zW_in (zch_4 _ (List.mem_of_getElem? (i := 228) rfl)) rfl
theorem znp_10 : znp zm_10 0 := by unfold znp; decide +kernel
set_option maxRecDepth 100000 in
theorem zin_10 : Cond.instanceMethod zm_10.1.1 ∈ zW := zW_in (zch_5 _ (List.mem_of_getElem? (i := 21) rfl)) rfl
set_option maxRecDepth 100000 in
theorem zse_10 : Cond.selects zm_10.1.1.cls zm_10.1.1 zm_10.1.1 ∈ zW := zW_in (zch_5 _ (List.mem_of_getElem? (i := 22) rfl)) rfl
theorem znp_152 : znp zm_152 1 := by unfold znp; decide +kernel
set_option maxRecDepth 100000 in
theorem zin_152 : Cond.instanceMethod zm_152.1.1 ∈ zW := zW_in (zch_5 _ (List.mem_of_getElem? (i := 39) rfl)) rfl
set_option maxRecDepth 100000 in
theorem zse_152 : Cond.selects zm_152.1.1.cls zm_152.1.1 zm_152.1.1 ∈ zW := zW_in (List.mem_of_getElem? (i := 47) (by decide +kernel)) rfl
theorem znp_153 : znp zm_153 2 := by unfold znp; decide +kernel
set_option maxRecDepth 100000 in
theorem zin_153 : Cond.instanceMethod zm_153.1.1 ∈ zW := zW_in (zch_5 _ (List.mem_of_getElem? (i := 43) rfl)) rfl
set_option maxRecDepth 100000 in
theorem zse_153 : Cond.selects zm_153.1.1.cls zm_153.1.1 zm_153.1.1 ∈ zW := zW_in (List.mem_of_getElem? (i := 48) (by decide +kernel)) rfl
theorem znp_154 : znp zm_154 3 := by unfold znp; decide +kernel
set_option maxRecDepth 100000 in
theorem zst_154 : Cond.static zm_154.1.1 ∈ zW := zW_in (zch_5 _ (List.mem_of_getElem? (i := 46) rfl)) rfl
theorem znp_161 : znp zm_161 1 := by unfold znp; decide +kernel
set_option maxRecDepth 100000 in
theorem zin_161 : Cond.instanceMethod zm_161.1.1 ∈ zW := zW_in (zch_5 _ (List.mem_of_getElem? (i := 74) rfl)) rfl
set_option maxRecDepth 100000 in
theorem zse_161 : Cond.selects zm_161.1.1.cls zm_161.1.1 zm_161.1.1 ∈ zW := zW_in (List.mem_of_getElem? (i := 49) (by decide +kernel)) rfl
theorem znp_163 : znp zm_163 1 := by unfold znp; decide +kernel
set_option maxRecDepth 100000 in
theorem zin_163 : Cond.instanceMethod zm_163.1.1 ∈ zW := zW_in (zch_5 _ (List.mem_of_getElem? (i := 82) rfl)) rfl
set_option maxRecDepth 100000 in
theorem zse_163 : Cond.selects zm_163.1.1.cls zm_163.1.1 zm_163.1.1 ∈ zW := zW_in (List.mem_of_getElem? (i := 50) (by decide +kernel)) rfl
theorem znp_84 : znp zm_84 2 := by unfold znp; decide +kernel
set_option maxRecDepth 100000 in
theorem zin_84 : Cond.instanceMethod zm_84.1.1 ∈ zW := zW_in (zch_5 _ (List.mem_of_getElem? (i := 85) rfl)) rfl
set_option maxRecDepth 100000 in
theorem zse_84 : Cond.selects zm_84.1.1.cls zm_84.1.1 zm_84.1.1 ∈ zW := zW_in (zch_5 _ (List.mem_of_getElem? (i := 86) rfl)) rfl
theorem znp_79 : znp zm_79 1 := by unfold znp; decide +kernel
set_option maxRecDepth 100000 in
theorem zin_79 : Cond.instanceMethod zm_79.1.1 ∈ zW := zW_in (zch_5 _ (List.mem_of_getElem? (i := 93) rfl)) rfl
set_option maxRecDepth 100000 in
theorem zse_79 : Cond.selects zm_79.1.1.cls zm_79.1.1 zm_79.1.1 ∈ zW := zW_in (zch_5 _ (List.mem_of_getElem? (i := 94) rfl)) rfl
theorem znp_171 : znp zm_171 3 := by unfold znp; decide +kernel
set_option maxRecDepth 100000 in
theorem zst_171 : Cond.static zm_171.1.1 ∈ zW := zW_in (zch_5 _ (List.mem_of_getElem? (i := 184) rfl)) rfl
theorem znp_173 : znp zm_173 1 := by unfold znp; decide +kernel
set_option maxRecDepth 100000 in
theorem zst_173 : Cond.static zm_173.1.1 ∈ zW := zW_in (zch_5 _ (List.mem_of_getElem? (i := 217) rfl)) rfl
theorem znp_182 : znp zm_182 0 := by unfold znp; decide +kernel
set_option maxRecDepth 100000 in
theorem zin_182 : Cond.instanceMethod zm_182.1.1 ∈ zW := zW_in (zch_5 _ (List.mem_of_getElem? (i := 229) rfl)) rfl
set_option maxRecDepth 100000 in
theorem zse_182 : Cond.selects zm_182.1.1.cls zm_182.1.1 zm_182.1.1 ∈ zW := zW_in (List.mem_of_getElem? (i := 56) (by decide +kernel)) rfl
theorem znp_183 : znp zm_183 0 := by unfold znp; decide +kernel
set_option maxRecDepth 100000 in
theorem zin_183 : Cond.instanceMethod zm_183.1.1 ∈ zW := zW_in (zch_5 _ (List.mem_of_getElem? (i := 225) rfl)) rfl
set_option maxRecDepth 100000 in
theorem zse_183 : Cond.selects zm_183.1.1.cls zm_183.1.1 zm_183.1.1 ∈ zW := zW_in (List.mem_of_getElem? (i := 55) (by decide +kernel)) rfl
theorem znp_181 : znp zm_181 1 := by unfold znp; decide +kernel
set_option maxRecDepth 100000 in
theorem zin_181 : Cond.instanceMethod zm_181.1.1 ∈ zW := zW_in (zch_5 _ (List.mem_of_getElem? (i := 214) rfl)) rfl
set_option maxRecDepth 100000 in
theorem zse_181 : Cond.selects zm_181.1.1.cls zm_181.1.1 zm_181.1.1 ∈ zW := zW_in (List.mem_of_getElem? (i := 53) (by decide +kernel)) rfl
theorem znp_184 : znp zm_184 1 := by unfold znp; decide +kernel
set_option maxRecDepth 100000 in
theorem zin_184 : Cond.instanceMethod zm_184.1.1 ∈ zW := zW_in (zch_5 _ (List.mem_of_getElem? (i := 235) rfl)) rfl
set_option maxRecDepth 100000 in
theorem zse_184 : Cond.selects zm_184.1.1.cls zm_184.1.1 zm_184.1.1 ∈ zW := zW_in (List.mem_of_getElem? (i := 57) (by decide +kernel)) rfl
theorem znp_185 : znp zm_185 0 := by unfold znp; decide +kernel
set_option maxRecDepth 100000 in
theorem zin_185 : Cond.instanceMethod zm_185.1.1 ∈ zW := zW_in (zch_5 _ (List.mem_of_getElem? (i := 221) rfl)) rfl
set_option maxRecDepth 100000 in
theorem zse_185 : Cond.selects zm_185.1.1.cls zm_185.1.1 zm_185.1.1 ∈ zW := zW_in (List.mem_of_getElem? (i := 54) (by decide +kernel)) rfl
theorem znp_186 : znp zm_186 0 := by unfold znp; decide +kernel
set_option maxRecDepth 100000 in
theorem zin_186 : Cond.instanceMethod zm_186.1.1 ∈ zW := zW_in (zch_5 _ (List.mem_of_getElem? (i := 209) rfl)) rfl
set_option maxRecDepth 100000 in
theorem zse_186 : Cond.selects zm_186.1.1.cls zm_186.1.1 zm_186.1.1 ∈ zW := zW_in (List.mem_of_getElem? (i := 52) (by decide +kernel)) rfl
theorem znp_188 : znp zm_188 2 := by unfold znp; decide +kernel
set_option maxRecDepth 100000 in
theorem zin_188 : Cond.instanceMethod zm_188.1.1 ∈ zW := zW_in (zch_6 _ (List.mem_of_getElem? (i := 34) rfl)) rfl
set_option maxRecDepth 100000 in
theorem zse_188 : Cond.selects zm_188.1.1.cls zm_188.1.1 zm_188.1.1 ∈ zW := zW_in (List.mem_of_getElem? (i := 64) (by decide +kernel)) rfl
theorem znp_172 : znp zm_172 2 := by unfold znp; decide +kernel
set_option maxRecDepth 100000 in
theorem zst_172 : Cond.static zm_172.1.1 ∈ zW := zW_in (zch_6 _ (List.mem_of_getElem? (i := 26) rfl)) rfl
theorem znp_189 : znp zm_189 2 := by unfold znp; decide +kernel
set_option maxRecDepth 100000 in
theorem zin_189 : Cond.instanceMethod zm_189.1.1 ∈ zW := zW_in (zch_6 _ (List.mem_of_getElem? (i := 19) rfl)) rfl
set_option maxRecDepth 100000 in
theorem zse_189 : Cond.selects zm_189.1.1.cls zm_189.1.1 zm_189.1.1 ∈ zW := zW_in (List.mem_of_getElem? (i := 61) (by decide +kernel)) rfl
theorem znp_192 : znp zm_192 2 := by unfold znp; decide +kernel
set_option maxRecDepth 100000 in
theorem zin_192 : Cond.instanceMethod zm_192.1.1 ∈ zW := zW_in (zch_6 _ (List.mem_of_getElem? (i := 23) rfl)) rfl
set_option maxRecDepth 100000 in
theorem zse_192 : Cond.selects zm_192.1.1.cls zm_192.1.1 zm_192.1.1 ∈ zW := zW_in (List.mem_of_getElem? (i := 62) (by decide +kernel)) rfl
theorem znp_190 : znp zm_190 3 := by unfold znp; decide +kernel
set_option maxRecDepth 100000 in
theorem zin_190 : Cond.instanceMethod zm_190.1.1 ∈ zW := zW_in (zch_6 _ (List.mem_of_getElem? (i := 30) rfl)) rfl
set_option maxRecDepth 100000 in
theorem zse_190 : Cond.selects zm_190.1.1.cls zm_190.1.1 zm_190.1.1 ∈ zW := zW_in (List.mem_of_getElem? (i := 63) (by decide +kernel)) rfl
theorem znp_191 : znp zm_191 3 := by unfold znp; decide +kernel
set_option maxRecDepth 100000 in
theorem zin_191 : Cond.instanceMethod zm_191.1.1 ∈ zW := zW_in (zch_6 _ (List.mem_of_getElem? (i := 38) rfl)) rfl
set_option maxRecDepth 100000 in
theorem zse_191 : Cond.selects zm_191.1.1.cls zm_191.1.1 zm_191.1.1 ∈ zW := zW_in (List.mem_of_getElem? (i := 65) (by decide +kernel)) rfl
theorem znp_195 : znp zm_195 3 := by unfold znp; decide +kernel
set_option maxRecDepth 100000 in
theorem zin_195 : Cond.instanceMethod zm_195.1.1 ∈ zW := zW_in (zch_6 _ (List.mem_of_getElem? (i := 50) rfl)) rfl
set_option maxRecDepth 100000 in
theorem zse_195 : Cond.selects zm_195.1.1.cls zm_195.1.1 zm_195.1.1 ∈ zW := zW_in (List.mem_of_getElem? (i := 67) (by decide +kernel)) rfl
theorem znp_194 : znp zm_194 3 := by unfold znp; decide +kernel
set_option maxRecDepth 100000 in
theorem zin_194 : Cond.instanceMethod zm_194.1.1 ∈ zW := zW_in (zch_6 _ (List.mem_of_getElem? (i := 15) rfl)) rfl
set_option maxRecDepth 100000 in
theorem zse_194 : Cond.selects zm_194.1.1.cls zm_194.1.1 zm_194.1.1 ∈ zW := zW_in (List.mem_of_getElem? (i := 60) (by decide +kernel)) rfl
theorem znp_193 : znp zm_193 2 := by unfold znp; decide +kernel
set_option maxRecDepth 100000 in
theorem zin_193 : Cond.instanceMethod zm_193.1.1 ∈ zW := zW_in (zch_6 _ (List.mem_of_getElem? (i := 95) rfl)) rfl
set_option maxRecDepth 100000 in
theorem zse_193 : Cond.selects zm_193.1.1.cls zm_193.1.1 zm_193.1.1 ∈ zW := zW_in (List.mem_of_getElem? (i := 75) (by decide +kernel)) rfl
theorem znp_196 : znp zm_196 3 := by unfold znp; decide +kernel
set_option maxRecDepth 100000 in
theorem zin_196 : Cond.instanceMethod zm_196.1.1 ∈ zW := zW_in (zch_6 _ (List.mem_of_getElem? (i := 46) rfl)) rfl
set_option maxRecDepth 100000 in
theorem zse_196 : Cond.selects zm_196.1.1.cls zm_196.1.1 zm_196.1.1 ∈ zW := zW_in (List.mem_of_getElem? (i := 66) (by decide +kernel)) rfl
theorem znp_197 : znp zm_197 3 := by unfold znp; decide +kernel
set_option maxRecDepth 100000 in
theorem zin_197 : Cond.instanceMethod zm_197.1.1 ∈ zW := zW_in (zch_6 _ (List.mem_of_getElem? (i := 91) rfl)) rfl
set_option maxRecDepth 100000 in
theorem zse_197 : Cond.selects zm_197.1.1.cls zm_197.1.1 zm_197.1.1 ∈ zW := zW_in (List.mem_of_getElem? (i := 74) (by decide +kernel)) rfl
theorem znp_199 : znp zm_199 2 := by unfold znp; decide +kernel
set_option maxRecDepth 100000 in
theorem zin_199 : Cond.instanceMethod zm_199.1.1 ∈ zW := zW_in (zch_6 _ (List.mem_of_getElem? (i := 83) rfl)) rfl
set_option maxRecDepth 100000 in
theorem zse_199 : Cond.selects zm_199.1.1.cls zm_199.1.1 zm_199.1.1 ∈ zW := zW_in (List.mem_of_getElem? (i := 72) (by decide +kernel)) rfl
theorem znp_177 : znp zm_177 1 := by unfold znp; decide +kernel
set_option maxRecDepth 100000 in
theorem zin_177 : Cond.instanceMethod zm_177.1.1 ∈ zW := zW_in (zch_6 _ (List.mem_of_getElem? (i := 3) rfl)) rfl
set_option maxRecDepth 100000 in
theorem zse_177 : Cond.selects zm_177.1.1.cls zm_177.1.1 zm_177.1.1 ∈ zW := zW_in (List.mem_of_getElem? (i := 58) (by decide +kernel)) rfl
theorem znp_178 : znp zm_178 1 := by unfold znp; decide +kernel
set_option maxRecDepth 100000 in
theorem zin_178 : Cond.instanceMethod zm_178.1.1 ∈ zW := zW_in (zch_6 _ (List.mem_of_getElem? (i := 11) rfl)) rfl
set_option maxRecDepth 100000 in
theorem zse_178 : Cond.selects zm_178.1.1.cls zm_178.1.1 zm_178.1.1 ∈ zW := zW_in (List.mem_of_getElem? (i := 59) (by decide +kernel)) rfl
theorem znp_204 : znp zm_204 1 := by unfold znp; decide +kernel
set_option maxRecDepth 100000 in
theorem zin_204 : Cond.instanceMethod zm_204.1.1 ∈ zW := zW_in (zch_6 _ (List.mem_of_getElem? (i := 58) rfl)) rfl
set_option maxRecDepth 100000 in
theorem zse_204 : Cond.selects zm_204.1.1.cls zm_204.1.1 zm_204.1.1 ∈ zW := zW_in (List.mem_of_getElem? (i := 68) (by decide +kernel)) rfl
theorem znp_207 : znp zm_207 0 := by unfold znp; decide +kernel
set_option maxRecDepth 100000 in
theorem zin_207 : Cond.instanceMethod zm_207.1.1 ∈ zW := zW_in (zch_6 _ (List.mem_of_getElem? (i := 67) rfl)) rfl
set_option maxRecDepth 100000 in
theorem zse_207 : Cond.selects zm_207.1.1.cls zm_207.1.1 zm_207.1.1 ∈ zW := zW_in (List.mem_of_getElem? (i := 69) (by decide +kernel)) rfl
theorem znp_206 : znp zm_206 0 := by unfold znp; decide +kernel
set_option maxRecDepth 100000 in
theorem zin_206 : Cond.instanceMethod zm_206.1.1 ∈ zW := zW_in (zch_6 _ (List.mem_of_getElem? (i := 71) rfl)) rfl
set_option maxRecDepth 100000 in
theorem zse_206 : Cond.selects zm_206.1.1.cls zm_206.1.1 zm_206.1.1 ∈ zW := zW_in (List.mem_of_getElem? (i := 70) (by decide +kernel)) rfl
theorem znp_200 : znp zm_200 1 := by unfold znp; decide +kernel
set_option maxRecDepth 100000 in
theorem zin_200 : Cond.instanceMethod zm_200.1.1 ∈ zW := zW_in (zch_6 _ (List.mem_of_getElem? (i := 79) rfl)) rfl
set_option maxRecDepth 100000 in
theorem zse_200 : Cond.selects zm_200.1.1.cls zm_200.1.1 zm_200.1.1 ∈ zW := zW_in (List.mem_of_getElem? (i := 71) (by decide +kernel)) rfl
theorem znp_174 : znp zm_174 1 := by unfold znp; decide +kernel
set_option maxRecDepth 100000 in
theorem zin_174 : Cond.instanceMethod zm_174.1.1 ∈ zW := zW_in (zch_6 _ (List.mem_of_getElem? (i := 87) rfl)) rfl
set_option maxRecDepth 100000 in
theorem zse_174 : Cond.selects zm_174.1.1.cls zm_174.1.1 zm_174.1.1 ∈ zW := zW_in (List.mem_of_getElem? (i := 73) (by decide +kernel)) rfl
theorem znp_198 : znp zm_198 2 := by unfold znp; decide +kernel
set_option maxRecDepth 100000 in
theorem zin_198 : Cond.instanceMethod zm_198.1.1 ∈ zW := zW_in (zch_6 _ (List.mem_of_getElem? (i := 99) rfl)) rfl
set_option maxRecDepth 100000 in
theorem zse_198 : Cond.selects zm_198.1.1.cls zm_198.1.1 zm_198.1.1 ∈ zW := zW_in (List.mem_of_getElem? (i := 76) (by decide +kernel)) rfl
theorem znp_210 : znp zm_210 2 := by unfold znp; decide +kernel
set_option maxRecDepth 100000 in
theorem zin_210 : Cond.instanceMethod zm_210.1.1 ∈ zW := zW_in (zch_6 _ (List.mem_of_getElem? (i := 111) rfl)) rfl
set_option maxRecDepth 100000 in
theorem zse_210 : Cond.selects zm_210.1.1.cls zm_210.1.1 zm_210.1.1 ∈ zW := zW_in (List.mem_of_getElem? (i := 78) (by decide +kernel)) rfl
theorem znp_211 : znp zm_211 0 := by unfold znp; decide +kernel
set_option maxRecDepth 100000 in
theorem zin_211 : Cond.instanceMethod zm_211.1.1 ∈ zW := zW_in (zch_6 _ (List.mem_of_getElem? (i := 107) rfl)) rfl
set_option maxRecDepth 100000 in
theorem zse_211 : Cond.selects zm_211.1.1.cls zm_211.1.1 zm_211.1.1 ∈ zW := zW_in (List.mem_of_getElem? (i := 77) (by decide +kernel)) rfl
theorem znp_218 : znp zm_218 2 := by unfold znp; decide +kernel
set_option maxRecDepth 100000 in
theorem zin_218 : Cond.instanceMethod zm_218.1.1 ∈ zW := zW_in (zch_6 _ (List.mem_of_getElem? (i := 151) rfl)) rfl
set_option maxRecDepth 100000 in
theorem zse_218 : Cond.selects zm_218.1.1.cls zm_218.1.1 zm_218.1.1 ∈ zW := zW_in (List.mem_of_getElem? (i := 83) (by decide +kernel)) rfl
theorem znp_217 : znp zm_217 3 := by unfold znp; decide +kernel
set_option maxRecDepth 100000 in
theorem zin_217 : Cond.instanceMethod zm_217.1.1 ∈ zW := zW_in (zch_6 _ (List.mem_of_getElem? (i := 143) rfl)) rfl
set_option maxRecDepth 100000 in
theorem zse_217 : Cond.selects zm_217.1.1.cls zm_217.1.1 zm_217.1.1 ∈ zW := zW_in (List.mem_of_getElem? (i := 81) (by decide +kernel)) rfl
theorem znp_220 : znp zm_220 0 := by unfold znp; decide +kernel
set_option maxRecDepth 100000 in
theorem zin_220 : Cond.instanceMethod zm_220.1.1 ∈ zW := zW_in (zch_6 _ (List.mem_of_getElem? (i := 139) rfl)) rfl
set_option maxRecDepth 100000 in
theorem zse_220 : Cond.selects zm_220.1.1.cls zm_220.1.1 zm_220.1.1 ∈ zW := zW_in (List.mem_of_getElem? (i := 80) (by decide +kernel)) rfl
theorem znp_219 : znp zm_219 1 := by unfold znp; decide +kernel
set_option maxRecDepth 100000 in
theorem zin_219 : Cond.instanceMethod zm_219.1.1 ∈ zW := zW_in (zch_6 _ (List.mem_of_getElem? (i := 147) rfl)) rfl
set_option maxRecDepth 100000 in
theorem zse_219 : Cond.selects zm_219.1.1.cls zm_219.1.1 zm_219.1.1 ∈ zW := zW_in (List.mem_of_getElem? (i := 82) (by decide +kernel)) rfl
theorem znp_221 : znp zm_221 1 := by unfold znp; decide +kernel
set_option maxRecDepth 100000 in
theorem zin_221 : Cond.instanceMethod zm_221.1.1 ∈ zW := zW_in (zch_6 _ (List.mem_of_getElem? (i := 135) rfl)) rfl
set_option maxRecDepth 100000 in
theorem zse_221 : Cond.selects zm_221.1.1.cls zm_221.1.1 zm_221.1.1 ∈ zW := zW_in (List.mem_of_getElem? (i := 79) (by decide +kernel)) rfl
theorem znp_222 : znp zm_222 0 := by unfold znp; decide +kernel
set_option maxRecDepth 100000 in
theorem zin_222 : Cond.instanceMethod zm_222.1.1 ∈ zW := zW_in (zch_6 _ (List.mem_of_getElem? (i := 156) rfl)) rfl
set_option maxRecDepth 100000 in
theorem zse_222 : Cond.selects zm_222.1.1.cls zm_222.1.1 zm_222.1.1 ∈ zW := zW_in (List.mem_of_getElem? (i := 84) (by decide +kernel)) rfl
theorem znp_224 : znp zm_224 0 := by unfold znp; decide +kernel
set_option maxRecDepth 100000 in
theorem zin_224 : Cond.instanceMethod zm_224.1.1 ∈ zW := zW_in (zch_6 _ (List.mem_of_getElem? (i := 164) rfl)) rfl
set_option maxRecDepth 100000 in
theorem zse_224 : Cond.selects zm_224.1.1.cls zm_224.1.1 zm_224.1.1 ∈ zW := zW_in (List.mem_of_getElem? (i := 85) (by decide +kernel)) rfl
theorem znp_227 : znp zm_227 1 := by unfold znp; decide +kernel
set_option maxRecDepth 100000 in
theorem zin_227 : Cond.instanceMethod zm_227.1.1 ∈ zW := zW_in (zch_6 _ (List.mem_of_getElem? (i := 176) rfl)) rfl
set_option maxRecDepth 100000 in
theorem zse_227 : Cond.selects zm_227.1.1.cls zm_227.1.1 zm_227.1.1 ∈ zW := zW_in (List.mem_of_getElem? (i := 86) (by decide +kernel)) rfl
theorem znp_232 : znp zm_232 3 := by unfold znp; decide +kernel
set_option maxRecDepth 100000 in
theorem zin_232 : Cond.instanceMethod zm_232.1.1 ∈ zW := zW_in (zch_6 _ (List.mem_of_getElem? (i := 206) rfl)) rfl
set_option maxRecDepth 100000 in
theorem zse_232 : Cond.selects zm_232.1.1.cls zm_232.1.1 zm_232.1.1 ∈ zW := zW_in (List.mem_of_getElem? (i := 89) (by decide +kernel)) rfl
theorem znp_234 : znp zm_234 4 := by unfold znp; decide +kernel
set_option maxRecDepth 100000 in
theorem zin_234 : Cond.instanceMethod zm_234.1.1 ∈ zW := zW_in (zch_6 _ (List.mem_of_getElem? (i := 202) rfl)) rfl
set_option maxRecDepth 100000 in
theorem zse_234 : Cond.selects zm_234.1.1.cls zm_234.1.1 zm_234.1.1 ∈ zW := zW_in (List.mem_of_getElem? (i := 88) (by decide +kernel)) rfl
theorem znp_233 : znp zm_233 2 := by unfold znp; decide +kernel
set_option maxRecDepth 100000 in
theorem zin_233 : Cond.instanceMethod zm_233.1.1 ∈ zW := zW_in (zch_6 _ (List.mem_of_getElem? (i := 210) rfl)) rfl
set_option maxRecDepth 100000 in
theorem zse_233 : Cond.selects zm_233.1.1.cls zm_233.1.1 zm_233.1.1 ∈ zW := zW_in (List.mem_of_getElem? (i := 90) (by decide +kernel)) rfl
theorem znp_235 : znp zm_235 1 := by unfold znp; decide +kernel
set_option maxRecDepth 100000 in
theorem zin_235 : Cond.instanceMethod zm_235.1.1 ∈ zW := zW_in (zch_6 _ (List.mem_of_getElem? (i := 198) rfl)) rfl
set_option maxRecDepth 100000 in
theorem zse_235 : Cond.selects zm_235.1.1.cls zm_235.1.1 zm_235.1.1 ∈ zW := zW_in (List.mem_of_getElem? (i := 87) (by decide +kernel)) rfl
theorem znp_239 : znp zm_239 2 := by unfold znp; decide +kernel
set_option maxRecDepth 100000 in
theorem zin_239 : Cond.instanceMethod zm_239.1.1 ∈ zW := zW_in (zch_6 _ (List.mem_of_getElem? (i := 226) rfl)) rfl
set_option maxRecDepth 100000 in
theorem zse_239 : Cond.selects zm_239.1.1.cls zm_239.1.1 zm_239.1.1 ∈ zW := zW_in (List.mem_of_getElem? (i := 91) (by decide +kernel)) rfl
theorem znp_240 : znp zm_240 1 := by unfold znp; decide +kernel
set_option maxRecDepth 100000 in
theorem zin_240 : Cond.instanceMethod zm_240.1.1 ∈ zW := zW_in (zch_6 _ (List.mem_of_getElem? (i := 230) rfl)) rfl
set_option maxRecDepth 100000 in
theorem zse_240 : Cond.selects zm_240.1.1.cls zm_240.1.1 zm_240.1.1 ∈ zW := zW_in (List.mem_of_getElem? (i := 92) (by decide +kernel)) rfl
theorem znp_245 : znp zm_245 2 := by unfold znp; decide +kernel
set_option maxRecDepth 100000 in
theorem zin_245 : Cond.instanceMethod zm_245.1.1 ∈ zW := zW_in (zch_7 _ (List.mem_of_getElem? (i := 22) rfl)) rfl
set_option maxRecDepth 100000 in
theorem zse_245 : Cond.selects zm_245.1.1.cls zm_245.1.1 zm_245.1.1 ∈ zW := zW_in (List.mem_of_getElem? (i := 97) (by decide +kernel)) rfl
theorem znp_247 : znp zm_247 5 := by unfold znp; decide +kernel
set_option maxRecDepth 100000 in
theorem zst_247 : Cond.static zm_247.1.1 ∈ zW := zW_in (zch_7 _ (List.mem_of_getElem? (i := 29) rfl)) rfl
theorem znp_246 : znp zm_246 0 := by unfold znp; decide +kernel
set_option maxRecDepth 100000 in
theorem zin_246 : Cond.instanceMethod zm_246.1.1 ∈ zW := zW_in (zch_7 _ (List.mem_of_getElem? (i := 18) rfl)) rfl
set_option maxRecDepth 100000 in
theorem zse_246 : Cond.selects zm_246.1.1.cls zm_246.1.1 zm_246.1.1 ∈ zW := zW_in (List.mem_of_getElem? (i := 96) (by decide +kernel)) rfl
theorem znp_248 : znp zm_248 3 := by unfold znp; decide +kernel
set_option maxRecDepth 100000 in
theorem zin_248 : Cond.instanceMethod zm_248.1.1 ∈ zW := zW_in (zch_7 _ (List.mem_of_getElem? (i := 26) rfl)) rfl
set_option maxRecDepth 100000 in
theorem zse_248 : Cond.selects zm_248.1.1.cls zm_248.1.1 zm_248.1.1 ∈ zW := zW_in (List.mem_of_getElem? (i := 98) (by decide +kernel)) rfl
theorem znp_249 : znp zm_249 0 := by unfold znp; decide +kernel
set_option maxRecDepth 100000 in
theorem zin_249 : Cond.instanceMethod zm_249.1.1 ∈ zW := zW_in (zch_7 _ (List.mem_of_getElem? (i := 14) rfl)) rfl
set_option maxRecDepth 100000 in
theorem zse_249 : Cond.selects zm_249.1.1.cls zm_249.1.1 zm_249.1.1 ∈ zW := zW_in (List.mem_of_getElem? (i := 95) (by decide +kernel)) rfl
theorem znp_244 : znp zm_244 0 := by unfold znp; decide +kernel
set_option maxRecDepth 100000 in
theorem zin_244 : Cond.instanceMethod zm_244.1.1 ∈ zW := zW_in (zch_7 _ (List.mem_of_getElem? (i := 6) rfl)) rfl
set_option maxRecDepth 100000 in
theorem zse_244 : Cond.selects zm_244.1.1.cls zm_244.1.1 zm_244.1.1 ∈ zW := zW_in (List.mem_of_getElem? (i := 93) (by decide +kernel)) rfl
theorem znp_250 : znp zm_250 0 := by unfold znp; decide +kernel
set_option maxRecDepth 100000 in
theorem zin_250 : Cond.instanceMethod zm_250.1.1 ∈ zW := zW_in (zch_7 _ (List.mem_of_getElem? (i := 10) rfl)) rfl
set_option maxRecDepth 100000 in
theorem zse_250 : Cond.selects zm_250.1.1.cls zm_250.1.1 zm_250.1.1 ∈ zW := zW_in (List.mem_of_getElem? (i := 94) (by decide +kernel)) rfl
theorem znp_252 : znp zm_252 1 := by unfold znp; decide +kernel
set_option maxRecDepth 100000 in
theorem zin_252 : Cond.instanceMethod zm_252.1.1 ∈ zW := zW_in (zch_7 _ (List.mem_of_getElem? (i := 41) rfl)) rfl
set_option maxRecDepth 100000 in
theorem zse_252 : Cond.selects zm_252.1.1.cls zm_252.1.1 zm_252.1.1 ∈ zW := zW_in (List.mem_of_getElem? (i := 100) (by decide +kernel)) rfl
theorem znp_253 : znp zm_253 1 := by unfold znp; decide +kernel
set_option maxRecDepth 100000 in
theorem zin_253 : Cond.instanceMethod zm_253.1.1 ∈ zW := zW_in (zch_7 _ (List.mem_of_getElem? (i := 37) rfl)) rfl
set_option maxRecDepth 100000 in
theorem zse_253 : Cond.selects zm_253.1.1.cls zm_253.1.1 zm_253.1.1 ∈ zW := zW_in (List.mem_of_getElem? (i := 99) (by decide +kernel)) rfl
theorem znp_254 : znp zm_254 1 := by unfold znp; decide +kernel
set_option maxRecDepth 100000 in
theorem zin_254 : Cond.instanceMethod zm_254.1.1 ∈ zW := zW_in (zch_7 _ (List.mem_of_getElem? (i := 45) rfl)) rfl
set_option maxRecDepth 100000 in
theorem zse_254 : Cond.selects zm_254.1.1.cls zm_254.1.1 zm_254.1.1 ∈ zW := zW_in (List.mem_of_getElem? (i := 101) (by decide +kernel)) rfl
theorem znp_258 : znp zm_258 1 := by unfold znp; decide +kernel
set_option maxRecDepth 100000 in
theorem zin_258 : Cond.instanceMethod zm_258.1.1 ∈ zW := zW_in (zch_7 _ (List.mem_of_getElem? (i := 57) rfl)) rfl
set_option maxRecDepth 100000 in
theorem zse_258 : Cond.selects zm_258.1.1.cls zm_258.1.1 zm_258.1.1 ∈ zW := zW_in (List.mem_of_getElem? (i := 102) (by decide +kernel)) rfl
theorem znp_257 : znp zm_257 1 := by unfold znp; decide +kernel
set_option maxRecDepth 100000 in
theorem zin_257 : Cond.instanceMethod zm_257.1.1 ∈ zW := zW_in (zch_7 _ (List.mem_of_getElem? (i := 61) rfl)) rfl
set_option maxRecDepth 100000 in
theorem zse_257 : Cond.selects zm_257.1.1.cls zm_257.1.1 zm_257.1.1 ∈ zW := zW_in (List.mem_of_getElem? (i := 103) (by decide +kernel)) rfl
theorem znp_259 : znp zm_259 1 := by unfold znp; decide +kernel
set_option maxRecDepth 100000 in
theorem zin_259 : Cond.instanceMethod zm_259.1.1 ∈ zW := zW_in (zch_7 _ (List.mem_of_getElem? (i := 65) rfl)) rfl
set_option maxRecDepth 100000 in
theorem zse_259 : Cond.selects zm_259.1.1.cls zm_259.1.1 zm_259.1.1 ∈ zW := zW_in (List.mem_of_getElem? (i := 104) (by decide +kernel)) rfl
theorem znp_261 : znp zm_261 3 := by unfold znp; decide +kernel
set_option maxRecDepth 100000 in
theorem zin_261 : Cond.instanceMethod zm_261.1.1 ∈ zW := zW_in (zch_7 _ (List.mem_of_getElem? (i := 73) rfl)) rfl
set_option maxRecDepth 100000 in
theorem zse_261 : Cond.selects zm_261.1.1.cls zm_261.1.1 zm_261.1.1 ∈ zW := zW_in (List.mem_of_getElem? (i := 105) (by decide +kernel)) rfl
theorem znp_263 : znp zm_263 0 := by unfold znp; decide +kernel
set_option maxRecDepth 100000 in
theorem zin_263 : Cond.instanceMethod zm_263.1.1 ∈ zW := zW_in (zch_7 _ (List.mem_of_getElem? (i := 85) rfl)) rfl
set_option maxRecDepth 100000 in
theorem zse_263 : Cond.selects zm_263.1.1.cls zm_263.1.1 zm_263.1.1 ∈ zW := zW_in (List.mem_of_getElem? (i := 107) (by decide +kernel)) rfl
theorem znp_264 : znp zm_264 4 := by unfold znp; decide +kernel
set_option maxRecDepth 100000 in
theorem zin_264 : Cond.instanceMethod zm_264.1.1 ∈ zW := zW_in (zch_7 _ (List.mem_of_getElem? (i := 81) rfl)) rfl
set_option maxRecDepth 100000 in
theorem zse_264 : Cond.selects zm_264.1.1.cls zm_264.1.1 zm_264.1.1 ∈ zW := zW_in (List.mem_of_getElem? (i := 106) (by decide +kernel)) rfl
theorem znp_266 : znp zm_266 3 := by unfold znp; decide +kernel
set_option maxRecDepth 100000 in
theorem zst_266 : Cond.static zm_266.1.1 ∈ zW := zW_in (zch_7 _ (List.mem_of_getElem? (i := 97) rfl)) rfl
theorem znp_267 : znp zm_267 2 := by unfold znp; decide +kernel
set_option maxRecDepth 100000 in
theorem zin_267 : Cond.instanceMethod zm_267.1.1 ∈ zW := zW_in (zch_7 _ (List.mem_of_getElem? (i := 94) rfl)) rfl
set_option maxRecDepth 100000 in
theorem zse_267 : Cond.selects zm_267.1.1.cls zm_267.1.1 zm_267.1.1 ∈ zW := zW_in (List.mem_of_getElem? (i := 108) (by decide +kernel)) rfl
theorem znp_270 : znp zm_270 0 := by unfold znp; decide +kernel
set_option maxRecDepth 100000 in
theorem zin_270 : Cond.instanceMethod zm_270.1.1 ∈ zW := zW_in (zch_7 _ (List.mem_of_getElem? (i := 105) rfl)) rfl
set_option maxRecDepth 100000 in
theorem zse_270 : Cond.selects zm_270.1.1.cls zm_270.1.1 zm_270.1.1 ∈ zW := zW_in (List.mem_of_getElem? (i := 109) (by decide +kernel)) rfl
theorem znp_269 : znp zm_269 1 := by unfold znp; decide +kernel
set_option maxRecDepth 100000 in
theorem zin_269 : Cond.instanceMethod zm_269.1.1 ∈ zW := zW_in (zch_7 _ (List.mem_of_getElem? (i := 109) rfl)) rfl
set_option maxRecDepth 100000 in
theorem zse_269 : Cond.selects zm_269.1.1.cls zm_269.1.1 zm_269.1.1 ∈ zW := zW_in (List.mem_of_getElem? (i := 110) (by decide +kernel)) rfl
theorem znp_271 : znp zm_271 1 := by unfold znp; decide +kernel
set_option maxRecDepth 100000 in
theorem zin_271 : Cond.instanceMethod zm_271.1.1 ∈ zW := zW_in (zch_7 _ (List.mem_of_getElem? (i := 117) rfl)) rfl
set_option maxRecDepth 100000 in
theorem zse_271 : Cond.selects zm_271.1.1.cls zm_271.1.1 zm_271.1.1 ∈ zW := zW_in (List.mem_of_getElem? (i := 111) (by decide +kernel)) rfl
theorem znp_277 : znp zm_277 1 := by unfold znp; decide +kernel
set_option maxRecDepth 100000 in
theorem zin_277 : Cond.instanceMethod zm_277.1.1 ∈ zW := zW_in (zch_7 _ (List.mem_of_getElem? (i := 138) rfl)) rfl
set_option maxRecDepth 100000 in
theorem zse_277 : Cond.selects zm_277.1.1.cls zm_277.1.1 zm_277.1.1 ∈ zW := zW_in (List.mem_of_getElem? (i := 112) (by decide +kernel)) rfl
theorem znp_279 : znp zm_279 2 := by unfold znp; decide +kernel
set_option maxRecDepth 100000 in
theorem zin_279 : Cond.instanceMethod zm_279.1.1 ∈ zW := zW_in (zch_7 _ (List.mem_of_getElem? (i := 146) rfl)) rfl
set_option maxRecDepth 100000 in
theorem zse_279 : Cond.selects zm_279.1.1.cls zm_279.1.1 zm_279.1.1 ∈ zW := zW_in (List.mem_of_getElem? (i := 113) (by decide +kernel)) rfl
theorem znp_281 : znp zm_281 3 := by unfold znp; decide +kernel
set_option maxRecDepth 100000 in
theorem zin_281 : Cond.instanceMethod zm_281.1.1 ∈ zW := zW_in (zch_7 _ (List.mem_of_getElem? (i := 154) rfl)) rfl
set_option maxRecDepth 100000 in
theorem zse_281 : Cond.selects zm_281.1.1.cls zm_281.1.1 zm_281.1.1 ∈ zW := zW_in (List.mem_of_getElem? (i := 114) (by decide +kernel)) rfl
theorem znp_282 : znp zm_282 3 := by unfold znp; decide +kernel
set_option maxRecDepth 100000 in
theorem zin_282 : Cond.instanceMethod zm_282.1.1 ∈ zW := zW_in (zch_7 _ (List.mem_of_getElem? (i := 162) rfl)) rfl
set_option maxRecDepth 100000 in
theorem zse_282 : Cond.selects zm_282.1.1.cls zm_282.1.1 zm_282.1.1 ∈ zW := zW_in (List.mem_of_getElem? (i := 115) (by decide +kernel)) rfl
theorem znp_104 : znp zm_104 0 := by unfold znp; decide +kernel
set_option maxRecDepth 100000 in
theorem zin_104 : Cond.instanceMethod zm_104.1.1 ∈ zW := zW_in (zch_1 _ (List.mem_of_getElem? (i := 23) rfl)) rfl
theorem znp_286 : znp zm_286 0 := by unfold znp; decide +kernel
set_option maxRecDepth 100000 in
theorem zin_286 : Cond.instanceMethod zm_286.1.1 ∈ zW := zW_in (zch_7 _ (List.mem_of_getElem? (i := 170) rfl)) rfl
theorem znp_105 : znp zm_105 2 := by unfold znp; decide +kernel
set_option maxRecDepth 100000 in
theorem zin_105 : Cond.instanceMethod zm_105.1.1 ∈ zW := zW_in (zch_2 _ (List.mem_of_getElem? (i := 119) rfl)) rfl
set_option maxRecDepth 100000 in
theorem zse_105 : Cond.selects zm_105.1.1.cls zm_105.1.1 zm_105.1.1 ∈ zW := zW_in (zch_2 _ (List.mem_of_getElem? (i := 120) rfl)) rfl
theorem znp_175 : znp zm_175 2 := by unfold znp; decide +kernel
set_option maxRecDepth 100000 in
theorem zin_175 : Cond.instanceMethod zm_175.1.1 ∈ zW := zW_in (zch_5 _ (List.mem_of_getElem? (i := 179) rfl)) rfl
set_option maxRecDepth 100000 in
theorem zse_175 : Cond.selects zm_175.1.1.cls zm_175.1.1 zm_175.1.1 ∈ zW := zW_in (zch_5 _ (List.mem_of_getElem? (i := 180) rfl)) rfl
theorem znp_106 : znp zm_106 4 := by unfold znp; decide +kernel
set_option maxRecDepth 100000 in
theorem zin_106 : Cond.instanceMethod zm_106.1.1 ∈ zW := zW_in (zch_2 _ (List.mem_of_getElem? (i := 123) rfl)) rfl
set_option maxRecDepth 100000 in
theorem zse_106 : Cond.selects zm_106.1.1.cls zm_106.1.1 zm_106.1.1 ∈ zW := zW_in (zch_2 _ (List.mem_of_getElem? (i := 124) rfl)) rfl
theorem znp_176 : znp zm_176 4 := by unfold znp; decide +kernel
set_option maxRecDepth 100000 in
theorem zin_176 : Cond.instanceMethod zm_176.1.1 ∈ zW := zW_in (zch_5 _ (List.mem_of_getElem? (i := 188) rfl)) rfl
set_option maxRecDepth 100000 in
theorem zse_176 : Cond.selects zm_176.1.1.cls zm_176.1.1 zm_176.1.1 ∈ zW := zW_in (zch_5 _ (List.mem_of_getElem? (i := 189) rfl)) rfl
theorem znp_107 : znp zm_107 1 := by unfold znp; decide +kernel
set_option maxRecDepth 100000 in
theorem zin_107 : Cond.instanceMethod zm_107.1.1 ∈ zW := zW_in (zch_2 _ (List.mem_of_getElem? (i := 127) rfl)) rfl
set_option maxRecDepth 100000 in
theorem zse_107 : Cond.selects zm_107.1.1.cls zm_107.1.1 zm_107.1.1 ∈ zW := zW_in (zch_2 _ (List.mem_of_getElem? (i := 128) rfl)) rfl
theorem znp_179 : znp zm_179 1 := by unfold znp; decide +kernel
set_option maxRecDepth 100000 in
theorem zin_179 : Cond.instanceMethod zm_179.1.1 ∈ zW := zW_in (zch_5 _ (List.mem_of_getElem? (i := 195) rfl)) rfl
set_option maxRecDepth 100000 in
theorem zse_179 : Cond.selects zm_179.1.1.cls zm_179.1.1 zm_179.1.1 ∈ zW := zW_in (zch_5 _ (List.mem_of_getElem? (i := 196) rfl)) rfl
theorem znp_108 : znp zm_108 1 := by unfold znp; decide +kernel
set_option maxRecDepth 100000 in
theorem zin_108 : Cond.instanceMethod zm_108.1.1 ∈ zW := zW_in (zch_2 _ (List.mem_of_getElem? (i := 131) rfl)) rfl
set_option maxRecDepth 100000 in
theorem zse_108 : Cond.selects zm_108.1.1.cls zm_108.1.1 zm_108.1.1 ∈ zW := zW_in (zch_2 _ (List.mem_of_getElem? (i := 132) rfl)) rfl
theorem znp_180 : znp zm_180 1 := by unfold znp; decide +kernel
set_option maxRecDepth 100000 in
theorem zin_180 : Cond.instanceMethod zm_180.1.1 ∈ zW := zW_in (zch_5 _ (List.mem_of_getElem? (i := 199) rfl)) rfl
set_option maxRecDepth 100000 in
theorem zse_180 : Cond.selects zm_180.1.1.cls zm_180.1.1 zm_180.1.1 ∈ zW := zW_in (zch_5 _ (List.mem_of_getElem? (i := 200) rfl)) rfl
theorem znp_109 : znp zm_109 0 := by unfold znp; decide +kernel
set_option maxRecDepth 100000 in
theorem zin_109 : Cond.instanceMethod zm_109.1.1 ∈ zW := zW_in (zch_2 _ (List.mem_of_getElem? (i := 135) rfl)) rfl
set_option maxRecDepth 100000 in
theorem zse_109 : Cond.selects zm_109.1.1.cls zm_109.1.1 zm_109.1.1 ∈ zW := zW_in (zch_2 _ (List.mem_of_getElem? (i := 136) rfl)) rfl
theorem znp_187 : znp zm_187 0 := by unfold znp; decide +kernel
set_option maxRecDepth 100000 in
theorem zin_187 : Cond.instanceMethod zm_187.1.1 ∈ zW := zW_in (zch_5 _ (List.mem_of_getElem? (i := 203) rfl)) rfl
set_option maxRecDepth 100000 in
theorem zse_187 : Cond.selects zm_187.1.1.cls zm_187.1.1 zm_187.1.1 ∈ zW := zW_in (zch_5 _ (List.mem_of_getElem? (i := 204) rfl)) rfl
theorem znp_110 : znp zm_110 2 := by unfold znp; decide +kernel
set_option maxRecDepth 100000 in
theorem zin_110 : Cond.instanceMethod zm_110.1.1 ∈ zW := zW_in (zch_2 _ (List.mem_of_getElem? (i := 202) rfl)) rfl
set_option maxRecDepth 100000 in
theorem zse_110 : Cond.selects zm_110.1.1.cls zm_110.1.1 zm_110.1.1 ∈ zW := zW_in (zch_2 _ (List.mem_of_getElem? (i := 203) rfl)) rfl
theorem znp_201 : znp zm_201 2 := by unfold znp; decide +kernel
set_option maxRecDepth 100000 in
theorem zin_201 : Cond.instanceMethod zm_201.1.1 ∈ zW := zW_in (zch_5 _ (List.mem_of_getElem? (i := 238) rfl)) rfl
set_option maxRecDepth 100000 in
theorem zse_201 : Cond.selects zm_201.1.1.cls zm_201.1.1 zm_201.1.1 ∈ zW := zW_in (zch_5 _ (List.mem_of_getElem? (i := 239) rfl)) rfl
theorem znp_111 : znp zm_111 2 := by unfold znp; decide +kernel
set_option maxRecDepth 100000 in
theorem zin_111 : Cond.instanceMethod zm_111.1.1 ∈ zW := zW_in (zch_2 _ (List.mem_of_getElem? (i := 210) rfl)) rfl
set_option maxRecDepth 100000 in
theorem zse_111 : Cond.selects zm_111.1.1.cls zm_111.1.1 zm_111.1.1 ∈ zW := zW_in (zch_2 _ (List.mem_of_getElem? (i := 211) rfl)) rfl
theorem znp_202 : znp zm_202 2 := by unfold znp; decide +kernel
set_option maxRecDepth 100000 in
theorem zin_202 : Cond.instanceMethod zm_202.1.1 ∈ zW := zW_in (zch_6 _ (List.mem_of_getElem? (i := 6) rfl)) rfl
set_option maxRecDepth 100000 in
theorem zse_202 : Cond.selects zm_202.1.1.cls zm_202.1.1 zm_202.1.1 ∈ zW := zW_in (zch_6 _ (List.mem_of_getElem? (i := 7) rfl)) rfl
theorem znp_112 : znp zm_112 2 := by unfold znp; decide +kernel
set_option maxRecDepth 100000 in
theorem zin_112 : Cond.instanceMethod zm_112.1.1 ∈ zW := zW_in (zch_3 _ (List.mem_of_getElem? (i := 6) rfl)) rfl
set_option maxRecDepth 100000 in
theorem zse_112 : Cond.selects zm_112.1.1.cls zm_112.1.1 zm_112.1.1 ∈ zW := zW_in (zch_3 _ (List.mem_of_getElem? (i := 7) rfl)) rfl
theorem znp_203 : znp zm_203 2 := by unfold znp; decide +kernel
set_option maxRecDepth 100000 in
theorem zin_203 : Cond.instanceMethod zm_203.1.1 ∈ zW := zW_in (zch_6 _ (List.mem_of_getElem? (i := 41) rfl)) rfl
set_option maxRecDepth 100000 in
theorem zse_203 : Cond.selects zm_203.1.1.cls zm_203.1.1 zm_203.1.1 ∈ zW := zW_in (zch_6 _ (List.mem_of_getElem? (i := 42) rfl)) rfl
theorem znp_113 : znp zm_113 2 := by unfold znp; decide +kernel
set_option maxRecDepth 100000 in
theorem zin_113 : Cond.instanceMethod zm_113.1.1 ∈ zW := zW_in (zch_3 _ (List.mem_of_getElem? (i := 27) rfl)) rfl
set_option maxRecDepth 100000 in
theorem zse_113 : Cond.selects zm_113.1.1.cls zm_113.1.1 zm_113.1.1 ∈ zW := zW_in (zch_3 _ (List.mem_of_getElem? (i := 28) rfl)) rfl
theorem znp_205 : znp zm_205 2 := by unfold znp; decide +kernel
set_option maxRecDepth 100000 in
theorem zin_205 : Cond.instanceMethod zm_205.1.1 ∈ zW := zW_in (zch_6 _ (List.mem_of_getElem? (i := 53) rfl)) rfl
set_option maxRecDepth 100000 in
theorem zse_205 : Cond.selects zm_205.1.1.cls zm_205.1.1 zm_205.1.1 ∈ zW := zW_in (zch_6 _ (List.mem_of_getElem? (i := 54) rfl)) rfl
theorem znp_114 : znp zm_114 4 := by unfold znp; decide +kernel
set_option maxRecDepth 100000 in
theorem zin_114 : Cond.instanceMethod zm_114.1.1 ∈ zW := zW_in (zch_3 _ (List.mem_of_getElem? (i := 37) rfl)) rfl
set_option maxRecDepth 100000 in
theorem zse_114 : Cond.selects zm_114.1.1.cls zm_114.1.1 zm_114.1.1 ∈ zW := zW_in (zch_3 _ (List.mem_of_getElem? (i := 38) rfl)) rfl
theorem znp_208 : znp zm_208 4 := by unfold znp; decide +kernel
set_option maxRecDepth 100000 in
theorem zin_208 : Cond.instanceMethod zm_208.1.1 ∈ zW := zW_in (zch_6 _ (List.mem_of_getElem? (i := 61) rfl)) rfl
set_option maxRecDepth 100000 in
theorem zse_208 : Cond.selects zm_208.1.1.cls zm_208.1.1 zm_208.1.1 ∈ zW := zW_in (zch_6 _ (List.mem_of_getElem? (i := 62) rfl)) rfl
theorem znp_117 : znp zm_117 0 := by unfold znp; decide +kernel
set_option maxRecDepth 100000 in
theorem zin_117 : Cond.instanceMethod zm_117.1.1 ∈ zW := zW_in (zch_3 _ (List.mem_of_getElem? (i := 55) rfl)) rfl
set_option maxRecDepth 100000 in
theorem zse_117 : Cond.selects zm_117.1.1.cls zm_117.1.1 zm_117.1.1 ∈ zW := zW_in (zch_3 _ (List.mem_of_getElem? (i := 56) rfl)) rfl
theorem znp_209 : znp zm_209 0 := by unfold znp; decide +kernel
set_option maxRecDepth 100000 in
theorem zin_209 : Cond.instanceMethod zm_209.1.1 ∈ zW := zW_in (zch_6 _ (List.mem_of_getElem? (i := 74) rfl)) rfl
set_option maxRecDepth 100000 in
theorem zse_209 : Cond.selects zm_209.1.1.cls zm_209.1.1 zm_209.1.1 ∈ zW := zW_in (zch_6 _ (List.mem_of_getElem? (i := 75) rfl)) rfl
theorem znp_118 : znp zm_118 0 := by unfold znp; decide +kernel
set_option maxRecDepth 100000 in
theorem zin_118 : Cond.instanceMethod zm_118.1.1 ∈ zW := zW_in (zch_3 _ (List.mem_of_getElem? (i := 98) rfl)) rfl
set_option maxRecDepth 100000 in
theorem zse_118 : Cond.selects zm_118.1.1.cls zm_118.1.1 zm_118.1.1 ∈ zW := zW_in (zch_3 _ (List.mem_of_getElem? (i := 99) rfl)) rfl
theorem znp_212 : znp zm_212 0 := by unfold znp; decide +kernel
set_option maxRecDepth 100000 in
theorem zin_212 : Cond.instanceMethod zm_212.1.1 ∈ zW := zW_in (zch_6 _ (List.mem_of_getElem? (i := 102) rfl)) rfl
set_option maxRecDepth 100000 in
theorem zse_212 : Cond.selects zm_212.1.1.cls zm_212.1.1 zm_212.1.1 ∈ zW := zW_in (zch_6 _ (List.mem_of_getElem? (i := 103) rfl)) rfl
theorem znp_119 : znp zm_119 2 := by unfold znp; decide +kernel
set_option maxRecDepth 100000 in
theorem zin_119 : Cond.instanceMethod zm_119.1.1 ∈ zW := zW_in (zch_3 _ (List.mem_of_getElem? (i := 116) rfl)) rfl
set_option maxRecDepth 100000 in
theorem zse_119 : Cond.selects zm_119.1.1.cls zm_119.1.1 zm_119.1.1 ∈ zW := zW_in (zch_3 _ (List.mem_of_getElem? (i := 117) rfl)) rfl
theorem znp_213 : znp zm_213 2 := by unfold znp; decide +kernel
set_option maxRecDepth 100000 in
theorem zin_213 : Cond.instanceMethod zm_213.1.1 ∈ zW := zW_in (zch_6 _ (List.mem_of_getElem? (i := 114) rfl)) rfl
set_option maxRecDepth 100000 in
theorem zse_213 : Cond.selects zm_213.1.1.cls zm_213.1.1 zm_213.1.1 ∈ zW := zW_in (zch_6 _ (List.mem_of_getElem? (i := 115) rfl)) rfl
theorem znp_120 : znp zm_120 1 := by unfold znp; decide +kernel
set_option maxRecDepth 100000 in
theorem zin_120 : Cond.instanceMethod zm_120.1.1 ∈ zW := zW_in (zch_3 _ (List.mem_of_getElem? (i := 120) rfl)) rfl
set_option maxRecDepth 100000 in
theorem zse_120 : Cond.selects zm_120.1.1.cls zm_120.1.1 zm_120.1.1 ∈ zW := zW_in (zch_3 _ (List.mem_of_getElem? (i := 121) rfl)) rfl
theorem znp_214 : znp zm_214 1 := by unfold znp; decide +kernel
set_option maxRecDepth 100000 in
theorem zin_214 : Cond.instanceMethod zm_214.1.1 ∈ zW := zW_in (zch_6 _ (List.mem_of_getElem? (i := 118) rfl)) rfl
set_option maxRecDepth 100000 in
theorem zse_214 : Cond.selects zm_214.1.1.cls zm_214.1.1 zm_214.1.1 ∈ zW := zW_in (zch_6 _ (List.mem_of_getElem? (i := 119) rfl)) rfl
theorem znp_122 : znp zm_122 0 := by unfold znp; decide +kernel
set_option maxRecDepth 100000 in
theorem zin_122 : Cond.instanceMethod zm_122.1.1 ∈ zW := zW_in (zch_3 _ (List.mem_of_getElem? (i := 128) rfl)) rfl
set_option maxRecDepth 100000 in
theorem zse_122 : Cond.selects zm_122.1.1.cls zm_122.1.1 zm_122.1.1 ∈ zW := zW_in (zch_3 _ (List.mem_of_getElem? (i := 129) rfl)) rfl
theorem znp_215 : znp zm_215 0 := by unfold znp; decide +kernel
set_option maxRecDepth 100000 in
theorem zin_215 : Cond.instanceMethod zm_215.1.1 ∈ zW := zW_in (zch_6 _ (List.mem_of_getElem? (i := 122) rfl)) rfl
set_option maxRecDepth 100000 in
theorem zse_215 : Cond.selects zm_215.1.1.cls zm_215.1.1 zm_215.1.1 ∈ zW := zW_in (zch_6 _ (List.mem_of_getElem? (i := 123) rfl)) rfl
theorem znp_123 : znp zm_123 1 := by unfold znp; decide +kernel
set_option maxRecDepth 100000 in
theorem zin_123 : Cond.instanceMethod zm_123.1.1 ∈ zW := zW_in (zch_3 _ (List.mem_of_getElem? (i := 134) rfl)) rfl
set_option maxRecDepth 100000 in
theorem zse_123 : Cond.selects zm_123.1.1.cls zm_123.1.1 zm_123.1.1 ∈ zW := zW_in (zch_3 _ (List.mem_of_getElem? (i := 135) rfl)) rfl
theorem znp_216 : znp zm_216 1 := by unfold znp; decide +kernel
set_option maxRecDepth 100000 in
theorem zin_216 : Cond.instanceMethod zm_216.1.1 ∈ zW := zW_in (zch_6 _ (List.mem_of_getElem? (i := 126) rfl)) rfl
set_option maxRecDepth 100000 in
theorem zse_216 : Cond.selects zm_216.1.1.cls zm_216.1.1 zm_216.1.1 ∈ zW := zW_in (zch_6 _ (List.mem_of_getElem? (i := 127) rfl)) rfl
theorem znp_124 : znp zm_124 0 := by unfold znp; decide +kernel
set_option maxRecDepth 100000 in
theorem zin_124 : Cond.instanceMethod zm_124.1.1 ∈ zW := zW_in (zch_3 _ (List.mem_of_getElem? (i := 138) rfl)) rfl
set_option maxRecDepth 100000 in
theorem zse_124 : Cond.selects zm_124.1.1.cls zm_124.1.1 zm_124.1.1 ∈ zW := zW_in (zch_3 _ (List.mem_of_getElem? (i := 139) rfl)) rfl
theorem znp_223 : znp zm_223 0 := by unfold znp; decide +kernel
set_option maxRecDepth 100000 in
theorem zin_223 : Cond.instanceMethod zm_223.1.1 ∈ zW := zW_in (zch_6 _ (List.mem_of_getElem? (i := 130) rfl)) rfl
set_option maxRecDepth 100000 in
theorem zse_223 : Cond.selects zm_223.1.1.cls zm_223.1.1 zm_223.1.1 ∈ zW := zW_in (zch_6 _ (List.mem_of_getElem? (i := 131) rfl)) rfl
theorem znp_125 : znp zm_125 0 := by unfold znp; decide +kernel
set_option maxRecDepth 100000 in
theorem zin_125 : Cond.instanceMethod zm_125.1.1 ∈ zW := zW_in (zch_3 _ (List.mem_of_getElem? (i := 192) rfl)) rfl
set_option maxRecDepth 100000 in
theorem zse_125 : Cond.selects zm_125.1.1.cls zm_125.1.1 zm_125.1.1 ∈ zW := zW_in (zch_3 _ (List.mem_of_getElem? (i := 193) rfl)) rfl
theorem znp_225 : znp zm_225 0 := by unfold znp; decide +kernel
set_option maxRecDepth 100000 in
theorem zin_225 : Cond.instanceMethod zm_225.1.1 ∈ zW := zW_in (zch_6 _ (List.mem_of_getElem? (i := 159) rfl)) rfl
set_option maxRecDepth 100000 in
theorem zse_225 : Cond.selects zm_225.1.1.cls zm_225.1.1 zm_225.1.1 ∈ zW := zW_in (zch_6 _ (List.mem_of_getElem? (i := 160) rfl)) rfl
theorem znp_127 : znp zm_127 1 := by unfold znp; decide +kernel
set_option maxRecDepth 100000 in
theorem zin_127 : Cond.instanceMethod zm_127.1.1 ∈ zW := zW_in (zch_3 _ (List.mem_of_getElem? (i := 200) rfl)) rfl
set_option maxRecDepth 100000 in
theorem zse_127 : Cond.selects zm_127.1.1.cls zm_127.1.1 zm_127.1.1 ∈ zW := zW_in (zch_3 _ (List.mem_of_getElem? (i := 201) rfl)) rfl
theorem znp_226 : znp zm_226 1 := by unfold znp; decide +kernel
set_option maxRecDepth 100000 in
theorem zin_226 : Cond.instanceMethod zm_226.1.1 ∈ zW := zW_in (zch_6 _ (List.mem_of_getElem? (i := 167) rfl)) rfl
set_option maxRecDepth 100000 in
theorem zse_226 : Cond.selects zm_226.1.1.cls zm_226.1.1 zm_226.1.1 ∈ zW := zW_in (zch_6 _ (List.mem_of_getElem? (i := 168) rfl)) rfl
theorem znp_128 : znp zm_128 1 := by unfold znp; decide +kernel
set_option maxRecDepth 100000 in
theorem zin_128 : Cond.instanceMethod zm_128.1.1 ∈ zW := zW_in (zch_3 _ (List.mem_of_getElem? (i := 209) rfl)) rfl
set_option maxRecDepth 100000 in
theorem zse_128 : Cond.selects zm_128.1.1.cls zm_128.1.1 zm_128.1.1 ∈ zW := zW_in (zch_3 _ (List.mem_of_getElem? (i := 210) rfl)) rfl
theorem znp_228 : znp zm_228 1 := by unfold znp; decide +kernel
set_option maxRecDepth 100000 in
theorem zin_228 : Cond.instanceMethod zm_228.1.1 ∈ zW := zW_in (zch_6 _ (List.mem_of_getElem? (i := 171) rfl)) rfl
set_option maxRecDepth 100000 in
theorem zse_228 : Cond.selects zm_228.1.1.cls zm_228.1.1 zm_228.1.1 ∈ zW := zW_in (zch_6 _ (List.mem_of_getElem? (i := 172) rfl)) rfl
theorem znp_130 : znp zm_130 0 := by unfold znp; decide +kernel
set_option maxRecDepth 100000 in
theorem zin_130 : Cond.instanceMethod zm_130.1.1 ∈ zW := zW_in (zch_3 _ (List.mem_of_getElem? (i := 218) rfl)) rfl
set_option maxRecDepth 100000 in
theorem zse_130 : Cond.selects zm_130.1.1.cls zm_130.1.1 zm_130.1.1 ∈ zW := zW_in (zch_3 _ (List.mem_of_getElem? (i := 219) rfl)) rfl
theorem znp_229 : znp zm_229 0 := by unfold znp; decide +kernel
set_option maxRecDepth 100000 in
theorem zin_229 : Cond.instanceMethod zm_229.1.1 ∈ zW := zW_in (zch_6 _ (List.mem_of_getElem? (i := 179) rfl)) rfl
set_option maxRecDepth 100000 in
theorem zse_229 : Cond.selects zm_229.1.1.cls zm_229.1.1 zm_229.1.1 ∈ zW := zW_in (zch_6 _ (List.mem_of_getElem? (i := 180) rfl)) rfl
theorem znp_131 : znp zm_131 0 := by unfold znp; decide +kernel
set_option maxRecDepth 100000 in
theorem zin_131 : Cond.instanceMethod zm_131.1.1 ∈ zW := zW_in (zch_3 _ (List.mem_of_getElem? (i := 222) rfl)) rfl
set_option maxRecDepth 100000 in
theorem zse_131 : Cond.selects zm_131.1.1.cls zm_131.1.1 zm_131.1.1 ∈ zW := zW_in (zch_3 _ (List.mem_of_getElem? (i := 223) rfl)) rfl
theorem znp_230 : znp zm_230 0 := by unfold znp; decide +kernel
set_option maxRecDepth 100000 in
theorem zin_230 : Cond.instanceMethod zm_230.1.1 ∈ zW := zW_in (zch_6 _ (List.mem_of_getElem? (i := 183) rfl)) rfl
set_option maxRecDepth 100000 in
theorem zse_230 : Cond.selects zm_230.1.1.cls zm_230.1.1 zm_230.1.1 ∈ zW := zW_in (zch_6 _ (List.mem_of_getElem? (i := 184) rfl)) rfl
theorem znp_133 : znp zm_133 1 := by unfold znp; decide +kernel
set_option maxRecDepth 100000 in
theorem zin_133 : Cond.instanceMethod zm_133.1.1 ∈ zW := zW_in (zch_3 _ (List.mem_of_getElem? (i := 235) rfl)) rfl
set_option maxRecDepth 100000 in
theorem zse_133 : Cond.selects zm_133.1.1.cls zm_133.1.1 zm_133.1.1 ∈ zW := zW_in (zch_3 _ (List.mem_of_getElem? (i := 236) rfl)) rfl
theorem znp_231 : znp zm_231 1 := by unfold znp; decide +kernel
set_option maxRecDepth 100000 in
theorem zin_231 : Cond.instanceMethod zm_231.1.1 ∈ zW := zW_in (zch_6 _ (List.mem_of_getElem? (i := 188) rfl)) rfl
set_option maxRecDepth 100000 in
theorem zse_231 : Cond.selects zm_231.1.1.cls zm_231.1.1 zm_231.1.1 ∈ zW := zW_in (zch_6 _ (List.mem_of_getElem? (i := 189) rfl)) rfl
theorem znp_134 : znp zm_134 1 := by unfold znp; decide +kernel
set_option maxRecDepth 100000 in
theorem zin_134 : Cond.instanceMethod zm_134.1.1 ∈ zW := zW_in (zch_3 _ (List.mem_of_getElem? (i := 239) rfl)) rfl
set_option maxRecDepth 100000 in
theorem zse_134 : Cond.selects zm_134.1.1.cls zm_134.1.1 zm_134.1.1 ∈ zW := zW_in (zch_4 _ (List.mem_of_getElem? (i := 0) rfl)) rfl
theorem znp_236 : znp zm_236 1 := by unfold znp; decide +kernel
set_option maxRecDepth 100000 in
theorem zin_236 : Cond.instanceMethod zm_236.1.1 ∈ zW := zW_in (zch_6 _ (List.mem_of_getElem? (i := 192) rfl)) rfl
set_option maxRecDepth 100000 in
theorem zse_236 : Cond.selects zm_236.1.1.cls zm_236.1.1 zm_236.1.1 ∈ zW := zW_in (zch_6 _ (List.mem_of_getElem? (i := 193) rfl)) rfl
theorem znp_135 : znp zm_135 1 := by unfold znp; decide +kernel
set_option maxRecDepth 100000 in
theorem zin_135 : Cond.instanceMethod zm_135.1.1 ∈ zW := zW_in (zch_4 _ (List.mem_of_getElem? (i := 12) rfl)) rfl
set_option maxRecDepth 100000 in
theorem zse_135 : Cond.selects zm_135.1.1.cls zm_135.1.1 zm_135.1.1 ∈ zW := zW_in (zch_4 _ (List.mem_of_getElem? (i := 13) rfl)) rfl
theorem znp_237 : znp zm_237 1 := by unfold znp; decide +kernel
set_option maxRecDepth 100000 in
theorem zin_237 : Cond.instanceMethod zm_237.1.1 ∈ zW := zW_in (zch_6 _ (List.mem_of_getElem? (i := 213) rfl)) rfl
set_option maxRecDepth 100000 in
theorem zse_237 : Cond.selects zm_237.1.1.cls zm_237.1.1 zm_237.1.1 ∈ zW := zW_in (zch_6 _ (List.mem_of_getElem? (i := 214) rfl)) rfl
theorem znp_136 : znp zm_136 2 := by unfold znp; decide +kernel
set_option maxRecDepth 100000 in
theorem zin_136 : Cond.instanceMethod zm_136.1.1 ∈ zW := zW_in (zch_4 _ (List.mem_of_getElem? (i := 22) rfl)) rfl
set_option maxRecDepth 100000 in
theorem zse_136 : Cond.selects zm_136.1.1.cls zm_136.1.1 zm_136.1.1 ∈ zW := zW_in (zch_4 _ (List.mem_of_getElem? (i := 23) rfl)) rfl
theorem znp_238 : znp zm_238 2 := by unfold znp; decide +kernel
set_option maxRecDepth 100000 in
theorem zin_238 : Cond.instanceMethod zm_238.1.1 ∈ zW := zW_in (zch_6 _ (List.mem_of_getElem? (i := 217) rfl)) rfl
set_option maxRecDepth 100000 in
theorem zse_238 : Cond.selects zm_238.1.1.cls zm_238.1.1 zm_238.1.1 ∈ zW := zW_in (zch_6 _ (List.mem_of_getElem? (i := 218) rfl)) rfl
theorem znp_137 : znp zm_137 2 := by unfold znp; decide +kernel
set_option maxRecDepth 100000 in
theorem zin_137 : Cond.instanceMethod zm_137.1.1 ∈ zW := zW_in (zch_4 _ (List.mem_of_getElem? (i := 26) rfl)) rfl
set_option maxRecDepth 100000 in
theorem zse_137 : Cond.selects zm_137.1.1.cls zm_137.1.1 zm_137.1.1 ∈ zW := zW_in (zch_4 _ (List.mem_of_getElem? (i := 27) rfl)) rfl
theorem znp_241 : znp zm_241 2 := by unfold znp; decide +kernel
set_option maxRecDepth 100000 in
theorem zin_241 : Cond.instanceMethod zm_241.1.1 ∈ zW := zW_in (zch_6 _ (List.mem_of_getElem? (i := 221) rfl)) rfl
set_option maxRecDepth 100000 in
theorem zse_241 : Cond.selects zm_241.1.1.cls zm_241.1.1 zm_241.1.1 ∈ zW := zW_in (zch_6 _ (List.mem_of_getElem? (i := 222) rfl)) rfl
theorem znp_138 : znp zm_138 1 := by unfold znp; decide +kernel
set_option maxRecDepth 100000 in
theorem zin_138 : Cond.instanceMethod zm_138.1.1 ∈ zW := zW_in (zch_4 _ (List.mem_of_getElem? (i := 30) rfl)) rfl
set_option maxRecDepth 100000 in
theorem zse_138 : Cond.selects zm_138.1.1.cls zm_138.1.1 zm_138.1.1 ∈ zW := zW_in (zch_4 _ (List.mem_of_getElem? (i := 31) rfl)) rfl
theorem znp_242 : znp zm_242 1 := by unfold znp; decide +kernel
set_option maxRecDepth 100000 in
theorem zin_242 : Cond.instanceMethod zm_242.1.1 ∈ zW := zW_in (zch_6 _ (List.mem_of_getElem? (i := 233) rfl)) rfl
set_option maxRecDepth 100000 in
theorem zse_242 : Cond.selects zm_242.1.1.cls zm_242.1.1 zm_242.1.1 ∈ zW := zW_in (zch_6 _ (List.mem_of_getElem? (i := 234) rfl)) rfl
theorem znp_140 : znp zm_140 0 := by unfold znp; decide +kernel
set_option maxRecDepth 100000 in
theorem zin_140 : Cond.instanceMethod zm_140.1.1 ∈ zW := zW_in (zch_4 _ (List.mem_of_getElem? (i := 38) rfl)) rfl
set_option maxRecDepth 100000 in
theorem zse_140 : Cond.selects zm_140.1.1.cls zm_140.1.1 zm_140.1.1 ∈ zW := zW_in (zch_4 _ (List.mem_of_getElem? (i := 39) rfl)) rfl
theorem znp_243 : znp zm_243 0 := by unfold znp; decide +kernel
set_option maxRecDepth 100000 in
theorem zin_243 : Cond.instanceMethod zm_243.1.1 ∈ zW := zW_in (zch_6 _ (List.mem_of_getElem? (i := 237) rfl)) rfl
set_option maxRecDepth 100000 in
theorem zse_243 : Cond.selects zm_243.1.1.cls zm_243.1.1 zm_243.1.1 ∈ zW := zW_in (zch_6 _ (List.mem_of_getElem? (i := 238) rfl)) rfl
theorem znp_143 : znp zm_143 0 := by unfold znp; decide +kernel
set_option maxRecDepth 100000 in
theorem zin_143 : Cond.instanceMethod zm_143.1.1 ∈ zW := zW_in (zch_4 _ (List.mem_of_getElem? (i := 51) rfl)) rfl
set_option maxRecDepth 100000 in
theorem zse_143 : Cond.selects zm_143.1.1.cls zm_143.1.1 zm_143.1.1 ∈ zW := zW_in (zch_4 _ (List.mem_of_getElem? (i := 52) rfl)) rfl
theorem znp_251 : znp zm_251 0 := by unfold znp; decide +kernel
set_option maxRecDepth 100000 in
theorem zin_251 : Cond.instanceMethod zm_251.1.1 ∈ zW := zW_in (zch_7 _ (List.mem_of_getElem? (i := 1) rfl)) rfl
set_option maxRecDepth 100000 in
theorem zse_251 : Cond.selects zm_251.1.1.cls zm_251.1.1 zm_251.1.1 ∈ zW := zW_in (zch_7 _ (List.mem_of_getElem? (i := 2) rfl)) rfl
theorem znp_144 : znp zm_144 0 := by unfold znp; decide +kernel
set_option maxRecDepth 100000 in
theorem zin_144 : Cond.instanceMethod zm_144.1.1 ∈ zW := zW_in (zch_4 _ (List.mem_of_getElem? (i := 147) rfl)) rfl
set_option maxRecDepth 100000 in
theorem zse_144 : Cond.selects zm_144.1.1.cls zm_144.1.1 zm_144.1.1 ∈ zW := zW_in (zch_4 _ (List.mem_of_getElem? (i := 148) rfl)) rfl
theorem znp_255 : znp zm_255 0 := by unfold znp; decide +kernel
set_option maxRecDepth 100000 in
theorem zin_255 : Cond.instanceMethod zm_255.1.1 ∈ zW := zW_in (zch_7 _ (List.mem_of_getElem? (i := 32) rfl)) rfl
set_option maxRecDepth 100000 in
theorem zse_255 : Cond.selects zm_255.1.1.cls zm_255.1.1 zm_255.1.1 ∈ zW := zW_in (zch_7 _ (List.mem_of_getElem? (i := 33) rfl)) rfl
theorem znp_145 : znp zm_145 0 := by unfold znp; decide +kernel
set_option maxRecDepth 100000 in
theorem zin_145 : Cond.instanceMethod zm_145.1.1 ∈ zW := zW_in (zch_4 _ (List.mem_of_getElem? (i := 188) rfl)) rfl
set_option maxRecDepth 100000 in
theorem zse_145 : Cond.selects zm_145.1.1.cls zm_145.1.1 zm_145.1.1 ∈ zW := zW_in (zch_4 _ (List.mem_of_getElem? (i := 189) rfl)) rfl
theorem znp_256 : znp zm_256 0 := by unfold znp; decide +kernel
set_option maxRecDepth 100000 in
theorem zin_256 : Cond.instanceMethod zm_256.1.1 ∈ zW := zW_in (zch_7 _ (List.mem_of_getElem? (i := 48) rfl)) rfl
set_option maxRecDepth 100000 in
theorem zse_256 : Cond.selects zm_256.1.1.cls zm_256.1.1 zm_256.1.1 ∈ zW := zW_in (zch_7 _ (List.mem_of_getElem? (i := 49) rfl)) rfl
theorem znp_146 : znp zm_146 0 := by unfold znp; decide +kernel
set_option maxRecDepth 100000 in
theorem zin_146 : Cond.instanceMethod zm_146.1.1 ∈ zW := zW_in (zch_4 _ (List.mem_of_getElem? (i := 201) rfl)) rfl
set_option maxRecDepth 100000 in
theorem zse_146 : Cond.selects zm_146.1.1.cls zm_146.1.1 zm_146.1.1 ∈ zW := zW_in (zch_4 _ (List.mem_of_getElem? (i := 202) rfl)) rfl
theorem znp_260 : znp zm_260 0 := by unfold znp; decide +kernel
set_option maxRecDepth 100000 in
theorem zin_260 : Cond.instanceMethod zm_260.1.1 ∈ zW := zW_in (zch_7 _ (List.mem_of_getElem? (i := 52) rfl)) rfl
set_option maxRecDepth 100000 in
theorem zse_260 : Cond.selects zm_260.1.1.cls zm_260.1.1 zm_260.1.1 ∈ zW := zW_in (zch_7 _ (List.mem_of_getElem? (i := 53) rfl)) rfl
theorem znp_148 : znp zm_148 1 := by unfold znp; decide +kernel
set_option maxRecDepth 100000 in
theorem zin_148 : Cond.instanceMethod zm_148.1.1 ∈ zW := zW_in (zch_4 _ (List.mem_of_getElem? (i := 223) rfl)) rfl
set_option maxRecDepth 100000 in
theorem zse_148 : Cond.selects zm_148.1.1.cls zm_148.1.1 zm_148.1.1 ∈ zW := zW_in (zch_4 _ (List.mem_of_getElem? (i := 224) rfl)) rfl
theorem znp_262 : znp zm_262 1 := by unfold znp; decide +kernel
set_option maxRecDepth 100000 in
theorem zin_262 : Cond.instanceMethod zm_262.1.1 ∈ zW := zW_in (zch_7 _ (List.mem_of_getElem? (i := 68) rfl)) rfl
set_option maxRecDepth 100000 in
theorem zse_262 : Cond.selects zm_262.1.1.cls zm_262.1.1 zm_262.1.1 ∈ zW := zW_in (zch_7 _ (List.mem_of_getElem? (i := 69) rfl)) rfl
theorem znp_150 : znp zm_150 0 := by unfold znp; decide +kernel
set_option maxRecDepth 100000 in
theorem zin_150 : Cond.instanceMethod zm_150.1.1 ∈ zW := zW_in (zch_5 _ (List.mem_of_getElem? (i := 17) rfl)) rfl
set_option maxRecDepth 100000 in
theorem zse_150 : Cond.selects zm_150.1.1.cls zm_150.1.1 zm_150.1.1 ∈ zW := zW_in (zch_5 _ (List.mem_of_getElem? (i := 18) rfl)) rfl
theorem znp_265 : znp zm_265 0 := by unfold znp; decide +kernel
set_option maxRecDepth 100000 in
theorem zin_265 : Cond.instanceMethod zm_265.1.1 ∈ zW := zW_in (zch_7 _ (List.mem_of_getElem? (i := 76) rfl)) rfl
set_option maxRecDepth 100000 in
theorem zse_265 : Cond.selects zm_265.1.1.cls zm_265.1.1 zm_265.1.1 ∈ zW := zW_in (zch_7 _ (List.mem_of_getElem? (i := 77) rfl)) rfl
theorem znp_151 : znp zm_151 2 := by unfold znp; decide +kernel
set_option maxRecDepth 100000 in
theorem zin_151 : Cond.instanceMethod zm_151.1.1 ∈ zW := zW_in (zch_5 _ (List.mem_of_getElem? (i := 34) rfl)) rfl
set_option maxRecDepth 100000 in
theorem zse_151 : Cond.selects zm_151.1.1.cls zm_151.1.1 zm_151.1.1 ∈ zW := zW_in (zch_5 _ (List.mem_of_getElem? (i := 35) rfl)) rfl
theorem znp_268 : znp zm_268 2 := by unfold znp; decide +kernel
set_option maxRecDepth 100000 in
theorem zin_268 : Cond.instanceMethod zm_268.1.1 ∈ zW := zW_in (zch_7 _ (List.mem_of_getElem? (i := 88) rfl)) rfl
set_option maxRecDepth 100000 in
theorem zse_268 : Cond.selects zm_268.1.1.cls zm_268.1.1 zm_268.1.1 ∈ zW := zW_in (zch_7 _ (List.mem_of_getElem? (i := 89) rfl)) rfl
theorem znp_155 : znp zm_155 1 := by unfold znp; decide +kernel
set_option maxRecDepth 100000 in
theorem zin_155 : Cond.instanceMethod zm_155.1.1 ∈ zW := zW_in (zch_5 _ (List.mem_of_getElem? (i := 49) rfl)) rfl
set_option maxRecDepth 100000 in
theorem zse_155 : Cond.selects zm_155.1.1.cls zm_155.1.1 zm_155.1.1 ∈ zW := zW_in (zch_5 _ (List.mem_of_getElem? (i := 50) rfl)) rfl
theorem znp_272 : znp zm_272 1 := by unfold znp; decide +kernel
set_option maxRecDepth 100000 in
theorem zin_272 : Cond.instanceMethod zm_272.1.1 ∈ zW := zW_in (zch_7 _ (List.mem_of_getElem? (i := 100) rfl)) rfl
set_option maxRecDepth 100000 in
theorem zse_272 : Cond.selects zm_272.1.1.cls zm_272.1.1 zm_272.1.1 ∈ zW := zW_in (zch_7 _ (List.mem_of_getElem? (i := 101) rfl)) rfl
theorem znp_156 : znp zm_156 0 := by unfold znp; decide +kernel
set_option maxRecDepth 100000 in
theorem zin_156 : Cond.instanceMethod zm_156.1.1 ∈ zW := zW_in (zch_5 _ (List.mem_of_getElem? (i := 53) rfl)) rfl
set_option maxRecDepth 100000 in
theorem zse_156 : Cond.selects zm_156.1.1.cls zm_156.1.1 zm_156.1.1 ∈ zW := zW_in (zch_5 _ (List.mem_of_getElem? (i := 54) rfl)) rfl
theorem znp_273 : znp zm_273 0 := by unfold znp; decide +kernel
set_option maxRecDepth 100000 in
theorem zin_273 : Cond.instanceMethod zm_273.1.1 ∈ zW := zW_in (zch_7 _ (List.mem_of_getElem? (i := 112) rfl)) rfl
set_option maxRecDepth 100000 in
theorem zse_273 : Cond.selects zm_273.1.1.cls zm_273.1.1 zm_273.1.1 ∈ zW := zW_in (zch_7 _ (List.mem_of_getElem? (i := 113) rfl)) rfl
theorem znp_157 : znp zm_157 1 := by unfold znp; decide +kernel
set_option maxRecDepth 100000 in
theorem zin_157 : Cond.instanceMethod zm_157.1.1 ∈ zW := zW_in (zch_5 _ (List.mem_of_getElem? (i := 57) rfl)) rfl
set_option maxRecDepth 100000 in
theorem zse_157 : Cond.selects zm_157.1.1.cls zm_157.1.1 zm_157.1.1 ∈ zW := zW_in (zch_5 _ (List.mem_of_getElem? (i := 58) rfl)) rfl
theorem znp_274 : znp zm_274 1 := by unfold znp; decide +kernel
set_option maxRecDepth 100000 in
theorem zin_274 : Cond.instanceMethod zm_274.1.1 ∈ zW := zW_in (zch_7 _ (List.mem_of_getElem? (i := 120) rfl)) rfl
set_option maxRecDepth 100000 in
theorem zse_274 : Cond.selects zm_274.1.1.cls zm_274.1.1 zm_274.1.1 ∈ zW := zW_in (zch_7 _ (List.mem_of_getElem? (i := 121) rfl)) rfl
theorem znp_158 : znp zm_158 2 := by unfold znp; decide +kernel
set_option maxRecDepth 100000 in
theorem zin_158 : Cond.instanceMethod zm_158.1.1 ∈ zW := zW_in (zch_5 _ (List.mem_of_getElem? (i := 61) rfl)) rfl
set_option maxRecDepth 100000 in
theorem zse_158 : Cond.selects zm_158.1.1.cls zm_158.1.1 zm_158.1.1 ∈ zW := zW_in (zch_5 _ (List.mem_of_getElem? (i := 62) rfl)) rfl
theorem znp_275 : znp zm_275 2 := by unfold znp; decide +kernel
set_option maxRecDepth 100000 in
theorem zin_275 : Cond.instanceMethod zm_275.1.1 ∈ zW := zW_in (zch_7 _ (List.mem_of_getElem? (i := 125) rfl)) rfl
set_option maxRecDepth 100000 in
theorem zse_275 : Cond.selects zm_275.1.1.cls zm_275.1.1 zm_275.1.1 ∈ zW := zW_in (zch_7 _ (List.mem_of_getElem? (i := 126) rfl)) rfl
theorem znp_159 : znp zm_159 1 := by unfold znp; decide +kernel
set_option maxRecDepth 100000 in
theorem zin_159 : Cond.instanceMethod zm_159.1.1 ∈ zW := zW_in (zch_5 _ (List.mem_of_getElem? (i := 65) rfl)) rfl
set_option maxRecDepth 100000 in
theorem zse_159 : Cond.selects zm_159.1.1.cls zm_159.1.1 zm_159.1.1 ∈ zW := zW_in (zch_5 _ (List.mem_of_getElem? (i := 66) rfl)) rfl
theorem znp_276 : znp zm_276 1 := by unfold znp; decide +kernel
set_option maxRecDepth 100000 in
theorem zin_276 : Cond.instanceMethod zm_276.1.1 ∈ zW := zW_in (zch_7 _ (List.mem_of_getElem? (i := 129) rfl)) rfl
set_option maxRecDepth 100000 in
theorem zse_276 : Cond.selects zm_276.1.1.cls zm_276.1.1 zm_276.1.1 ∈ zW := zW_in (zch_7 _ (List.mem_of_getElem? (i := 130) rfl)) rfl
theorem znp_160 : znp zm_160 1 := by unfold znp; decide +kernel
set_option maxRecDepth 100000 in
theorem zin_160 : Cond.instanceMethod zm_160.1.1 ∈ zW := zW_in (zch_5 _ (List.mem_of_getElem? (i := 69) rfl)) rfl
set_option maxRecDepth 100000 in
theorem zse_160 : Cond.selects zm_160.1.1.cls zm_160.1.1 zm_160.1.1 ∈ zW := zW_in (zch_5 _ (List.mem_of_getElem? (i := 70) rfl)) rfl
theorem znp_278 : znp zm_278 1 := by unfold znp; decide +kernel
set_option maxRecDepth 100000 in
theorem zin_278 : Cond.instanceMethod zm_278.1.1 ∈ zW := zW_in (zch_7 _ (List.mem_of_getElem? (i := 133) rfl)) rfl
set_option maxRecDepth 100000 in
theorem zse_278 : Cond.selects zm_278.1.1.cls zm_278.1.1 zm_278.1.1 ∈ zW := zW_in (zch_7 _ (List.mem_of_getElem? (i := 134) rfl)) rfl
theorem znp_162 : znp zm_162 0 := by unfold znp; decide +kernel
set_option maxRecDepth 100000 in
theorem zin_162 : Cond.instanceMethod zm_162.1.1 ∈ zW := zW_in (zch_5 _ (List.mem_of_getElem? (i := 77) rfl)) rfl
set_option maxRecDepth 100000 in
theorem zse_162 : Cond.selects zm_162.1.1.cls zm_162.1.1 zm_162.1.1 ∈ zW := zW_in (zch_5 _ (List.mem_of_getElem? (i := 78) rfl)) rfl
theorem znp_280 : znp zm_280 0 := by unfold znp; decide +kernel
set_option maxRecDepth 100000 in
theorem zin_280 : Cond.instanceMethod zm_280.1.1 ∈ zW := zW_in (zch_7 _ (List.mem_of_getElem? (i := 141) rfl)) rfl
set_option maxRecDepth 100000 in
theorem zse_280 : Cond.selects zm_280.1.1.cls zm_280.1.1 zm_280.1.1 ∈ zW := zW_in (zch_7 _ (List.mem_of_getElem? (i := 142) rfl)) rfl
theorem znp_164 : znp zm_164 1 := by unfold znp; decide +kernel
set_option maxRecDepth 100000 in
theorem zin_164 : Cond.instanceMethod zm_164.1.1 ∈ zW := zW_in (zch_5 _ (List.mem_of_getElem? (i := 89) rfl)) rfl
set_option maxRecDepth 100000 in
theorem zse_164 : Cond.selects zm_164.1.1.cls zm_164.1.1 zm_164.1.1 ∈ zW := zW_in (zch_5 _ (List.mem_of_getElem? (i := 90) rfl)) rfl
theorem znp_283 : znp zm_283 1 := by unfold znp; decide +kernel
set_option maxRecDepth 100000 in
theorem zin_283 : Cond.instanceMethod zm_283.1.1 ∈ zW := zW_in (zch_7 _ (List.mem_of_getElem? (i := 149) rfl)) rfl
set_option maxRecDepth 100000 in
theorem zse_283 : Cond.selects zm_283.1.1.cls zm_283.1.1 zm_283.1.1 ∈ zW := zW_in (zch_7 _ (List.mem_of_getElem? (i := 150) rfl)) rfl
theorem znp_165 : znp zm_165 1 := by unfold znp; decide +kernel
set_option maxRecDepth 100000 in
theorem zin_165 : Cond.instanceMethod zm_165.1.1 ∈ zW := zW_in (zch_5 _ (List.mem_of_getElem? (i := 98) rfl)) rfl
set_option maxRecDepth 100000 in
theorem zse_165 : Cond.selects zm_165.1.1.cls zm_165.1.1 zm_165.1.1 ∈ zW := zW_in (zch_5 _ (List.mem_of_getElem? (i := 99) rfl)) rfl
theorem znp_284 : znp zm_284 1 := by unfold znp; decide +kernel
set_option maxRecDepth 100000 in
theorem zin_284 : Cond.instanceMethod zm_284.1.1 ∈ zW := zW_in (zch_7 _ (List.mem_of_getElem? (i := 157) rfl)) rfl
set_option maxRecDepth 100000 in
theorem zse_284 : Cond.selects zm_284.1.1.cls zm_284.1.1 zm_284.1.1 ∈ zW := zW_in (zch_7 _ (List.mem_of_getElem? (i := 158) rfl)) rfl
theorem znp_166 : znp zm_166 1 := by unfold znp; decide +kernel
set_option maxRecDepth 100000 in
theorem zin_166 : Cond.instanceMethod zm_166.1.1 ∈ zW := zW_in (zch_5 _ (List.mem_of_getElem? (i := 102) rfl)) rfl
set_option maxRecDepth 100000 in
theorem zse_166 : Cond.selects zm_166.1.1.cls zm_166.1.1 zm_166.1.1 ∈ zW := zW_in (zch_5 _ (List.mem_of_getElem? (i := 103) rfl)) rfl
theorem znp_285 : znp zm_285 1 := by unfold znp; decide +kernel
set_option maxRecDepth 100000 in
theorem zin_285 : Cond.instanceMethod zm_285.1.1 ∈ zW := zW_in (zch_7 _ (List.mem_of_getElem? (i := 165) rfl)) rfl
set_option maxRecDepth 100000 in
theorem zse_285 : Cond.selects zm_285.1.1.cls zm_285.1.1 zm_285.1.1 ∈ zW := zW_in (zch_7 _ (List.mem_of_getElem? (i := 166) rfl)) rfl
theorem znp_287 : znp zm_287 1 := by unfold znp; decide +kernel
set_option maxRecDepth 100000 in
theorem zin_287 : Cond.instanceMethod zm_287.1.1 ∈ zW := zW_in (zch_8 _ (List.mem_of_getElem? (i := 134) rfl)) rfl
set_option maxRecDepth 100000 in
theorem zse_287 : Cond.selects zm_287.1.1.cls zm_287.1.1 zm_287.1.1 ∈ zW := zW_in (zch_8 _ (List.mem_of_getElem? (i := 135) rfl)) rfl
theorem znp_170 : znp zm_170 0 := by unfold znp; decide +kernel
set_option maxRecDepth 100000 in
theorem zin_170 : Cond.instanceMethod zm_170.1.1 ∈ zW := zW_in (zch_5 _ (List.mem_of_getElem? (i := 175) rfl)) rfl
set_option maxRecDepth 100000 in
theorem zse_170 : Cond.selects zm_170.1.1.cls zm_170.1.1 zm_170.1.1 ∈ zW := zW_in (zch_5 _ (List.mem_of_getElem? (i := 176) rfl)) rfl
set_option maxRecDepth 100000 in
theorem zCL_ok_0_0 : zCLp (0, 3, 0, 5, 2) := ⟨zW_in (zch_1 _ (List.mem_of_getElem? (i := 194) rfl)) rfl, zW_in (zch_1 _ (List.mem_of_getElem? (i := 26) rfl)) rfl, zW_in (zch_1 _ (List.mem_of_getElem? (i := 27) rfl)) rfl⟩
set_option maxRecDepth 100000 in
theorem zCL_ok_0_1 : zCLp (0, 55, 2, 0, 0) := ⟨zm_2, rfl, zW_in (zch_3 _ (List.mem_of_getElem? (i := 145) rfl)) rfl, zin_2, zse_2, by decide, _, rfl, znp_2⟩
set_option maxRecDepth 100000 in
theorem zCL_ok_0_2 : zCLp (0, 64, 94, 0, 0) := ⟨zm_94, rfl, zW_in (zch_3 _ (List.mem_of_getElem? (i := 153) rfl)) rfl, zin_94, zse_94, by decide, _, rfl, znp_94⟩
set_option maxRecDepth 100000 in
theorem zCL_ok_0_3 : zCLp (0, 71, 95, 0, 0) := ⟨zm_95, rfl, zW_in (zch_3 _ (List.mem_of_getElem? (i := 149) rfl)) rfl, zin_95, zse_95, by decide, _, rfl, znp_95⟩
set_option maxRecDepth 100000 in
theorem zCL_ok_0_4 : zCLp (0, 75, 16, 0, 0) := ⟨zm_16, rfl, zW_in (zch_3 _ (List.mem_of_getElem? (i := 151) rfl)) rfl, zin_16, zse_16, by decide, _, rfl, znp_16⟩
set_option maxRecDepth 100000 in
theorem zCL_ok_0_5 : zCLp (0, 79, 92, 0, 0) := ⟨zm_92, rfl, zW_in (zch_3 _ (List.mem_of_getElem? (i := 152) rfl)) rfl, zin_92, zse_92, by decide, _, rfl, znp_92⟩
set_option maxRecDepth 100000 in
theorem zCL_ok_0_6 : zCLp (0, 83, 80, 0, 0) := ⟨zm_80, rfl, zW_in (zch_3 _ (List.mem_of_getElem? (i := 207) rfl)) rfl, zin_80, zse_80, by decide, _, rfl, znp_80⟩
set_option maxRecDepth 100000 in
theorem zCL_ok_0_7 : zCLp (0, 86, 8, 1, 0) := ⟨zm_8, rfl, zW_in (zch_3 _ (List.mem_of_getElem? (i := 162) rfl)) rfl, zin_8, zse_8, by decide, _, rfl, znp_8⟩
set_option maxRecDepth 100000 in
theorem zCL_ok_0_8 : zCLp (0, 92, 290, 1, 1) := ⟨zm_290, rfl, zW_in (zch_3 _ (List.mem_of_getElem? (i := 167) rfl)) rfl, zst_290, by decide, znp_290⟩
set_option maxRecDepth 100000 in
theorem zCL_ok_0_9 : zCLp (0, 98, 9, 0, 0) := ⟨zm_9, rfl, zW_in (zch_3 _ (List.mem_of_getElem? (i := 168) rfl)) rfl, zin_9, zse_9, by decide, _, rfl, znp_9⟩
set_option maxRecDepth 100000 in
theorem zCL_ok_0_10 : zCLp (0, 101, 4, 0, 0) := ⟨zm_4, rfl, zW_in (zch_3 _ (List.mem_of_getElem? (i := 158) rfl)) rfl, zin_4, zse_4, by decide, _, rfl, znp_4⟩
set_option maxRecDepth 100000 in
theorem zCL_ok_0_11 : zCLp (0, 105, 6, 0, 0) := ⟨zm_6, rfl, zW_in (zch_3 _ (List.mem_of_getElem? (i := 183) rfl)) rfl, zin_6, zse_6, by decide, _, rfl, znp_6⟩
theorem zCL_ok_0 : ∀ f ∈ [(0, 3, 0, 5, 2), (0, 55, 2, 0, 0), (0, 64, 94, 0, 0), (0, 71, 95, 0, 0), (0, 75, 16, 0, 0), (0, 79, 92, 0, 0), (0, 83, 80, 0, 0), (0, 86, 8, 1, 0), (0, 92, 290, 1, 1), (0, 98, 9, 0, 0), (0, 101, 4, 0, 0), (0, 105, 6, 0, 0)], zCLp f := List.forall_mem_cons.mpr ⟨zCL_ok_0_0, List.forall_mem_cons.mpr ⟨zCL_ok_0_1, List.forall_mem_cons.mpr ⟨zCL_ok_0_2, List.forall_mem_cons.mpr ⟨zCL_ok_0_3, List.forall_mem_cons.mpr ⟨zCL_ok_0_4, List.forall_mem_cons.mpr ⟨zCL_ok_0_5, List.forall_mem_cons.mpr ⟨zCL_ok_0_6, List.forall_mem_cons.mpr ⟨zCL_ok_0_7, List.forall_mem_cons.mpr ⟨zCL_ok_0_8, List.forall_mem_cons.mpr ⟨zCL_ok_0_9, List.forall_mem_cons.mpr ⟨zCL_ok_0_10, List.forall_mem_cons.mpr ⟨zCL_ok_0_11, fun _ h => absurd h List.not_mem_nil⟩⟩⟩⟩⟩⟩⟩⟩⟩⟩⟩⟩
set_option maxRecDepth 100000 in
theorem zCL_ok_1_0 : zCLp (0, 108, 7, 0, 0) := ⟨zm_7, rfl, zW_in (zch_3 _ (List.mem_of_getElem? (i := 179) rfl)) rfl, zin_7, zse_7, by decide, _, rfl, znp_7⟩
set_option maxRecDepth 100000 in
theorem zCL_ok_1_1 : zCLp (0, 111, 0, 8, 1) := ⟨zW_in (zch_3 _ (List.mem_of_getElem? (i := 166) rfl)) rfl, zW_in (zch_2 _ (List.mem_of_getElem? (i := 231) rfl)) rfl, zW_in (zch_1 _ (List.mem_of_getElem? (i := 12) rfl)) rfl, zW_in (zch_2 _ (List.mem_of_getElem? (i := 232) rfl)) rfl⟩
set_option maxRecDepth 100000 in
theorem zCL_ok_1_2 : zCLp (0, 117, 288, 0, 1) := ⟨zm_288, rfl, zW_in (zch_3 _ (List.mem_of_getElem? (i := 173) rfl)) rfl, zst_288, by decide, znp_288⟩
set_option maxRecDepth 100000 in
theorem zCL_ok_1_3 : zCLp (0, 98, 9, 2, 0) := ⟨zm_9, rfl, zW_in (zch_3 _ (List.mem_of_getElem? (i := 168) rfl)) rfl, zin_9, zse_9, by decide, _, rfl, znp_9⟩
set_option maxRecDepth 100000 in
theorem zCL_ok_1_4 : zCLp (0, 125, 11, 1, 0) := ⟨zm_11, rfl, zW_in (zch_5 _ (List.mem_of_getElem? (i := 24) rfl)) rfl, zin_11, zse_11, by decide, _, rfl, znp_11⟩
set_option maxRecDepth 100000 in
theorem zCL_ok_1_5 : zCLp (0, 129, 12, 0, 0) := ⟨zm_12, rfl, zW_in (zch_5 _ (List.mem_of_getElem? (i := 28) rfl)) rfl, zin_12, zse_12, by decide, _, rfl, znp_12⟩
set_option maxRecDepth 100000 in
theorem zCL_ok_1_6 : zCLp (0, 133, 0, 6, 1) := ⟨zW_in (zch_5 _ (List.mem_of_getElem? (i := 32) rfl)) rfl, zW_in (zch_2 _ (List.mem_of_getElem? (i := 200) rfl)) rfl, zW_in (zch_2 _ (List.mem_of_getElem? (i := 199) rfl)) rfl, zW_in (zch_1 _ (List.mem_of_getElem? (i := 13) rfl)) rfl⟩
set_option maxRecDepth 100000 in
theorem zCL_ok_1_7 : zCLp (0, 125, 11, 3, 0) := ⟨zm_11, rfl, zW_in (zch_5 _ (List.mem_of_getElem? (i := 24) rfl)) rfl, zin_11, zse_11, by decide, _, rfl, znp_11⟩
set_option maxRecDepth 100000 in
theorem zCL_ok_1_8 : zCLp (1, 3, 0, 5, 2) := ⟨zW_in (zch_1 _ (List.mem_of_getElem? (i := 33) rfl)) rfl, zW_in (zch_1 _ (List.mem_of_getElem? (i := 26) rfl)) rfl, zW_in (zch_1 _ (List.mem_of_getElem? (i := 27) rfl)) rfl⟩
set_option maxRecDepth 100000 in
theorem zCL_ok_1_9 : zCLp (2, 3, 0, 5, 2) := ⟨zW_in (zch_1 _ (List.mem_of_getElem? (i := 83) rfl)) rfl, zW_in (zch_1 _ (List.mem_of_getElem? (i := 26) rfl)) rfl, zW_in (zch_1 _ (List.mem_of_getElem? (i := 27) rfl)) rfl⟩
set_option maxRecDepth 100000 in
theorem zCL_ok_1_10 : zCLp (2, 21, 290, 1, 1) := ⟨zm_290, rfl, zW_in (zch_2 _ (List.mem_of_getElem? (i := 146) rfl)) rfl, zst_290, by decide, znp_290⟩
set_option maxRecDepth 100000 in
theorem zCL_ok_1_11 : zCLp (2, 31, 0, 6, 1) := ⟨zW_in (zch_2 _ (List.mem_of_getElem? (i := 198) rfl)) rfl, zW_in (zch_2 _ (List.mem_of_getElem? (i := 200) rfl)) rfl, zW_in (zch_2 _ (List.mem_of_getElem? (i := 199) rfl)) rfl, zW_in (zch_1 _ (List.mem_of_getElem? (i := 13) rfl)) rfl⟩
theorem zCL_ok_1 : ∀ f ∈ [(0, 108, 7, 0, 0), (0, 111, 0, 8, 1), (0, 117, 288, 0, 1), (0, 98, 9, 2, 0), (0, 125, 11, 1, 0), (0, 129, 12, 0, 0), (0, 133, 0, 6, 1), (0, 125, 11, 3, 0), (1, 3, 0, 5, 2), (2, 3, 0, 5, 2), (2, 21, 290, 1, 1), (2, 31, 0, 6, 1)], zCLp f := List.forall_mem_cons.mpr ⟨zCL_ok_1_0, List.forall_mem_cons.mpr ⟨zCL_ok_1_1, List.forall_mem_cons.mpr ⟨zCL_ok_1_2, List.forall_mem_cons.mpr ⟨zCL_ok_1_3, List.forall_mem_cons.mpr ⟨zCL_ok_1_4, List.forall_mem_cons.mpr ⟨zCL_ok_1_5, List.forall_mem_cons.mpr ⟨zCL_ok_1_6, List.forall_mem_cons.mpr ⟨zCL_ok_1_7, List.forall_mem_cons.mpr ⟨zCL_ok_1_8, List.forall_mem_cons.mpr ⟨zCL_ok_1_9, List.forall_mem_cons.mpr ⟨zCL_ok_1_10, List.forall_mem_cons.mpr ⟨zCL_ok_1_11, fun _ h => absurd h List.not_mem_nil⟩⟩⟩⟩⟩⟩⟩⟩⟩⟩⟩⟩
set_option maxRecDepth 100000 in
theorem zCL_ok_2_0 : zCLp (3, 1, 0, 5, 2) := ⟨zW_in (zch_2 _ (List.mem_of_getElem? (i := 6) rfl)) rfl, zW_in (zch_1 _ (List.mem_of_getElem? (i := 26) rfl)) rfl, zW_in (zch_1 _ (List.mem_of_getElem? (i := 27) rfl)) rfl⟩
set_option maxRecDepth 100000 in
theorem zCL_ok_2_1 : zCLp (3, 18, 289, 0, 1) := ⟨zm_289, rfl, zW_in (zch_4 _ (List.mem_of_getElem? (i := 122) rfl)) rfl, zst_289, by decide, znp_289⟩
set_option maxRecDepth 100000 in
theorem zCL_ok_2_2 : zCLp (4, 3, 0, 5, 2) := ⟨zW_in (zch_1 _ (List.mem_of_getElem? (i := 239) rfl)) rfl, zW_in (zch_1 _ (List.mem_of_getElem? (i := 26) rfl)) rfl, zW_in (zch_1 _ (List.mem_of_getElem? (i := 27) rfl)) rfl⟩
theorem zCL_ok_2_3 : zCLp (4, 30, 26, 4, 3) := ⟨zm_26, rfl, fun U h => h.1.1, zin_26, by decide +kernel, rfl, by decide, _, rfl, znp_26⟩
set_option maxRecDepth 100000 in
theorem zCL_ok_2_4 : zCLp (4, 81, 41, 1, 0) := ⟨zm_41, rfl, zW_in (zch_4 _ (List.mem_of_getElem? (i := 62) rfl)) rfl, zin_41, zse_41, by decide, _, rfl, znp_41⟩
set_option maxRecDepth 100000 in
theorem zCL_ok_2_5 : zCLp (4, 85, 44, 0, 0) := ⟨zm_44, rfl, zW_in (zch_4 _ (List.mem_of_getElem? (i := 67) rfl)) rfl, zin_44, zse_44, by decide, _, rfl, znp_44⟩
set_option maxRecDepth 100000 in
theorem zCL_ok_2_6 : zCLp (4, 89, 45, 0, 0) := ⟨zm_45, rfl, zW_in (zch_4 _ (List.mem_of_getElem? (i := 78) rfl)) rfl, zin_45, zse_45, by decide, _, rfl, znp_45⟩
set_option maxRecDepth 100000 in
theorem zCL_ok_2_7 : zCLp (4, 92, 46, 0, 0) := ⟨zm_46, rfl, zW_in (zch_4 _ (List.mem_of_getElem? (i := 87) rfl)) rfl, zin_46, zse_46, by decide, _, rfl, znp_46⟩
set_option maxRecDepth 100000 in
theorem zCL_ok_2_8 : zCLp (4, 95, 27, 1, 0) := ⟨zm_27, rfl, zW_in (zch_4 _ (List.mem_of_getElem? (i := 97) rfl)) rfl, zin_27, zse_27, by decide, _, rfl, znp_27⟩
set_option maxRecDepth 100000 in
theorem zCL_ok_2_9 : zCLp (4, 103, 29, 1, 0) := ⟨zm_29, rfl, zW_in (zch_4 _ (List.mem_of_getElem? (i := 101) rfl)) rfl, zin_29, zse_29, by decide, _, rfl, znp_29⟩
set_option maxRecDepth 100000 in
theorem zCL_ok_2_10 : zCLp (4, 107, 0, 6, 1) := ⟨zW_in (zch_4 _ (List.mem_of_getElem? (i := 66) rfl)) rfl, zW_in (zch_2 _ (List.mem_of_getElem? (i := 200) rfl)) rfl, zW_in (zch_2 _ (List.mem_of_getElem? (i := 199) rfl)) rfl, zW_in (zch_1 _ (List.mem_of_getElem? (i := 13) rfl)) rfl⟩
set_option maxRecDepth 100000 in
theorem zCL_ok_2_11 : zCLp (4, 81, 41, 3, 0) := ⟨zm_41, rfl, zW_in (zch_4 _ (List.mem_of_getElem? (i := 62) rfl)) rfl, zin_41, zse_41, by decide, _, rfl, znp_41⟩
theorem zCL_ok_2 : ∀ f ∈ [(3, 1, 0, 5, 2), (3, 18, 289, 0, 1), (4, 3, 0, 5, 2), (4, 30, 26, 4, 3), (4, 81, 41, 1, 0), (4, 85, 44, 0, 0), (4, 89, 45, 0, 0), (4, 92, 46, 0, 0), (4, 95, 27, 1, 0), (4, 103, 29, 1, 0), (4, 107, 0, 6, 1), (4, 81, 41, 3, 0)], zCLp f := List.forall_mem_cons.mpr ⟨zCL_ok_2_0, List.forall_mem_cons.mpr ⟨zCL_ok_2_1, List.forall_mem_cons.mpr ⟨zCL_ok_2_2, List.forall_mem_cons.mpr ⟨zCL_ok_2_3, List.forall_mem_cons.mpr ⟨zCL_ok_2_4, List.forall_mem_cons.mpr ⟨zCL_ok_2_5, List.forall_mem_cons.mpr ⟨zCL_ok_2_6, List.forall_mem_cons.mpr ⟨zCL_ok_2_7, List.forall_mem_cons.mpr ⟨zCL_ok_2_8, List.forall_mem_cons.mpr ⟨zCL_ok_2_9, List.forall_mem_cons.mpr ⟨zCL_ok_2_10, List.forall_mem_cons.mpr ⟨zCL_ok_2_11, fun _ h => absurd h List.not_mem_nil⟩⟩⟩⟩⟩⟩⟩⟩⟩⟩⟩⟩
set_option maxRecDepth 100000 in
theorem zCL_ok_3_0 : zCLp (4, 113, 0, 9, 1) := ⟨zW_in (zch_4 _ (List.mem_of_getElem? (i := 85) rfl)) rfl, zW_in (zch_2 _ (List.mem_of_getElem? (i := 148) rfl)) rfl, zW_in (zch_1 _ (List.mem_of_getElem? (i := 12) rfl)) rfl, zW_in (zch_2 _ (List.mem_of_getElem? (i := 149) rfl)) rfl⟩
set_option maxRecDepth 100000 in
theorem zCL_ok_3_1 : zCLp (4, 119, 0, 8, 1) := ⟨zW_in (zch_4 _ (List.mem_of_getElem? (i := 86) rfl)) rfl, zW_in (zch_2 _ (List.mem_of_getElem? (i := 231) rfl)) rfl, zW_in (zch_1 _ (List.mem_of_getElem? (i := 12) rfl)) rfl, zW_in (zch_2 _ (List.mem_of_getElem? (i := 232) rfl)) rfl⟩
set_option maxRecDepth 100000 in
theorem zCL_ok_3_2 : zCLp (4, 122, 39, 0, 0) := ⟨zm_39, rfl, zW_in (zch_4 _ (List.mem_of_getElem? (i := 71) rfl)) rfl, zin_39, zse_39, by decide, _, rfl, znp_39⟩
set_option maxRecDepth 100000 in
theorem zCL_ok_3_3 : zCLp (4, 125, 42, 0, 1) := ⟨zm_42, rfl, zW_in (zch_4 _ (List.mem_of_getElem? (i := 75) rfl)) rfl, zst_42, by decide, znp_42⟩
set_option maxRecDepth 100000 in
theorem zCL_ok_3_4 : zCLp (4, 128, 43, 0, 1) := ⟨zm_43, rfl, zW_in (zch_4 _ (List.mem_of_getElem? (i := 82) rfl)) rfl, zst_43, by decide, znp_43⟩
set_option maxRecDepth 100000 in
theorem zCL_ok_3_5 : zCLp (4, 131, 47, 0, 0) := ⟨zm_47, rfl, zW_in (zch_4 _ (List.mem_of_getElem? (i := 91) rfl)) rfl, zin_47, zse_47, by decide, _, rfl, znp_47⟩
set_option maxRecDepth 100000 in
theorem zCL_ok_3_6 : zCLp (4, 134, 23, 0, 0) := ⟨zm_23, rfl, zW_in (zch_4 _ (List.mem_of_getElem? (i := 95) rfl)) rfl, zin_23, zse_23, by decide, _, rfl, znp_23⟩
set_option maxRecDepth 100000 in
theorem zCL_ok_3_7 : zCLp (4, 138, 24, 0, 0) := ⟨zm_24, rfl, zW_in (zch_4 _ (List.mem_of_getElem? (i := 96) rfl)) rfl, zin_24, zse_24, by decide, _, rfl, znp_24⟩
set_option maxRecDepth 100000 in
theorem zCL_ok_3_8 : zCLp (4, 142, 95, 0, 0) := ⟨zm_95, rfl, zW_in (zch_4 _ (List.mem_of_getElem? (i := 109) rfl)) rfl, zin_95, zse_95, by decide, _, rfl, znp_95⟩
set_option maxRecDepth 100000 in
theorem zCL_ok_3_9 : zCLp (4, 147, 36, 0, 0) := ⟨zm_36, rfl, zW_in (zch_4 _ (List.mem_of_getElem? (i := 118) rfl)) rfl, zin_36, zse_36, by decide, _, rfl, znp_36⟩
set_option maxRecDepth 100000 in
theorem zCL_ok_3_10 : zCLp (4, 151, 49, 1, 0) := ⟨zm_49, rfl, zW_in (zch_4 _ (List.mem_of_getElem? (i := 132) rfl)) rfl, zin_49, zse_49, by decide, _, rfl, znp_49⟩
set_option maxRecDepth 100000 in
theorem zCL_ok_3_11 : zCLp (4, 154, 31, 0, 0) := ⟨zm_31, rfl, zW_in (zch_4 _ (List.mem_of_getElem? (i := 133) rfl)) rfl, zin_31, zse_31, by decide, _, rfl, znp_31⟩
theorem zCL_ok_3 : ∀ f ∈ [(4, 113, 0, 9, 1), (4, 119, 0, 8, 1), (4, 122, 39, 0, 0), (4, 125, 42, 0, 1), (4, 128, 43, 0, 1), (4, 131, 47, 0, 0), (4, 134, 23, 0, 0), (4, 138, 24, 0, 0), (4, 142, 95, 0, 0), (4, 147, 36, 0, 0), (4, 151, 49, 1, 0), (4, 154, 31, 0, 0)], zCLp f := List.forall_mem_cons.mpr ⟨zCL_ok_3_0, List.forall_mem_cons.mpr ⟨zCL_ok_3_1, List.forall_mem_cons.mpr ⟨zCL_ok_3_2, List.forall_mem_cons.mpr ⟨zCL_ok_3_3, List.forall_mem_cons.mpr ⟨zCL_ok_3_4, List.forall_mem_cons.mpr ⟨zCL_ok_3_5, List.forall_mem_cons.mpr ⟨zCL_ok_3_6, List.forall_mem_cons.mpr ⟨zCL_ok_3_7, List.forall_mem_cons.mpr ⟨zCL_ok_3_8, List.forall_mem_cons.mpr ⟨zCL_ok_3_9, List.forall_mem_cons.mpr ⟨zCL_ok_3_10, List.forall_mem_cons.mpr ⟨zCL_ok_3_11, fun _ h => absurd h List.not_mem_nil⟩⟩⟩⟩⟩⟩⟩⟩⟩⟩⟩⟩
set_option maxRecDepth 100000 in
theorem zCL_ok_4_0 : zCLp (4, 157, 32, 0, 0) := ⟨zm_32, rfl, zW_in (zch_4 _ (List.mem_of_getElem? (i := 137) rfl)) rfl, zin_32, zse_32, by decide, _, rfl, znp_32⟩
set_option maxRecDepth 100000 in
theorem zCL_ok_4_1 : zCLp (4, 161, 30, 1, 0) := ⟨zm_30, rfl, zW_in (zch_4 _ (List.mem_of_getElem? (i := 141) rfl)) rfl, zin_30, zse_30, by decide, _, rfl, znp_30⟩
set_option maxRecDepth 100000 in
theorem zCL_ok_4_2 : zCLp (4, 164, 54, 0, 0) := ⟨zm_54, rfl, zW_in (zch_4 _ (List.mem_of_getElem? (i := 154) rfl)) rfl, zin_54, zse_54, by decide, _, rfl, znp_54⟩
set_option maxRecDepth 100000 in
theorem zCL_ok_4_3 : zCLp (4, 170, 28, 1, 0) := ⟨zm_28, rfl, zW_in (zch_4 _ (List.mem_of_getElem? (i := 158) rfl)) rfl, zin_28, zse_28, by decide, _, rfl, znp_28⟩
set_option maxRecDepth 100000 in
theorem zCL_ok_4_4 : zCLp (4, 174, 34, 1, 0) := ⟨zm_34, rfl, zW_in (zch_4 _ (List.mem_of_getElem? (i := 162) rfl)) rfl, zin_34, zse_34, by decide, _, rfl, znp_34⟩
set_option maxRecDepth 100000 in
theorem zCL_ok_4_5 : zCLp (4, 177, 33, 1, 0) := ⟨zm_33, rfl, zW_in (zch_4 _ (List.mem_of_getElem? (i := 166) rfl)) rfl, zin_33, zse_33, by decide, _, rfl, znp_33⟩
set_option maxRecDepth 100000 in
theorem zCL_ok_4_6 : zCLp (4, 180, 55, 1, 0) := ⟨zm_55, rfl, zW_in (zch_4 _ (List.mem_of_getElem? (i := 170) rfl)) rfl, zin_55, zse_55, by decide, _, rfl, znp_55⟩
set_option maxRecDepth 100000 in
theorem zCL_ok_4_7 : zCLp (4, 183, 35, 1, 0) := ⟨zm_35, rfl, zW_in (zch_4 _ (List.mem_of_getElem? (i := 174) rfl)) rfl, zin_35, zse_35, by decide, _, rfl, znp_35⟩
set_option maxRecDepth 100000 in
theorem zCL_ok_4_8 : zCLp (4, 191, 57, 1, 0) := ⟨zm_57, rfl, zW_in (zch_4 _ (List.mem_of_getElem? (i := 195) rfl)) rfl, zin_57, zse_57, by decide, _, rfl, znp_57⟩
set_option maxRecDepth 100000 in
theorem zCL_ok_4_9 : zCLp (4, 194, 80, 0, 0) := ⟨zm_80, rfl, zW_in (zch_4 _ (List.mem_of_getElem? (i := 199) rfl)) rfl, zin_80, zse_80, by decide, _, rfl, znp_80⟩
set_option maxRecDepth 100000 in
theorem zCL_ok_4_10 : zCLp (4, 197, 48, 0, 0) := ⟨zm_48, rfl, zW_in (zch_4 _ (List.mem_of_getElem? (i := 208) rfl)) rfl, zin_48, zse_48, by decide, _, rfl, znp_48⟩
set_option maxRecDepth 100000 in
theorem zCL_ok_4_11 : zCLp (4, 200, 51, 0, 0) := ⟨zm_51, rfl, zW_in (zch_4 _ (List.mem_of_getElem? (i := 209) rfl)) rfl, zin_51, zse_51, by decide, _, rfl, znp_51⟩
theorem zCL_ok_4 : ∀ f ∈ [(4, 157, 32, 0, 0), (4, 161, 30, 1, 0), (4, 164, 54, 0, 0), (4, 170, 28, 1, 0), (4, 174, 34, 1, 0), (4, 177, 33, 1, 0), (4, 180, 55, 1, 0), (4, 183, 35, 1, 0), (4, 191, 57, 1, 0), (4, 194, 80, 0, 0), (4, 197, 48, 0, 0), (4, 200, 51, 0, 0)], zCLp f := List.forall_mem_cons.mpr ⟨zCL_ok_4_0, List.forall_mem_cons.mpr ⟨zCL_ok_4_1, List.forall_mem_cons.mpr ⟨zCL_ok_4_2, List.forall_mem_cons.mpr ⟨zCL_ok_4_3, List.forall_mem_cons.mpr ⟨zCL_ok_4_4, List.forall_mem_cons.mpr ⟨zCL_ok_4_5, List.forall_mem_cons.mpr ⟨zCL_ok_4_6, List.forall_mem_cons.mpr ⟨zCL_ok_4_7, List.forall_mem_cons.mpr ⟨zCL_ok_4_8, List.forall_mem_cons.mpr ⟨zCL_ok_4_9, List.forall_mem_cons.mpr ⟨zCL_ok_4_10, List.forall_mem_cons.mpr ⟨zCL_ok_4_11, fun _ h => absurd h List.not_mem_nil⟩⟩⟩⟩⟩⟩⟩⟩⟩⟩⟩⟩
set_option maxRecDepth 100000 in
theorem zCL_ok_5_0 : zCLp (4, 203, 60, 0, 0) := ⟨zm_60, rfl, zW_in (zch_4 _ (List.mem_of_getElem? (i := 210) rfl)) rfl, zin_60, zse_60, by decide, _, rfl, znp_60⟩
set_option maxRecDepth 100000 in
theorem zCL_ok_5_1 : zCLp (4, 206, 59, 0, 0) := ⟨zm_59, rfl, zW_in (zch_4 _ (List.mem_of_getElem? (i := 214) rfl)) rfl, zin_59, zse_59, by decide, _, rfl, znp_59⟩
set_option maxRecDepth 100000 in
theorem zCL_ok_5_2 : zCLp (4, 216, 62, 1, 0) := ⟨zm_62, rfl, zW_in (zch_4 _ (List.mem_of_getElem? (i := 230) rfl)) rfl, zin_62, zse_62, by decide, _, rfl, znp_62⟩
set_option maxRecDepth 100000 in
theorem zCL_ok_5_3 : zCLp (4, 219, 63, 0, 0) := ⟨zm_63, rfl, zW_in (zch_4 _ (List.mem_of_getElem? (i := 236) rfl)) rfl, zin_63, zse_63, by decide, _, rfl, znp_63⟩
set_option maxRecDepth 100000 in
theorem zCL_ok_5_4 : zCLp (4, 225, 64, 1, 0) := ⟨zm_64, rfl, zW_in (zch_5 _ (List.mem_of_getElem? (i := 4) rfl)) rfl, zin_64, zse_64, by decide, _, rfl, znp_64⟩
set_option maxRecDepth 100000 in
theorem zCL_ok_5_5 : zCLp (4, 229, 92, 0, 0) := ⟨zm_92, rfl, zW_in (zch_4 _ (List.mem_of_getElem? (i := 234) rfl)) rfl, zin_92, zse_92, by decide, _, rfl, znp_92⟩
set_option maxRecDepth 100000 in
theorem zCL_ok_5_6 : zCLp (4, 233, 93, 0, 0) := ⟨zm_93, rfl, zW_in (zch_4 _ (List.mem_of_getElem? (i := 235) rfl)) rfl, zin_93, zse_93, by decide, _, rfl, znp_93⟩
set_option maxRecDepth 100000 in
theorem zCL_ok_5_7 : zCLp (4, 236, 67, 0, 0) := ⟨zm_67, rfl, zW_in (zch_5 _ (List.mem_of_getElem? (i := 0) rfl)) rfl, zin_67, zse_67, by decide, _, rfl, znp_67⟩
set_option maxRecDepth 100000 in
theorem zCL_ok_5_8 : zCLp (4, 239, 65, 0, 0) := ⟨zm_65, rfl, zW_in (zch_5 _ (List.mem_of_getElem? (i := 8) rfl)) rfl, zin_65, zse_65, by decide, _, rfl, znp_65⟩
set_option maxRecDepth 100000 in
theorem zCL_ok_5_9 : zCLp (4, 225, 64, 3, 0) := ⟨zm_64, rfl, zW_in (zch_5 _ (List.mem_of_getElem? (i := 4) rfl)) rfl, zin_64, zse_64, by decide, _, rfl, znp_64⟩
set_option maxRecDepth 100000 in
theorem zCL_ok_5_10 : zCLp (4, 242, 66, 0, 0) := ⟨zm_66, rfl, zW_in (zch_5 _ (List.mem_of_getElem? (i := 12) rfl)) rfl, zin_66, zse_66, by decide, _, rfl, znp_66⟩
set_option maxRecDepth 100000 in
theorem zCL_ok_5_11 : zCLp (5, 3, 0, 5, 2) := ⟨zW_in (zch_1 _ (List.mem_of_getElem? (i := 156) rfl)) rfl, zW_in (zch_1 _ (List.mem_of_getElem? (i := 26) rfl)) rfl, zW_in (zch_1 _ (List.mem_of_getElem? (i := 27) rfl)) rfl⟩
theorem zCL_ok_5 : ∀ f ∈ [(4, 203, 60, 0, 0), (4, 206, 59, 0, 0), (4, 216, 62, 1, 0), (4, 219, 63, 0, 0), (4, 225, 64, 1, 0), (4, 229, 92, 0, 0), (4, 233, 93, 0, 0), (4, 236, 67, 0, 0), (4, 239, 65, 0, 0), (4, 225, 64, 3, 0), (4, 242, 66, 0, 0), (5, 3, 0, 5, 2)], zCLp f := List.forall_mem_cons.mpr ⟨zCL_ok_5_0, List.forall_mem_cons.mpr ⟨zCL_ok_5_1, List.forall_mem_cons.mpr ⟨zCL_ok_5_2, List.forall_mem_cons.mpr ⟨zCL_ok_5_3, List.forall_mem_cons.mpr ⟨zCL_ok_5_4, List.forall_mem_cons.mpr ⟨zCL_ok_5_5, List.forall_mem_cons.mpr ⟨zCL_ok_5_6, List.forall_mem_cons.mpr ⟨zCL_ok_5_7, List.forall_mem_cons.mpr ⟨zCL_ok_5_8, List.forall_mem_cons.mpr ⟨zCL_ok_5_9, List.forall_mem_cons.mpr ⟨zCL_ok_5_10, List.forall_mem_cons.mpr ⟨zCL_ok_5_11, fun _ h => absurd h List.not_mem_nil⟩⟩⟩⟩⟩⟩⟩⟩⟩⟩⟩⟩
theorem zCL_ok_6_0 : zCLp (5, 11, 17, 4, 3) := ⟨zm_17, rfl, fun U h => h.1.2.1, zin_17, by decide +kernel, rfl, by decide, _, rfl, znp_17⟩
set_option maxRecDepth 100000 in
theorem zCL_ok_6_1 : zCLp (5, 22, 18, 1, 0) := ⟨zm_18, rfl, zW_in (zch_2 _ (List.mem_of_getElem? (i := 142) rfl)) rfl, zin_18, zse_18, by decide, _, rfl, znp_18⟩
set_option maxRecDepth 100000 in
theorem zCL_ok_6_2 : zCLp (5, 29, 0, 9, 1) := ⟨zW_in (zch_2 _ (List.mem_of_getElem? (i := 147) rfl)) rfl, zW_in (zch_2 _ (List.mem_of_getElem? (i := 148) rfl)) rfl, zW_in (zch_1 _ (List.mem_of_getElem? (i := 12) rfl)) rfl, zW_in (zch_2 _ (List.mem_of_getElem? (i := 149) rfl)) rfl⟩
set_option maxRecDepth 100000 in
theorem zCL_ok_6_3 : zCLp (5, 38, 70, 0, 0) := ⟨zm_70, rfl, zW_in (zch_2 _ (List.mem_of_getElem? (i := 150) rfl)) rfl, zin_70, zse_70, by decide, _, rfl, znp_70⟩
set_option maxRecDepth 100000 in
theorem zCL_ok_6_4 : zCLp (5, 42, 75, 0, 0) := ⟨zm_75, rfl, zW_in (zch_2 _ (List.mem_of_getElem? (i := 154) rfl)) rfl, zin_75, zse_75, by decide, _, rfl, znp_75⟩
set_option maxRecDepth 100000 in
theorem zCL_ok_6_5 : zCLp (5, 46, 71, 0, 0) := ⟨zm_71, rfl, zW_in (zch_2 _ (List.mem_of_getElem? (i := 158) rfl)) rfl, zin_71, zse_71, by decide, _, rfl, znp_71⟩
set_option maxRecDepth 100000 in
theorem zCL_ok_6_6 : zCLp (5, 49, 72, 0, 0) := ⟨zm_72, rfl, zW_in (zch_2 _ (List.mem_of_getElem? (i := 166) rfl)) rfl, zin_72, zse_72, by decide, _, rfl, znp_72⟩
set_option maxRecDepth 100000 in
theorem zCL_ok_6_7 : zCLp (5, 52, 73, 0, 0) := ⟨zm_73, rfl, zW_in (zch_2 _ (List.mem_of_getElem? (i := 174) rfl)) rfl, zin_73, zse_73, by decide, _, rfl, znp_73⟩
set_option maxRecDepth 100000 in
theorem zCL_ok_6_8 : zCLp (5, 55, 74, 0, 0) := ⟨zm_74, rfl, zW_in (zch_2 _ (List.mem_of_getElem? (i := 182) rfl)) rfl, zin_74, zse_74, by decide, _, rfl, znp_74⟩
set_option maxRecDepth 100000 in
theorem zCL_ok_6_9 : zCLp (5, 58, 76, 0, 0) := ⟨zm_76, rfl, zW_in (zch_2 _ (List.mem_of_getElem? (i := 162) rfl)) rfl, zin_76, zse_76, by decide, _, rfl, znp_76⟩
set_option maxRecDepth 100000 in
theorem zCL_ok_6_10 : zCLp (5, 65, 20, 1, 0) := ⟨zm_20, rfl, zW_in (zch_2 _ (List.mem_of_getElem? (i := 170) rfl)) rfl, zin_20, zse_20, by decide, _, rfl, znp_20⟩
set_option maxRecDepth 100000 in
theorem zCL_ok_6_11 : zCLp (5, 69, 21, 1, 0) := ⟨zm_21, rfl, zW_in (zch_2 _ (List.mem_of_getElem? (i := 178) rfl)) rfl, zin_21, zse_21, by decide, _, rfl, znp_21⟩
theorem zCL_ok_6 : ∀ f ∈ [(5, 11, 17, 4, 3), (5, 22, 18, 1, 0), (5, 29, 0, 9, 1), (5, 38, 70, 0, 0), (5, 42, 75, 0, 0), (5, 46, 71, 0, 0), (5, 49, 72, 0, 0), (5, 52, 73, 0, 0), (5, 55, 74, 0, 0), (5, 58, 76, 0, 0), (5, 65, 20, 1, 0), (5, 69, 21, 1, 0)], zCLp f := List.forall_mem_cons.mpr ⟨zCL_ok_6_0, List.forall_mem_cons.mpr ⟨zCL_ok_6_1, List.forall_mem_cons.mpr ⟨zCL_ok_6_2, List.forall_mem_cons.mpr ⟨zCL_ok_6_3, List.forall_mem_cons.mpr ⟨zCL_ok_6_4, List.forall_mem_cons.mpr ⟨zCL_ok_6_5, List.forall_mem_cons.mpr ⟨zCL_ok_6_6, List.forall_mem_cons.mpr ⟨zCL_ok_6_7, List.forall_mem_cons.mpr ⟨zCL_ok_6_8, List.forall_mem_cons.mpr ⟨zCL_ok_6_9, List.forall_mem_cons.mpr ⟨zCL_ok_6_10, List.forall_mem_cons.mpr ⟨zCL_ok_6_11, fun _ h => absurd h List.not_mem_nil⟩⟩⟩⟩⟩⟩⟩⟩⟩⟩⟩⟩
set_option maxRecDepth 100000 in
theorem zCL_ok_7_0 : zCLp (5, 73, 77, 0, 0) := ⟨zm_77, rfl, zW_in (zch_2 _ (List.mem_of_getElem? (i := 186) rfl)) rfl, zin_77, zse_77, by decide, _, rfl, znp_77⟩
set_option maxRecDepth 100000 in
theorem zCL_ok_7_1 : zCLp (5, 76, 22, 1, 0) := ⟨zm_22, rfl, zW_in (zch_2 _ (List.mem_of_getElem? (i := 190) rfl)) rfl, zin_22, zse_22, by decide, _, rfl, znp_22⟩
set_option maxRecDepth 100000 in
theorem zCL_ok_7_2 : zCLp (6, 3, 0, 5, 2) := ⟨zW_in (zch_1 _ (List.mem_of_getElem? (i := 106) rfl)) rfl, zW_in (zch_1 _ (List.mem_of_getElem? (i := 26) rfl)) rfl, zW_in (zch_1 _ (List.mem_of_getElem? (i := 27) rfl)) rfl⟩
set_option maxRecDepth 100000 in
theorem zCL_ok_7_3 : zCLp (6, 37, 290, 1, 1) := ⟨zm_290, rfl, zW_in (zch_1 _ (List.mem_of_getElem? (i := 107) rfl)) rfl, zst_290, by decide, znp_290⟩
set_option maxRecDepth 100000 in
theorem zCL_ok_7_4 : zCLp (6, 43, 0, 6, 1) := ⟨zW_in (zch_5 _ (List.mem_of_getElem? (i := 96) rfl)) rfl, zW_in (zch_2 _ (List.mem_of_getElem? (i := 200) rfl)) rfl, zW_in (zch_2 _ (List.mem_of_getElem? (i := 199) rfl)) rfl, zW_in (zch_1 _ (List.mem_of_getElem? (i := 13) rfl)) rfl⟩
set_option maxRecDepth 100000 in
theorem zCL_ok_7_5 : zCLp (6, 52, 81, 0, 0) := ⟨zm_81, rfl, zW_in (zch_3 _ (List.mem_of_getElem? (i := 21) rfl)) rfl, zin_81, zse_81, by decide, _, rfl, znp_81⟩
set_option maxRecDepth 100000 in
theorem zCL_ok_7_6 : zCLp (6, 56, 80, 0, 0) := ⟨zm_80, rfl, zW_in (zch_3 _ (List.mem_of_getElem? (i := 22) rfl)) rfl, zin_80, zse_80, by decide, _, rfl, znp_80⟩
set_option maxRecDepth 100000 in
theorem zCL_ok_7_7 : zCLp (6, 59, 83, 0, 1) := ⟨zm_83, rfl, zW_in (zch_3 _ (List.mem_of_getElem? (i := 23) rfl)) rfl, zst_83, by decide, znp_83⟩
set_option maxRecDepth 100000 in
theorem zCL_ok_7_8 : zCLp (6, 63, 85, 1, 0) := ⟨zm_85, rfl, zW_in (zch_3 _ (List.mem_of_getElem? (i := 44) rfl)) rfl, zin_85, zse_85, by decide, _, rfl, znp_85⟩
set_option maxRecDepth 100000 in
theorem zCL_ok_7_9 : zCLp (6, 75, 14, 0, 0) := ⟨zm_14, rfl, zW_in (zch_3 _ (List.mem_of_getElem? (i := 105) rfl)) rfl, zin_14, zse_14, by decide, _, rfl, znp_14⟩
set_option maxRecDepth 100000 in
theorem zCL_ok_7_10 : zCLp (6, 79, 87, 0, 0) := ⟨zm_87, rfl, zW_in (zch_3 _ (List.mem_of_getElem? (i := 106) rfl)) rfl, zin_87, zse_87, by decide, _, rfl, znp_87⟩
set_option maxRecDepth 100000 in
theorem zCL_ok_7_11 : zCLp (6, 83, 89, 1, 0) := ⟨zm_89, rfl, zW_in (zch_3 _ (List.mem_of_getElem? (i := 107) rfl)) rfl, zin_89, zse_89, by decide, _, rfl, znp_89⟩
theorem zCL_ok_7 : ∀ f ∈ [(5, 73, 77, 0, 0), (5, 76, 22, 1, 0), (6, 3, 0, 5, 2), (6, 37, 290, 1, 1), (6, 43, 0, 6, 1), (6, 52, 81, 0, 0), (6, 56, 80, 0, 0), (6, 59, 83, 0, 1), (6, 63, 85, 1, 0), (6, 75, 14, 0, 0), (6, 79, 87, 0, 0), (6, 83, 89, 1, 0)], zCLp f := List.forall_mem_cons.mpr ⟨zCL_ok_7_0, List.forall_mem_cons.mpr ⟨zCL_ok_7_1, List.forall_mem_cons.mpr ⟨zCL_ok_7_2, List.forall_mem_cons.mpr ⟨zCL_ok_7_3, List.forall_mem_cons.mpr ⟨zCL_ok_7_4, List.forall_mem_cons.mpr ⟨zCL_ok_7_5, List.forall_mem_cons.mpr ⟨zCL_ok_7_6, List.forall_mem_cons.mpr ⟨zCL_ok_7_7, List.forall_mem_cons.mpr ⟨zCL_ok_7_8, List.forall_mem_cons.mpr ⟨zCL_ok_7_9, List.forall_mem_cons.mpr ⟨zCL_ok_7_10, List.forall_mem_cons.mpr ⟨zCL_ok_7_11, fun _ h => absurd h List.not_mem_nil⟩⟩⟩⟩⟩⟩⟩⟩⟩⟩⟩⟩
set_option maxRecDepth 100000 in
theorem zCL_ok_8_0 : zCLp (6, 87, 90, 1, 0) := ⟨zm_90, rfl, zW_in (zch_3 _ (List.mem_of_getElem? (i := 111) rfl)) rfl, zin_90, zse_90, by decide, _, rfl, znp_90⟩
set_option maxRecDepth 100000 in
theorem zCL_ok_8_1 : zCLp (7, 3, 0, 5, 2) := ⟨zW_in (zch_1 _ (List.mem_of_getElem? (i := 178) rfl)) rfl, zW_in (zch_1 _ (List.mem_of_getElem? (i := 26) rfl)) rfl, zW_in (zch_1 _ (List.mem_of_getElem? (i := 27) rfl)) rfl⟩
set_option maxRecDepth 100000 in
theorem zCL_ok_8_2 : zCLp (7, 23, 25, 0, 0) := ⟨zm_25, rfl, zW_in (zch_2 _ (List.mem_of_getElem? (i := 221) rfl)) rfl, zin_25, zse_25, by decide, _, rfl, znp_25⟩
set_option maxRecDepth 100000 in
theorem zCL_ok_8_3 : zCLp (7, 35, 0, 9, 1) := ⟨zW_in (zch_2 _ (List.mem_of_getElem? (i := 225) rfl)) rfl, zW_in (zch_2 _ (List.mem_of_getElem? (i := 148) rfl)) rfl, zW_in (zch_1 _ (List.mem_of_getElem? (i := 12) rfl)) rfl, zW_in (zch_2 _ (List.mem_of_getElem? (i := 149) rfl)) rfl⟩
set_option maxRecDepth 100000 in
theorem zCL_ok_8_4 : zCLp (7, 41, 23, 0, 0) := ⟨zm_23, rfl, zW_in (zch_2 _ (List.mem_of_getElem? (i := 226) rfl)) rfl, zin_23, zse_23, by decide, _, rfl, znp_23⟩
set_option maxRecDepth 100000 in
theorem zCL_ok_8_5 : zCLp (7, 49, 0, 8, 1) := ⟨zW_in (zch_2 _ (List.mem_of_getElem? (i := 230) rfl)) rfl, zW_in (zch_2 _ (List.mem_of_getElem? (i := 231) rfl)) rfl, zW_in (zch_1 _ (List.mem_of_getElem? (i := 12) rfl)) rfl, zW_in (zch_2 _ (List.mem_of_getElem? (i := 232) rfl)) rfl⟩
set_option maxRecDepth 100000 in
theorem zCL_ok_8_6 : zCLp (7, 52, 80, 0, 0) := ⟨zm_80, rfl, zW_in (zch_2 _ (List.mem_of_getElem? (i := 233) rfl)) rfl, zin_80, zse_80, by decide, _, rfl, znp_80⟩
set_option maxRecDepth 100000 in
theorem zCL_ok_8_7 : zCLp (7, 55, 81, 0, 0) := ⟨zm_81, rfl, zW_in (zch_2 _ (List.mem_of_getElem? (i := 237) rfl)) rfl, zin_81, zse_81, by decide, _, rfl, znp_81⟩
set_option maxRecDepth 100000 in
theorem zCL_ok_8_8 : zCLp (7, 58, 24, 0, 0) := ⟨zm_24, rfl, zW_in (zch_3 _ (List.mem_of_getElem? (i := 1) rfl)) rfl, zin_24, zse_24, by decide, _, rfl, znp_24⟩
set_option maxRecDepth 100000 in
theorem zCL_ok_8_9 : zCLp (7, 61, 94, 0, 0) := ⟨zm_94, rfl, zW_in (zch_3 _ (List.mem_of_getElem? (i := 13) rfl)) rfl, zin_94, zse_94, by decide, _, rfl, znp_94⟩
set_option maxRecDepth 100000 in
theorem zCL_ok_8_10 : zCLp (7, 64, 82, 0, 0) := ⟨zm_82, rfl, zW_in (zch_3 _ (List.mem_of_getElem? (i := 17) rfl)) rfl, zin_82, zse_82, by decide, _, rfl, znp_82⟩
set_option maxRecDepth 100000 in
theorem zCL_ok_8_11 : zCLp (7, 67, 87, 0, 0) := ⟨zm_87, rfl, zW_in (zch_3 _ (List.mem_of_getElem? (i := 84) rfl)) rfl, zin_87, zse_87, by decide, _, rfl, znp_87⟩
theorem zCL_ok_8 : ∀ f ∈ [(6, 87, 90, 1, 0), (7, 3, 0, 5, 2), (7, 23, 25, 0, 0), (7, 35, 0, 9, 1), (7, 41, 23, 0, 0), (7, 49, 0, 8, 1), (7, 52, 80, 0, 0), (7, 55, 81, 0, 0), (7, 58, 24, 0, 0), (7, 61, 94, 0, 0), (7, 64, 82, 0, 0), (7, 67, 87, 0, 0)], zCLp f := List.forall_mem_cons.mpr ⟨zCL_ok_8_0, List.forall_mem_cons.mpr ⟨zCL_ok_8_1, List.forall_mem_cons.mpr ⟨zCL_ok_8_2, List.forall_mem_cons.mpr ⟨zCL_ok_8_3, List.forall_mem_cons.mpr ⟨zCL_ok_8_4, List.forall_mem_cons.mpr ⟨zCL_ok_8_5, List.forall_mem_cons.mpr ⟨zCL_ok_8_6, List.forall_mem_cons.mpr ⟨zCL_ok_8_7, List.forall_mem_cons.mpr ⟨zCL_ok_8_8, List.forall_mem_cons.mpr ⟨zCL_ok_8_9, List.forall_mem_cons.mpr ⟨zCL_ok_8_10, List.forall_mem_cons.mpr ⟨zCL_ok_8_11, fun _ h => absurd h List.not_mem_nil⟩⟩⟩⟩⟩⟩⟩⟩⟩⟩⟩⟩
set_option maxRecDepth 100000 in
theorem zCL_ok_9_0 : zCLp (7, 71, 14, 0, 0) := ⟨zm_14, rfl, zW_in (zch_3 _ (List.mem_of_getElem? (i := 78) rfl)) rfl, zin_14, zse_14, by decide, _, rfl, znp_14⟩
set_option maxRecDepth 100000 in
theorem zCL_ok_9_1 : zCLp (7, 76, 92, 0, 0) := ⟨zm_92, rfl, zW_in (zch_3 _ (List.mem_of_getElem? (i := 79) rfl)) rfl, zin_92, zse_92, by decide, _, rfl, znp_92⟩
set_option maxRecDepth 100000 in
theorem zCL_ok_9_2 : zCLp (7, 80, 95, 0, 0) := ⟨zm_95, rfl, zW_in (zch_3 _ (List.mem_of_getElem? (i := 80) rfl)) rfl, zin_95, zse_95, by decide, _, rfl, znp_95⟩
set_option maxRecDepth 100000 in
theorem zCL_ok_9_3 : zCLp (7, 82, 96, 0, 0) := ⟨zm_96, rfl, zW_in (zch_3 _ (List.mem_of_getElem? (i := 88) rfl)) rfl, zin_96, zse_96, by decide, _, rfl, znp_96⟩
set_option maxRecDepth 100000 in
theorem zCL_ok_9_4 : zCLp (7, 88, 97, 0, 0) := ⟨zm_97, rfl, zW_in (zch_3 _ (List.mem_of_getElem? (i := 96) rfl)) rfl, zin_97, zse_97, by decide, _, rfl, znp_97⟩
set_option maxRecDepth 100000 in
theorem zCL_ok_9_5 : zCLp (7, 92, 16, 0, 0) := ⟨zm_16, rfl, zW_in (zch_3 _ (List.mem_of_getElem? (i := 66) rfl)) rfl, zin_16, zse_16, by decide, _, rfl, znp_16⟩
set_option maxRecDepth 100000 in
theorem zCL_ok_9_6 : zCLp (7, 96, 93, 0, 0) := ⟨zm_93, rfl, zW_in (zch_4 _ (List.mem_of_getElem? (i := 10) rfl)) rfl, zin_93, zse_93, by decide, _, rfl, znp_93⟩
set_option maxRecDepth 100000 in
theorem zCL_ok_9_7 : zCLp (8, 1, 0, 5, 2) := ⟨zW_in (zch_1 _ (List.mem_of_getElem? (i := 25) rfl)) rfl, zW_in (zch_1 _ (List.mem_of_getElem? (i := 26) rfl)) rfl, zW_in (zch_1 _ (List.mem_of_getElem? (i := 27) rfl)) rfl⟩
theorem zCL_ok_9_8 : zCLp (8, 9, 13, 4, 3) := ⟨zm_13, rfl, fun U h => h.1.2.2.1, zin_13, by decide +kernel, rfl, by decide, _, rfl, znp_13⟩
theorem zCL_ok_9_9 : zCLp (8, 18, 17, 4, 3) := ⟨zm_17, rfl, fun U h => h.1.2.2.2, zin_17, by decide +kernel, rfl, by decide, _, rfl, znp_17⟩
set_option maxRecDepth 100000 in
theorem zCL_ok_9_10 : zCLp (8, 25, 78, 4, 2) := ⟨zm_78, rfl, zW_in (zch_1 _ (List.mem_of_getElem? (i := 103) rfl)) rfl, zin_78, by decide +kernel, rfl, by decide, _, rfl, znp_78⟩
set_option maxRecDepth 100000 in
theorem zCL_ok_9_11 : zCLp (8, 40, 68, 4, 2) := ⟨zm_68, rfl, zW_in (zch_1 _ (List.mem_of_getElem? (i := 153) rfl)) rfl, zin_68, by decide +kernel, rfl, by decide, _, rfl, znp_68⟩
theorem zCL_ok_9 : ∀ f ∈ [(7, 71, 14, 0, 0), (7, 76, 92, 0, 0), (7, 80, 95, 0, 0), (7, 82, 96, 0, 0), (7, 88, 97, 0, 0), (7, 92, 16, 0, 0), (7, 96, 93, 0, 0), (8, 1, 0, 5, 2), (8, 9, 13, 4, 3), (8, 18, 17, 4, 3), (8, 25, 78, 4, 2), (8, 40, 68, 4, 2)], zCLp f := List.forall_mem_cons.mpr ⟨zCL_ok_9_0, List.forall_mem_cons.mpr ⟨zCL_ok_9_1, List.forall_mem_cons.mpr ⟨zCL_ok_9_2, List.forall_mem_cons.mpr ⟨zCL_ok_9_3, List.forall_mem_cons.mpr ⟨zCL_ok_9_4, List.forall_mem_cons.mpr ⟨zCL_ok_9_5, List.forall_mem_cons.mpr ⟨zCL_ok_9_6, List.forall_mem_cons.mpr ⟨zCL_ok_9_7, List.forall_mem_cons.mpr ⟨zCL_ok_9_8, List.forall_mem_cons.mpr ⟨zCL_ok_9_9, List.forall_mem_cons.mpr ⟨zCL_ok_9_10, List.forall_mem_cons.mpr ⟨zCL_ok_9_11, fun _ h => absurd h List.not_mem_nil⟩⟩⟩⟩⟩⟩⟩⟩⟩⟩⟩⟩
set_option maxRecDepth 100000 in
theorem zCL_ok_10_0 : zCLp (8, 49, 91, 4, 2) := ⟨zm_91, rfl, zW_in (zch_1 _ (List.mem_of_getElem? (i := 175) rfl)) rfl, zin_91, by decide +kernel, rfl, by decide, _, rfl, znp_91⟩
set_option maxRecDepth 100000 in
theorem zCL_ok_10_1 : zCLp (8, 58, 0, 4, 2) := ⟨zm_0, rfl, zW_in (zch_1 _ (List.mem_of_getElem? (i := 191) rfl)) rfl, zin_0, by decide +kernel, rfl, by decide, _, rfl, znp_0⟩
set_option maxRecDepth 100000 in
theorem zCL_ok_10_2 : zCLp (8, 67, 37, 4, 2) := ⟨zm_37, rfl, zW_in (zch_1 _ (List.mem_of_getElem? (i := 236) rfl)) rfl, zin_37, by decide +kernel, rfl, by decide, _, rfl, znp_37⟩
set_option maxRecDepth 100000 in
theorem zCL_ok_10_3 : zCLp (8, 109, 69, 0, 0) := ⟨zm_69, rfl, zW_in (zch_2 _ (List.mem_of_getElem? (i := 138) rfl)) rfl, zin_69, zse_69, by decide, _, rfl, znp_69⟩
set_option maxRecDepth 100000 in
theorem zCL_ok_10_4 : zCLp (8, 116, 19, 1, 0) := ⟨zm_19, rfl, zW_in (zch_2 _ (List.mem_of_getElem? (i := 194) rfl)) rfl, zin_19, zse_19, by decide, _, rfl, znp_19⟩
set_option maxRecDepth 100000 in
theorem zCL_ok_10_5 : zCLp (8, 120, 14, 0, 0) := ⟨zm_14, rfl, zW_in (zch_2 _ (List.mem_of_getElem? (i := 205) rfl)) rfl, zin_14, zse_14, by decide, _, rfl, znp_14⟩
set_option maxRecDepth 100000 in
theorem zCL_ok_10_6 : zCLp (8, 127, 15, 0, 0) := ⟨zm_15, rfl, zW_in (zch_2 _ (List.mem_of_getElem? (i := 213) rfl)) rfl, zin_15, zse_15, by decide, _, rfl, znp_15⟩
set_option maxRecDepth 100000 in
theorem zCL_ok_10_7 : zCLp (8, 133, 92, 0, 0) := ⟨zm_92, rfl, zW_in (zch_2 _ (List.mem_of_getElem? (i := 217) rfl)) rfl, zin_92, zse_92, by decide, _, rfl, znp_92⟩
set_option maxRecDepth 100000 in
theorem zCL_ok_10_8 : zCLp (8, 137, 93, 0, 0) := ⟨zm_93, rfl, zW_in (zch_3 _ (List.mem_of_getElem? (i := 9) rfl)) rfl, zin_93, zse_93, by decide, _, rfl, znp_93⟩
set_option maxRecDepth 100000 in
theorem zCL_ok_10_9 : zCLp (8, 141, 81, 0, 0) := ⟨zm_81, rfl, zW_in (zch_3 _ (List.mem_of_getElem? (i := 30) rfl)) rfl, zin_81, zse_81, by decide, _, rfl, znp_81⟩
set_option maxRecDepth 100000 in
theorem zCL_ok_10_10 : zCLp (8, 145, 80, 0, 0) := ⟨zm_80, rfl, zW_in (zch_3 _ (List.mem_of_getElem? (i := 31) rfl)) rfl, zin_80, zse_80, by decide, _, rfl, znp_80⟩
set_option maxRecDepth 100000 in
theorem zCL_ok_10_11 : zCLp (8, 148, 85, 1, 0) := ⟨zm_85, rfl, zW_in (zch_3 _ (List.mem_of_getElem? (i := 32) rfl)) rfl, zin_85, zse_85, by decide, _, rfl, znp_85⟩
theorem zCL_ok_10 : ∀ f ∈ [(8, 49, 91, 4, 2), (8, 58, 0, 4, 2), (8, 67, 37, 4, 2), (8, 109, 69, 0, 0), (8, 116, 19, 1, 0), (8, 120, 14, 0, 0), (8, 127, 15, 0, 0), (8, 133, 92, 0, 0), (8, 137, 93, 0, 0), (8, 141, 81, 0, 0), (8, 145, 80, 0, 0), (8, 148, 85, 1, 0)], zCLp f := List.forall_mem_cons.mpr ⟨zCL_ok_10_0, List.forall_mem_cons.mpr ⟨zCL_ok_10_1, List.forall_mem_cons.mpr ⟨zCL_ok_10_2, List.forall_mem_cons.mpr ⟨zCL_ok_10_3, List.forall_mem_cons.mpr ⟨zCL_ok_10_4, List.forall_mem_cons.mpr ⟨zCL_ok_10_5, List.forall_mem_cons.mpr ⟨zCL_ok_10_6, List.forall_mem_cons.mpr ⟨zCL_ok_10_7, List.forall_mem_cons.mpr ⟨zCL_ok_10_8, List.forall_mem_cons.mpr ⟨zCL_ok_10_9, List.forall_mem_cons.mpr ⟨zCL_ok_10_10, List.forall_mem_cons.mpr ⟨zCL_ok_10_11, fun _ h => absurd h List.not_mem_nil⟩⟩⟩⟩⟩⟩⟩⟩⟩⟩⟩⟩
set_option maxRecDepth 100000 in
theorem zCL_ok_11_0 : zCLp (8, 152, 86, 1, 0) := ⟨zm_86, rfl, zW_in (zch_3 _ (List.mem_of_getElem? (i := 40) rfl)) rfl, zin_86, zse_86, by decide, _, rfl, znp_86⟩
set_option maxRecDepth 100000 in
theorem zCL_ok_11_1 : zCLp (8, 155, 0, 9, 1) := ⟨zW_in (zch_3 _ (List.mem_of_getElem? (i := 45) rfl)) rfl, zW_in (zch_2 _ (List.mem_of_getElem? (i := 148) rfl)) rfl, zW_in (zch_1 _ (List.mem_of_getElem? (i := 12) rfl)) rfl, zW_in (zch_2 _ (List.mem_of_getElem? (i := 149) rfl)) rfl⟩
set_option maxRecDepth 100000 in
theorem zCL_ok_11_2 : zCLp (8, 160, 115, 0, 0) := ⟨zm_115, rfl, zW_in (zch_3 _ (List.mem_of_getElem? (i := 46) rfl)) rfl, zin_115, zse_115, by decide, _, rfl, znp_115⟩
set_option maxRecDepth 100000 in
theorem zCL_ok_11_3 : zCLp (8, 163, 116, 0, 0) := ⟨zm_116, rfl, zW_in (zch_3 _ (List.mem_of_getElem? (i := 50) rfl)) rfl, zin_116, zse_116, by decide, _, rfl, znp_116⟩
set_option maxRecDepth 100000 in
theorem zCL_ok_11_4 : zCLp (8, 167, 167, 1, 0) := ⟨zm_167, rfl, zW_in (zch_3 _ (List.mem_of_getElem? (i := 58) rfl)) rfl, zin_167, zse_167, by decide, _, rfl, znp_167⟩
set_option maxRecDepth 100000 in
theorem zCL_ok_11_5 : zCLp (8, 170, 99, 0, 0) := ⟨zm_99, rfl, zW_in (zch_3 _ (List.mem_of_getElem? (i := 62) rfl)) rfl, zin_99, zse_99, by decide, _, rfl, znp_99⟩
set_option maxRecDepth 100000 in
theorem zCL_ok_11_6 : zCLp (8, 173, 168, 1, 0) := ⟨zm_168, rfl, zW_in (zch_3 _ (List.mem_of_getElem? (i := 70) rfl)) rfl, zin_168, zse_168, by decide, _, rfl, znp_168⟩
set_option maxRecDepth 100000 in
theorem zCL_ok_11_7 : zCLp (8, 177, 97, 0, 0) := ⟨zm_97, rfl, zW_in (zch_3 _ (List.mem_of_getElem? (i := 74) rfl)) rfl, zin_97, zse_97, by decide, _, rfl, znp_97⟩
set_option maxRecDepth 100000 in
theorem zCL_ok_11_8 : zCLp (8, 181, 98, 0, 0) := ⟨zm_98, rfl, zW_in (zch_3 _ (List.mem_of_getElem? (i := 92) rfl)) rfl, zin_98, zse_98, by decide, _, rfl, znp_98⟩
set_option maxRecDepth 100000 in
theorem zCL_ok_11_9 : zCLp (8, 185, 88, 1, 0) := ⟨zm_88, rfl, zW_in (zch_3 _ (List.mem_of_getElem? (i := 101) rfl)) rfl, zin_88, zse_88, by decide, _, rfl, znp_88⟩
set_option maxRecDepth 100000 in
theorem zCL_ok_11_10 : zCLp (8, 189, 121, 0, 0) := ⟨zm_121, rfl, zW_in (zch_3 _ (List.mem_of_getElem? (i := 123) rfl)) rfl, zin_121, zse_121, by decide, _, rfl, znp_121⟩
set_option maxRecDepth 100000 in
theorem zCL_ok_11_11 : zCLp (8, 192, 290, 1, 1) := ⟨zm_290, rfl, zW_in (zch_3 _ (List.mem_of_getElem? (i := 131) rfl)) rfl, zst_290, by decide, znp_290⟩
theorem zCL_ok_11 : ∀ f ∈ [(8, 152, 86, 1, 0), (8, 155, 0, 9, 1), (8, 160, 115, 0, 0), (8, 163, 116, 0, 0), (8, 167, 167, 1, 0), (8, 170, 99, 0, 0), (8, 173, 168, 1, 0), (8, 177, 97, 0, 0), (8, 181, 98, 0, 0), (8, 185, 88, 1, 0), (8, 189, 121, 0, 0), (8, 192, 290, 1, 1)], zCLp f := List.forall_mem_cons.mpr ⟨zCL_ok_11_0, List.forall_mem_cons.mpr ⟨zCL_ok_11_1, List.forall_mem_cons.mpr ⟨zCL_ok_11_2, List.forall_mem_cons.mpr ⟨zCL_ok_11_3, List.forall_mem_cons.mpr ⟨zCL_ok_11_4, List.forall_mem_cons.mpr ⟨zCL_ok_11_5, List.forall_mem_cons.mpr ⟨zCL_ok_11_6, List.forall_mem_cons.mpr ⟨zCL_ok_11_7, List.forall_mem_cons.mpr ⟨zCL_ok_11_8, List.forall_mem_cons.mpr ⟨zCL_ok_11_9, List.forall_mem_cons.mpr ⟨zCL_ok_11_10, List.forall_mem_cons.mpr ⟨zCL_ok_11_11, fun _ h => absurd h List.not_mem_nil⟩⟩⟩⟩⟩⟩⟩⟩⟩⟩⟩⟩
set_option maxRecDepth 100000 in
theorem zCL_ok_12_0 : zCLp (8, 198, 96, 0, 0) := ⟨zm_96, rfl, zW_in (zch_3 _ (List.mem_of_getElem? (i := 132) rfl)) rfl, zin_96, zse_96, by decide, _, rfl, znp_96⟩
set_option maxRecDepth 100000 in
theorem zCL_ok_12_1 : zCLp (8, 211, 1, 1, 0) := ⟨zm_1, rfl, zW_in (zch_3 _ (List.mem_of_getElem? (i := 141) rfl)) rfl, zin_1, zse_1, by decide, _, rfl, znp_1⟩
set_option maxRecDepth 100000 in
theorem zCL_ok_12_2 : zCLp (8, 214, 5, 0, 0) := ⟨zm_5, rfl, zW_in (zch_3 _ (List.mem_of_getElem? (i := 154) rfl)) rfl, zin_5, zse_5, by decide, _, rfl, znp_5⟩
set_option maxRecDepth 100000 in
theorem zCL_ok_12_3 : zCLp (8, 220, 169, 1, 0) := ⟨zm_169, rfl, zW_in (zch_3 _ (List.mem_of_getElem? (i := 187) rfl)) rfl, zin_169, zse_169, by decide, _, rfl, znp_169⟩
set_option maxRecDepth 100000 in
theorem zCL_ok_12_4 : zCLp (8, 223, 126, 0, 0) := ⟨zm_126, rfl, zW_in (zch_3 _ (List.mem_of_getElem? (i := 195) rfl)) rfl, zin_126, zse_126, by decide, _, rfl, znp_126⟩
set_option maxRecDepth 100000 in
theorem zCL_ok_12_5 : zCLp (8, 226, 3, 1, 0) := ⟨zm_3, rfl, zW_in (zch_3 _ (List.mem_of_getElem? (i := 203) rfl)) rfl, zin_3, zse_3, by decide, _, rfl, znp_3⟩
set_option maxRecDepth 100000 in
theorem zCL_ok_12_6 : zCLp (8, 229, 129, 0, 0) := ⟨zm_129, rfl, zW_in (zch_3 _ (List.mem_of_getElem? (i := 212) rfl)) rfl, zin_129, zse_129, by decide, _, rfl, znp_129⟩
set_option maxRecDepth 100000 in
theorem zCL_ok_12_7 : zCLp (8, 232, 4, 0, 0) := ⟨zm_4, rfl, zW_in (zch_3 _ (List.mem_of_getElem? (i := 216) rfl)) rfl, zin_4, zse_4, by decide, _, rfl, znp_4⟩
set_option maxRecDepth 100000 in
theorem zCL_ok_12_8 : zCLp (8, 235, 103, 0, 0) := ⟨zm_103, rfl, zW_in (zch_3 _ (List.mem_of_getElem? (i := 225) rfl)) rfl, zin_103, zse_103, by decide, _, rfl, znp_103⟩
set_option maxRecDepth 100000 in
theorem zCL_ok_12_9 : zCLp (8, 238, 288, 0, 1) := ⟨zm_288, rfl, zW_in (zch_3 _ (List.mem_of_getElem? (i := 229) rfl)) rfl, zst_288, by decide, znp_288⟩
set_option maxRecDepth 100000 in
theorem zCL_ok_12_10 : zCLp (8, 243, 132, 0, 0) := ⟨zm_132, rfl, zW_in (zch_3 _ (List.mem_of_getElem? (i := 230) rfl)) rfl, zin_132, zse_132, by decide, _, rfl, znp_132⟩
set_option maxRecDepth 100000 in
theorem zCL_ok_12_11 : zCLp (8, 246, 100, 0, 0) := ⟨zm_100, rfl, zW_in (zch_4 _ (List.mem_of_getElem? (i := 2) rfl)) rfl, zin_100, zse_100, by decide, _, rfl, znp_100⟩
theorem zCL_ok_12 : ∀ f ∈ [(8, 198, 96, 0, 0), (8, 211, 1, 1, 0), (8, 214, 5, 0, 0), (8, 220, 169, 1, 0), (8, 223, 126, 0, 0), (8, 226, 3, 1, 0), (8, 229, 129, 0, 0), (8, 232, 4, 0, 0), (8, 235, 103, 0, 0), (8, 238, 288, 0, 1), (8, 243, 132, 0, 0), (8, 246, 100, 0, 0)], zCLp f := List.forall_mem_cons.mpr ⟨zCL_ok_12_0, List.forall_mem_cons.mpr ⟨zCL_ok_12_1, List.forall_mem_cons.mpr ⟨zCL_ok_12_2, List.forall_mem_cons.mpr ⟨zCL_ok_12_3, List.forall_mem_cons.mpr ⟨zCL_ok_12_4, List.forall_mem_cons.mpr ⟨zCL_ok_12_5, List.forall_mem_cons.mpr ⟨zCL_ok_12_6, List.forall_mem_cons.mpr ⟨zCL_ok_12_7, List.forall_mem_cons.mpr ⟨zCL_ok_12_8, List.forall_mem_cons.mpr ⟨zCL_ok_12_9, List.forall_mem_cons.mpr ⟨zCL_ok_12_10, List.forall_mem_cons.mpr ⟨zCL_ok_12_11, fun _ h => absurd h List.not_mem_nil⟩⟩⟩⟩⟩⟩⟩⟩⟩⟩⟩⟩
set_option maxRecDepth 100000 in
theorem zCL_ok_13_0 : zCLp (8, 250, 101, 0, 0) := ⟨zm_101, rfl, zW_in (zch_4 _ (List.mem_of_getElem? (i := 6) rfl)) rfl, zin_101, zse_101, by decide, _, rfl, znp_101⟩
set_option maxRecDepth 100000 in
theorem zCL_ok_13_1 : zCLp (8, 253, 102, 0, 0) := ⟨zm_102, rfl, zW_in (zch_4 _ (List.mem_of_getElem? (i := 15) rfl)) rfl, zin_102, zse_102, by decide, _, rfl, znp_102⟩
set_option maxRecDepth 100000 in
theorem zCL_ok_13_2 : zCLp (8, 256, 23, 0, 0) := ⟨zm_23, rfl, zW_in (zch_4 _ (List.mem_of_getElem? (i := 19) rfl)) rfl, zin_23, zse_23, by decide, _, rfl, znp_23⟩
set_option maxRecDepth 100000 in
theorem zCL_ok_13_3 : zCLp (8, 262, 0, 8, 1) := ⟨zW_in (zch_4 _ (List.mem_of_getElem? (i := 20) rfl)) rfl, zW_in (zch_2 _ (List.mem_of_getElem? (i := 231) rfl)) rfl, zW_in (zch_1 _ (List.mem_of_getElem? (i := 12) rfl)) rfl, zW_in (zch_2 _ (List.mem_of_getElem? (i := 232) rfl)) rfl⟩
set_option maxRecDepth 100000 in
theorem zCL_ok_13_4 : zCLp (8, 265, 139, 0, 0) := ⟨zm_139, rfl, zW_in (zch_4 _ (List.mem_of_getElem? (i := 33) rfl)) rfl, zin_139, zse_139, by decide, _, rfl, znp_139⟩
set_option maxRecDepth 100000 in
theorem zCL_ok_13_5 : zCLp (8, 268, 142, 0, 0) := ⟨zm_142, rfl, zW_in (zch_4 _ (List.mem_of_getElem? (i := 41) rfl)) rfl, zin_142, zse_142, by decide, _, rfl, znp_142⟩
set_option maxRecDepth 100000 in
theorem zCL_ok_13_6 : zCLp (8, 271, 141, 1, 0) := ⟨zm_141, rfl, zW_in (zch_4 _ (List.mem_of_getElem? (i := 45) rfl)) rfl, zin_141, zse_141, by decide, _, rfl, znp_141⟩
set_option maxRecDepth 100000 in
theorem zCL_ok_13_7 : zCLp (8, 274, 82, 0, 0) := ⟨zm_82, rfl, zW_in (zch_4 _ (List.mem_of_getElem? (i := 49) rfl)) rfl, zin_82, zse_82, by decide, _, rfl, znp_82⟩
set_option maxRecDepth 100000 in
theorem zCL_ok_13_8 : zCLp (8, 277, 38, 0, 0) := ⟨zm_38, rfl, zW_in (zch_4 _ (List.mem_of_getElem? (i := 54) rfl)) rfl, zin_38, zse_38, by decide, _, rfl, znp_38⟩
set_option maxRecDepth 100000 in
theorem zCL_ok_13_9 : zCLp (8, 281, 40, 1, 0) := ⟨zm_40, rfl, zW_in (zch_4 _ (List.mem_of_getElem? (i := 58) rfl)) rfl, zin_40, zse_40, by decide, _, rfl, znp_40⟩
set_option maxRecDepth 100000 in
theorem zCL_ok_13_10 : zCLp (8, 284, 48, 0, 0) := ⟨zm_48, rfl, zW_in (zch_4 _ (List.mem_of_getElem? (i := 105) rfl)) rfl, zin_48, zse_48, by decide, _, rfl, znp_48⟩
set_option maxRecDepth 100000 in
theorem zCL_ok_13_11 : zCLp (8, 287, 49, 1, 0) := ⟨zm_49, rfl, zW_in (zch_4 _ (List.mem_of_getElem? (i := 110) rfl)) rfl, zin_49, zse_49, by decide, _, rfl, znp_49⟩
theorem zCL_ok_13 : ∀ f ∈ [(8, 250, 101, 0, 0), (8, 253, 102, 0, 0), (8, 256, 23, 0, 0), (8, 262, 0, 8, 1), (8, 265, 139, 0, 0), (8, 268, 142, 0, 0), (8, 271, 141, 1, 0), (8, 274, 82, 0, 0), (8, 277, 38, 0, 0), (8, 281, 40, 1, 0), (8, 284, 48, 0, 0), (8, 287, 49, 1, 0)], zCLp f := List.forall_mem_cons.mpr ⟨zCL_ok_13_0, List.forall_mem_cons.mpr ⟨zCL_ok_13_1, List.forall_mem_cons.mpr ⟨zCL_ok_13_2, List.forall_mem_cons.mpr ⟨zCL_ok_13_3, List.forall_mem_cons.mpr ⟨zCL_ok_13_4, List.forall_mem_cons.mpr ⟨zCL_ok_13_5, List.forall_mem_cons.mpr ⟨zCL_ok_13_6, List.forall_mem_cons.mpr ⟨zCL_ok_13_7, List.forall_mem_cons.mpr ⟨zCL_ok_13_8, List.forall_mem_cons.mpr ⟨zCL_ok_13_9, List.forall_mem_cons.mpr ⟨zCL_ok_13_10, List.forall_mem_cons.mpr ⟨zCL_ok_13_11, fun _ h => absurd h List.not_mem_nil⟩⟩⟩⟩⟩⟩⟩⟩⟩⟩⟩⟩
set_option maxRecDepth 100000 in
theorem zCL_ok_14_0 : zCLp (8, 290, 50, 0, 0) := ⟨zm_50, rfl, zW_in (zch_4 _ (List.mem_of_getElem? (i := 114) rfl)) rfl, zin_50, zse_50, by decide, _, rfl, znp_50⟩
set_option maxRecDepth 100000 in
theorem zCL_ok_14_1 : zCLp (8, 293, 51, 0, 0) := ⟨zm_51, rfl, zW_in (zch_4 _ (List.mem_of_getElem? (i := 128) rfl)) rfl, zin_51, zse_51, by decide, _, rfl, znp_51⟩
set_option maxRecDepth 100000 in
theorem zCL_ok_14_2 : zCLp (8, 296, 52, 0, 0) := ⟨zm_52, rfl, zW_in (zch_4 _ (List.mem_of_getElem? (i := 150) rfl)) rfl, zin_52, zse_52, by decide, _, rfl, znp_52⟩
set_option maxRecDepth 100000 in
theorem zCL_ok_14_3 : zCLp (8, 302, 53, 0, 0) := ⟨zm_53, rfl, zW_in (zch_4 _ (List.mem_of_getElem? (i := 178) rfl)) rfl, zin_53, zse_53, by decide, _, rfl, znp_53⟩
set_option maxRecDepth 100000 in
theorem zCL_ok_14_4 : zCLp (8, 305, 149, 1, 0) := ⟨zm_149, rfl, zW_in (zch_4 _ (List.mem_of_getElem? (i := 182) rfl)) rfl, zin_149, zse_149, by decide, _, rfl, znp_149⟩
set_option maxRecDepth 100000 in
theorem zCL_ok_14_5 : zCLp (8, 308, 56, 0, 0) := ⟨zm_56, rfl, zW_in (zch_4 _ (List.mem_of_getElem? (i := 191) rfl)) rfl, zin_56, zse_56, by decide, _, rfl, znp_56⟩
set_option maxRecDepth 100000 in
theorem zCL_ok_14_6 : zCLp (8, 311, 58, 0, 0) := ⟨zm_58, rfl, zW_in (zch_4 _ (List.mem_of_getElem? (i := 204) rfl)) rfl, zin_58, zse_58, by decide, _, rfl, znp_58⟩
set_option maxRecDepth 100000 in
theorem zCL_ok_14_7 : zCLp (8, 314, 147, 1, 0) := ⟨zm_147, rfl, zW_in (zch_4 _ (List.mem_of_getElem? (i := 218) rfl)) rfl, zin_147, zse_147, by decide, _, rfl, znp_147⟩
set_option maxRecDepth 100000 in
theorem zCL_ok_14_8 : zCLp (8, 320, 61, 0, 0) := ⟨zm_61, rfl, zW_in (zch_4 _ (List.mem_of_getElem? (i := 226) rfl)) rfl, zin_61, zse_61, by decide, _, rfl, znp_61⟩
set_option maxRecDepth 100000 in
theorem zCL_ok_14_9 : zCLp (8, 326, 39, 0, 0) := ⟨zm_39, rfl, zW_in (zch_4 _ (List.mem_of_getElem? (i := 186) rfl)) rfl, zin_39, zse_39, by decide, _, rfl, znp_39⟩
set_option maxRecDepth 100000 in
theorem zCL_ok_14_10 : zCLp (8, 329, 10, 0, 0) := ⟨zm_10, rfl, zW_in (zch_5 _ (List.mem_of_getElem? (i := 20) rfl)) rfl, zin_10, zse_10, by decide, _, rfl, znp_10⟩
set_option maxRecDepth 100000 in
theorem zCL_ok_14_11 : zCLp (8, 332, 152, 1, 0) := ⟨zm_152, rfl, zW_in (zch_5 _ (List.mem_of_getElem? (i := 37) rfl)) rfl, zin_152, zse_152, by decide, _, rfl, znp_152⟩
theorem zCL_ok_14 : ∀ f ∈ [(8, 290, 50, 0, 0), (8, 293, 51, 0, 0), (8, 296, 52, 0, 0), (8, 302, 53, 0, 0), (8, 305, 149, 1, 0), (8, 308, 56, 0, 0), (8, 311, 58, 0, 0), (8, 314, 147, 1, 0), (8, 320, 61, 0, 0), (8, 326, 39, 0, 0), (8, 329, 10, 0, 0), (8, 332, 152, 1, 0)], zCLp f := List.forall_mem_cons.mpr ⟨zCL_ok_14_0, List.forall_mem_cons.mpr ⟨zCL_ok_14_1, List.forall_mem_cons.mpr ⟨zCL_ok_14_2, List.forall_mem_cons.mpr ⟨zCL_ok_14_3, List.forall_mem_cons.mpr ⟨zCL_ok_14_4, List.forall_mem_cons.mpr ⟨zCL_ok_14_5, List.forall_mem_cons.mpr ⟨zCL_ok_14_6, List.forall_mem_cons.mpr ⟨zCL_ok_14_7, List.forall_mem_cons.mpr ⟨zCL_ok_14_8, List.forall_mem_cons.mpr ⟨zCL_ok_14_9, List.forall_mem_cons.mpr ⟨zCL_ok_14_10, List.forall_mem_cons.mpr ⟨zCL_ok_14_11, fun _ h => absurd h List.not_mem_nil⟩⟩⟩⟩⟩⟩⟩⟩⟩⟩⟩⟩
set_option maxRecDepth 100000 in
theorem zCL_ok_15_0 : zCLp (8, 335, 153, 0, 0) := ⟨zm_153, rfl, zW_in (zch_5 _ (List.mem_of_getElem? (i := 41) rfl)) rfl, zin_153, zse_153, by decide, _, rfl, znp_153⟩
set_option maxRecDepth 100000 in
theorem zCL_ok_15_1 : zCLp (8, 338, 154, 0, 1) := ⟨zm_154, rfl, zW_in (zch_5 _ (List.mem_of_getElem? (i := 45) rfl)) rfl, zst_154, by decide, znp_154⟩
set_option maxRecDepth 100000 in
theorem zCL_ok_15_2 : zCLp (8, 341, 161, 0, 0) := ⟨zm_161, rfl, zW_in (zch_5 _ (List.mem_of_getElem? (i := 72) rfl)) rfl, zin_161, zse_161, by decide, _, rfl, znp_161⟩
set_option maxRecDepth 100000 in
theorem zCL_ok_15_3 : zCLp (8, 344, 163, 0, 0) := ⟨zm_163, rfl, zW_in (zch_5 _ (List.mem_of_getElem? (i := 80) rfl)) rfl, zin_163, zse_163, by decide, _, rfl, znp_163⟩
set_option maxRecDepth 100000 in
theorem zCL_ok_15_4 : zCLp (8, 347, 84, 0, 0) := ⟨zm_84, rfl, zW_in (zch_5 _ (List.mem_of_getElem? (i := 84) rfl)) rfl, zin_84, zse_84, by decide, _, rfl, znp_84⟩
set_option maxRecDepth 100000 in
theorem zCL_ok_15_5 : zCLp (8, 350, 79, 1, 0) := ⟨zm_79, rfl, zW_in (zch_5 _ (List.mem_of_getElem? (i := 92) rfl)) rfl, zin_79, zse_79, by decide, _, rfl, znp_79⟩
set_option maxRecDepth 100000 in
theorem zCL_ok_15_6 : zCLp (9, 16, 171, 0, 1) := ⟨zm_171, rfl, zW_in (zch_5 _ (List.mem_of_getElem? (i := 183) rfl)) rfl, zst_171, by decide, znp_171⟩
set_option maxRecDepth 100000 in
theorem zCL_ok_15_7 : zCLp (9, 71, 173, 0, 1) := ⟨zm_173, rfl, zW_in (zch_5 _ (List.mem_of_getElem? (i := 216) rfl)) rfl, zst_173, by decide, znp_173⟩
set_option maxRecDepth 100000 in
theorem zCL_ok_15_8 : zCLp (9, 79, 182, 0, 0) := ⟨zm_182, rfl, zW_in (zch_5 _ (List.mem_of_getElem? (i := 227) rfl)) rfl, zin_182, zse_182, by decide, _, rfl, znp_182⟩
set_option maxRecDepth 100000 in
theorem zCL_ok_15_9 : zCLp (9, 83, 183, 0, 0) := ⟨zm_183, rfl, zW_in (zch_5 _ (List.mem_of_getElem? (i := 223) rfl)) rfl, zin_183, zse_183, by decide, _, rfl, znp_183⟩
set_option maxRecDepth 100000 in
theorem zCL_ok_15_10 : zCLp (9, 87, 181, 0, 0) := ⟨zm_181, rfl, zW_in (zch_5 _ (List.mem_of_getElem? (i := 212) rfl)) rfl, zin_181, zse_181, by decide, _, rfl, znp_181⟩
set_option maxRecDepth 100000 in
theorem zCL_ok_15_11 : zCLp (9, 91, 184, 0, 0) := ⟨zm_184, rfl, zW_in (zch_5 _ (List.mem_of_getElem? (i := 233) rfl)) rfl, zin_184, zse_184, by decide, _, rfl, znp_184⟩
theorem zCL_ok_15 : ∀ f ∈ [(8, 335, 153, 0, 0), (8, 338, 154, 0, 1), (8, 341, 161, 0, 0), (8, 344, 163, 0, 0), (8, 347, 84, 0, 0), (8, 350, 79, 1, 0), (9, 16, 171, 0, 1), (9, 71, 173, 0, 1), (9, 79, 182, 0, 0), (9, 83, 183, 0, 0), (9, 87, 181, 0, 0), (9, 91, 184, 0, 0)], zCLp f := List.forall_mem_cons.mpr ⟨zCL_ok_15_0, List.forall_mem_cons.mpr ⟨zCL_ok_15_1, List.forall_mem_cons.mpr ⟨zCL_ok_15_2, List.forall_mem_cons.mpr ⟨zCL_ok_15_3, List.forall_mem_cons.mpr ⟨zCL_ok_15_4, List.forall_mem_cons.mpr ⟨zCL_ok_15_5, List.forall_mem_cons.mpr ⟨zCL_ok_15_6, List.forall_mem_cons.mpr ⟨zCL_ok_15_7, List.forall_mem_cons.mpr ⟨zCL_ok_15_8, List.forall_mem_cons.mpr ⟨zCL_ok_15_9, List.forall_mem_cons.mpr ⟨zCL_ok_15_10, List.forall_mem_cons.mpr ⟨zCL_ok_15_11, fun _ h => absurd h List.not_mem_nil⟩⟩⟩⟩⟩⟩⟩⟩⟩⟩⟩⟩
set_option maxRecDepth 100000 in
theorem zCL_ok_16_0 : zCLp (9, 107, 185, 0, 0) := ⟨zm_185, rfl, zW_in (zch_5 _ (List.mem_of_getElem? (i := 219) rfl)) rfl, zin_185, zse_185, by decide, _, rfl, znp_185⟩
set_option maxRecDepth 100000 in
theorem zCL_ok_16_1 : zCLp (9, 122, 0, 9, 1) := ⟨zW_in (zch_5 _ (List.mem_of_getElem? (i := 206) rfl)) rfl, zW_in (zch_2 _ (List.mem_of_getElem? (i := 148) rfl)) rfl, zW_in (zch_1 _ (List.mem_of_getElem? (i := 12) rfl)) rfl, zW_in (zch_2 _ (List.mem_of_getElem? (i := 149) rfl)) rfl⟩
set_option maxRecDepth 100000 in
theorem zCL_ok_16_2 : zCLp (9, 128, 186, 0, 0) := ⟨zm_186, rfl, zW_in (zch_5 _ (List.mem_of_getElem? (i := 207) rfl)) rfl, zin_186, zse_186, by decide, _, rfl, znp_186⟩
set_option maxRecDepth 100000 in
theorem zCL_ok_16_3 : zCLp (9, 161, 188, 0, 0) := ⟨zm_188, rfl, zW_in (zch_6 _ (List.mem_of_getElem? (i := 32) rfl)) rfl, zin_188, zse_188, by decide, _, rfl, znp_188⟩
set_option maxRecDepth 100000 in
theorem zCL_ok_16_4 : zCLp (9, 164, 172, 0, 1) := ⟨zm_172, rfl, zW_in (zch_6 _ (List.mem_of_getElem? (i := 25) rfl)) rfl, zst_172, by decide, znp_172⟩
set_option maxRecDepth 100000 in
theorem zCL_ok_16_5 : zCLp (9, 171, 189, 0, 0) := ⟨zm_189, rfl, zW_in (zch_6 _ (List.mem_of_getElem? (i := 17) rfl)) rfl, zin_189, zse_189, by decide, _, rfl, znp_189⟩
set_option maxRecDepth 100000 in
theorem zCL_ok_16_6 : zCLp (9, 174, 192, 0, 0) := ⟨zm_192, rfl, zW_in (zch_6 _ (List.mem_of_getElem? (i := 21) rfl)) rfl, zin_192, zse_192, by decide, _, rfl, znp_192⟩
set_option maxRecDepth 100000 in
theorem zCL_ok_16_7 : zCLp (9, 177, 190, 0, 0) := ⟨zm_190, rfl, zW_in (zch_6 _ (List.mem_of_getElem? (i := 28) rfl)) rfl, zin_190, zse_190, by decide, _, rfl, znp_190⟩
set_option maxRecDepth 100000 in
theorem zCL_ok_16_8 : zCLp (9, 181, 191, 0, 0) := ⟨zm_191, rfl, zW_in (zch_6 _ (List.mem_of_getElem? (i := 36) rfl)) rfl, zin_191, zse_191, by decide, _, rfl, znp_191⟩
set_option maxRecDepth 100000 in
theorem zCL_ok_16_9 : zCLp (9, 184, 195, 0, 0) := ⟨zm_195, rfl, zW_in (zch_6 _ (List.mem_of_getElem? (i := 48) rfl)) rfl, zin_195, zse_195, by decide, _, rfl, znp_195⟩
set_option maxRecDepth 100000 in
theorem zCL_ok_16_10 : zCLp (9, 187, 194, 0, 0) := ⟨zm_194, rfl, zW_in (zch_6 _ (List.mem_of_getElem? (i := 13) rfl)) rfl, zin_194, zse_194, by decide, _, rfl, znp_194⟩
set_option maxRecDepth 100000 in
theorem zCL_ok_16_11 : zCLp (9, 191, 193, 0, 0) := ⟨zm_193, rfl, zW_in (zch_6 _ (List.mem_of_getElem? (i := 93) rfl)) rfl, zin_193, zse_193, by decide, _, rfl, znp_193⟩
theorem zCL_ok_16 : ∀ f ∈ [(9, 107, 185, 0, 0), (9, 122, 0, 9, 1), (9, 128, 186, 0, 0), (9, 161, 188, 0, 0), (9, 164, 172, 0, 1), (9, 171, 189, 0, 0), (9, 174, 192, 0, 0), (9, 177, 190, 0, 0), (9, 181, 191, 0, 0), (9, 184, 195, 0, 0), (9, 187, 194, 0, 0), (9, 191, 193, 0, 0)], zCLp f := List.forall_mem_cons.mpr ⟨zCL_ok_16_0, List.forall_mem_cons.mpr ⟨zCL_ok_16_1, List.forall_mem_cons.mpr ⟨zCL_ok_16_2, List.forall_mem_cons.mpr ⟨zCL_ok_16_3, List.forall_mem_cons.mpr ⟨zCL_ok_16_4, List.forall_mem_cons.mpr ⟨zCL_ok_16_5, List.forall_mem_cons.mpr ⟨zCL_ok_16_6, List.forall_mem_cons.mpr ⟨zCL_ok_16_7, List.forall_mem_cons.mpr ⟨zCL_ok_16_8, List.forall_mem_cons.mpr ⟨zCL_ok_16_9, List.forall_mem_cons.mpr ⟨zCL_ok_16_10, List.forall_mem_cons.mpr ⟨zCL_ok_16_11, fun _ h => absurd h List.not_mem_nil⟩⟩⟩⟩⟩⟩⟩⟩⟩⟩⟩⟩
set_option maxRecDepth 100000 in
theorem zCL_ok_17_0 : zCLp (9, 194, 196, 0, 0) := ⟨zm_196, rfl, zW_in (zch_6 _ (List.mem_of_getElem? (i := 44) rfl)) rfl, zin_196, zse_196, by decide, _, rfl, znp_196⟩
set_option maxRecDepth 100000 in
theorem zCL_ok_17_1 : zCLp (9, 197, 197, 0, 0) := ⟨zm_197, rfl, zW_in (zch_6 _ (List.mem_of_getElem? (i := 89) rfl)) rfl, zin_197, zse_197, by decide, _, rfl, znp_197⟩
set_option maxRecDepth 100000 in
theorem zCL_ok_17_2 : zCLp (9, 200, 199, 0, 0) := ⟨zm_199, rfl, zW_in (zch_6 _ (List.mem_of_getElem? (i := 81) rfl)) rfl, zin_199, zse_199, by decide, _, rfl, znp_199⟩
set_option maxRecDepth 100000 in
theorem zCL_ok_17_3 : zCLp (9, 203, 177, 0, 0) := ⟨zm_177, rfl, zW_in (zch_6 _ (List.mem_of_getElem? (i := 1) rfl)) rfl, zin_177, zse_177, by decide, _, rfl, znp_177⟩
set_option maxRecDepth 100000 in
theorem zCL_ok_17_4 : zCLp (9, 209, 178, 0, 0) := ⟨zm_178, rfl, zW_in (zch_6 _ (List.mem_of_getElem? (i := 9) rfl)) rfl, zin_178, zse_178, by decide, _, rfl, znp_178⟩
set_option maxRecDepth 100000 in
theorem zCL_ok_17_5 : zCLp (9, 212, 204, 0, 0) := ⟨zm_204, rfl, zW_in (zch_6 _ (List.mem_of_getElem? (i := 56) rfl)) rfl, zin_204, zse_204, by decide, _, rfl, znp_204⟩
set_option maxRecDepth 100000 in
theorem zCL_ok_17_6 : zCLp (9, 217, 207, 1, 0) := ⟨zm_207, rfl, zW_in (zch_6 _ (List.mem_of_getElem? (i := 65) rfl)) rfl, zin_207, zse_207, by decide, _, rfl, znp_207⟩
set_option maxRecDepth 100000 in
theorem zCL_ok_17_7 : zCLp (9, 221, 206, 0, 0) := ⟨zm_206, rfl, zW_in (zch_6 _ (List.mem_of_getElem? (i := 69) rfl)) rfl, zin_206, zse_206, by decide, _, rfl, znp_206⟩
set_option maxRecDepth 100000 in
theorem zCL_ok_17_8 : zCLp (9, 224, 200, 0, 0) := ⟨zm_200, rfl, zW_in (zch_6 _ (List.mem_of_getElem? (i := 77) rfl)) rfl, zin_200, zse_200, by decide, _, rfl, znp_200⟩
set_option maxRecDepth 100000 in
theorem zCL_ok_17_9 : zCLp (9, 227, 174, 1, 0) := ⟨zm_174, rfl, zW_in (zch_6 _ (List.mem_of_getElem? (i := 85) rfl)) rfl, zin_174, zse_174, by decide, _, rfl, znp_174⟩
set_option maxRecDepth 100000 in
theorem zCL_ok_17_10 : zCLp (9, 231, 198, 0, 0) := ⟨zm_198, rfl, zW_in (zch_6 _ (List.mem_of_getElem? (i := 97) rfl)) rfl, zin_198, zse_198, by decide, _, rfl, znp_198⟩
set_option maxRecDepth 100000 in
theorem zCL_ok_17_11 : zCLp (9, 240, 210, 1, 0) := ⟨zm_210, rfl, zW_in (zch_6 _ (List.mem_of_getElem? (i := 109) rfl)) rfl, zin_210, zse_210, by decide, _, rfl, znp_210⟩
theorem zCL_ok_17 : ∀ f ∈ [(9, 194, 196, 0, 0), (9, 197, 197, 0, 0), (9, 200, 199, 0, 0), (9, 203, 177, 0, 0), (9, 209, 178, 0, 0), (9, 212, 204, 0, 0), (9, 217, 207, 1, 0), (9, 221, 206, 0, 0), (9, 224, 200, 0, 0), (9, 227, 174, 1, 0), (9, 231, 198, 0, 0), (9, 240, 210, 1, 0)], zCLp f := List.forall_mem_cons.mpr ⟨zCL_ok_17_0, List.forall_mem_cons.mpr ⟨zCL_ok_17_1, List.forall_mem_cons.mpr ⟨zCL_ok_17_2, List.forall_mem_cons.mpr ⟨zCL_ok_17_3, List.forall_mem_cons.mpr ⟨zCL_ok_17_4, List.forall_mem_cons.mpr ⟨zCL_ok_17_5, List.forall_mem_cons.mpr ⟨zCL_ok_17_6, List.forall_mem_cons.mpr ⟨zCL_ok_17_7, List.forall_mem_cons.mpr ⟨zCL_ok_17_8, List.forall_mem_cons.mpr ⟨zCL_ok_17_9, List.forall_mem_cons.mpr ⟨zCL_ok_17_10, List.forall_mem_cons.mpr ⟨zCL_ok_17_11, fun _ h => absurd h List.not_mem_nil⟩⟩⟩⟩⟩⟩⟩⟩⟩⟩⟩⟩
set_option maxRecDepth 100000 in
theorem zCL_ok_18_0 : zCLp (9, 244, 211, 1, 0) := ⟨zm_211, rfl, zW_in (zch_6 _ (List.mem_of_getElem? (i := 105) rfl)) rfl, zin_211, zse_211, by decide, _, rfl, znp_211⟩
set_option maxRecDepth 100000 in
theorem zCL_ok_18_1 : zCLp (9, 254, 218, 0, 0) := ⟨zm_218, rfl, zW_in (zch_6 _ (List.mem_of_getElem? (i := 149) rfl)) rfl, zin_218, zse_218, by decide, _, rfl, znp_218⟩
set_option maxRecDepth 100000 in
theorem zCL_ok_18_2 : zCLp (9, 260, 217, 0, 0) := ⟨zm_217, rfl, zW_in (zch_6 _ (List.mem_of_getElem? (i := 141) rfl)) rfl, zin_217, zse_217, by decide, _, rfl, znp_217⟩
set_option maxRecDepth 100000 in
theorem zCL_ok_18_3 : zCLp (9, 269, 0, 8, 1) := ⟨zW_in (zch_6 _ (List.mem_of_getElem? (i := 153) rfl)) rfl, zW_in (zch_2 _ (List.mem_of_getElem? (i := 231) rfl)) rfl, zW_in (zch_1 _ (List.mem_of_getElem? (i := 12) rfl)) rfl, zW_in (zch_2 _ (List.mem_of_getElem? (i := 232) rfl)) rfl⟩
set_option maxRecDepth 100000 in
theorem zCL_ok_18_4 : zCLp (9, 272, 220, 1, 0) := ⟨zm_220, rfl, zW_in (zch_6 _ (List.mem_of_getElem? (i := 137) rfl)) rfl, zin_220, zse_220, by decide, _, rfl, znp_220⟩
set_option maxRecDepth 100000 in
theorem zCL_ok_18_5 : zCLp (9, 275, 219, 1, 0) := ⟨zm_219, rfl, zW_in (zch_6 _ (List.mem_of_getElem? (i := 145) rfl)) rfl, zin_219, zse_219, by decide, _, rfl, znp_219⟩
set_option maxRecDepth 100000 in
theorem zCL_ok_18_6 : zCLp (9, 281, 221, 0, 0) := ⟨zm_221, rfl, zW_in (zch_6 _ (List.mem_of_getElem? (i := 133) rfl)) rfl, zin_221, zse_221, by decide, _, rfl, znp_221⟩
set_option maxRecDepth 100000 in
theorem zCL_ok_18_7 : zCLp (9, 284, 222, 1, 0) := ⟨zm_222, rfl, zW_in (zch_6 _ (List.mem_of_getElem? (i := 154) rfl)) rfl, zin_222, zse_222, by decide, _, rfl, znp_222⟩
set_option maxRecDepth 100000 in
theorem zCL_ok_18_8 : zCLp (9, 287, 224, 0, 0) := ⟨zm_224, rfl, zW_in (zch_6 _ (List.mem_of_getElem? (i := 162) rfl)) rfl, zin_224, zse_224, by decide, _, rfl, znp_224⟩
set_option maxRecDepth 100000 in
theorem zCL_ok_18_9 : zCLp (9, 290, 227, 0, 0) := ⟨zm_227, rfl, zW_in (zch_6 _ (List.mem_of_getElem? (i := 174) rfl)) rfl, zin_227, zse_227, by decide, _, rfl, znp_227⟩
set_option maxRecDepth 100000 in
theorem zCL_ok_18_10 : zCLp (9, 293, 288, 0, 1) := ⟨zm_288, rfl, zW_in (zch_6 _ (List.mem_of_getElem? (i := 186) rfl)) rfl, zst_288, by decide, znp_288⟩
set_option maxRecDepth 100000 in
theorem zCL_ok_18_11 : zCLp (9, 301, 232, 0, 0) := ⟨zm_232, rfl, zW_in (zch_6 _ (List.mem_of_getElem? (i := 204) rfl)) rfl, zin_232, zse_232, by decide, _, rfl, znp_232⟩
theorem zCL_ok_18 : ∀ f ∈ [(9, 244, 211, 1, 0), (9, 254, 218, 0, 0), (9, 260, 217, 0, 0), (9, 269, 0, 8, 1), (9, 272, 220, 1, 0), (9, 275, 219, 1, 0), (9, 281, 221, 0, 0), (9, 284, 222, 1, 0), (9, 287, 224, 0, 0), (9, 290, 227, 0, 0), (9, 293, 288, 0, 1), (9, 301, 232, 0, 0)], zCLp f := List.forall_mem_cons.mpr ⟨zCL_ok_18_0, List.forall_mem_cons.mpr ⟨zCL_ok_18_1, List.forall_mem_cons.mpr ⟨zCL_ok_18_2, List.forall_mem_cons.mpr ⟨zCL_ok_18_3, List.forall_mem_cons.mpr ⟨zCL_ok_18_4, List.forall_mem_cons.mpr ⟨zCL_ok_18_5, List.forall_mem_cons.mpr ⟨zCL_ok_18_6, List.forall_mem_cons.mpr ⟨zCL_ok_18_7, List.forall_mem_cons.mpr ⟨zCL_ok_18_8, List.forall_mem_cons.mpr ⟨zCL_ok_18_9, List.forall_mem_cons.mpr ⟨zCL_ok_18_10, List.forall_mem_cons.mpr ⟨zCL_ok_18_11, fun _ h => absurd h List.not_mem_nil⟩⟩⟩⟩⟩⟩⟩⟩⟩⟩⟩⟩
set_option maxRecDepth 100000 in
theorem zCL_ok_19_0 : zCLp (9, 304, 234, 0, 0) := ⟨zm_234, rfl, zW_in (zch_6 _ (List.mem_of_getElem? (i := 200) rfl)) rfl, zin_234, zse_234, by decide, _, rfl, znp_234⟩
set_option maxRecDepth 100000 in
theorem zCL_ok_19_1 : zCLp (9, 308, 233, 0, 0) := ⟨zm_233, rfl, zW_in (zch_6 _ (List.mem_of_getElem? (i := 208) rfl)) rfl, zin_233, zse_233, by decide, _, rfl, znp_233⟩
set_option maxRecDepth 100000 in
theorem zCL_ok_19_2 : zCLp (9, 313, 235, 1, 0) := ⟨zm_235, rfl, zW_in (zch_6 _ (List.mem_of_getElem? (i := 196) rfl)) rfl, zin_235, zse_235, by decide, _, rfl, znp_235⟩
set_option maxRecDepth 100000 in
theorem zCL_ok_19_3 : zCLp (9, 316, 239, 1, 0) := ⟨zm_239, rfl, zW_in (zch_6 _ (List.mem_of_getElem? (i := 224) rfl)) rfl, zin_239, zse_239, by decide, _, rfl, znp_239⟩
set_option maxRecDepth 100000 in
theorem zCL_ok_19_4 : zCLp (9, 319, 240, 0, 0) := ⟨zm_240, rfl, zW_in (zch_6 _ (List.mem_of_getElem? (i := 228) rfl)) rfl, zin_240, zse_240, by decide, _, rfl, znp_240⟩
set_option maxRecDepth 100000 in
theorem zCL_ok_19_5 : zCLp (9, 331, 245, 3, 0) := ⟨zm_245, rfl, zW_in (zch_7 _ (List.mem_of_getElem? (i := 20) rfl)) rfl, zin_245, zse_245, by decide, _, rfl, znp_245⟩
set_option maxRecDepth 100000 in
theorem zCL_ok_19_6 : zCLp (9, 331, 245, 1, 0) := ⟨zm_245, rfl, zW_in (zch_7 _ (List.mem_of_getElem? (i := 20) rfl)) rfl, zin_245, zse_245, by decide, _, rfl, znp_245⟩
set_option maxRecDepth 100000 in
theorem zCL_ok_19_7 : zCLp (9, 333, 247, 0, 1) := ⟨zm_247, rfl, zW_in (zch_7 _ (List.mem_of_getElem? (i := 28) rfl)) rfl, zst_247, by decide, znp_247⟩
set_option maxRecDepth 100000 in
theorem zCL_ok_19_8 : zCLp (9, 337, 246, 1, 0) := ⟨zm_246, rfl, zW_in (zch_7 _ (List.mem_of_getElem? (i := 16) rfl)) rfl, zin_246, zse_246, by decide, _, rfl, znp_246⟩
set_option maxRecDepth 100000 in
theorem zCL_ok_19_9 : zCLp (9, 343, 248, 0, 0) := ⟨zm_248, rfl, zW_in (zch_7 _ (List.mem_of_getElem? (i := 24) rfl)) rfl, zin_248, zse_248, by decide, _, rfl, znp_248⟩
set_option maxRecDepth 100000 in
theorem zCL_ok_19_10 : zCLp (9, 347, 249, 1, 0) := ⟨zm_249, rfl, zW_in (zch_7 _ (List.mem_of_getElem? (i := 12) rfl)) rfl, zin_249, zse_249, by decide, _, rfl, znp_249⟩
set_option maxRecDepth 100000 in
theorem zCL_ok_19_11 : zCLp (9, 353, 244, 0, 0) := ⟨zm_244, rfl, zW_in (zch_7 _ (List.mem_of_getElem? (i := 4) rfl)) rfl, zin_244, zse_244, by decide, _, rfl, znp_244⟩
theorem zCL_ok_19 : ∀ f ∈ [(9, 304, 234, 0, 0), (9, 308, 233, 0, 0), (9, 313, 235, 1, 0), (9, 316, 239, 1, 0), (9, 319, 240, 0, 0), (9, 331, 245, 3, 0), (9, 331, 245, 1, 0), (9, 333, 247, 0, 1), (9, 337, 246, 1, 0), (9, 343, 248, 0, 0), (9, 347, 249, 1, 0), (9, 353, 244, 0, 0)], zCLp f := List.forall_mem_cons.mpr ⟨zCL_ok_19_0, List.forall_mem_cons.mpr ⟨zCL_ok_19_1, List.forall_mem_cons.mpr ⟨zCL_ok_19_2, List.forall_mem_cons.mpr ⟨zCL_ok_19_3, List.forall_mem_cons.mpr ⟨zCL_ok_19_4, List.forall_mem_cons.mpr ⟨zCL_ok_19_5, List.forall_mem_cons.mpr ⟨zCL_ok_19_6, List.forall_mem_cons.mpr ⟨zCL_ok_19_7, List.forall_mem_cons.mpr ⟨zCL_ok_19_8, List.forall_mem_cons.mpr ⟨zCL_ok_19_9, List.forall_mem_cons.mpr ⟨zCL_ok_19_10, List.forall_mem_cons.mpr ⟨zCL_ok_19_11, fun _ h => absurd h List.not_mem_nil⟩⟩⟩⟩⟩⟩⟩⟩⟩⟩⟩⟩
set_option maxRecDepth 100000 in
theorem zCL_ok_20_0 : zCLp (9, 356, 250, 0, 0) := ⟨zm_250, rfl, zW_in (zch_7 _ (List.mem_of_getElem? (i := 8) rfl)) rfl, zin_250, zse_250, by decide, _, rfl, znp_250⟩
set_option maxRecDepth 100000 in
theorem zCL_ok_20_1 : zCLp (9, 365, 252, 1, 0) := ⟨zm_252, rfl, zW_in (zch_7 _ (List.mem_of_getElem? (i := 39) rfl)) rfl, zin_252, zse_252, by decide, _, rfl, znp_252⟩
set_option maxRecDepth 100000 in
theorem zCL_ok_20_2 : zCLp (9, 368, 253, 0, 0) := ⟨zm_253, rfl, zW_in (zch_7 _ (List.mem_of_getElem? (i := 35) rfl)) rfl, zin_253, zse_253, by decide, _, rfl, znp_253⟩
set_option maxRecDepth 100000 in
theorem zCL_ok_20_3 : zCLp (9, 371, 254, 1, 0) := ⟨zm_254, rfl, zW_in (zch_7 _ (List.mem_of_getElem? (i := 43) rfl)) rfl, zin_254, zse_254, by decide, _, rfl, znp_254⟩
set_option maxRecDepth 100000 in
theorem zCL_ok_20_4 : zCLp (9, 380, 258, 0, 0) := ⟨zm_258, rfl, zW_in (zch_7 _ (List.mem_of_getElem? (i := 55) rfl)) rfl, zin_258, zse_258, by decide, _, rfl, znp_258⟩
set_option maxRecDepth 100000 in
theorem zCL_ok_20_5 : zCLp (9, 383, 257, 0, 0) := ⟨zm_257, rfl, zW_in (zch_7 _ (List.mem_of_getElem? (i := 59) rfl)) rfl, zin_257, zse_257, by decide, _, rfl, znp_257⟩
set_option maxRecDepth 100000 in
theorem zCL_ok_20_6 : zCLp (9, 386, 259, 1, 0) := ⟨zm_259, rfl, zW_in (zch_7 _ (List.mem_of_getElem? (i := 63) rfl)) rfl, zin_259, zse_259, by decide, _, rfl, znp_259⟩
set_option maxRecDepth 100000 in
theorem zCL_ok_20_7 : zCLp (9, 401, 261, 3, 0) := ⟨zm_261, rfl, zW_in (zch_7 _ (List.mem_of_getElem? (i := 71) rfl)) rfl, zin_261, zse_261, by decide, _, rfl, znp_261⟩
set_option maxRecDepth 100000 in
theorem zCL_ok_20_8 : zCLp (9, 401, 261, 1, 0) := ⟨zm_261, rfl, zW_in (zch_7 _ (List.mem_of_getElem? (i := 71) rfl)) rfl, zin_261, zse_261, by decide, _, rfl, znp_261⟩
set_option maxRecDepth 100000 in
theorem zCL_ok_20_9 : zCLp (9, 408, 263, 0, 0) := ⟨zm_263, rfl, zW_in (zch_7 _ (List.mem_of_getElem? (i := 83) rfl)) rfl, zin_263, zse_263, by decide, _, rfl, znp_263⟩
set_option maxRecDepth 100000 in
theorem zCL_ok_20_10 : zCLp (9, 411, 264, 3, 0) := ⟨zm_264, rfl, zW_in (zch_7 _ (List.mem_of_getElem? (i := 79) rfl)) rfl, zin_264, zse_264, by decide, _, rfl, znp_264⟩
set_option maxRecDepth 100000 in
theorem zCL_ok_20_11 : zCLp (9, 411, 264, 1, 0) := ⟨zm_264, rfl, zW_in (zch_7 _ (List.mem_of_getElem? (i := 79) rfl)) rfl, zin_264, zse_264, by decide, _, rfl, znp_264⟩
theorem zCL_ok_20 : ∀ f ∈ [(9, 356, 250, 0, 0), (9, 365, 252, 1, 0), (9, 368, 253, 0, 0), (9, 371, 254, 1, 0), (9, 380, 258, 0, 0), (9, 383, 257, 0, 0), (9, 386, 259, 1, 0), (9, 401, 261, 3, 0), (9, 401, 261, 1, 0), (9, 408, 263, 0, 0), (9, 411, 264, 3, 0), (9, 411, 264, 1, 0)], zCLp f := List.forall_mem_cons.mpr ⟨zCL_ok_20_0, List.forall_mem_cons.mpr ⟨zCL_ok_20_1, List.forall_mem_cons.mpr ⟨zCL_ok_20_2, List.forall_mem_cons.mpr ⟨zCL_ok_20_3, List.forall_mem_cons.mpr ⟨zCL_ok_20_4, List.forall_mem_cons.mpr ⟨zCL_ok_20_5, List.forall_mem_cons.mpr ⟨zCL_ok_20_6, List.forall_mem_cons.mpr ⟨zCL_ok_20_7, List.forall_mem_cons.mpr ⟨zCL_ok_20_8, List.forall_mem_cons.mpr ⟨zCL_ok_20_9, List.forall_mem_cons.mpr ⟨zCL_ok_20_10, List.forall_mem_cons.mpr ⟨zCL_ok_20_11, fun _ h => absurd h List.not_mem_nil⟩⟩⟩⟩⟩⟩⟩⟩⟩⟩⟩⟩
set_option maxRecDepth 100000 in
theorem zCL_ok_21_0 : zCLp (9, 415, 266, 0, 1) := ⟨zm_266, rfl, zW_in (zch_7 _ (List.mem_of_getElem? (i := 96) rfl)) rfl, zst_266, by decide, znp_266⟩
set_option maxRecDepth 100000 in
theorem zCL_ok_21_1 : zCLp (9, 420, 267, 0, 0) := ⟨zm_267, rfl, zW_in (zch_7 _ (List.mem_of_getElem? (i := 92) rfl)) rfl, zin_267, zse_267, by decide, _, rfl, znp_267⟩
set_option maxRecDepth 100000 in
theorem zCL_ok_21_2 : zCLp (9, 426, 270, 1, 0) := ⟨zm_270, rfl, zW_in (zch_7 _ (List.mem_of_getElem? (i := 103) rfl)) rfl, zin_270, zse_270, by decide, _, rfl, znp_270⟩
set_option maxRecDepth 100000 in
theorem zCL_ok_21_3 : zCLp (9, 429, 269, 1, 0) := ⟨zm_269, rfl, zW_in (zch_7 _ (List.mem_of_getElem? (i := 107) rfl)) rfl, zin_269, zse_269, by decide, _, rfl, znp_269⟩
set_option maxRecDepth 100000 in
theorem zCL_ok_21_4 : zCLp (9, 432, 271, 0, 0) := ⟨zm_271, rfl, zW_in (zch_7 _ (List.mem_of_getElem? (i := 115) rfl)) rfl, zin_271, zse_271, by decide, _, rfl, znp_271⟩
set_option maxRecDepth 100000 in
theorem zCL_ok_21_5 : zCLp (9, 437, 277, 0, 0) := ⟨zm_277, rfl, zW_in (zch_7 _ (List.mem_of_getElem? (i := 136) rfl)) rfl, zin_277, zse_277, by decide, _, rfl, znp_277⟩
set_option maxRecDepth 100000 in
theorem zCL_ok_21_6 : zCLp (9, 440, 279, 0, 0) := ⟨zm_279, rfl, zW_in (zch_7 _ (List.mem_of_getElem? (i := 144) rfl)) rfl, zin_279, zse_279, by decide, _, rfl, znp_279⟩
set_option maxRecDepth 100000 in
theorem zCL_ok_21_7 : zCLp (9, 458, 281, 1, 0) := ⟨zm_281, rfl, zW_in (zch_7 _ (List.mem_of_getElem? (i := 152) rfl)) rfl, zin_281, zse_281, by decide, _, rfl, znp_281⟩
set_option maxRecDepth 100000 in
theorem zCL_ok_21_8 : zCLp (9, 462, 282, 1, 0) := ⟨zm_282, rfl, zW_in (zch_7 _ (List.mem_of_getElem? (i := 160) rfl)) rfl, zin_282, zse_282, by decide, _, rfl, znp_282⟩
set_option maxRecDepth 100000 in
theorem zCL_ok_21_9 : zCLp (9, 465, 0, 5, 2) := ⟨zW_in (zch_7 _ (List.mem_of_getElem? (i := 172) rfl)) rfl, zW_in (zch_1 _ (List.mem_of_getElem? (i := 26) rfl)) rfl, zW_in (zch_1 _ (List.mem_of_getElem? (i := 27) rfl)) rfl⟩
set_option maxRecDepth 100000 in
theorem zCL_ok_21_10 : zCLp (10, 15, 104, 4, 2) := ⟨zm_104, rfl, zW_in (zch_1 _ (List.mem_of_getElem? (i := 22) rfl)) rfl, zin_104, by decide +kernel, rfl, by decide, _, rfl, znp_104⟩
set_option maxRecDepth 100000 in
theorem zCL_ok_21_11 : zCLp (10, 18, 286, 4, 2) := ⟨zm_286, rfl, zW_in (zch_7 _ (List.mem_of_getElem? (i := 169) rfl)) rfl, zin_286, by decide +kernel, rfl, by decide, _, rfl, znp_286⟩
theorem zCL_ok_21 : ∀ f ∈ [(9, 415, 266, 0, 1), (9, 420, 267, 0, 0), (9, 426, 270, 1, 0), (9, 429, 269, 1, 0), (9, 432, 271, 0, 0), (9, 437, 277, 0, 0), (9, 440, 279, 0, 0), (9, 458, 281, 1, 0), (9, 462, 282, 1, 0), (9, 465, 0, 5, 2), (10, 15, 104, 4, 2), (10, 18, 286, 4, 2)], zCLp f := List.forall_mem_cons.mpr ⟨zCL_ok_21_0, List.forall_mem_cons.mpr ⟨zCL_ok_21_1, List.forall_mem_cons.mpr ⟨zCL_ok_21_2, List.forall_mem_cons.mpr ⟨zCL_ok_21_3, List.forall_mem_cons.mpr ⟨zCL_ok_21_4, List.forall_mem_cons.mpr ⟨zCL_ok_21_5, List.forall_mem_cons.mpr ⟨zCL_ok_21_6, List.forall_mem_cons.mpr ⟨zCL_ok_21_7, List.forall_mem_cons.mpr ⟨zCL_ok_21_8, List.forall_mem_cons.mpr ⟨zCL_ok_21_9, List.forall_mem_cons.mpr ⟨zCL_ok_21_10, List.forall_mem_cons.mpr ⟨zCL_ok_21_11, fun _ h => absurd h List.not_mem_nil⟩⟩⟩⟩⟩⟩⟩⟩⟩⟩⟩⟩
set_option maxRecDepth 100000 in
theorem zCL_ok_22_0 : zCLp (10, 19, 105, 0, 0) := ⟨zm_105, rfl, zW_in (zch_2 _ (List.mem_of_getElem? (i := 118) rfl)) rfl, zin_105, zse_105, by decide, _, rfl, znp_105⟩
set_option maxRecDepth 100000 in
theorem zCL_ok_22_1 : zCLp (10, 23, 175, 0, 0) := ⟨zm_175, rfl, zW_in (zch_5 _ (List.mem_of_getElem? (i := 178) rfl)) rfl, zin_175, zse_175, by decide, _, rfl, znp_175⟩
set_option maxRecDepth 100000 in
theorem zCL_ok_22_2 : zCLp (10, 24, 106, 0, 0) := ⟨zm_106, rfl, zW_in (zch_2 _ (List.mem_of_getElem? (i := 122) rfl)) rfl, zin_106, zse_106, by decide, _, rfl, znp_106⟩
set_option maxRecDepth 100000 in
theorem zCL_ok_22_3 : zCLp (10, 28, 176, 0, 0) := ⟨zm_176, rfl, zW_in (zch_5 _ (List.mem_of_getElem? (i := 187) rfl)) rfl, zin_176, zse_176, by decide, _, rfl, znp_176⟩
set_option maxRecDepth 100000 in
theorem zCL_ok_22_4 : zCLp (10, 29, 107, 0, 0) := ⟨zm_107, rfl, zW_in (zch_2 _ (List.mem_of_getElem? (i := 126) rfl)) rfl, zin_107, zse_107, by decide, _, rfl, znp_107⟩
set_option maxRecDepth 100000 in
theorem zCL_ok_22_5 : zCLp (10, 32, 179, 0, 0) := ⟨zm_179, rfl, zW_in (zch_5 _ (List.mem_of_getElem? (i := 194) rfl)) rfl, zin_179, zse_179, by decide, _, rfl, znp_179⟩
set_option maxRecDepth 100000 in
theorem zCL_ok_22_6 : zCLp (10, 33, 108, 0, 0) := ⟨zm_108, rfl, zW_in (zch_2 _ (List.mem_of_getElem? (i := 130) rfl)) rfl, zin_108, zse_108, by decide, _, rfl, znp_108⟩
set_option maxRecDepth 100000 in
theorem zCL_ok_22_7 : zCLp (10, 37, 180, 0, 0) := ⟨zm_180, rfl, zW_in (zch_5 _ (List.mem_of_getElem? (i := 198) rfl)) rfl, zin_180, zse_180, by decide, _, rfl, znp_180⟩
set_option maxRecDepth 100000 in
theorem zCL_ok_22_8 : zCLp (10, 38, 109, 0, 0) := ⟨zm_109, rfl, zW_in (zch_2 _ (List.mem_of_getElem? (i := 134) rfl)) rfl, zin_109, zse_109, by decide, _, rfl, znp_109⟩
set_option maxRecDepth 100000 in
theorem zCL_ok_22_9 : zCLp (10, 42, 187, 0, 0) := ⟨zm_187, rfl, zW_in (zch_5 _ (List.mem_of_getElem? (i := 202) rfl)) rfl, zin_187, zse_187, by decide, _, rfl, znp_187⟩
set_option maxRecDepth 100000 in
theorem zCL_ok_22_10 : zCLp (10, 43, 110, 0, 0) := ⟨zm_110, rfl, zW_in (zch_2 _ (List.mem_of_getElem? (i := 201) rfl)) rfl, zin_110, zse_110, by decide, _, rfl, znp_110⟩
set_option maxRecDepth 100000 in
theorem zCL_ok_22_11 : zCLp (10, 46, 201, 0, 0) := ⟨zm_201, rfl, zW_in (zch_5 _ (List.mem_of_getElem? (i := 237) rfl)) rfl, zin_201, zse_201, by decide, _, rfl, znp_201⟩
theorem zCL_ok_22 : ∀ f ∈ [(10, 19, 105, 0, 0), (10, 23, 175, 0, 0), (10, 24, 106, 0, 0), (10, 28, 176, 0, 0), (10, 29, 107, 0, 0), (10, 32, 179, 0, 0), (10, 33, 108, 0, 0), (10, 37, 180, 0, 0), (10, 38, 109, 0, 0), (10, 42, 187, 0, 0), (10, 43, 110, 0, 0), (10, 46, 201, 0, 0)], zCLp f := List.forall_mem_cons.mpr ⟨zCL_ok_22_0, List.forall_mem_cons.mpr ⟨zCL_ok_22_1, List.forall_mem_cons.mpr ⟨zCL_ok_22_2, List.forall_mem_cons.mpr ⟨zCL_ok_22_3, List.forall_mem_cons.mpr ⟨zCL_ok_22_4, List.forall_mem_cons.mpr ⟨zCL_ok_22_5, List.forall_mem_cons.mpr ⟨zCL_ok_22_6, List.forall_mem_cons.mpr ⟨zCL_ok_22_7, List.forall_mem_cons.mpr ⟨zCL_ok_22_8, List.forall_mem_cons.mpr ⟨zCL_ok_22_9, List.forall_mem_cons.mpr ⟨zCL_ok_22_10, List.forall_mem_cons.mpr ⟨zCL_ok_22_11, fun _ h => absurd h List.not_mem_nil⟩⟩⟩⟩⟩⟩⟩⟩⟩⟩⟩⟩
set_option maxRecDepth 100000 in
theorem zCL_ok_23_0 : zCLp (10, 47, 111, 0, 0) := ⟨zm_111, rfl, zW_in (zch_2 _ (List.mem_of_getElem? (i := 209) rfl)) rfl, zin_111, zse_111, by decide, _, rfl, znp_111⟩
set_option maxRecDepth 100000 in
theorem zCL_ok_23_1 : zCLp (10, 50, 202, 0, 0) := ⟨zm_202, rfl, zW_in (zch_6 _ (List.mem_of_getElem? (i := 5) rfl)) rfl, zin_202, zse_202, by decide, _, rfl, znp_202⟩
set_option maxRecDepth 100000 in
theorem zCL_ok_23_2 : zCLp (10, 51, 112, 0, 0) := ⟨zm_112, rfl, zW_in (zch_3 _ (List.mem_of_getElem? (i := 5) rfl)) rfl, zin_112, zse_112, by decide, _, rfl, znp_112⟩
set_option maxRecDepth 100000 in
theorem zCL_ok_23_3 : zCLp (10, 54, 203, 0, 0) := ⟨zm_203, rfl, zW_in (zch_6 _ (List.mem_of_getElem? (i := 40) rfl)) rfl, zin_203, zse_203, by decide, _, rfl, znp_203⟩
set_option maxRecDepth 100000 in
theorem zCL_ok_23_4 : zCLp (10, 55, 113, 0, 0) := ⟨zm_113, rfl, zW_in (zch_3 _ (List.mem_of_getElem? (i := 26) rfl)) rfl, zin_113, zse_113, by decide, _, rfl, znp_113⟩
set_option maxRecDepth 100000 in
theorem zCL_ok_23_5 : zCLp (10, 58, 205, 0, 0) := ⟨zm_205, rfl, zW_in (zch_6 _ (List.mem_of_getElem? (i := 52) rfl)) rfl, zin_205, zse_205, by decide, _, rfl, znp_205⟩
set_option maxRecDepth 100000 in
theorem zCL_ok_23_6 : zCLp (10, 59, 114, 0, 0) := ⟨zm_114, rfl, zW_in (zch_3 _ (List.mem_of_getElem? (i := 36) rfl)) rfl, zin_114, zse_114, by decide, _, rfl, znp_114⟩
set_option maxRecDepth 100000 in
theorem zCL_ok_23_7 : zCLp (10, 63, 208, 0, 0) := ⟨zm_208, rfl, zW_in (zch_6 _ (List.mem_of_getElem? (i := 60) rfl)) rfl, zin_208, zse_208, by decide, _, rfl, znp_208⟩
set_option maxRecDepth 100000 in
theorem zCL_ok_23_8 : zCLp (10, 64, 117, 0, 0) := ⟨zm_117, rfl, zW_in (zch_3 _ (List.mem_of_getElem? (i := 54) rfl)) rfl, zin_117, zse_117, by decide, _, rfl, znp_117⟩
set_option maxRecDepth 100000 in
theorem zCL_ok_23_9 : zCLp (10, 67, 209, 0, 0) := ⟨zm_209, rfl, zW_in (zch_6 _ (List.mem_of_getElem? (i := 73) rfl)) rfl, zin_209, zse_209, by decide, _, rfl, znp_209⟩
set_option maxRecDepth 100000 in
theorem zCL_ok_23_10 : zCLp (10, 68, 118, 0, 0) := ⟨zm_118, rfl, zW_in (zch_3 _ (List.mem_of_getElem? (i := 97) rfl)) rfl, zin_118, zse_118, by decide, _, rfl, znp_118⟩
set_option maxRecDepth 100000 in
theorem zCL_ok_23_11 : zCLp (10, 71, 212, 0, 0) := ⟨zm_212, rfl, zW_in (zch_6 _ (List.mem_of_getElem? (i := 101) rfl)) rfl, zin_212, zse_212, by decide, _, rfl, znp_212⟩
theorem zCL_ok_23 : ∀ f ∈ [(10, 47, 111, 0, 0), (10, 50, 202, 0, 0), (10, 51, 112, 0, 0), (10, 54, 203, 0, 0), (10, 55, 113, 0, 0), (10, 58, 205, 0, 0), (10, 59, 114, 0, 0), (10, 63, 208, 0, 0), (10, 64, 117, 0, 0), (10, 67, 209, 0, 0), (10, 68, 118, 0, 0), (10, 71, 212, 0, 0)], zCLp f := List.forall_mem_cons.mpr ⟨zCL_ok_23_0, List.forall_mem_cons.mpr ⟨zCL_ok_23_1, List.forall_mem_cons.mpr ⟨zCL_ok_23_2, List.forall_mem_cons.mpr ⟨zCL_ok_23_3, List.forall_mem_cons.mpr ⟨zCL_ok_23_4, List.forall_mem_cons.mpr ⟨zCL_ok_23_5, List.forall_mem_cons.mpr ⟨zCL_ok_23_6, List.forall_mem_cons.mpr ⟨zCL_ok_23_7, List.forall_mem_cons.mpr ⟨zCL_ok_23_8, List.forall_mem_cons.mpr ⟨zCL_ok_23_9, List.forall_mem_cons.mpr ⟨zCL_ok_23_10, List.forall_mem_cons.mpr ⟨zCL_ok_23_11, fun _ h => absurd h List.not_mem_nil⟩⟩⟩⟩⟩⟩⟩⟩⟩⟩⟩⟩
set_option maxRecDepth 100000 in
theorem zCL_ok_24_0 : zCLp (10, 72, 119, 0, 0) := ⟨zm_119, rfl, zW_in (zch_3 _ (List.mem_of_getElem? (i := 115) rfl)) rfl, zin_119, zse_119, by decide, _, rfl, znp_119⟩
set_option maxRecDepth 100000 in
theorem zCL_ok_24_1 : zCLp (10, 75, 213, 0, 0) := ⟨zm_213, rfl, zW_in (zch_6 _ (List.mem_of_getElem? (i := 113) rfl)) rfl, zin_213, zse_213, by decide, _, rfl, znp_213⟩
set_option maxRecDepth 100000 in
theorem zCL_ok_24_2 : zCLp (10, 76, 120, 0, 0) := ⟨zm_120, rfl, zW_in (zch_3 _ (List.mem_of_getElem? (i := 119) rfl)) rfl, zin_120, zse_120, by decide, _, rfl, znp_120⟩
set_option maxRecDepth 100000 in
theorem zCL_ok_24_3 : zCLp (10, 79, 214, 0, 0) := ⟨zm_214, rfl, zW_in (zch_6 _ (List.mem_of_getElem? (i := 117) rfl)) rfl, zin_214, zse_214, by decide, _, rfl, znp_214⟩
set_option maxRecDepth 100000 in
theorem zCL_ok_24_4 : zCLp (10, 80, 122, 0, 0) := ⟨zm_122, rfl, zW_in (zch_3 _ (List.mem_of_getElem? (i := 127) rfl)) rfl, zin_122, zse_122, by decide, _, rfl, znp_122⟩
set_option maxRecDepth 100000 in
theorem zCL_ok_24_5 : zCLp (10, 83, 215, 0, 0) := ⟨zm_215, rfl, zW_in (zch_6 _ (List.mem_of_getElem? (i := 121) rfl)) rfl, zin_215, zse_215, by decide, _, rfl, znp_215⟩
set_option maxRecDepth 100000 in
theorem zCL_ok_24_6 : zCLp (10, 84, 123, 0, 0) := ⟨zm_123, rfl, zW_in (zch_3 _ (List.mem_of_getElem? (i := 133) rfl)) rfl, zin_123, zse_123, by decide, _, rfl, znp_123⟩
set_option maxRecDepth 100000 in
theorem zCL_ok_24_7 : zCLp (10, 87, 216, 0, 0) := ⟨zm_216, rfl, zW_in (zch_6 _ (List.mem_of_getElem? (i := 125) rfl)) rfl, zin_216, zse_216, by decide, _, rfl, znp_216⟩
set_option maxRecDepth 100000 in
theorem zCL_ok_24_8 : zCLp (10, 88, 124, 0, 0) := ⟨zm_124, rfl, zW_in (zch_3 _ (List.mem_of_getElem? (i := 137) rfl)) rfl, zin_124, zse_124, by decide, _, rfl, znp_124⟩
set_option maxRecDepth 100000 in
theorem zCL_ok_24_9 : zCLp (10, 91, 223, 0, 0) := ⟨zm_223, rfl, zW_in (zch_6 _ (List.mem_of_getElem? (i := 129) rfl)) rfl, zin_223, zse_223, by decide, _, rfl, znp_223⟩
set_option maxRecDepth 100000 in
theorem zCL_ok_24_10 : zCLp (10, 92, 125, 0, 0) := ⟨zm_125, rfl, zW_in (zch_3 _ (List.mem_of_getElem? (i := 191) rfl)) rfl, zin_125, zse_125, by decide, _, rfl, znp_125⟩
set_option maxRecDepth 100000 in
theorem zCL_ok_24_11 : zCLp (10, 95, 225, 0, 0) := ⟨zm_225, rfl, zW_in (zch_6 _ (List.mem_of_getElem? (i := 158) rfl)) rfl, zin_225, zse_225, by decide, _, rfl, znp_225⟩
theorem zCL_ok_24 : ∀ f ∈ [(10, 72, 119, 0, 0), (10, 75, 213, 0, 0), (10, 76, 120, 0, 0), (10, 79, 214, 0, 0), (10, 80, 122, 0, 0), (10, 83, 215, 0, 0), (10, 84, 123, 0, 0), (10, 87, 216, 0, 0), (10, 88, 124, 0, 0), (10, 91, 223, 0, 0), (10, 92, 125, 0, 0), (10, 95, 225, 0, 0)], zCLp f := List.forall_mem_cons.mpr ⟨zCL_ok_24_0, List.forall_mem_cons.mpr ⟨zCL_ok_24_1, List.forall_mem_cons.mpr ⟨zCL_ok_24_2, List.forall_mem_cons.mpr ⟨zCL_ok_24_3, List.forall_mem_cons.mpr ⟨zCL_ok_24_4, List.forall_mem_cons.mpr ⟨zCL_ok_24_5, List.forall_mem_cons.mpr ⟨zCL_ok_24_6, List.forall_mem_cons.mpr ⟨zCL_ok_24_7, List.forall_mem_cons.mpr ⟨zCL_ok_24_8, List.forall_mem_cons.mpr ⟨zCL_ok_24_9, List.forall_mem_cons.mpr ⟨zCL_ok_24_10, List.forall_mem_cons.mpr ⟨zCL_ok_24_11, fun _ h => absurd h List.not_mem_nil⟩⟩⟩⟩⟩⟩⟩⟩⟩⟩⟩⟩
set_option maxRecDepth 100000 in
theorem zCL_ok_25_0 : zCLp (10, 96, 127, 0, 0) := ⟨zm_127, rfl, zW_in (zch_3 _ (List.mem_of_getElem? (i := 199) rfl)) rfl, zin_127, zse_127, by decide, _, rfl, znp_127⟩
set_option maxRecDepth 100000 in
theorem zCL_ok_25_1 : zCLp (10, 99, 226, 0, 0) := ⟨zm_226, rfl, zW_in (zch_6 _ (List.mem_of_getElem? (i := 166) rfl)) rfl, zin_226, zse_226, by decide, _, rfl, znp_226⟩
set_option maxRecDepth 100000 in
theorem zCL_ok_25_2 : zCLp (10, 100, 128, 0, 0) := ⟨zm_128, rfl, zW_in (zch_3 _ (List.mem_of_getElem? (i := 208) rfl)) rfl, zin_128, zse_128, by decide, _, rfl, znp_128⟩
set_option maxRecDepth 100000 in
theorem zCL_ok_25_3 : zCLp (10, 103, 228, 0, 0) := ⟨zm_228, rfl, zW_in (zch_6 _ (List.mem_of_getElem? (i := 170) rfl)) rfl, zin_228, zse_228, by decide, _, rfl, znp_228⟩
set_option maxRecDepth 100000 in
theorem zCL_ok_25_4 : zCLp (10, 104, 130, 0, 0) := ⟨zm_130, rfl, zW_in (zch_3 _ (List.mem_of_getElem? (i := 217) rfl)) rfl, zin_130, zse_130, by decide, _, rfl, znp_130⟩
set_option maxRecDepth 100000 in
theorem zCL_ok_25_5 : zCLp (10, 107, 229, 0, 0) := ⟨zm_229, rfl, zW_in (zch_6 _ (List.mem_of_getElem? (i := 178) rfl)) rfl, zin_229, zse_229, by decide, _, rfl, znp_229⟩
set_option maxRecDepth 100000 in
theorem zCL_ok_25_6 : zCLp (10, 108, 131, 0, 0) := ⟨zm_131, rfl, zW_in (zch_3 _ (List.mem_of_getElem? (i := 221) rfl)) rfl, zin_131, zse_131, by decide, _, rfl, znp_131⟩
set_option maxRecDepth 100000 in
theorem zCL_ok_25_7 : zCLp (10, 111, 230, 0, 0) := ⟨zm_230, rfl, zW_in (zch_6 _ (List.mem_of_getElem? (i := 182) rfl)) rfl, zin_230, zse_230, by decide, _, rfl, znp_230⟩
set_option maxRecDepth 100000 in
theorem zCL_ok_25_8 : zCLp (10, 112, 133, 0, 0) := ⟨zm_133, rfl, zW_in (zch_3 _ (List.mem_of_getElem? (i := 234) rfl)) rfl, zin_133, zse_133, by decide, _, rfl, znp_133⟩
set_option maxRecDepth 100000 in
theorem zCL_ok_25_9 : zCLp (10, 115, 231, 0, 0) := ⟨zm_231, rfl, zW_in (zch_6 _ (List.mem_of_getElem? (i := 187) rfl)) rfl, zin_231, zse_231, by decide, _, rfl, znp_231⟩
set_option maxRecDepth 100000 in
theorem zCL_ok_25_10 : zCLp (10, 116, 134, 0, 0) := ⟨zm_134, rfl, zW_in (zch_3 _ (List.mem_of_getElem? (i := 238) rfl)) rfl, zin_134, zse_134, by decide, _, rfl, znp_134⟩
set_option maxRecDepth 100000 in
theorem zCL_ok_25_11 : zCLp (10, 119, 236, 0, 0) := ⟨zm_236, rfl, zW_in (zch_6 _ (List.mem_of_getElem? (i := 191) rfl)) rfl, zin_236, zse_236, by decide, _, rfl, znp_236⟩
theorem zCL_ok_25 : ∀ f ∈ [(10, 96, 127, 0, 0), (10, 99, 226, 0, 0), (10, 100, 128, 0, 0), (10, 103, 228, 0, 0), (10, 104, 130, 0, 0), (10, 107, 229, 0, 0), (10, 108, 131, 0, 0), (10, 111, 230, 0, 0), (10, 112, 133, 0, 0), (10, 115, 231, 0, 0), (10, 116, 134, 0, 0), (10, 119, 236, 0, 0)], zCLp f := List.forall_mem_cons.mpr ⟨zCL_ok_25_0, List.forall_mem_cons.mpr ⟨zCL_ok_25_1, List.forall_mem_cons.mpr ⟨zCL_ok_25_2, List.forall_mem_cons.mpr ⟨zCL_ok_25_3, List.forall_mem_cons.mpr ⟨zCL_ok_25_4, List.forall_mem_cons.mpr ⟨zCL_ok_25_5, List.forall_mem_cons.mpr ⟨zCL_ok_25_6, List.forall_mem_cons.mpr ⟨zCL_ok_25_7, List.forall_mem_cons.mpr ⟨zCL_ok_25_8, List.forall_mem_cons.mpr ⟨zCL_ok_25_9, List.forall_mem_cons.mpr ⟨zCL_ok_25_10, List.forall_mem_cons.mpr ⟨zCL_ok_25_11, fun _ h => absurd h List.not_mem_nil⟩⟩⟩⟩⟩⟩⟩⟩⟩⟩⟩⟩
set_option maxRecDepth 100000 in
theorem zCL_ok_26_0 : zCLp (10, 120, 135, 0, 0) := ⟨zm_135, rfl, zW_in (zch_4 _ (List.mem_of_getElem? (i := 11) rfl)) rfl, zin_135, zse_135, by decide, _, rfl, znp_135⟩
set_option maxRecDepth 100000 in
theorem zCL_ok_26_1 : zCLp (10, 123, 237, 0, 0) := ⟨zm_237, rfl, zW_in (zch_6 _ (List.mem_of_getElem? (i := 212) rfl)) rfl, zin_237, zse_237, by decide, _, rfl, znp_237⟩
set_option maxRecDepth 100000 in
theorem zCL_ok_26_2 : zCLp (10, 124, 136, 0, 0) := ⟨zm_136, rfl, zW_in (zch_4 _ (List.mem_of_getElem? (i := 21) rfl)) rfl, zin_136, zse_136, by decide, _, rfl, znp_136⟩
set_option maxRecDepth 100000 in
theorem zCL_ok_26_3 : zCLp (10, 127, 238, 0, 0) := ⟨zm_238, rfl, zW_in (zch_6 _ (List.mem_of_getElem? (i := 216) rfl)) rfl, zin_238, zse_238, by decide, _, rfl, znp_238⟩
set_option maxRecDepth 100000 in
theorem zCL_ok_26_4 : zCLp (10, 128, 137, 0, 0) := ⟨zm_137, rfl, zW_in (zch_4 _ (List.mem_of_getElem? (i := 25) rfl)) rfl, zin_137, zse_137, by decide, _, rfl, znp_137⟩
set_option maxRecDepth 100000 in
theorem zCL_ok_26_5 : zCLp (10, 131, 241, 0, 0) := ⟨zm_241, rfl, zW_in (zch_6 _ (List.mem_of_getElem? (i := 220) rfl)) rfl, zin_241, zse_241, by decide, _, rfl, znp_241⟩
set_option maxRecDepth 100000 in
theorem zCL_ok_26_6 : zCLp (10, 132, 138, 0, 0) := ⟨zm_138, rfl, zW_in (zch_4 _ (List.mem_of_getElem? (i := 29) rfl)) rfl, zin_138, zse_138, by decide, _, rfl, znp_138⟩
set_option maxRecDepth 100000 in
theorem zCL_ok_26_7 : zCLp (10, 135, 242, 0, 0) := ⟨zm_242, rfl, zW_in (zch_6 _ (List.mem_of_getElem? (i := 232) rfl)) rfl, zin_242, zse_242, by decide, _, rfl, znp_242⟩
set_option maxRecDepth 100000 in
theorem zCL_ok_26_8 : zCLp (10, 136, 140, 0, 0) := ⟨zm_140, rfl, zW_in (zch_4 _ (List.mem_of_getElem? (i := 37) rfl)) rfl, zin_140, zse_140, by decide, _, rfl, znp_140⟩
set_option maxRecDepth 100000 in
theorem zCL_ok_26_9 : zCLp (10, 139, 243, 0, 0) := ⟨zm_243, rfl, zW_in (zch_6 _ (List.mem_of_getElem? (i := 236) rfl)) rfl, zin_243, zse_243, by decide, _, rfl, znp_243⟩
set_option maxRecDepth 100000 in
theorem zCL_ok_26_10 : zCLp (10, 140, 143, 0, 0) := ⟨zm_143, rfl, zW_in (zch_4 _ (List.mem_of_getElem? (i := 50) rfl)) rfl, zin_143, zse_143, by decide, _, rfl, znp_143⟩
set_option maxRecDepth 100000 in
theorem zCL_ok_26_11 : zCLp (10, 143, 251, 0, 0) := ⟨zm_251, rfl, zW_in (zch_7 _ (List.mem_of_getElem? (i := 0) rfl)) rfl, zin_251, zse_251, by decide, _, rfl, znp_251⟩
theorem zCL_ok_26 : ∀ f ∈ [(10, 120, 135, 0, 0), (10, 123, 237, 0, 0), (10, 124, 136, 0, 0), (10, 127, 238, 0, 0), (10, 128, 137, 0, 0), (10, 131, 241, 0, 0), (10, 132, 138, 0, 0), (10, 135, 242, 0, 0), (10, 136, 140, 0, 0), (10, 139, 243, 0, 0), (10, 140, 143, 0, 0), (10, 143, 251, 0, 0)], zCLp f := List.forall_mem_cons.mpr ⟨zCL_ok_26_0, List.forall_mem_cons.mpr ⟨zCL_ok_26_1, List.forall_mem_cons.mpr ⟨zCL_ok_26_2, List.forall_mem_cons.mpr ⟨zCL_ok_26_3, List.forall_mem_cons.mpr ⟨zCL_ok_26_4, List.forall_mem_cons.mpr ⟨zCL_ok_26_5, List.forall_mem_cons.mpr ⟨zCL_ok_26_6, List.forall_mem_cons.mpr ⟨zCL_ok_26_7, List.forall_mem_cons.mpr ⟨zCL_ok_26_8, List.forall_mem_cons.mpr ⟨zCL_ok_26_9, List.forall_mem_cons.mpr ⟨zCL_ok_26_10, List.forall_mem_cons.mpr ⟨zCL_ok_26_11, fun _ h => absurd h List.not_mem_nil⟩⟩⟩⟩⟩⟩⟩⟩⟩⟩⟩⟩
set_option maxRecDepth 100000 in
theorem zCL_ok_27_0 : zCLp (10, 144, 144, 0, 0) := ⟨zm_144, rfl, zW_in (zch_4 _ (List.mem_of_getElem? (i := 146) rfl)) rfl, zin_144, zse_144, by decide, _, rfl, znp_144⟩
set_option maxRecDepth 100000 in
theorem zCL_ok_27_1 : zCLp (10, 147, 255, 0, 0) := ⟨zm_255, rfl, zW_in (zch_7 _ (List.mem_of_getElem? (i := 31) rfl)) rfl, zin_255, zse_255, by decide, _, rfl, znp_255⟩
set_option maxRecDepth 100000 in
theorem zCL_ok_27_2 : zCLp (10, 148, 145, 0, 0) := ⟨zm_145, rfl, zW_in (zch_4 _ (List.mem_of_getElem? (i := 187) rfl)) rfl, zin_145, zse_145, by decide, _, rfl, znp_145⟩
set_option maxRecDepth 100000 in
theorem zCL_ok_27_3 : zCLp (10, 151, 256, 0, 0) := ⟨zm_256, rfl, zW_in (zch_7 _ (List.mem_of_getElem? (i := 47) rfl)) rfl, zin_256, zse_256, by decide, _, rfl, znp_256⟩
set_option maxRecDepth 100000 in
theorem zCL_ok_27_4 : zCLp (10, 152, 146, 0, 0) := ⟨zm_146, rfl, zW_in (zch_4 _ (List.mem_of_getElem? (i := 200) rfl)) rfl, zin_146, zse_146, by decide, _, rfl, znp_146⟩
set_option maxRecDepth 100000 in
theorem zCL_ok_27_5 : zCLp (10, 155, 260, 0, 0) := ⟨zm_260, rfl, zW_in (zch_7 _ (List.mem_of_getElem? (i := 51) rfl)) rfl, zin_260, zse_260, by decide, _, rfl, znp_260⟩
set_option maxRecDepth 100000 in
theorem zCL_ok_27_6 : zCLp (10, 156, 148, 0, 0) := ⟨zm_148, rfl, zW_in (zch_4 _ (List.mem_of_getElem? (i := 222) rfl)) rfl, zin_148, zse_148, by decide, _, rfl, znp_148⟩
set_option maxRecDepth 100000 in
theorem zCL_ok_27_7 : zCLp (10, 159, 262, 0, 0) := ⟨zm_262, rfl, zW_in (zch_7 _ (List.mem_of_getElem? (i := 67) rfl)) rfl, zin_262, zse_262, by decide, _, rfl, znp_262⟩
set_option maxRecDepth 100000 in
theorem zCL_ok_27_8 : zCLp (10, 160, 150, 0, 0) := ⟨zm_150, rfl, zW_in (zch_5 _ (List.mem_of_getElem? (i := 16) rfl)) rfl, zin_150, zse_150, by decide, _, rfl, znp_150⟩
set_option maxRecDepth 100000 in
theorem zCL_ok_27_9 : zCLp (10, 163, 265, 0, 0) := ⟨zm_265, rfl, zW_in (zch_7 _ (List.mem_of_getElem? (i := 75) rfl)) rfl, zin_265, zse_265, by decide, _, rfl, znp_265⟩
set_option maxRecDepth 100000 in
theorem zCL_ok_27_10 : zCLp (10, 164, 151, 0, 0) := ⟨zm_151, rfl, zW_in (zch_5 _ (List.mem_of_getElem? (i := 33) rfl)) rfl, zin_151, zse_151, by decide, _, rfl, znp_151⟩
set_option maxRecDepth 100000 in
theorem zCL_ok_27_11 : zCLp (10, 167, 268, 0, 0) := ⟨zm_268, rfl, zW_in (zch_7 _ (List.mem_of_getElem? (i := 87) rfl)) rfl, zin_268, zse_268, by decide, _, rfl, znp_268⟩
theorem zCL_ok_27 : ∀ f ∈ [(10, 144, 144, 0, 0), (10, 147, 255, 0, 0), (10, 148, 145, 0, 0), (10, 151, 256, 0, 0), (10, 152, 146, 0, 0), (10, 155, 260, 0, 0), (10, 156, 148, 0, 0), (10, 159, 262, 0, 0), (10, 160, 150, 0, 0), (10, 163, 265, 0, 0), (10, 164, 151, 0, 0), (10, 167, 268, 0, 0)], zCLp f := List.forall_mem_cons.mpr ⟨zCL_ok_27_0, List.forall_mem_cons.mpr ⟨zCL_ok_27_1, List.forall_mem_cons.mpr ⟨zCL_ok_27_2, List.forall_mem_cons.mpr ⟨zCL_ok_27_3, List.forall_mem_cons.mpr ⟨zCL_ok_27_4, List.forall_mem_cons.mpr ⟨zCL_ok_27_5, List.forall_mem_cons.mpr ⟨zCL_ok_27_6, List.forall_mem_cons.mpr ⟨zCL_ok_27_7, List.forall_mem_cons.mpr ⟨zCL_ok_27_8, List.forall_mem_cons.mpr ⟨zCL_ok_27_9, List.forall_mem_cons.mpr ⟨zCL_ok_27_10, List.forall_mem_cons.mpr ⟨zCL_ok_27_11, fun _ h => absurd h List.not_mem_nil⟩⟩⟩⟩⟩⟩⟩⟩⟩⟩⟩⟩
set_option maxRecDepth 100000 in
theorem zCL_ok_28_0 : zCLp (10, 168, 155, 0, 0) := ⟨zm_155, rfl, zW_in (zch_5 _ (List.mem_of_getElem? (i := 48) rfl)) rfl, zin_155, zse_155, by decide, _, rfl, znp_155⟩
set_option maxRecDepth 100000 in
theorem zCL_ok_28_1 : zCLp (10, 171, 272, 0, 0) := ⟨zm_272, rfl, zW_in (zch_7 _ (List.mem_of_getElem? (i := 99) rfl)) rfl, zin_272, zse_272, by decide, _, rfl, znp_272⟩
set_option maxRecDepth 100000 in
theorem zCL_ok_28_2 : zCLp (10, 172, 156, 0, 0) := ⟨zm_156, rfl, zW_in (zch_5 _ (List.mem_of_getElem? (i := 52) rfl)) rfl, zin_156, zse_156, by decide, _, rfl, znp_156⟩
set_option maxRecDepth 100000 in
theorem zCL_ok_28_3 : zCLp (10, 175, 273, 0, 0) := ⟨zm_273, rfl, zW_in (zch_7 _ (List.mem_of_getElem? (i := 111) rfl)) rfl, zin_273, zse_273, by decide, _, rfl, znp_273⟩
set_option maxRecDepth 100000 in
theorem zCL_ok_28_4 : zCLp (10, 176, 157, 0, 0) := ⟨zm_157, rfl, zW_in (zch_5 _ (List.mem_of_getElem? (i := 56) rfl)) rfl, zin_157, zse_157, by decide, _, rfl, znp_157⟩
set_option maxRecDepth 100000 in
theorem zCL_ok_28_5 : zCLp (10, 179, 274, 0, 0) := ⟨zm_274, rfl, zW_in (zch_7 _ (List.mem_of_getElem? (i := 119) rfl)) rfl, zin_274, zse_274, by decide, _, rfl, znp_274⟩
set_option maxRecDepth 100000 in
theorem zCL_ok_28_6 : zCLp (10, 180, 158, 0, 0) := ⟨zm_158, rfl, zW_in (zch_5 _ (List.mem_of_getElem? (i := 60) rfl)) rfl, zin_158, zse_158, by decide, _, rfl, znp_158⟩
set_option maxRecDepth 100000 in
theorem zCL_ok_28_7 : zCLp (10, 183, 275, 0, 0) := ⟨zm_275, rfl, zW_in (zch_7 _ (List.mem_of_getElem? (i := 124) rfl)) rfl, zin_275, zse_275, by decide, _, rfl, znp_275⟩
set_option maxRecDepth 100000 in
theorem zCL_ok_28_8 : zCLp (10, 184, 159, 0, 0) := ⟨zm_159, rfl, zW_in (zch_5 _ (List.mem_of_getElem? (i := 64) rfl)) rfl, zin_159, zse_159, by decide, _, rfl, znp_159⟩
set_option maxRecDepth 100000 in
theorem zCL_ok_28_9 : zCLp (10, 187, 276, 0, 0) := ⟨zm_276, rfl, zW_in (zch_7 _ (List.mem_of_getElem? (i := 128) rfl)) rfl, zin_276, zse_276, by decide, _, rfl, znp_276⟩
set_option maxRecDepth 100000 in
theorem zCL_ok_28_10 : zCLp (10, 188, 160, 0, 0) := ⟨zm_160, rfl, zW_in (zch_5 _ (List.mem_of_getElem? (i := 68) rfl)) rfl, zin_160, zse_160, by decide, _, rfl, znp_160⟩
set_option maxRecDepth 100000 in
theorem zCL_ok_28_11 : zCLp (10, 191, 278, 0, 0) := ⟨zm_278, rfl, zW_in (zch_7 _ (List.mem_of_getElem? (i := 132) rfl)) rfl, zin_278, zse_278, by decide, _, rfl, znp_278⟩
theorem zCL_ok_28 : ∀ f ∈ [(10, 168, 155, 0, 0), (10, 171, 272, 0, 0), (10, 172, 156, 0, 0), (10, 175, 273, 0, 0), (10, 176, 157, 0, 0), (10, 179, 274, 0, 0), (10, 180, 158, 0, 0), (10, 183, 275, 0, 0), (10, 184, 159, 0, 0), (10, 187, 276, 0, 0), (10, 188, 160, 0, 0), (10, 191, 278, 0, 0)], zCLp f := List.forall_mem_cons.mpr ⟨zCL_ok_28_0, List.forall_mem_cons.mpr ⟨zCL_ok_28_1, List.forall_mem_cons.mpr ⟨zCL_ok_28_2, List.forall_mem_cons.mpr ⟨zCL_ok_28_3, List.forall_mem_cons.mpr ⟨zCL_ok_28_4, List.forall_mem_cons.mpr ⟨zCL_ok_28_5, List.forall_mem_cons.mpr ⟨zCL_ok_28_6, List.forall_mem_cons.mpr ⟨zCL_ok_28_7, List.forall_mem_cons.mpr ⟨zCL_ok_28_8, List.forall_mem_cons.mpr ⟨zCL_ok_28_9, List.forall_mem_cons.mpr ⟨zCL_ok_28_10, List.forall_mem_cons.mpr ⟨zCL_ok_28_11, fun _ h => absurd h List.not_mem_nil⟩⟩⟩⟩⟩⟩⟩⟩⟩⟩⟩⟩
set_option maxRecDepth 100000 in
theorem zCL_ok_29_0 : zCLp (10, 192, 162, 0, 0) := ⟨zm_162, rfl, zW_in (zch_5 _ (List.mem_of_getElem? (i := 76) rfl)) rfl, zin_162, zse_162, by decide, _, rfl, znp_162⟩
set_option maxRecDepth 100000 in
theorem zCL_ok_29_1 : zCLp (10, 195, 280, 0, 0) := ⟨zm_280, rfl, zW_in (zch_7 _ (List.mem_of_getElem? (i := 140) rfl)) rfl, zin_280, zse_280, by decide, _, rfl, znp_280⟩
set_option maxRecDepth 100000 in
theorem zCL_ok_29_2 : zCLp (10, 196, 164, 0, 0) := ⟨zm_164, rfl, zW_in (zch_5 _ (List.mem_of_getElem? (i := 88) rfl)) rfl, zin_164, zse_164, by decide, _, rfl, znp_164⟩
set_option maxRecDepth 100000 in
theorem zCL_ok_29_3 : zCLp (10, 199, 283, 0, 0) := ⟨zm_283, rfl, zW_in (zch_7 _ (List.mem_of_getElem? (i := 148) rfl)) rfl, zin_283, zse_283, by decide, _, rfl, znp_283⟩
set_option maxRecDepth 100000 in
theorem zCL_ok_29_4 : zCLp (10, 200, 165, 0, 0) := ⟨zm_165, rfl, zW_in (zch_5 _ (List.mem_of_getElem? (i := 97) rfl)) rfl, zin_165, zse_165, by decide, _, rfl, znp_165⟩
set_option maxRecDepth 100000 in
theorem zCL_ok_29_5 : zCLp (10, 203, 284, 0, 0) := ⟨zm_284, rfl, zW_in (zch_7 _ (List.mem_of_getElem? (i := 156) rfl)) rfl, zin_284, zse_284, by decide, _, rfl, znp_284⟩
set_option maxRecDepth 100000 in
theorem zCL_ok_29_6 : zCLp (10, 204, 166, 0, 0) := ⟨zm_166, rfl, zW_in (zch_5 _ (List.mem_of_getElem? (i := 101) rfl)) rfl, zin_166, zse_166, by decide, _, rfl, znp_166⟩
set_option maxRecDepth 100000 in
theorem zCL_ok_29_7 : zCLp (10, 207, 285, 0, 0) := ⟨zm_285, rfl, zW_in (zch_7 _ (List.mem_of_getElem? (i := 164) rfl)) rfl, zin_285, zse_285, by decide, _, rfl, znp_285⟩
theorem zCL_ok_29_8 : zCLp (10, 208, 0, 7, 1) := rfl
set_option maxRecDepth 100000 in
theorem zCL_ok_29_9 : zCLp (10, 213, 287, 0, 0) := ⟨zm_287, rfl, zW_in (zch_8 _ (List.mem_of_getElem? (i := 133) rfl)) rfl, zin_287, zse_287, by decide, _, rfl, znp_287⟩
set_option maxRecDepth 100000 in
theorem zCL_ok_29_10 : zCLp (10, 214, 170, 0, 0) := ⟨zm_170, rfl, zW_in (zch_5 _ (List.mem_of_getElem? (i := 174) rfl)) rfl, zin_170, zse_170, by decide, _, rfl, znp_170⟩
theorem zCL_ok_29 : ∀ f ∈ [(10, 192, 162, 0, 0), (10, 195, 280, 0, 0), (10, 196, 164, 0, 0), (10, 199, 283, 0, 0), (10, 200, 165, 0, 0), (10, 203, 284, 0, 0), (10, 204, 166, 0, 0), (10, 207, 285, 0, 0), (10, 208, 0, 7, 1), (10, 213, 287, 0, 0), (10, 214, 170, 0, 0)], zCLp f := List.forall_mem_cons.mpr ⟨zCL_ok_29_0, List.forall_mem_cons.mpr ⟨zCL_ok_29_1, List.forall_mem_cons.mpr ⟨zCL_ok_29_2, List.forall_mem_cons.mpr ⟨zCL_ok_29_3, List.forall_mem_cons.mpr ⟨zCL_ok_29_4, List.forall_mem_cons.mpr ⟨zCL_ok_29_5, List.forall_mem_cons.mpr ⟨zCL_ok_29_6, List.forall_mem_cons.mpr ⟨zCL_ok_29_7, List.forall_mem_cons.mpr ⟨zCL_ok_29_8, List.forall_mem_cons.mpr ⟨zCL_ok_29_9, List.forall_mem_cons.mpr ⟨zCL_ok_29_10, fun _ h => absurd h List.not_mem_nil⟩⟩⟩⟩⟩⟩⟩⟩⟩⟩⟩
set_option maxRecDepth 100000 in
theorem zCL_ok : ∀ f ∈ zCL, zCLp f := by
  show ∀ f ∈ [(0, 3, 0, 5, 2), (0, 55, 2, 0, 0), (0, 64, 94, 0, 0), (0, 71, 95, 0, 0), (0, 75, 16, 0, 0), (0, 79, 92, 0, 0), (0, 83, 80, 0, 0), (0, 86, 8, 1, 0), (0, 92, 290, 1, 1), (0, 98, 9, 0, 0), (0, 101, 4, 0, 0), (0, 105, 6, 0, 0)] ++ ([(0, 108, 7, 0, 0), (0, 111, 0, 8, 1), (0, 117, 288, 0, 1), (0, 98, 9, 2, 0), (0, 125, 11, 1, 0), (0, 129, 12, 0, 0), (0, 133, 0, 6, 1), (0, 125, 11, 3, 0), (1, 3, 0, 5, 2), (2, 3, 0, 5, 2), (2, 21, 290, 1, 1), (2, 31, 0, 6, 1)] ++ ([(3, 1, 0, 5, 2), (3, 18, 289, 0, 1), (4, 3, 0, 5, 2), (4, 30, 26, 4, 3), (4, 81, 41, 1, 0), (4, 85, 44, 0, 0), (4, 89, 45, 0, 0), (4, 92, 46, 0, 0), (4, 95, 27, 1, 0), (4, 103, 29, 1, 0), (4, 107, 0, 6, 1), (4, 81, 41, 3, 0)] ++ ([(4, 113, 0, 9, 1), (4, 119, 0, 8, 1), (4, 122, 39, 0, 0), (4, 125, 42, 0, 1), (4, 128, 43, 0, 1), (4, 131, 47, 0, 0), (4, 134, 23, 0, 0), (4, 138, 24, 0, 0), (4, 142, 95, 0, 0), (4, 147, 36, 0, 0), (4, 151, 49, 1, 0), (4, 154, 31, 0, 0)] ++ ([(4, 157, 32, 0, 0), (4, 161, 30, 1, 0), (4, 164, 54, 0, 0), (4, 170, 28, 1, 0), (4, 174, 34, 1, 0), (4, 177, 33, 1, 0), (4, 180, 55, 1, 0), (4, 183, 35, 1, 0), (4, 191, 57, 1, 0), (4, 194, 80, 0, 0), (4, 197, 48, 0, 0), (4, 200, 51, 0, 0)] ++ ([(4, 203, 60, 0, 0), (4, 206, 59, 0, 0), (4, 216, 62, 1, 0), (4, 219, 63, 0, 0), (4, 225, 64, 1, 0), (4, 229, 92, 0, 0), (4, 233, 93, 0, 0), (4, 236, 67, 0, 0), (4, 239, 65, 0, 0), (4, 225, 64, 3, 0), (4, 242, 66, 0, 0), (5, 3, 0, 5, 2)] ++ ([(5, 11, 17, 4, 3), (5, 22, 18, 1, 0), (5, 29, 0, 9, 1), (5, 38, 70, 0, 0), (5, 42, 75, 0, 0), (5, 46, 71, 0, 0), (5, 49, 72, 0, 0), (5, 52, 73, 0, 0), (5, 55, 74, 0, 0), (5, 58, 76, 0, 0), (5, 65, 20, 1, 0), (5, 69, 21, 1, 0)] ++ ([(5, 73, 77, 0, 0), (5, 76, 22, 1, 0), (6, 3, 0, 5, 2), (6, 37, 290, 1, 1), (6, 43, 0, 6, 1), (6, 52, 81, 0, 0), (6, 56, 80, 0, 0), (6, 59, 83, 0, 1), (6, 63, 85, 1, 0), (6, 75, 14, 0, 0), (6, 79, 87, 0, 0), (6, 83, 89, 1, 0)] ++ ([(6, 87, 90, 1, 0), (7, 3, 0, 5, 2), (7, 23, 25, 0, 0), (7, 35, 0, 9, 1), (7, 41, 23, 0, 0), (7, 49, 0, 8, 1), (7, 52, 80, 0, 0), (7, 55, 81, 0, 0), (7, 58, 24, 0, 0), (7, 61, 94, 0, 0), (7, 64, 82, 0, 0), (7, 67, 87, 0, 0)] ++ ([(7, 71, 14, 0, 0), (7, 76, 92, 0, 0), (7, 80, 95, 0, 0), (7, 82, 96, 0, 0), (7, 88, 97, 0, 0), (7, 92, 16, 0, 0), (7, 96, 93, 0, 0), (8, 1, 0, 5, 2), (8, 9, 13, 4, 3), (8, 18, 17, 4, 3), (8, 25, 78, 4, 2), (8, 40, 68, 4, 2)] ++ ([(8, 49, 91, 4, 2), (8, 58, 0, 4, 2), (8, 67, 37, 4, 2), (8, 109, 69, 0, 0), (8, 116, 19, 1, 0), (8, 120, 14, 0, 0), (8, 127, 15, 0, 0), (8, 133, 92, 0, 0), (8, 137, 93, 0, 0), (8, 141, 81, 0, 0), (8, 145, 80, 0, 0), (8, 148, 85, 1, 0)] ++ ([(8, 152, 86, 1, 0), (8, 155, 0, 9, 1), (8, 160, 115, 0, 0), (8, 163, 116, 0, 0), (8, 167, 167, 1, 0), (8, 170, 99, 0, 0), (8, 173, 168, 1, 0), (8, 177, 97, 0, 0), (8, 181, 98, 0, 0), (8, 185, 88, 1, 0), (8, 189, 121, 0, 0), (8, 192, 290, 1, 1)] ++ ([(8, 198, 96, 0, 0), (8, 211, 1, 1, 0), (8, 214, 5, 0, 0), (8, 220, 169, 1, 0), (8, 223, 126, 0, 0), (8, 226, 3, 1, 0), (8, 229, 129, 0, 0), (8, 232, 4, 0, 0), (8, 235, 103, 0, 0), (8, 238, 288, 0, 1), (8, 243, 132, 0, 0), (8, 246, 100, 0, 0)] ++ ([(8, 250, 101, 0, 0), (8, 253, 102, 0, 0), (8, 256, 23, 0, 0), (8, 262, 0, 8, 1), (8, 265, 139, 0, 0), (8, 268, 142, 0, 0), (8, 271, 141, 1, 0), (8, 274, 82, 0, 0), (8, 277, 38, 0, 0), (8, 281, 40, 1, 0), (8, 284, 48, 0, 0), (8, 287, 49, 1, 0)] ++ ([(8, 290, 50, 0, 0), (8, 293, 51, 0, 0), (8, 296, 52, 0, 0), (8, 302, 53, 0, 0), (8, 305, 149, 1, 0), (8, 308, 56, 0, 0), (8, 311, 58, 0, 0), (8, 314, 147, 1, 0), (8, 320, 61, 0, 0), (8, 326, 39, 0, 0), (8, 329, 10, 0, 0), (8, 332, 152, 1, 0)] ++ ([(8, 335, 153, 0, 0), (8, 338, 154, 0, 1), (8, 341, 161, 0, 0), (8, 344, 163, 0, 0), (8, 347, 84, 0, 0), (8, 350, 79, 1, 0), (9, 16, 171, 0, 1), (9, 71, 173, 0, 1), (9, 79, 182, 0, 0), (9, 83, 183, 0, 0), (9, 87, 181, 0, 0), (9, 91, 184, 0, 0)] ++ ([(9, 107, 185, 0, 0), (9, 122, 0, 9, 1), (9, 128, 186, 0, 0), (9, 161, 188, 0, 0), (9, 164, 172, 0, 1), (9, 171, 189, 0, 0), (9, 174, 192, 0, 0), (9, 177, 190, 0, 0), (9, 181, 191, 0, 0), (9, 184, 195, 0, 0), (9, 187, 194, 0, 0), (9, 191, 193, 0, 0)] ++ ([(9, 194, 196, 0, 0), (9, 197, 197, 0, 0), (9, 200, 199, 0, 0), (9, 203, 177, 0, 0), (9, 209, 178, 0, 0), (9, 212, 204, 0, 0), (9, 217, 207, 1, 0), (9, 221, 206, 0, 0), (9, 224, 200, 0, 0), (9, 227, 174, 1, 0), (9, 231, 198, 0, 0), (9, 240, 210, 1, 0)] ++ ([(9, 244, 211, 1, 0), (9, 254, 218, 0, 0), (9, 260, 217, 0, 0), (9, 269, 0, 8, 1), (9, 272, 220, 1, 0), (9, 275, 219, 1, 0), (9, 281, 221, 0, 0), (9, 284, 222, 1, 0), (9, 287, 224, 0, 0), (9, 290, 227, 0, 0), (9, 293, 288, 0, 1), (9, 301, 232, 0, 0)] ++ ([(9, 304, 234, 0, 0), (9, 308, 233, 0, 0), (9, 313, 235, 1, 0), (9, 316, 239, 1, 0), (9, 319, 240, 0, 0), (9, 331, 245, 3, 0), (9, 331, 245, 1, 0), (9, 333, 247, 0, 1), (9, 337, 246, 1, 0), (9, 343, 248, 0, 0), (9, 347, 249, 1, 0), (9, 353, 244, 0, 0)] ++ ([(9, 356, 250, 0, 0), (9, 365, 252, 1, 0), (9, 368, 253, 0, 0), (9, 371, 254, 1, 0), (9, 380, 258, 0, 0), (9, 383, 257, 0, 0), (9, 386, 259, 1, 0), (9, 401, 261, 3, 0), (9, 401, 261, 1, 0), (9, 408, 263, 0, 0), (9, 411, 264, 3, 0), (9, 411, 264, 1, 0)] ++ ([(9, 415, 266, 0, 1), (9, 420, 267, 0, 0), (9, 426, 270, 1, 0), (9, 429, 269, 1, 0), (9, 432, 271, 0, 0), (9, 437, 277, 0, 0), (9, 440, 279, 0, 0), (9, 458, 281, 1, 0), (9, 462, 282, 1, 0), (9, 465, 0, 5, 2), (10, 15, 104, 4, 2), (10, 18, 286, 4, 2)] ++ ([(10, 19, 105, 0, 0), (10, 23, 175, 0, 0), (10, 24, 106, 0, 0), (10, 28, 176, 0, 0), (10, 29, 107, 0, 0), (10, 32, 179, 0, 0), (10, 33, 108, 0, 0), (10, 37, 180, 0, 0), (10, 38, 109, 0, 0), (10, 42, 187, 0, 0), (10, 43, 110, 0, 0), (10, 46, 201, 0, 0)] ++ ([(10, 47, 111, 0, 0), (10, 50, 202, 0, 0), (10, 51, 112, 0, 0), (10, 54, 203, 0, 0), (10, 55, 113, 0, 0), (10, 58, 205, 0, 0), (10, 59, 114, 0, 0), (10, 63, 208, 0, 0), (10, 64, 117, 0, 0), (10, 67, 209, 0, 0), (10, 68, 118, 0, 0), (10, 71, 212, 0, 0)] ++ ([(10, 72, 119, 0, 0), (10, 75, 213, 0, 0), (10, 76, 120, 0, 0), (10, 79, 214, 0, 0), (10, 80, 122, 0, 0), (10, 83, 215, 0, 0), (10, 84, 123, 0, 0), (10, 87, 216, 0, 0), (10, 88, 124, 0, 0), (10, 91, 223, 0, 0), (10, 92, 125, 0, 0), (10, 95, 225, 0, 0)] ++ ([(10, 96, 127, 0, 0), (10, 99, 226, 0, 0), (10, 100, 128, 0, 0), (10, 103, 228, 0, 0), (10, 104, 130, 0, 0), (10, 107, 229, 0, 0), (10, 108, 131, 0, 0), (10, 111, 230, 0, 0), (10, 112, 133, 0, 0), (10, 115, 231, 0, 0), (10, 116, 134, 0, 0), (10, 119, 236, 0, 0)] ++ ([(10, 120, 135, 0, 0), (10, 123, 237, 0, 0), (10, 124, 136, 0, 0), (10, 127, 238, 0, 0), (10, 128, 137, 0, 0), (10, 131, 241, 0, 0), (10, 132, 138, 0, 0), (10, 135, 242, 0, 0), (10, 136, 140, 0, 0), (10, 139, 243, 0, 0), (10, 140, 143, 0, 0), (10, 143, 251, 0, 0)] ++ ([(10, 144, 144, 0, 0), (10, 147, 255, 0, 0), (10, 148, 145, 0, 0), (10, 151, 256, 0, 0), (10, 152, 146, 0, 0), (10, 155, 260, 0, 0), (10, 156, 148, 0, 0), (10, 159, 262, 0, 0), (10, 160, 150, 0, 0), (10, 163, 265, 0, 0), (10, 164, 151, 0, 0), (10, 167, 268, 0, 0)] ++ ([(10, 168, 155, 0, 0), (10, 171, 272, 0, 0), (10, 172, 156, 0, 0), (10, 175, 273, 0, 0), (10, 176, 157, 0, 0), (10, 179, 274, 0, 0), (10, 180, 158, 0, 0), (10, 183, 275, 0, 0), (10, 184, 159, 0, 0), (10, 187, 276, 0, 0), (10, 188, 160, 0, 0), (10, 191, 278, 0, 0)] ++ ([(10, 192, 162, 0, 0), (10, 195, 280, 0, 0), (10, 196, 164, 0, 0), (10, 199, 283, 0, 0), (10, 200, 165, 0, 0), (10, 203, 284, 0, 0), (10, 204, 166, 0, 0), (10, 207, 285, 0, 0), (10, 208, 0, 7, 1), (10, 213, 287, 0, 0), (10, 214, 170, 0, 0)]))))))))))))))))))))))))))))), zCLp f
  exact List.forall_mem_append.mpr ⟨zCL_ok_0, List.forall_mem_append.mpr ⟨zCL_ok_1, List.forall_mem_append.mpr ⟨zCL_ok_2, List.forall_mem_append.mpr ⟨zCL_ok_3, List.forall_mem_append.mpr ⟨zCL_ok_4, List.forall_mem_append.mpr ⟨zCL_ok_5, List.forall_mem_append.mpr ⟨zCL_ok_6, List.forall_mem_append.mpr ⟨zCL_ok_7, List.forall_mem_append.mpr ⟨zCL_ok_8, List.forall_mem_append.mpr ⟨zCL_ok_9, List.forall_mem_append.mpr ⟨zCL_ok_10, List.forall_mem_append.mpr ⟨zCL_ok_11, List.forall_mem_append.mpr ⟨zCL_ok_12, List.forall_mem_append.mpr ⟨zCL_ok_13, List.forall_mem_append.mpr ⟨zCL_ok_14, List.forall_mem_append.mpr ⟨zCL_ok_15, List.forall_mem_append.mpr ⟨zCL_ok_16, List.forall_mem_append.mpr ⟨zCL_ok_17, List.forall_mem_append.mpr ⟨zCL_ok_18, List.forall_mem_append.mpr ⟨zCL_ok_19, List.forall_mem_append.mpr ⟨zCL_ok_20, List.forall_mem_append.mpr ⟨zCL_ok_21, List.forall_mem_append.mpr ⟨zCL_ok_22, List.forall_mem_append.mpr ⟨zCL_ok_23, List.forall_mem_append.mpr ⟨zCL_ok_24, List.forall_mem_append.mpr ⟨zCL_ok_25, List.forall_mem_append.mpr ⟨zCL_ok_26, List.forall_mem_append.mpr ⟨zCL_ok_27, List.forall_mem_append.mpr ⟨zCL_ok_28, zCL_ok_29⟩⟩⟩⟩⟩⟩⟩⟩⟩⟩⟩⟩⟩⟩⟩⟩⟩⟩⟩⟩⟩⟩⟩⟩⟩⟩⟩⟩⟩
def zNWp (f : Nat × Nat × Nat) : Prop := match f.2.2 with
  | 23 => Cond.classLink (zC f.1) f.2.1 RX3 ∈ zW
  | 24 => Cond.classLink (zC f.1) f.2.1 RX6 ∈ zW
  | ci => Cond.classLink (zC f.1) f.2.1 (zC ci) ∈ zW ∧ Cond.instantiable (zC ci) (zsz ci) ∈ zW ∧ Cond.initialized (zC ci) ∈ zW
def zCOp (f : Nat × Nat × Int32) : Prop := Cond.constant (zC f.1) f.2.1 f.2.2 ∈ zW
def zCOLp (f : Nat × Nat × Int64) : Prop := Cond.constantLong (zC f.1) f.2.1 f.2.2 ∈ zW
set_option maxRecDepth 100000 in
theorem zNW_ok_0_0 : zNWp (4, 24, 23) := zW_in (zch_2 _ (List.mem_of_getElem? (i := 0) rfl)) rfl
set_option maxRecDepth 100000 in
theorem zNW_ok_0_1 : zNWp (4, 24, 3) := ⟨zW_in (zch_2 _ (List.mem_of_getElem? (i := 0) rfl)) rfl, zW_in (zch_2 _ (List.mem_of_getElem? (i := 2) rfl)) rfl, zW_in (zch_1 _ (List.mem_of_getElem? (i := 10) rfl)) rfl⟩
set_option maxRecDepth 100000 in
theorem zNW_ok_0_2 : zNWp (5, 9, 2) := ⟨zW_in (zch_1 _ (List.mem_of_getElem? (i := 157) rfl)) rfl, zW_in (zch_1 _ (List.mem_of_getElem? (i := 79) rfl)) rfl, zW_in (zch_1 _ (List.mem_of_getElem? (i := 3) rfl)) rfl⟩
set_option maxRecDepth 100000 in
theorem zNW_ok_0_3 : zNWp (8, 7, 1) := ⟨zW_in (zch_1 _ (List.mem_of_getElem? (i := 28) rfl)) rfl, zW_in (zch_1 _ (List.mem_of_getElem? (i := 29) rfl)) rfl, zW_in (zch_1 _ (List.mem_of_getElem? (i := 2) rfl)) rfl⟩
set_option maxRecDepth 100000 in
theorem zNW_ok_0_4 : zNWp (8, 16, 2) := ⟨zW_in (zch_1 _ (List.mem_of_getElem? (i := 78) rfl)) rfl, zW_in (zch_1 _ (List.mem_of_getElem? (i := 79) rfl)) rfl, zW_in (zch_1 _ (List.mem_of_getElem? (i := 3) rfl)) rfl⟩
set_option maxRecDepth 100000 in
theorem zNW_ok_0_5 : zNWp (8, 23, 6) := ⟨zW_in (zch_1 _ (List.mem_of_getElem? (i := 101) rfl)) rfl, zW_in (zch_1 _ (List.mem_of_getElem? (i := 102) rfl)) rfl, zW_in (zch_1 _ (List.mem_of_getElem? (i := 4) rfl)) rfl⟩
set_option maxRecDepth 100000 in
theorem zNW_ok_0_6 : zNWp (8, 23, 24) := zW_in (zch_1 _ (List.mem_of_getElem? (i := 101) rfl)) rfl
set_option maxRecDepth 100000 in
theorem zNW_ok_0_7 : zNWp (8, 38, 5) := ⟨zW_in (zch_1 _ (List.mem_of_getElem? (i := 151) rfl)) rfl, zW_in (zch_1 _ (List.mem_of_getElem? (i := 152) rfl)) rfl, zW_in (zch_1 _ (List.mem_of_getElem? (i := 6) rfl)) rfl⟩
set_option maxRecDepth 100000 in
theorem zNW_ok_0_8 : zNWp (8, 47, 7) := ⟨zW_in (zch_1 _ (List.mem_of_getElem? (i := 173) rfl)) rfl, zW_in (zch_1 _ (List.mem_of_getElem? (i := 174) rfl)) rfl, zW_in (zch_1 _ (List.mem_of_getElem? (i := 7) rfl)) rfl⟩
set_option maxRecDepth 100000 in
theorem zNW_ok_0_9 : zNWp (8, 56, 0) := ⟨zW_in (zch_1 _ (List.mem_of_getElem? (i := 189) rfl)) rfl, zW_in (zch_1 _ (List.mem_of_getElem? (i := 190) rfl)) rfl, zW_in (zch_1 _ (List.mem_of_getElem? (i := 8) rfl)) rfl⟩
set_option maxRecDepth 100000 in
theorem zNW_ok_0_10 : zNWp (8, 65, 4) := ⟨zW_in (zch_1 _ (List.mem_of_getElem? (i := 234) rfl)) rfl, zW_in (zch_1 _ (List.mem_of_getElem? (i := 235) rfl)) rfl, zW_in (zch_1 _ (List.mem_of_getElem? (i := 9) rfl)) rfl⟩
set_option maxRecDepth 100000 in
theorem zNW_ok_0_11 : zNWp (10, 8, 8) := ⟨zW_in (zch_1 _ (List.mem_of_getElem? (i := 20) rfl)) rfl, zW_in (zch_1 _ (List.mem_of_getElem? (i := 21) rfl)) rfl, zW_in (zch_1 _ (List.mem_of_getElem? (i := 1) rfl)) rfl⟩
theorem zNW_ok_0 : ∀ f ∈ [(4, 24, 23), (4, 24, 3), (5, 9, 2), (8, 7, 1), (8, 16, 2), (8, 23, 6), (8, 23, 24), (8, 38, 5), (8, 47, 7), (8, 56, 0), (8, 65, 4), (10, 8, 8)], zNWp f := List.forall_mem_cons.mpr ⟨zNW_ok_0_0, List.forall_mem_cons.mpr ⟨zNW_ok_0_1, List.forall_mem_cons.mpr ⟨zNW_ok_0_2, List.forall_mem_cons.mpr ⟨zNW_ok_0_3, List.forall_mem_cons.mpr ⟨zNW_ok_0_4, List.forall_mem_cons.mpr ⟨zNW_ok_0_5, List.forall_mem_cons.mpr ⟨zNW_ok_0_6, List.forall_mem_cons.mpr ⟨zNW_ok_0_7, List.forall_mem_cons.mpr ⟨zNW_ok_0_8, List.forall_mem_cons.mpr ⟨zNW_ok_0_9, List.forall_mem_cons.mpr ⟨zNW_ok_0_10, List.forall_mem_cons.mpr ⟨zNW_ok_0_11, fun _ h => absurd h List.not_mem_nil⟩⟩⟩⟩⟩⟩⟩⟩⟩⟩⟩⟩
set_option maxRecDepth 100000 in
theorem zNW_ok_1_0 : zNWp (10, 16, 9) := ⟨zW_in (zch_7 _ (List.mem_of_getElem? (i := 168) rfl)) rfl, zW_in (zch_5 _ (List.mem_of_getElem? (i := 210) rfl)) rfl, zW_in (zch_1 _ (List.mem_of_getElem? (i := 11) rfl)) rfl⟩
theorem zNW_ok_1 : ∀ f ∈ [(10, 16, 9)], zNWp f := List.forall_mem_cons.mpr ⟨zNW_ok_1_0, fun _ h => absurd h List.not_mem_nil⟩
set_option maxRecDepth 100000 in
theorem zNW_ok : ∀ f ∈ zNW, zNWp f := by
  show ∀ f ∈ [(4, 24, 23), (4, 24, 3), (5, 9, 2), (8, 7, 1), (8, 16, 2), (8, 23, 6), (8, 23, 24), (8, 38, 5), (8, 47, 7), (8, 56, 0), (8, 65, 4), (10, 8, 8)] ++ ([(10, 16, 9)]), zNWp f
  exact List.forall_mem_append.mpr ⟨zNW_ok_0, zNW_ok_1⟩
set_option maxRecDepth 100000 in
theorem zCO_ok_0_0 : zCOp (0, 27, 112640) := zW_in (zch_1 _ (List.mem_of_getElem? (i := 195) rfl)) rfl
set_option maxRecDepth 100000 in
theorem zCO_ok_0_1 : zCOp (0, 70, (-1000000)) := zW_in (zch_3 _ (List.mem_of_getElem? (i := 150) rfl)) rfl
set_option maxRecDepth 100000 in
theorem zCO_ok_0_2 : zCOp (0, 116, 262143) := zW_in (zch_3 _ (List.mem_of_getElem? (i := 172) rfl)) rfl
set_option maxRecDepth 100000 in
theorem zCO_ok_0_3 : zCOp (11, 265, 1431655765) := zW_in (zch_3 _ (List.mem_of_getElem? (i := 176) rfl)) rfl
set_option maxRecDepth 100000 in
theorem zCO_ok_0_4 : zCOp (11, 266, 858993459) := zW_in (zch_3 _ (List.mem_of_getElem? (i := 177) rfl)) rfl
set_option maxRecDepth 100000 in
theorem zCO_ok_0_5 : zCOp (11, 267, 252645135) := zW_in (zch_3 _ (List.mem_of_getElem? (i := 178) rfl)) rfl
set_option maxRecDepth 100000 in
theorem zCO_ok_0_6 : zCOp (9, 470, 123904) := zW_in (zch_7 _ (List.mem_of_getElem? (i := 173) rfl)) rfl
theorem zCO_ok_0 : ∀ f ∈ [(0, 27, 112640), (0, 70, (-1000000)), (0, 116, 262143), (11, 265, 1431655765), (11, 266, 858993459), (11, 267, 252645135), (9, 470, 123904)], zCOp f := List.forall_mem_cons.mpr ⟨zCO_ok_0_0, List.forall_mem_cons.mpr ⟨zCO_ok_0_1, List.forall_mem_cons.mpr ⟨zCO_ok_0_2, List.forall_mem_cons.mpr ⟨zCO_ok_0_3, List.forall_mem_cons.mpr ⟨zCO_ok_0_4, List.forall_mem_cons.mpr ⟨zCO_ok_0_5, List.forall_mem_cons.mpr ⟨zCO_ok_0_6, fun _ h => absurd h List.not_mem_nil⟩⟩⟩⟩⟩⟩⟩
set_option maxRecDepth 100000 in
theorem zCO_ok : ∀ f ∈ zCO, zCOp f := by
  show ∀ f ∈ [(0, 27, 112640), (0, 70, (-1000000)), (0, 116, 262143), (11, 265, 1431655765), (11, 266, 858993459), (11, 267, 252645135), (9, 470, 123904)], zCOp f
  exact zCO_ok_0
set_option maxRecDepth 100000 in
theorem zCOL_ok_0_0 : zCOLp (12, 314, 6148914691236517205) := zW_in (zch_4 _ (List.mem_of_getElem? (i := 125) rfl)) rfl
set_option maxRecDepth 100000 in
theorem zCOL_ok_0_1 : zCOLp (12, 316, 3689348814741910323) := zW_in (zch_4 _ (List.mem_of_getElem? (i := 126) rfl)) rfl
set_option maxRecDepth 100000 in
theorem zCOL_ok_0_2 : zCOLp (12, 318, 1085102592571150095) := zW_in (zch_4 _ (List.mem_of_getElem? (i := 127) rfl)) rfl
set_option maxRecDepth 100000 in
theorem zCOL_ok_0_3 : zCOLp (3, 16, (-1)) := zW_in (zch_4 _ (List.mem_of_getElem? (i := 145) rfl)) rfl
set_option maxRecDepth 100000 in
theorem zCOL_ok_0_4 : zCOLp (9, 14, 63) := zW_in (zch_5 _ (List.mem_of_getElem? (i := 182) rfl)) rfl
set_option maxRecDepth 100000 in
theorem zCOL_ok_0_5 : zCOLp (9, 20, 9) := zW_in (zch_5 _ (List.mem_of_getElem? (i := 186) rfl)) rfl
set_option maxRecDepth 100000 in
theorem zCOL_ok_0_6 : zCOLp (9, 31, (-1)) := zW_in (zch_5 _ (List.mem_of_getElem? (i := 191) rfl)) rfl
set_option maxRecDepth 100000 in
theorem zCOL_ok_0_7 : zCOLp (9, 33, 5) := zW_in (zch_5 _ (List.mem_of_getElem? (i := 192) rfl)) rfl
set_option maxRecDepth 100000 in
theorem zCOL_ok_0_8 : zCOLp (9, 35, 10) := zW_in (zch_5 _ (List.mem_of_getElem? (i := 193) rfl)) rfl
set_option maxRecDepth 100000 in
theorem zCOL_ok_0_9 : zCOLp (9, 75, 48) := zW_in (zch_5 _ (List.mem_of_getElem? (i := 231) rfl)) rfl
set_option maxRecDepth 100000 in
theorem zCOL_ok_0_10 : zCOLp (9, 77, 57) := zW_in (zch_5 _ (List.mem_of_getElem? (i := 232) rfl)) rfl
set_option maxRecDepth 100000 in
theorem zCOL_ok_0_11 : zCOLp (9, 215, 3) := zW_in (zch_6 _ (List.mem_of_getElem? (i := 64) rfl)) rfl
theorem zCOL_ok_0 : ∀ f ∈ [(12, 314, 6148914691236517205), (12, 316, 3689348814741910323), (12, 318, 1085102592571150095), (3, 16, (-1)), (9, 14, 63), (9, 20, 9), (9, 31, (-1)), (9, 33, 5), (9, 35, 10), (9, 75, 48), (9, 77, 57), (9, 215, 3)], zCOLp f := List.forall_mem_cons.mpr ⟨zCOL_ok_0_0, List.forall_mem_cons.mpr ⟨zCOL_ok_0_1, List.forall_mem_cons.mpr ⟨zCOL_ok_0_2, List.forall_mem_cons.mpr ⟨zCOL_ok_0_3, List.forall_mem_cons.mpr ⟨zCOL_ok_0_4, List.forall_mem_cons.mpr ⟨zCOL_ok_0_5, List.forall_mem_cons.mpr ⟨zCOL_ok_0_6, List.forall_mem_cons.mpr ⟨zCOL_ok_0_7, List.forall_mem_cons.mpr ⟨zCOL_ok_0_8, List.forall_mem_cons.mpr ⟨zCOL_ok_0_9, List.forall_mem_cons.mpr ⟨zCOL_ok_0_10, List.forall_mem_cons.mpr ⟨zCOL_ok_0_11, fun _ h => absurd h List.not_mem_nil⟩⟩⟩⟩⟩⟩⟩⟩⟩⟩⟩⟩
set_option maxRecDepth 100000 in
theorem zCOL_ok_1_0 : zCOLp (9, 311, 5000) := zW_in (zch_6 _ (List.mem_of_getElem? (i := 195) rfl)) rfl
set_option maxRecDepth 100000 in
theorem zCOL_ok_1_1 : zCOLp (9, 418, 60) := zW_in (zch_7 _ (List.mem_of_getElem? (i := 91) rfl)) rfl
set_option maxRecDepth 100000 in
theorem zCOL_ok_1_2 : zCOLp (9, 435, 2) := zW_in (zch_7 _ (List.mem_of_getElem? (i := 123) rfl)) rfl
theorem zCOL_ok_1 : ∀ f ∈ [(9, 311, 5000), (9, 418, 60), (9, 435, 2)], zCOLp f := List.forall_mem_cons.mpr ⟨zCOL_ok_1_0, List.forall_mem_cons.mpr ⟨zCOL_ok_1_1, List.forall_mem_cons.mpr ⟨zCOL_ok_1_2, fun _ h => absurd h List.not_mem_nil⟩⟩⟩
set_option maxRecDepth 100000 in
theorem zCOL_ok : ∀ f ∈ zCOL, zCOLp f := by
  show ∀ f ∈ [(12, 314, 6148914691236517205), (12, 316, 3689348814741910323), (12, 318, 1085102592571150095), (3, 16, (-1)), (9, 14, 63), (9, 20, 9), (9, 31, (-1)), (9, 33, 5), (9, 35, 10), (9, 75, 48), (9, 77, 57), (9, 215, 3)] ++ ([(9, 311, 5000), (9, 418, 60), (9, 435, 2)]), zCOLp f
  exact List.forall_mem_append.mpr ⟨zCOL_ok_0, zCOL_ok_1⟩
set_option maxRecDepth 100000 in
theorem zar_I : Cond.arrayClass .int ∈ zW := zW_in (zch_1 _ (List.mem_of_getElem? (i := 76) rfl)) rfl
set_option maxRecDepth 100000 in
theorem zar_Z : Cond.arrayClass .boolean ∈ zW := zW_in (zch_1 _ (List.mem_of_getElem? (i := 77) rfl)) rfl
set_option maxRecDepth 100000 in
theorem zar_J : Cond.arrayClass .long ∈ zW := zW_in (zch_8 _ (List.mem_of_getElem? (i := 137) rfl)) rfl
