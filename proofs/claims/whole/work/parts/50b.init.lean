/-! The start. -/
set_option maxRecDepth 100000 in
theorem rel_0 (L : Nat) (xs : Nat → Int32) : Rel L xs (zA0 L xs) (fun _ _ => 0) := by
  have no : ∀ {j : Nat} {p : Prop}, j < 0 → p := fun h => absurd h (Nat.not_lt_zero _)
  have zz : ∀ (n : Nat) (q q' : Nat) (hi : Int32), (∀ j, zmask (zA0 L xs) q j = 0) → (∀ j, zmask (zA0 L xs) q' j = 0) → 0 ≤ hi → rSame n 0 hi (zmask (zA0 L xs) q) (zmask (zA0 L xs) q') := fun n q q' hi h1 h2 h3 j _ => by
    rw [h1, h2]
    exact ⟨rfl, by decide, h3⟩
  refine ⟨0, 0, 0, 0, 0, funext fun _ => rfl, ⟨⟨rfl, rfl, by decide⟩, ⟨rfl, rfl, by decide⟩, ⟨rfl, rfl, by decide⟩, ⟨rfl, rfl, by decide⟩, ⟨rfl, rfl, by decide⟩, rfl, rfl⟩, ⟨fun j h => no h, fun j h => no h, fun j h => no h, fun j h => no h, fun j h => no h⟩, ⟨fun j h => no h, zz 60 18 198 8 (fun _ => rfl) (fun _ => rfl) (by decide)⟩, ⟨fun d p h => no h, fun p h => no h, fun d p _ h => no h, fun d p p' _ h => no h, fun d p h1 h2 _ => ?_⟩,
    ⟨zz 10 14 204 (nI 0) (fun _ => rfl) (fun _ => rfl) (by decide), zz 10 15 203 89 (fun _ => rfl) (fun _ => rfl) (by decide), fun j h => no h, fun j _ h => ?_⟩, ⟨⟨rfl, ?_, ?_⟩, ⟨rfl, ?_, ?_⟩, ⟨rfl, ?_, ?_⟩, zz 10 10 207 1023 (fun _ => rfl) (fun _ => rfl) (by decide), 0, by decide, rfl, fun k h => no h, fun p d _ _ => ⟨.inl rfl, fun h => ?_, fun h => ?_⟩⟩, fun j h => no h, fun j h => no h, ⟨.inl ⟨rfl, rfl⟩, .inl ⟨rfl, rfl⟩, .inl ⟨rfl, rfl⟩⟩, ⟨0, by decide, rfl, fun j _ => ⟨?_, ?_⟩⟩, fun p _ => ⟨fun h => no h, fun _ => rfl⟩, fun w k _ _ => ⟨fun h => no h, fun _ => rfl⟩⟩
  · exact (show zmask (zA0 L xs) 13 (10 * d + p) = if (13 : Nat) = 13 ∧ 10 * d + p < 610 then -1 else 0 from rfl).trans (if_pos ⟨rfl, by omega⟩)
  · exact (show zmask (zA0 L xs) 16 j = if (16 : Nat) = 16 ∧ j < 10 then -1 else 0 from rfl).trans (if_pos ⟨rfl, h⟩)
  · show (0 : Int32) ≤ 0; decide
  · show (0 : Int32) ≤ 9; decide
  · show (0 : Int32) ≤ 0; decide
  · show (0 : Int32) ≤ 9; decide
  · show (0 : Int32) ≤ 0; decide
  · show (0 : Int32) ≤ 1023; decide
  · exact absurd (show (0 : Int32) = 1 from h) (by decide)
  · obtain ⟨k, f, t, hk, -⟩ := h
    exact no hk
  · show (0 : Int) ≤ (0 : Int32).toInt; decide
  · show (0 : Int32).toInt < 262144 * (((0 : Nat) : Int) + 1); decide
