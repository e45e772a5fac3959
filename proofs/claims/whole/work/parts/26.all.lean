/-! The whole of it: by the fuel. -/
theorem zsnd {g : zGl} {l : Launch} {prm : zPm} (hg : g.2.2.1 < zSZ g ∧ g.2.2.2.1 ≤ 2560) (hprm : zPrmOK g l prm) (hchk : ∀ k mi, zM k = some mi → zchk k mi = true) : ∀ n, zSnd g l prm n
  | 0 => fun k d mi cf r _ h => by cases h
  | n + 1 => by
    have IH := zsnd hg hprm hchk n
    intro k d mi cf r hm h hd31 p e R s m args below meth c Q hC hR1 hR2
    obtain ⟨pc, ls, st, sh, a, b⟩ := cf
    unfold zev at h
    rw [hm] at h
    have KK : ∀ d0 r', zev zM prm n k d (zarr mi d0) = some r' → zTT g p l e R s m args below meth c Q mi r' d0 := fun d0 r' hk => zTT_mk (IH k d mi _ r' hm hk hd31 p e R s m args below meth c Q hC hR1 hR2)
    have h : zS zM prm (zev zM prm n) (fun c' => zev zM prm n k d (zarr mi c')) (zdec mi d pc ls st sh a b) = some r := h
    unfold zdec at h
    cases hlk : zlk mi.2.2.1 pc with
    | none => rw [hlk] at h; exact (zS_F h).elim
    | some ent =>
      rw [hlk] at h
      have hent := List.all_eq_true.mp (show mi.2.2.1.all _ = true from hchk k mi hm) _ (zlk_mem hlk)
      obtain ⟨⟨ins, ln⟩, nx, ⟨x1, x2, x3⟩, ⟨v, w⟩, tl⟩ := ent
      unfold zchk1 at hent
      dsimp only at hent
      simp only [Bool.and_eq_true] at hent
      obtain ⟨h1, h2, h3, h4⟩ := hent
      have hd : decode mi.1.2.1 pc = .ok (ins, ln) := by
        split at h1
        · next i2 l2 e2 =>
          rw [Bool.and_eq_true] at h1
          rw [e2, of_decide_eq_true h1.1, Nat.eq_of_beq_eq_true h1.2]
        · cases h1
      have hn : nx = pc + ln := Nat.eq_of_beq_eq_true h2
      cases ins with
      | invokevirtual i =>
        obtain rfl : ln = 3 := Nat.eq_of_beq_eq_true h3
        exact zC_ok hg IH hprm hm hC hR1 hR2 hd31 (.inl ⟨rfl, rfl, rfl⟩) hd h4 hn KK h
      | invokestatic i =>
        obtain rfl : ln = 3 := Nat.eq_of_beq_eq_true h3
        exact zC_ok hg IH hprm hm hC hR1 hR2 hd31 (.inr (.inl ⟨rfl, rfl, rfl⟩)) hd h4 hn KK h
      | invokespecial i =>
        obtain rfl : ln = 3 := Nat.eq_of_beq_eq_true h3
        rcases Bool.or_eq_true _ _ |>.mp h4 with h5 | h5
        · exact zC_ok hg IH hprm hm hC hR1 hR2 hd31 (.inr (.inr ⟨rfl, .inl rfl, rfl⟩)) hd h5 hn KK h
        · exact zC_ok hg IH hprm hm hC hR1 hR2 hd31 (.inr (.inr ⟨rfl, .inr rfl, rfl⟩)) hd h5 hn KK h
      | _ => exact z1_ok hC hd hn h3 h4 KK h
