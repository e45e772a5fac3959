/-! Each case of the law, out of what class and reference answer there. -/
def okI (v : Int32) (a : zA) (b : zB) : zR := some (some (.int v), zSH, a, b, 0, 0, 0)
theorem zcI_ok (v : Int32) (a : zA) (b : zB) (k : Int32 → zA → zB → zR) : zcI (okI v a b) k = k v a b := by
  unfold zcI okI
  simp only [eq_self, if_true]
/-- both answer alike, and what held holds again; the class leaves the script as it is -/
def zAns (Rel : zA → zB → Prop) (X M : zA → zB → zR) : Prop := ∀ a b, Rel a b → ∃ v a1 b1 a2 b2, X a b = okI v a1 b1 ∧ (∀ j, a1 0 j = a 0 j) ∧ M a1 b1 = okI v a2 b2 ∧ Rel a2 b2
theorem zI_k (i k : Nat) : nI i + nI k = nI (i + k) := nI_add i k
theorem zix {i k L : Nat} (hL : L ≤ 2560) (hi : i + 5 ≤ L) (hk : k < 5) : (nI i + nI k).toNatClampNeg = i + k ∧ zin (nI i + nI k) L = true := by
  rw [zI_k]
  exact ⟨nI_clamp (by omega), zin_nI (by omega) (by omega)⟩
theorem zlk_240 {L : Nat} (hL : L ≤ 2560) {Rel : zA → zB → Prop} (hS : ∀ a b, Rel a b → a 0 1000000 = nI L) (h : ∀ x1 x2 : Int32, zAns Rel (X_person x1 x2) (M_person x1 x2)) : zCase L Rel Z_law_240 := by
  intro n i a b hi hr hk
  obtain ⟨v, a1, b1, a2, b2, h1, h2, h3, h4⟩ := h (a 0 (i + 1)) (a 0 (i + 2)) a b hr
  have cL : (a 0 1000000).toNatClampNeg = L := by rw [hS a b hr]; exact nI_clamp (by omega)
  have c1 : (nI i + 1).toNatClampNeg = i + 1 := (zix hL hi (k := 1) (by omega)).1
  have z1 : zin (nI i + 1) L = true := (zix hL hi (k := 1) (by omega)).2
  have c2 : (nI i + 2).toNatClampNeg = i + 2 := (zix hL hi (k := 2) (by omega)).1
  have z2 : zin (nI i + 2) L = true := (zix hL hi (k := 2) (by omega)).2
  rw [q_Z_law_240]
  simp only [cL, c1, z1, c2, z2, cond_true, h1, zcI_ok, h2, h3, eq_self, decide_true]
  exact zOK_mono (Nat.le_succ n) (hk a2 b2 h4)
theorem zlk_354 {L : Nat} (hL : L ≤ 2560) {Rel : zA → zB → Prop} (hS : ∀ a b, Rel a b → a 0 1000000 = nI L) (h : ∀ x1 : Int32, zAns Rel (X_sign x1) (M_sign x1)) : zCase L Rel Z_law_354 := by
  intro n i a b hi hr hk
  obtain ⟨v, a1, b1, a2, b2, h1, h2, h3, h4⟩ := h (a 0 (i + 1)) a b hr
  have cL : (a 0 1000000).toNatClampNeg = L := by rw [hS a b hr]; exact nI_clamp (by omega)
  have c1 : (nI i + 1).toNatClampNeg = i + 1 := (zix hL hi (k := 1) (by omega)).1
  have z1 : zin (nI i + 1) L = true := (zix hL hi (k := 1) (by omega)).2
  rw [q_Z_law_354]
  simp only [cL, c1, z1, cond_true, h1, zcI_ok, h2, h3, eq_self, decide_true]
  exact zOK_mono (Nat.le_succ n) (hk a2 b2 h4)
theorem zlk_379 {L : Nat} (hL : L ≤ 2560) {Rel : zA → zB → Prop} (hS : ∀ a b, Rel a b → a 0 1000000 = nI L) (h : ∀ x1 : Int32, zAns Rel (X_end x1) (M_end x1)) : zCase L Rel Z_law_379 := by
  intro n i a b hi hr hk
  obtain ⟨v, a1, b1, a2, b2, h1, h2, h3, h4⟩ := h (a 0 (i + 1)) a b hr
  have cL : (a 0 1000000).toNatClampNeg = L := by rw [hS a b hr]; exact nI_clamp (by omega)
  have c1 : (nI i + 1).toNatClampNeg = i + 1 := (zix hL hi (k := 1) (by omega)).1
  have z1 : zin (nI i + 1) L = true := (zix hL hi (k := 1) (by omega)).2
  rw [q_Z_law_379]
  simp only [cL, c1, z1, cond_true, h1, zcI_ok, h2, h3, eq_self, decide_true]
  exact zOK_mono (Nat.le_succ n) (hk a2 b2 h4)
theorem zlk_404 {L : Nat} (hL : L ≤ 2560) {Rel : zA → zB → Prop} (hS : ∀ a b, Rel a b → a 0 1000000 = nI L) (h : zAns Rel (X_rule) (M_rule)) : zCase L Rel Z_law_404 := by
  intro n i a b hi hr hk
  obtain ⟨v, a1, b1, a2, b2, h1, h2, h3, h4⟩ := h a b hr
  rw [q_Z_law_404]
  simp only [cond_true, h1, zcI_ok, h3, eq_self, decide_true]
  exact zOK_mono (Nat.le_succ n) (hk a2 b2 h4)
theorem zlk_417 {L : Nat} (hL : L ≤ 2560) {Rel : zA → zB → Prop} (hS : ∀ a b, Rel a b → a 0 1000000 = nI L) (h : ∀ x1 x2 : Int32, zAns Rel (X_crafts x1 x2) (M_crafts x1 x2)) : zCase L Rel Z_law_417 := by
  intro n i a b hi hr hk
  obtain ⟨v, a1, b1, a2, b2, h1, h2, h3, h4⟩ := h (a 0 (i + 1)) (a 0 (i + 2)) a b hr
  have cL : (a 0 1000000).toNatClampNeg = L := by rw [hS a b hr]; exact nI_clamp (by omega)
  have c1 : (nI i + 1).toNatClampNeg = i + 1 := (zix hL hi (k := 1) (by omega)).1
  have z1 : zin (nI i + 1) L = true := (zix hL hi (k := 1) (by omega)).2
  have c2 : (nI i + 2).toNatClampNeg = i + 2 := (zix hL hi (k := 2) (by omega)).1
  have z2 : zin (nI i + 2) L = true := (zix hL hi (k := 2) (by omega)).2
  rw [q_Z_law_417]
  simp only [cL, c1, z1, c2, z2, cond_true, h1, zcI_ok, h2, h3, eq_self, decide_true]
  exact zOK_mono (Nat.le_succ n) (hk a2 b2 h4)
theorem zlk_454 {L : Nat} (hL : L ≤ 2560) {Rel : zA → zB → Prop} (hS : ∀ a b, Rel a b → a 0 1000000 = nI L) (h : ∀ x1 x2 : Int32, zAns Rel (X_may x1 x2) (M_may x1 x2)) : zCase L Rel Z_law_454 := by
  intro n i a b hi hr hk
  obtain ⟨v, a1, b1, a2, b2, h1, h2, h3, h4⟩ := h (a 0 (i + 1)) (a 0 (i + 2)) a b hr
  have cL : (a 0 1000000).toNatClampNeg = L := by rw [hS a b hr]; exact nI_clamp (by omega)
  have c1 : (nI i + 1).toNatClampNeg = i + 1 := (zix hL hi (k := 1) (by omega)).1
  have z1 : zin (nI i + 1) L = true := (zix hL hi (k := 1) (by omega)).2
  have c2 : (nI i + 2).toNatClampNeg = i + 2 := (zix hL hi (k := 2) (by omega)).1
  have z2 : zin (nI i + 2) L = true := (zix hL hi (k := 2) (by omega)).2
  rw [q_Z_law_454]
  simp only [cL, c1, z1, c2, z2, cond_true, h1, zcI_ok, h2, h3, eq_self, decide_true]
  exact zOK_mono (Nat.le_succ n) (hk a2 b2 h4)
theorem zlk_491 {L : Nat} (hL : L ≤ 2560) {Rel : zA → zB → Prop} (hS : ∀ a b, Rel a b → a 0 1000000 = nI L) (h : ∀ x1 x2 : Int32, zAns Rel (X_beside x1 x2) (M_beside x1 x2)) : zCase L Rel Z_law_491 := by
  intro n i a b hi hr hk
  obtain ⟨v, a1, b1, a2, b2, h1, h2, h3, h4⟩ := h (a 0 (i + 1)) (a 0 (i + 2)) a b hr
  have cL : (a 0 1000000).toNatClampNeg = L := by rw [hS a b hr]; exact nI_clamp (by omega)
  have c1 : (nI i + 1).toNatClampNeg = i + 1 := (zix hL hi (k := 1) (by omega)).1
  have z1 : zin (nI i + 1) L = true := (zix hL hi (k := 1) (by omega)).2
  have c2 : (nI i + 2).toNatClampNeg = i + 2 := (zix hL hi (k := 2) (by omega)).1
  have z2 : zin (nI i + 2) L = true := (zix hL hi (k := 2) (by omega)).2
  rw [q_Z_law_491]
  simp only [cL, c1, z1, c2, z2, cond_true, h1, zcI_ok, h2, h3, eq_self, decide_true]
  exact zOK_mono (Nat.le_succ n) (hk a2 b2 h4)
theorem zlk_528 {L : Nat} (hL : L ≤ 2560) {Rel : zA → zB → Prop} (hS : ∀ a b, Rel a b → a 0 1000000 = nI L) (h : ∀ x1 x2 : Int32, zAns Rel (X_put x1 x2) (M_put x1 x2)) : zCase L Rel Z_law_528 := by
  intro n i a b hi hr hk
  obtain ⟨v, a1, b1, a2, b2, h1, h2, h3, h4⟩ := h (a 0 (i + 1)) (a 0 (i + 2)) a b hr
  have cL : (a 0 1000000).toNatClampNeg = L := by rw [hS a b hr]; exact nI_clamp (by omega)
  have c1 : (nI i + 1).toNatClampNeg = i + 1 := (zix hL hi (k := 1) (by omega)).1
  have z1 : zin (nI i + 1) L = true := (zix hL hi (k := 1) (by omega)).2
  have c2 : (nI i + 2).toNatClampNeg = i + 2 := (zix hL hi (k := 2) (by omega)).1
  have z2 : zin (nI i + 2) L = true := (zix hL hi (k := 2) (by omega)).2
  rw [q_Z_law_528]
  simp only [cL, c1, z1, c2, z2, cond_true, h1, zcI_ok, h2, h3, eq_self, decide_true]
  exact zOK_mono (Nat.le_succ n) (hk a2 b2 h4)
theorem zlk_565 {L : Nat} (hL : L ≤ 2560) {Rel : zA → zB → Prop} (hS : ∀ a b, Rel a b → a 0 1000000 = nI L) (h : ∀ x1 x2 x3 x4 : Int32, zAns Rel (X_sheet x1 x2 x3 x4) (M_sheet x1 x2 x3 x4)) : zCase L Rel Z_law_565 := by
  intro n i a b hi hr hk
  obtain ⟨v, a1, b1, a2, b2, h1, h2, h3, h4⟩ := h (a 0 (i + 1)) (a 0 (i + 2)) (a 0 (i + 3)) (a 0 (i + 4)) a b hr
  have cL : (a 0 1000000).toNatClampNeg = L := by rw [hS a b hr]; exact nI_clamp (by omega)
  have c1 : (nI i + 1).toNatClampNeg = i + 1 := (zix hL hi (k := 1) (by omega)).1
  have z1 : zin (nI i + 1) L = true := (zix hL hi (k := 1) (by omega)).2
  have c2 : (nI i + 2).toNatClampNeg = i + 2 := (zix hL hi (k := 2) (by omega)).1
  have z2 : zin (nI i + 2) L = true := (zix hL hi (k := 2) (by omega)).2
  have c3 : (nI i + 3).toNatClampNeg = i + 3 := (zix hL hi (k := 3) (by omega)).1
  have z3 : zin (nI i + 3) L = true := (zix hL hi (k := 3) (by omega)).2
  have c4 : (nI i + 4).toNatClampNeg = i + 4 := (zix hL hi (k := 4) (by omega)).1
  have z4 : zin (nI i + 4) L = true := (zix hL hi (k := 4) (by omega)).2
  rw [q_Z_law_565]
  simp only [cL, c1, z1, c2, z2, c3, z3, c4, z4, cond_true, h1, zcI_ok, h2, h3, eq_self, decide_true]
  exact zOK_mono (Nat.le_succ n) (hk a2 b2 h4)
theorem zlk_626 {L : Nat} (hL : L ≤ 2560) {Rel : zA → zB → Prop} (hS : ∀ a b, Rel a b → a 0 1000000 = nI L) (h : zAns Rel (X_good) (M_good)) : zCase L Rel Z_law_626 := by
  intro n i a b hi hr hk
  obtain ⟨v, a1, b1, a2, b2, h1, h2, h3, h4⟩ := h a b hr
  rw [q_Z_law_626]
  simp only [cond_true, h1, zcI_ok, h3, eq_self, decide_true]
  exact zOK_mono (Nat.le_succ n) (hk a2 b2 h4)
theorem zlk_639 {L : Nat} (hL : L ≤ 2560) {Rel : zA → zB → Prop} (hS : ∀ a b, Rel a b → a 0 1000000 = nI L) (h : zAns Rel (X_day) (M_day)) : zCase L Rel Z_law_639 := by
  intro n i a b hi hr hk
  obtain ⟨v, a1, b1, a2, b2, h1, h2, h3, h4⟩ := h a b hr
  rw [q_Z_law_639]
  simp only [cond_true, h1, zcI_ok, h3, eq_self, decide_true]
  exact zOK_mono (Nat.le_succ n) (hk a2 b2 h4)
theorem zlk_652 {L : Nat} (hL : L ≤ 2560) {Rel : zA → zB → Prop} (hS : ∀ a b, Rel a b → a 0 1000000 = nI L) (h : ∀ x1 x2 : Int32, zAns Rel (X_who x1 x2) (M_who x1 x2)) : zCase L Rel Z_law_652 := by
  intro n i a b hi hr hk
  obtain ⟨v, a1, b1, a2, b2, h1, h2, h3, h4⟩ := h (a 0 (i + 1)) (a 0 (i + 2)) a b hr
  have cL : (a 0 1000000).toNatClampNeg = L := by rw [hS a b hr]; exact nI_clamp (by omega)
  have c1 : (nI i + 1).toNatClampNeg = i + 1 := (zix hL hi (k := 1) (by omega)).1
  have z1 : zin (nI i + 1) L = true := (zix hL hi (k := 1) (by omega)).2
  have c2 : (nI i + 2).toNatClampNeg = i + 2 := (zix hL hi (k := 2) (by omega)).1
  have z2 : zin (nI i + 2) L = true := (zix hL hi (k := 2) (by omega)).2
  rw [q_Z_law_652]
  simp only [cL, c1, z1, c2, z2, cond_true, h1, zcI_ok, h2, h3, eq_self, decide_true]
  exact zOK_mono (Nat.le_succ n) (hk a2 b2 h4)
theorem zlk_689 {L : Nat} (hL : L ≤ 2560) {Rel : zA → zB → Prop} (hS : ∀ a b, Rel a b → a 0 1000000 = nI L) (h : ∀ x1 : Int32, zAns Rel (X_judge x1) (M_judge x1)) : zCase L Rel Z_law_689 := by
  intro n i a b hi hr hk
  obtain ⟨v, a1, b1, a2, b2, h1, h2, h3, h4⟩ := h (a 0 (i + 1)) a b hr
  have cL : (a 0 1000000).toNatClampNeg = L := by rw [hS a b hr]; exact nI_clamp (by omega)
  have c1 : (nI i + 1).toNatClampNeg = i + 1 := (zix hL hi (k := 1) (by omega)).1
  have z1 : zin (nI i + 1) L = true := (zix hL hi (k := 1) (by omega)).2
  rw [q_Z_law_689]
  simp only [cL, c1, z1, cond_true, h1, zcI_ok, h2, h3, eq_self, decide_true]
  exact zOK_mono (Nat.le_succ n) (hk a2 b2 h4)
theorem zlk_714 {L : Nat} (hL : L ≤ 2560) {Rel : zA → zB → Prop} (hS : ∀ a b, Rel a b → a 0 1000000 = nI L) (h : zAns Rel (X_broken) (M_broken)) : zCase L Rel Z_law_714 := by
  intro n i a b hi hr hk
  obtain ⟨v, a1, b1, a2, b2, h1, h2, h3, h4⟩ := h a b hr
  rw [q_Z_law_714]
  simp only [cond_true, h1, zcI_ok, h3, eq_self, decide_true]
  exact zOK_mono (Nat.le_succ n) (hk a2 b2 h4)
theorem zlk_727 {L : Nat} (hL : L ≤ 2560) {Rel : zA → zB → Prop} (hS : ∀ a b, Rel a b → a 0 1000000 = nI L) (h : ∀ x1 : Int32, zAns Rel (X_works x1) (M_works x1)) : zCase L Rel Z_law_727 := by
  intro n i a b hi hr hk
  obtain ⟨v, a1, b1, a2, b2, h1, h2, h3, h4⟩ := h (a 0 (i + 1)) a b hr
  have cL : (a 0 1000000).toNatClampNeg = L := by rw [hS a b hr]; exact nI_clamp (by omega)
  have c1 : (nI i + 1).toNatClampNeg = i + 1 := (zix hL hi (k := 1) (by omega)).1
  have z1 : zin (nI i + 1) L = true := (zix hL hi (k := 1) (by omega)).2
  rw [q_Z_law_727]
  simp only [cL, c1, z1, cond_true, h1, zcI_ok, h2, h3, eq_self, decide_true]
  exact zOK_mono (Nat.le_succ n) (hk a2 b2 h4)
theorem zlk_752 {L : Nat} (hL : L ≤ 2560) {Rel : zA → zB → Prop} (hS : ∀ a b, Rel a b → a 0 1000000 = nI L) (h : zAns Rel (X_best) (M_best)) : zCase L Rel Z_law_752 := by
  intro n i a b hi hr hk
  obtain ⟨v, a1, b1, a2, b2, h1, h2, h3, h4⟩ := h a b hr
  rw [q_Z_law_752]
  simp only [cond_true, h1, zcI_ok, h3, eq_self, decide_true]
  exact zOK_mono (Nat.le_succ n) (hk a2 b2 h4)
theorem zlk_765 {L : Nat} (hL : L ≤ 2560) {Rel : zA → zB → Prop} (hS : ∀ a b, Rel a b → a 0 1000000 = nI L) (h : zAns Rel (X_fill) (M_fill)) : zCase L Rel Z_law_765 := by
  intro n i a b hi hr hk
  obtain ⟨v, a1, b1, a2, b2, h1, h2, h3, h4⟩ := h a b hr
  rw [q_Z_law_765]
  simp only [cond_true, h1, zcI_ok, h3, eq_self, decide_true]
  exact zOK_mono (Nat.le_succ n) (hk a2 b2 h4)
theorem zlk_778 {L : Nat} (hL : L ≤ 2560) {Rel : zA → zB → Prop} (hS : ∀ a b, Rel a b → a 0 1000000 = nI L) (h : ∀ x1 : Int32, zAns Rel (X_ill x1) (M_ill x1)) : zCase L Rel Z_law_778 := by
  intro n i a b hi hr hk
  obtain ⟨v, a1, b1, a2, b2, h1, h2, h3, h4⟩ := h (a 0 (i + 1)) a b hr
  have cL : (a 0 1000000).toNatClampNeg = L := by rw [hS a b hr]; exact nI_clamp (by omega)
  have c1 : (nI i + 1).toNatClampNeg = i + 1 := (zix hL hi (k := 1) (by omega)).1
  have z1 : zin (nI i + 1) L = true := (zix hL hi (k := 1) (by omega)).2
  rw [q_Z_law_778]
  simp only [cL, c1, z1, cond_true, h1, zcI_ok, h2, h3, eq_self, decide_true]
  exact zOK_mono (Nat.le_succ n) (hk a2 b2 h4)
theorem zlk_803 {L : Nat} (hL : L ≤ 2560) {Rel : zA → zB → Prop} (hS : ∀ a b, Rel a b → a 0 1000000 = nI L) (h : ∀ x1 : Int32, zAns Rel (X_free x1) (M_free x1)) : zCase L Rel Z_law_803 := by
  intro n i a b hi hr hk
  obtain ⟨v, a1, b1, a2, b2, h1, h2, h3, h4⟩ := h (a 0 (i + 1)) a b hr
  have cL : (a 0 1000000).toNatClampNeg = L := by rw [hS a b hr]; exact nI_clamp (by omega)
  have c1 : (nI i + 1).toNatClampNeg = i + 1 := (zix hL hi (k := 1) (by omega)).1
  have z1 : zin (nI i + 1) L = true := (zix hL hi (k := 1) (by omega)).2
  rw [q_Z_law_803]
  simp only [cL, c1, z1, cond_true, h1, zcI_ok, h2, h3, eq_self, decide_true]
  exact zOK_mono (Nat.le_succ n) (hk a2 b2 h4)
theorem zlk_828 {L : Nat} (hL : L ≤ 2560) {Rel : zA → zB → Prop} (hS : ∀ a b, Rel a b → a 0 1000000 = nI L) (h : zAns Rel (X_worth) (M_worth)) : zCase L Rel Z_law_828 := by
  intro n i a b hi hr hk
  obtain ⟨v, a1, b1, a2, b2, h1, h2, h3, h4⟩ := h a b hr
  rw [q_Z_law_828]
  simp only [cond_true, h1, zcI_ok, h3, eq_self, decide_true]
  exact zOK_mono (Nat.le_succ n) (hk a2 b2 h4)
theorem zlk_841 {L : Nat} (hL : L ≤ 2560) {Rel : zA → zB → Prop} (hS : ∀ a b, Rel a b → a 0 1000000 = nI L) (h : zAns Rel (X_none) (M_none)) : zCase L Rel Z_law_841 := by
  intro n i a b hi hr hk
  obtain ⟨v, a1, b1, a2, b2, h1, h2, h3, h4⟩ := h a b hr
  rw [q_Z_law_841]
  simp only [cond_true, h1, zcI_ok, h3, eq_self, decide_true]
  exact zOK_mono (Nat.le_succ n) (hk a2 b2 h4)
theorem zlk_854 {L : Nat} (hL : L ≤ 2560) {Rel : zA → zB → Prop} (hS : ∀ a b, Rel a b → a 0 1000000 = nI L) (h : ∀ x1 : Int32, zAns Rel (X_can x1) (M_can x1)) : zCase L Rel Z_law_854 := by
  intro n i a b hi hr hk
  obtain ⟨v, a1, b1, a2, b2, h1, h2, h3, h4⟩ := h (a 0 (i + 1)) a b hr
  have cL : (a 0 1000000).toNatClampNeg = L := by rw [hS a b hr]; exact nI_clamp (by omega)
  have c1 : (nI i + 1).toNatClampNeg = i + 1 := (zix hL hi (k := 1) (by omega)).1
  have z1 : zin (nI i + 1) L = true := (zix hL hi (k := 1) (by omega)).2
  rw [q_Z_law_854]
  simp only [cL, c1, z1, cond_true, h1, zcI_ok, h2, h3, eq_self, decide_true]
  exact zOK_mono (Nat.le_succ n) (hk a2 b2 h4)
theorem zlk_879 {L : Nat} (hL : L ≤ 2560) {Rel : zA → zB → Prop} (hS : ∀ a b, Rel a b → a 0 1000000 = nI L) (h : ∀ x1 : Int32, zAns Rel (X_breaking x1) (M_breaking x1)) : zCase L Rel Z_law_879 := by
  intro n i a b hi hr hk
  obtain ⟨v, a1, b1, a2, b2, h1, h2, h3, h4⟩ := h (a 0 (i + 1)) a b hr
  have cL : (a 0 1000000).toNatClampNeg = L := by rw [hS a b hr]; exact nI_clamp (by omega)
  have c1 : (nI i + 1).toNatClampNeg = i + 1 := (zix hL hi (k := 1) (by omega)).1
  have z1 : zin (nI i + 1) L = true := (zix hL hi (k := 1) (by omega)).2
  rw [q_Z_law_879]
  simp only [cL, c1, z1, cond_true, h1, zcI_ok, h2, h3, eq_self, decide_true]
  exact zOK_mono (Nat.le_succ n) (hk a2 b2 h4)
theorem zlk_904 {L : Nat} (hL : L ≤ 2560) {Rel : zA → zB → Prop} (hS : ∀ a b, Rel a b → a 0 1000000 = nI L) (h : ∀ x1 : Int32, zAns Rel (X_few x1) (M_few x1)) : zCase L Rel Z_law_904 := by
  intro n i a b hi hr hk
  obtain ⟨v, a1, b1, a2, b2, h1, h2, h3, h4⟩ := h (a 0 (i + 1)) a b hr
  have cL : (a 0 1000000).toNatClampNeg = L := by rw [hS a b hr]; exact nI_clamp (by omega)
  have c1 : (nI i + 1).toNatClampNeg = i + 1 := (zix hL hi (k := 1) (by omega)).1
  have z1 : zin (nI i + 1) L = true := (zix hL hi (k := 1) (by omega)).2
  rw [q_Z_law_904]
  simp only [cL, c1, z1, cond_true, h1, zcI_ok, h2, h3, eq_self, decide_true]
  exact zOK_mono (Nat.le_succ n) (hk a2 b2 h4)
theorem zlk_929 {L : Nat} (hL : L ≤ 2560) {Rel : zA → zB → Prop} (hS : ∀ a b, Rel a b → a 0 1000000 = nI L) (h : ∀ x1 x2 : Int32, zAns Rel (X_till x1 x2) (M_till x1 x2)) : zCase L Rel Z_law_929 := by
  intro n i a b hi hr hk
  obtain ⟨v, a1, b1, a2, b2, h1, h2, h3, h4⟩ := h (a 0 (i + 1)) (a 0 (i + 2)) a b hr
  have cL : (a 0 1000000).toNatClampNeg = L := by rw [hS a b hr]; exact nI_clamp (by omega)
  have c1 : (nI i + 1).toNatClampNeg = i + 1 := (zix hL hi (k := 1) (by omega)).1
  have z1 : zin (nI i + 1) L = true := (zix hL hi (k := 1) (by omega)).2
  have c2 : (nI i + 2).toNatClampNeg = i + 2 := (zix hL hi (k := 2) (by omega)).1
  have z2 : zin (nI i + 2) L = true := (zix hL hi (k := 2) (by omega)).2
  rw [q_Z_law_929]
  simp only [cL, c1, z1, c2, z2, cond_true, h1, zcI_ok, h2, h3, eq_self, decide_true]
  exact zOK_mono (Nat.le_succ n) (hk a2 b2 h4)
theorem zlk_966 {L : Nat} (hL : L ≤ 2560) {Rel : zA → zB → Prop} (hS : ∀ a b, Rel a b → a 0 1000000 = nI L) (h : ∀ x1 x2 : Int32, zAns Rel (X_law x1 x2) (M_law x1 x2)) : zCase L Rel Z_law_966 := by
  intro n i a b hi hr hk
  obtain ⟨v, a1, b1, a2, b2, h1, h2, h3, h4⟩ := h (a 0 (i + 1)) (a 0 (i + 2)) a b hr
  have cL : (a 0 1000000).toNatClampNeg = L := by rw [hS a b hr]; exact nI_clamp (by omega)
  have c1 : (nI i + 1).toNatClampNeg = i + 1 := (zix hL hi (k := 1) (by omega)).1
  have z1 : zin (nI i + 1) L = true := (zix hL hi (k := 1) (by omega)).2
  have c2 : (nI i + 2).toNatClampNeg = i + 2 := (zix hL hi (k := 2) (by omega)).1
  have z2 : zin (nI i + 2) L = true := (zix hL hi (k := 2) (by omega)).2
  rw [q_Z_law_966]
  simp only [cL, c1, z1, c2, z2, cond_true, h1, zcI_ok, h2, h3, eq_self, decide_true]
  exact zOK_mono (Nat.le_succ n) (hk a2 b2 h4)
theorem zlk_1003 {L : Nat} (hL : L ≤ 2560) {Rel : zA → zB → Prop} (hS : ∀ a b, Rel a b → a 0 1000000 = nI L) (h : ∀ x1 : Int32, zAns Rel (X_price x1) (M_price x1)) : zCase L Rel Z_law_1003 := by
  intro n i a b hi hr hk
  obtain ⟨v, a1, b1, a2, b2, h1, h2, h3, h4⟩ := h (a 0 (i + 1)) a b hr
  have cL : (a 0 1000000).toNatClampNeg = L := by rw [hS a b hr]; exact nI_clamp (by omega)
  have c1 : (nI i + 1).toNatClampNeg = i + 1 := (zix hL hi (k := 1) (by omega)).1
  have z1 : zin (nI i + 1) L = true := (zix hL hi (k := 1) (by omega)).2
  rw [q_Z_law_1003]
  simp only [cL, c1, z1, cond_true, h1, zcI_ok, h2, h3, eq_self, decide_true]
  exact zOK_mono (Nat.le_succ n) (hk a2 b2 h4)
theorem zlk_1028 {L : Nat} (hL : L ≤ 2560) {Rel : zA → zB → Prop} (hS : ∀ a b, Rel a b → a 0 1000000 = nI L) (h : zAns Rel (X_written) (M_written)) : zCase L Rel Z_law_1028 := by
  intro n i a b hi hr hk
  obtain ⟨v, a1, b1, a2, b2, h1, h2, h3, h4⟩ := h a b hr
  rw [q_Z_law_1028]
  simp only [cond_true, h1, zcI_ok, h3, eq_self, decide_true]
  exact zOK_mono (Nat.le_succ n) (hk a2 b2 h4)
theorem zlk_1041 {L : Nat} (hL : L ≤ 2560) {Rel : zA → zB → Prop} (hS : ∀ a b, Rel a b → a 0 1000000 = nI L) (h : zAns Rel (X_ever) (M_ever)) : zCase L Rel Z_law_1041 := by
  intro n i a b hi hr hk
  obtain ⟨v, a1, b1, a2, b2, h1, h2, h3, h4⟩ := h a b hr
  rw [q_Z_law_1041]
  simp only [cond_true, h1, zcI_ok, h3, eq_self, decide_true]
  exact zOK_mono (Nat.le_succ n) (hk a2 b2 h4)
theorem zlk_1054 {L : Nat} (hL : L ≤ 2560) {Rel : zA → zB → Prop} (hS : ∀ a b, Rel a b → a 0 1000000 = nI L) (h : zAns Rel (X_round) (M_round)) : zCase L Rel Z_law_1054 := by
  intro n i a b hi hr hk
  obtain ⟨v, a1, b1, a2, b2, h1, h2, h3, h4⟩ := h a b hr
  rw [q_Z_law_1054]
  simp only [cond_true, h1, zcI_ok, h3, eq_self, decide_true]
  exact zOK_mono (Nat.le_succ n) (hk a2 b2 h4)
theorem zlk_1067 {L : Nat} (hL : L ≤ 2560) {Rel : zA → zB → Prop} (hS : ∀ a b, Rel a b → a 0 1000000 = nI L) (h : zAns Rel (X_lasts) (M_lasts)) : zCase L Rel Z_law_1067 := by
  intro n i a b hi hr hk
  obtain ⟨v, a1, b1, a2, b2, h1, h2, h3, h4⟩ := h a b hr
  rw [q_Z_law_1067]
  simp only [cond_true, h1, zcI_ok, h3, eq_self, decide_true]
  exact zOK_mono (Nat.le_succ n) (hk a2 b2 h4)
theorem zlk_1080 {L : Nat} (hL : L ≤ 2560) {Rel : zA → zB → Prop} (hS : ∀ a b, Rel a b → a 0 1000000 = nI L) (h : zAns Rel (X_lessons) (M_lessons)) : zCase L Rel Z_law_1080 := by
  intro n i a b hi hr hk
  obtain ⟨v, a1, b1, a2, b2, h1, h2, h3, h4⟩ := h a b hr
  rw [q_Z_law_1080]
  simp only [cond_true, h1, zcI_ok, h3, eq_self, decide_true]
  exact zOK_mono (Nat.le_succ n) (hk a2 b2 h4)
theorem zlk_1093 {L : Nat} (hL : L ≤ 2560) {Rel : zA → zB → Prop} (hS : ∀ a b, Rel a b → a 0 1000000 = nI L) (h : ∀ x1 : Int32, zAns Rel (X_most x1) (M_most x1)) : zCase L Rel Z_law_1093 := by
  intro n i a b hi hr hk
  obtain ⟨v, a1, b1, a2, b2, h1, h2, h3, h4⟩ := h (a 0 (i + 1)) a b hr
  have cL : (a 0 1000000).toNatClampNeg = L := by rw [hS a b hr]; exact nI_clamp (by omega)
  have c1 : (nI i + 1).toNatClampNeg = i + 1 := (zix hL hi (k := 1) (by omega)).1
  have z1 : zin (nI i + 1) L = true := (zix hL hi (k := 1) (by omega)).2
  rw [q_Z_law_1093]
  simp only [cL, c1, z1, cond_true, h1, zcI_ok, h2, h3, eq_self, decide_true]
  exact zOK_mono (Nat.le_succ n) (hk a2 b2 h4)
theorem zlk_1118 {L : Nat} (hL : L ≤ 2560) {Rel : zA → zB → Prop} (hS : ∀ a b, Rel a b → a 0 1000000 = nI L) (h : zAns Rel (X_fresh) (M_fresh)) : zCase L Rel Z_law_1118 := by
  intro n i a b hi hr hk
  obtain ⟨v, a1, b1, a2, b2, h1, h2, h3, h4⟩ := h a b hr
  rw [q_Z_law_1118]
  simp only [cond_true, h1, zcI_ok, h3, eq_self, decide_true]
  exact zOK_mono (Nat.le_succ n) (hk a2 b2 h4)
theorem zlk_1131 {L : Nat} (hL : L ≤ 2560) {Rel : zA → zB → Prop} (hS : ∀ a b, Rel a b → a 0 1000000 = nI L) (h : ∀ x1 x2 : Int32, zAns Rel (X_go x1 x2) (M_go x1 x2)) : zCase L Rel Z_law_1131 := by
  intro n i a b hi hr hk
  obtain ⟨v, a1, b1, a2, b2, h1, h2, h3, h4⟩ := h (a 0 (i + 1)) (a 0 (i + 2)) a b hr
  have cL : (a 0 1000000).toNatClampNeg = L := by rw [hS a b hr]; exact nI_clamp (by omega)
  have c1 : (nI i + 1).toNatClampNeg = i + 1 := (zix hL hi (k := 1) (by omega)).1
  have z1 : zin (nI i + 1) L = true := (zix hL hi (k := 1) (by omega)).2
  have c2 : (nI i + 2).toNatClampNeg = i + 2 := (zix hL hi (k := 2) (by omega)).1
  have z2 : zin (nI i + 2) L = true := (zix hL hi (k := 2) (by omega)).2
  rw [q_Z_law_1131]
  simp only [cL, c1, z1, c2, z2, cond_true, h1, zcI_ok, h2, h3, eq_self, decide_true]
  exact zOK_mono (Nat.le_succ n) (hk a2 b2 h4)
theorem zlk_1168 {L : Nat} (hL : L ≤ 2560) {Rel : zA → zB → Prop} (hS : ∀ a b, Rel a b → a 0 1000000 = nI L) (h : ∀ x1 : Int32, zAns Rel (X_met x1) (M_met x1)) : zCase L Rel Z_law_1168 := by
  intro n i a b hi hr hk
  obtain ⟨v, a1, b1, a2, b2, h1, h2, h3, h4⟩ := h (a 0 (i + 1)) a b hr
  have cL : (a 0 1000000).toNatClampNeg = L := by rw [hS a b hr]; exact nI_clamp (by omega)
  have c1 : (nI i + 1).toNatClampNeg = i + 1 := (zix hL hi (k := 1) (by omega)).1
  have z1 : zin (nI i + 1) L = true := (zix hL hi (k := 1) (by omega)).2
  rw [q_Z_law_1168]
  simp only [cL, c1, z1, cond_true, h1, zcI_ok, h2, h3, eq_self, decide_true]
  exact zOK_mono (Nat.le_succ n) (hk a2 b2 h4)
theorem zlk_1193 {L : Nat} (hL : L ≤ 2560) {Rel : zA → zB → Prop} (hS : ∀ a b, Rel a b → a 0 1000000 = nI L) (h : zAns Rel (X_all) (M_all)) : zCase L Rel Z_law_1193 := by
  intro n i a b hi hr hk
  obtain ⟨v, a1, b1, a2, b2, h1, h2, h3, h4⟩ := h a b hr
  rw [q_Z_law_1193]
  simp only [cond_true, h1, zcI_ok, h3, eq_self, decide_true]
  exact zOK_mono (Nat.le_succ n) (hk a2 b2 h4)
theorem zlk_1206 {L : Nat} (hL : L ≤ 2560) {Rel : zA → zB → Prop} (hS : ∀ a b, Rel a b → a 0 1000000 = nI L) (h : ∀ x1 : Int32, zAns Rel (X_soon x1) (M_soon x1)) : zCase L Rel Z_law_1206 := by
  intro n i a b hi hr hk
  obtain ⟨v, a1, b1, a2, b2, h1, h2, h3, h4⟩ := h (a 0 (i + 1)) a b hr
  have cL : (a 0 1000000).toNatClampNeg = L := by rw [hS a b hr]; exact nI_clamp (by omega)
  have c1 : (nI i + 1).toNatClampNeg = i + 1 := (zix hL hi (k := 1) (by omega)).1
  have z1 : zin (nI i + 1) L = true := (zix hL hi (k := 1) (by omega)).2
  rw [q_Z_law_1206]
  simp only [cL, c1, z1, cond_true, h1, zcI_ok, h2, h3, eq_self, decide_true]
  exact zOK_mono (Nat.le_succ n) (hk a2 b2 h4)
theorem zlk_1231 {L : Nat} (hL : L ≤ 2560) {Rel : zA → zB → Prop} (hS : ∀ a b, Rel a b → a 0 1000000 = nI L) (h : ∀ x1 x2 : Int32, zAns Rel (X_often x1 x2) (M_often x1 x2)) : zCase L Rel Z_law_1231 := by
  intro n i a b hi hr hk
  obtain ⟨v, a1, b1, a2, b2, h1, h2, h3, h4⟩ := h (a 0 (i + 1)) (a 0 (i + 2)) a b hr
  have cL : (a 0 1000000).toNatClampNeg = L := by rw [hS a b hr]; exact nI_clamp (by omega)
  have c1 : (nI i + 1).toNatClampNeg = i + 1 := (zix hL hi (k := 1) (by omega)).1
  have z1 : zin (nI i + 1) L = true := (zix hL hi (k := 1) (by omega)).2
  have c2 : (nI i + 2).toNatClampNeg = i + 2 := (zix hL hi (k := 2) (by omega)).1
  have z2 : zin (nI i + 2) L = true := (zix hL hi (k := 2) (by omega)).2
  rw [q_Z_law_1231]
  simp only [cL, c1, z1, c2, z2, cond_true, h1, zcI_ok, h2, h3, eq_self, decide_true]
  exact zOK_mono (Nat.le_succ n) (hk a2 b2 h4)
theorem zlk_1268 {L : Nat} (hL : L ≤ 2560) {Rel : zA → zB → Prop} (hS : ∀ a b, Rel a b → a 0 1000000 = nI L) (h : ∀ x1 : Int32, zAns Rel (X_alternate x1) (M_alternate x1)) : zCase L Rel Z_law_1268 := by
  intro n i a b hi hr hk
  obtain ⟨v, a1, b1, a2, b2, h1, h2, h3, h4⟩ := h (a 0 (i + 1)) a b hr
  have cL : (a 0 1000000).toNatClampNeg = L := by rw [hS a b hr]; exact nI_clamp (by omega)
  have c1 : (nI i + 1).toNatClampNeg = i + 1 := (zix hL hi (k := 1) (by omega)).1
  have z1 : zin (nI i + 1) L = true := (zix hL hi (k := 1) (by omega)).2
  rw [q_Z_law_1268]
  simp only [cL, c1, z1, cond_true, h1, zcI_ok, h2, h3, eq_self, decide_true]
  exact zOK_mono (Nat.le_succ n) (hk a2 b2 h4)
theorem zlk_1293 {L : Nat} (hL : L ≤ 2560) {Rel : zA → zB → Prop} (hS : ∀ a b, Rel a b → a 0 1000000 = nI L) (h : ∀ x1 : Int32, zAns Rel (X_chairs x1) (M_chairs x1)) : zCase L Rel Z_law_1293 := by
  intro n i a b hi hr hk
  obtain ⟨v, a1, b1, a2, b2, h1, h2, h3, h4⟩ := h (a 0 (i + 1)) a b hr
  have cL : (a 0 1000000).toNatClampNeg = L := by rw [hS a b hr]; exact nI_clamp (by omega)
  have c1 : (nI i + 1).toNatClampNeg = i + 1 := (zix hL hi (k := 1) (by omega)).1
  have z1 : zin (nI i + 1) L = true := (zix hL hi (k := 1) (by omega)).2
  rw [q_Z_law_1293]
  simp only [cL, c1, z1, cond_true, h1, zcI_ok, h2, h3, eq_self, decide_true]
  exact zOK_mono (Nat.le_succ n) (hk a2 b2 h4)
theorem zlk_1318 {L : Nat} (hL : L ≤ 2560) {Rel : zA → zB → Prop} (hS : ∀ a b, Rel a b → a 0 1000000 = nI L) (h : zAns Rel (X_unlike) (M_unlike)) : zCase L Rel Z_law_1318 := by
  intro n i a b hi hr hk
  obtain ⟨v, a1, b1, a2, b2, h1, h2, h3, h4⟩ := h a b hr
  rw [q_Z_law_1318]
  simp only [cond_true, h1, zcI_ok, h3, eq_self, decide_true]
  exact zOK_mono (Nat.le_succ n) (hk a2 b2 h4)
theorem zlk_1331 {L : Nat} (hL : L ≤ 2560) {Rel : zA → zB → Prop} (hS : ∀ a b, Rel a b → a 0 1000000 = nI L) (h : ∀ x1 : Int32, zAns Rel (X_keep x1) (M_keep x1)) : zCase L Rel Z_law_1331 := by
  intro n i a b hi hr hk
  obtain ⟨v, a1, b1, a2, b2, h1, h2, h3, h4⟩ := h (a 0 (i + 1)) a b hr
  have cL : (a 0 1000000).toNatClampNeg = L := by rw [hS a b hr]; exact nI_clamp (by omega)
  have c1 : (nI i + 1).toNatClampNeg = i + 1 := (zix hL hi (k := 1) (by omega)).1
  have z1 : zin (nI i + 1) L = true := (zix hL hi (k := 1) (by omega)).2
  rw [q_Z_law_1331]
  simp only [cL, c1, z1, cond_true, h1, zcI_ok, h2, h3, eq_self, decide_true]
  exact zOK_mono (Nat.le_succ n) (hk a2 b2 h4)
theorem zlk_1356 {L : Nat} (hL : L ≤ 2560) {Rel : zA → zB → Prop} (hS : ∀ a b, Rel a b → a 0 1000000 = nI L) (h : ∀ x1 : Int32, zAns Rel (X_again x1) (M_again x1)) : zCase L Rel Z_law_1356 := by
  intro n i a b hi hr hk
  obtain ⟨v, a1, b1, a2, b2, h1, h2, h3, h4⟩ := h (a 0 (i + 1)) a b hr
  have cL : (a 0 1000000).toNatClampNeg = L := by rw [hS a b hr]; exact nI_clamp (by omega)
  have c1 : (nI i + 1).toNatClampNeg = i + 1 := (zix hL hi (k := 1) (by omega)).1
  have z1 : zin (nI i + 1) L = true := (zix hL hi (k := 1) (by omega)).2
  rw [q_Z_law_1356]
  simp only [cL, c1, z1, cond_true, h1, zcI_ok, h2, h3, eq_self, decide_true]
  exact zOK_mono (Nat.le_succ n) (hk a2 b2 h4)
theorem zlk_1381 {L : Nat} (hL : L ≤ 2560) {Rel : zA → zB → Prop} (hS : ∀ a b, Rel a b → a 0 1000000 = nI L) (h : ∀ x1 : Int32, zAns Rel (X_count x1) (M_count x1)) : zCase L Rel Z_law_1381 := by
  intro n i a b hi hr hk
  obtain ⟨v, a1, b1, a2, b2, h1, h2, h3, h4⟩ := h (a 0 (i + 1)) a b hr
  have cL : (a 0 1000000).toNatClampNeg = L := by rw [hS a b hr]; exact nI_clamp (by omega)
  have c1 : (nI i + 1).toNatClampNeg = i + 1 := (zix hL hi (k := 1) (by omega)).1
  have z1 : zin (nI i + 1) L = true := (zix hL hi (k := 1) (by omega)).2
  rw [q_Z_law_1381]
  simp only [cL, c1, z1, cond_true, h1, zcI_ok, h2, h3, eq_self, decide_true]
  exact zOK_mono (Nat.le_succ n) (hk a2 b2 h4)
theorem zlk_334 {L : Nat} (hL : L ≤ 2560) {n i : Nat} {v s2 s3 : Int32} {a : zA} {b : zB} (hi : i + 5 ≤ L) (e : a 0 1000000 = nI L) {a2 : zA} {b2 : zB} (h3 : M_post s2 s3 (a 0 (i + 3)) (a 0 (i + 4)) a b = okI v a2 b2) (hk : zOK n (Z_law_1462 (nI i) a2 b2)) : zOK n (Z_law_334 (nI i) v s2 s3 a b) := by
  have cL : (a 0 1000000).toNatClampNeg = L := by rw [e]; exact nI_clamp (by omega)
  have c3 : (nI i + 3).toNatClampNeg = i + 3 := (zix hL hi (k := 3) (by omega)).1
  have z3 : zin (nI i + 3) L = true := (zix hL hi (k := 3) (by omega)).2
  have c4 : (nI i + 4).toNatClampNeg = i + 4 := (zix hL hi (k := 4) (by omega)).1
  have z4 : zin (nI i + 4) L = true := (zix hL hi (k := 4) (by omega)).2
  rw [q_Z_law_334]
  simp only [cL, c3, z3, c4, z4, cond_true, h3, zcI_ok, eq_self, decide_true]
  exact hk
theorem zlk_277 {L : Nat} (hL : L ≤ 2560) {Rel : zA → zB → Prop} (hS : ∀ a b, Rel a b → a 0 1000000 = nI L) (h : ∀ x1 x2 x3 x4 : Int32, (x2 = 0 ∨ x2 = 1) → zAns Rel (X_post x1 x2 x3 x4) (M_post x1 x2 x3 x4)) : zCase L Rel Z_law_277 := by
  intro n i a b hi hr hk
  have cL : (a 0 1000000).toNatClampNeg = L := by rw [hS a b hr]; exact nI_clamp (by omega)
  have c1 : (nI i + 1).toNatClampNeg = i + 1 := (zix hL hi (k := 1) (by omega)).1
  have z1 : zin (nI i + 1) L = true := (zix hL hi (k := 1) (by omega)).2
  have c2 : (nI i + 2).toNatClampNeg = i + 2 := (zix hL hi (k := 2) (by omega)).1
  have z2 : zin (nI i + 2) L = true := (zix hL hi (k := 2) (by omega)).2
  have c3 : (nI i + 3).toNatClampNeg = i + 3 := (zix hL hi (k := 3) (by omega)).1
  have z3 : zin (nI i + 3) L = true := (zix hL hi (k := 3) (by omega)).2
  have c4 : (nI i + 4).toNatClampNeg = i + 4 := (zix hL hi (k := 4) (by omega)).1
  have z4 : zin (nI i + 4) L = true := (zix hL hi (k := 4) (by omega)).2
  have go : ∀ x2 : Int32, (x2 = 0 ∨ x2 = 1) → (decide (a 0 (i + 2) = 0) = decide (x2 = 0)) → zOK (n + 1) (Z_law_298 (nI i) (a 0 (i + 1)) x2 a b) := by
    intro x2 hx hd
    obtain ⟨v, a1, b1, a2, b2, h1, h2, h3, h4⟩ := h (a 0 (i + 1)) x2 (a 0 (i + 3)) (a 0 (i + 4)) hx a b hr
    have e1 : a1 0 1000000 = nI L := by rw [h2]; exact hS a b hr
    have hk2 : zOK (n + 1) (Z_law_334 (nI i) v (a 0 (i + 1)) x2 a1 b1) := zlk_334 hL hi e1 (by rw [h2, h2]; exact h3) (zOK_mono (Nat.le_succ n) (hk a2 b2 h4))
    rw [q_Z_law_298]
    simp only [cL, c1, z1, c2, z2, c3, z3, c4, z4, cond_true, h1, zcI_ok, h2, hd]
    rcases hx with hx | hx
    · subst hx
      exact hk2
    · subst hx
      exact hk2
  rw [q_Z_law_277]
  simp only [cL, c1, z1, c2, z2, cond_true]
  refine zOK_c (fun hc => go 0 (.inl rfl) (by rw [hc]; rfl)) (fun hc => go 1 (.inr rfl) (by rw [hc]; rfl))
/-- the row: told, or thrown and caught -/
theorem zlk_1406 {L : Nat} (hL : L ≤ 2560) {Rel : zA → zB → Prop} (hS : ∀ a b, Rel a b → a 0 1000000 = nI L)
    (h : ∀ (x1 : Int32) (a : zA) (b : zB), Rel a b →
      ((x1 < 0 ∨ a 1 12 ≤ x1) ∧ ∃ v a2 b2 a3 b3, M_row x1 a b = okI v a2 b2 ∧ M_thrown a2 b2 = okI 1 a3 b3 ∧ Rel a3 b3) ∨
      (¬ (x1 < 0 ∨ a 1 12 ≤ x1) ∧ zin x1 32 = true ∧ ∃ a2 b2 a3 b3, M_row x1 a (zupB b 237 0 (a 171 x1.toNatClampNeg).toInt64) = okI (a 171 x1.toNatClampNeg) a2 b2 ∧ M_thrown a2 b2 = okI 0 a3 b3 ∧ b3 237 0 = (a 171 x1.toNatClampNeg).toInt64 ∧ Rel a3 b3)) : zCase L Rel Z_law_1406 := by
  intro n i a b hi hr hk
  have cL : (a 0 1000000).toNatClampNeg = L := by rw [hS a b hr]; exact nI_clamp (by omega)
  have c1 : (nI i + 1).toNatClampNeg = i + 1 := (zix hL hi (k := 1) (by omega)).1
  have z1 : zin (nI i + 1) L = true := (zix hL hi (k := 1) (by omega)).2
  have zpr : ∀ {as : List Value} {a' : zA} {b' : zB} {x : Int32} {dx ds : Nat} {k : Int32 → zA → zB → zR}, zprm as zSH a b = some (x, a', b', dx, ds) → dx ≤ 1 → ds ≤ 6 → zOK n (k x a' b') → zOK (n + 1) (zPR zprm as zSH a b k) := by
    intro as a' b' x dx ds k hp h1 h2 ho
    obtain ⟨sh, a3, b3, x3, s3, e, g1, g2⟩ := ho
    refine ⟨sh, a3, b3, dx + x3, ds + s3, ?_, by omega, by omega⟩
    unfold zPR
    rw [hp]
    simp only [e]
  rw [q_Z_law_1406]
  simp only [cL, c1, z1, cond_true]
  rcases h (a 0 (i + 1)) a b hr with ⟨g0, v, a2, b2, a3, b3, h1, h2, h3⟩ | ⟨g0, gz, a2, b2, a3, b3, h1, h2, h4, h3⟩
  · refine zpr (x := 1) (a' := a) (b' := b) (dx := 1) (ds := 6) ?_ (by omega) (by omega) ?_
    · unfold zprm
      rw [if_pos rfl]
      simp only [if_pos g0]
    · simp only [cL, c1, z1, cond_true, h1, zcI_ok, h2, eq_self, decide_true]
      rw [show decide ((1 : Int32) = 0) = false from by decide, cond_false, q_Z_law_1459]
      exact hk a3 b3 h3
  · refine zpr (x := 0) (a' := a) (b' := zupB b 237 0 (a 171 (a 0 (i + 1)).toNatClampNeg).toInt64) (dx := 0) (ds := 0) ?_ (by omega) (by omega) ?_
    · unfold zprm
      rw [if_pos rfl]
      simp only [if_neg g0, if_pos gz]
    · simp only [cL, c1, z1, cond_true, h1, zcI_ok, h2, eq_self, decide_true]
      rw [show zin 0 1 = true from by decide, cond_true, show (0 : Int32).toNatClampNeg = 0 from by decide, h4, q_Z_law_1459]
      rw [show decide (lg_cmp (a 171 (a 0 (i + 1)).toNatClampNeg).toInt64 (a 171 (a 0 (i + 1)).toNatClampNeg).toInt64 = 0) = true from by unfold lg_cmp; simp]
      exact hk a3 b3 h3
/-- what is left: each call, class against reference -/
def zPure (Rel : zA → zB → Prop) : Prop :=
  (∀ x1 x2 : Int32, zAns Rel (X_person x1 x2) (M_person x1 x2)) ∧
  (∀ x1 x2 x3 x4 : Int32, (x2 = 0 ∨ x2 = 1) → zAns Rel (X_post x1 x2 x3 x4) (M_post x1 x2 x3 x4)) ∧
  (∀ x1 : Int32, zAns Rel (X_sign x1) (M_sign x1)) ∧
  (∀ x1 : Int32, zAns Rel (X_end x1) (M_end x1)) ∧
  (zAns Rel (X_rule) (M_rule)) ∧
  (∀ x1 x2 : Int32, zAns Rel (X_crafts x1 x2) (M_crafts x1 x2)) ∧
  (∀ x1 x2 : Int32, zAns Rel (X_may x1 x2) (M_may x1 x2)) ∧
  (∀ x1 x2 : Int32, zAns Rel (X_beside x1 x2) (M_beside x1 x2)) ∧
  (∀ x1 x2 : Int32, zAns Rel (X_put x1 x2) (M_put x1 x2)) ∧
  (∀ x1 x2 x3 x4 : Int32, zAns Rel (X_sheet x1 x2 x3 x4) (M_sheet x1 x2 x3 x4)) ∧
  (zAns Rel (X_good) (M_good)) ∧
  (zAns Rel (X_day) (M_day)) ∧
  (∀ x1 x2 : Int32, zAns Rel (X_who x1 x2) (M_who x1 x2)) ∧
  (∀ x1 : Int32, zAns Rel (X_judge x1) (M_judge x1)) ∧
  (zAns Rel (X_broken) (M_broken)) ∧
  (∀ x1 : Int32, zAns Rel (X_works x1) (M_works x1)) ∧
  (zAns Rel (X_best) (M_best)) ∧
  (zAns Rel (X_fill) (M_fill)) ∧
  (∀ x1 : Int32, zAns Rel (X_ill x1) (M_ill x1)) ∧
  (∀ x1 : Int32, zAns Rel (X_free x1) (M_free x1)) ∧
  (zAns Rel (X_worth) (M_worth)) ∧
  (zAns Rel (X_none) (M_none)) ∧
  (∀ x1 : Int32, zAns Rel (X_can x1) (M_can x1)) ∧
  (∀ x1 : Int32, zAns Rel (X_breaking x1) (M_breaking x1)) ∧
  (∀ x1 : Int32, zAns Rel (X_few x1) (M_few x1)) ∧
  (∀ x1 x2 : Int32, zAns Rel (X_till x1 x2) (M_till x1 x2)) ∧
  (∀ x1 x2 : Int32, zAns Rel (X_law x1 x2) (M_law x1 x2)) ∧
  (∀ x1 : Int32, zAns Rel (X_price x1) (M_price x1)) ∧
  (zAns Rel (X_written) (M_written)) ∧
  (zAns Rel (X_ever) (M_ever)) ∧
  (zAns Rel (X_round) (M_round)) ∧
  (zAns Rel (X_lasts) (M_lasts)) ∧
  (zAns Rel (X_lessons) (M_lessons)) ∧
  (∀ x1 : Int32, zAns Rel (X_most x1) (M_most x1)) ∧
  (zAns Rel (X_fresh) (M_fresh)) ∧
  (∀ x1 x2 : Int32, zAns Rel (X_go x1 x2) (M_go x1 x2)) ∧
  (∀ x1 : Int32, zAns Rel (X_met x1) (M_met x1)) ∧
  (zAns Rel (X_all) (M_all)) ∧
  (∀ x1 : Int32, zAns Rel (X_soon x1) (M_soon x1)) ∧
  (∀ x1 x2 : Int32, zAns Rel (X_often x1 x2) (M_often x1 x2)) ∧
  (∀ x1 : Int32, zAns Rel (X_alternate x1) (M_alternate x1)) ∧
  (∀ x1 : Int32, zAns Rel (X_chairs x1) (M_chairs x1)) ∧
  (zAns Rel (X_unlike) (M_unlike)) ∧
  (∀ x1 : Int32, zAns Rel (X_keep x1) (M_keep x1)) ∧
  (∀ x1 : Int32, zAns Rel (X_again x1) (M_again x1)) ∧
  (∀ x1 : Int32, zAns Rel (X_count x1) (M_count x1)) ∧
  (∀ (x1 : Int32) (a : zA) (b : zB), Rel a b →
      ((x1 < 0 ∨ a 1 12 ≤ x1) ∧ ∃ v a2 b2 a3 b3, M_row x1 a b = okI v a2 b2 ∧ M_thrown a2 b2 = okI 1 a3 b3 ∧ Rel a3 b3) ∨
      (¬ (x1 < 0 ∨ a 1 12 ≤ x1) ∧ zin x1 32 = true ∧ ∃ a2 b2 a3 b3, M_row x1 a (zupB b 237 0 (a 171 x1.toNatClampNeg).toInt64) = okI (a 171 x1.toNatClampNeg) a2 b2 ∧ M_thrown a2 b2 = okI 0 a3 b3 ∧ b3 237 0 = (a 171 x1.toNatClampNeg).toInt64 ∧ Rel a3 b3))
theorem zcases {L : Nat} (hL : L ≤ 2560) {Rel : zA → zB → Prop} (hS : ∀ a b, Rel a b → a 0 1000000 = nI L) (P : zPure Rel) : ∀ K ∈ zKs, zCase L Rel K := by
  obtain ⟨k0, k1, k2, k3, k4, k5, k6, k7, k8, k9, k10, k11, k12, k13, k14, k15, k16, k17, k18, k19, k20, k21, k22, k23, k24, k25, k26, k27, k28, k29, k30, k31, k32, k33, k34, k35, k36, k37, k38, k39, k40, k41, k42, k43, k44, k45, k46⟩ := P
  unfold zKs
  simp only [List.mem_cons, List.not_mem_nil, or_false, forall_eq_or_imp, forall_eq]
  exact ⟨zlk_240 hL hS k0, zlk_277 hL hS k1, zlk_354 hL hS k2, zlk_379 hL hS k3, zlk_404 hL hS k4, zlk_417 hL hS k5, zlk_454 hL hS k6, zlk_491 hL hS k7, zlk_528 hL hS k8, zlk_565 hL hS k9, zlk_626 hL hS k10, zlk_639 hL hS k11, zlk_652 hL hS k12, zlk_689 hL hS k13, zlk_714 hL hS k14, zlk_727 hL hS k15, zlk_752 hL hS k16, zlk_765 hL hS k17, zlk_778 hL hS k18, zlk_803 hL hS k19, zlk_828 hL hS k20, zlk_841 hL hS k21, zlk_854 hL hS k22, zlk_879 hL hS k23, zlk_904 hL hS k24, zlk_929 hL hS k25, zlk_966 hL hS k26, zlk_1003 hL hS k27, zlk_1028 hL hS k28, zlk_1041 hL hS k29, zlk_1054 hL hS k30, zlk_1067 hL hS k31, zlk_1080 hL hS k32, zlk_1093 hL hS k33, zlk_1118 hL hS k34, zlk_1131 hL hS k35, zlk_1168 hL hS k36, zlk_1193 hL hS k37, zlk_1206 hL hS k38, zlk_1231 hL hS k39, zlk_1268 hL hS k40, zlk_1293 hL hS k41, zlk_1318 hL hS k42, zlk_1331 hL hS k43, zlk_1356 hL hS k44, zlk_1381 hL hS k45, zlk_1406 hL hS k46⟩
