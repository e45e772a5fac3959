/-! How my machine's memory lies in the heap. -/
/-- the tables' class numbers; the arrays' classes by kind; the script's cell, length, values; from where on cells are new -/
abbrev zGl : Type := va_G × (Nat → ClassId) × Nat × Nat × (Nat → Int32) × Nat
def zSZ (g : zGl) : Nat := g.2.2.2.2.2
def zAr (g : zGl) : Nat → Prop := fun q => zSZ g ≤ q
def ztys (g : zGl) : List (ClassId × FieldType) := [(g.2.1 20, .int), (g.2.1 21, .boolean), (g.2.1 22, .long), (g.2.1 23, .object RX3), (g.2.1 24, .object RX6)]
def zad (g : zGl) (q : Nat) : Nat := if q = 0 then g.2.2.1 else zSZ g + (q - 1)
def zvm (g : zGl) : Value → Value
  | .ref q => .ref (zad g q)
  | v => v
def zfv (g : zGl) (t : FieldType) (x : Int32) (y : Int64) (r : Option Nat) : Value := match t with
  | .int => .int x
  | .boolean => .int x
  | .long => .long y
  | _ => va_rf (r.map (zad g))
def zfl (g : zGl) (ci q : Nat) (rs : List (Option Nat)) (a : zA) (b : zB) : List Value := (List.range (zsz ci)).map fun k => zfv g (zty ci k) (a q k) (b q k) (rs[k]?).join
def zce (g : zGl) (c : Nat × Nat × List (Option Nat)) (q : Nat) (a : zA) (b : zB) : va_E := match c.1 with
  | 20 => .inl (g.2.1 20, c.2.1, .inl (a q))
  | 21 => .inl (g.2.1 21, c.2.1, .inl (a q))
  | 22 => .inl (g.2.1 22, c.2.1, .inr (.inl (b q)))
  | 23 => .inl (g.2.1 23, c.2.1, .inr (.inr (.inr (.inr (fun j => ((c.2.2[j]?).join).map (zad g))))))
  | 24 => .inl (g.2.1 24, c.2.1, .inr (.inr (.inr (.inr (fun j => ((c.2.2[j]?).join).map (zad g))))))
  | ci => .inr (ci, zfl g ci q c.2.2 a b)
def zws (g : zGl) (sh : zSh) (a : zA) (b : zB) : va_W := (List.range (sh.length - 1)).map fun i => (zSZ g + i, zce g (sh.getD (i + 1) (0, 0, [])) (i + 1) a b)
theorem zws_at {g : zGl} {sh : zSh} {a : zA} {b : zB} {i : Nat} : (zws g sh a b)[i]? = if i < sh.length - 1 then some (zSZ g + i, zce g (sh.getD (i + 1) (0, 0, [])) (i + 1) a b) else none := by
  unfold zws
  rw [List.getElem?_map]
  by_cases h : i < sh.length - 1
  · rw [if_pos h, List.getElem?_range h]; rfl
  · rw [if_neg h, List.getElem?_eq_none (by simpa using h)]; rfl
theorem zws_get {g : zGl} {sh : zSh} {a : zA} {b : zB} {q : Nat} {c : Nat × Nat × List (Option Nat)} (h : sh[q]? = some c) (hq : q ≠ 0) : (zws g sh a b)[q - 1]? = some (zad g q, zce g c q a b) := by
  have hl : q < sh.length := (List.getElem?_eq_some_iff.mp h).1
  rw [zws_at, if_pos (by omega), show q - 1 + 1 = q by omega]
  unfold zad
  rw [if_neg hq]
  simp [List.getD, h]
theorem zws_len {g : zGl} {sh : zSh} {a : zA} {b : zB} : (zws g sh a b).length = sh.length - 1 := by simp [zws]
theorem zws_D (g : zGl) (sh : zSh) (a : zA) (b : zB) : va_D (zAr g) (zws g sh a b) := by
  refine ⟨fun i j p q hi hj h => ?_, fun k q hk => ?_⟩
  · rw [zws_at] at hi hj
    split at hi
    · split at hj
      · cases hi; cases hj
        simpa using h
      · cases hj
    · cases hi
  · rw [zws_at] at hk
    split at hk
    · cases hk
      exact Nat.le_add_right _ _
    · cases hk
/-- another memory: cells are the same but one -/
theorem zws_set {g : zGl} {sh sh' : zSh} {a a' : zA} {b b' : zB} {q : Nat} {c : Nat × Nat × List (Option Nat)} {x : va_E} (hq : q ≠ 0) (hl : sh'.length = sh.length) (h : sh'[q]? = some c) (hx : zce g c q a' b' = x)
    (ho : ∀ (i : Nat) (d : Nat × Nat × List (Option Nat)), i ≠ q → sh[i]? = some d → i ≠ 0 → sh'[i]? = some d ∧ zce g d i a' b' = zce g d i a b) : (zws g sh a b).set (q - 1) (zad g q, x) = zws g sh' a' b' := by
  have hql : q < sh'.length := (List.getElem?_eq_some_iff.mp h).1
  apply List.ext_getElem?
  intro i
  rw [List.getElem?_set, zws_at, zws_at, hl]
  by_cases hi : q - 1 = i
  · subst hi
    rw [if_pos rfl, if_pos (by rw [zws_len]; omega), if_pos (by omega), show q - 1 + 1 = q by omega]
    simp only [List.getD, h, Option.getD_some, hx]
    unfold zad
    rw [if_neg hq]
  · rw [if_neg hi]
    by_cases hk : i < sh.length - 1
    · rw [if_pos hk, if_pos hk]
      have hd : sh[i + 1]? = some (sh[i + 1]'(by omega)) := List.getElem?_eq_getElem (by omega)
      obtain ⟨h1, h2⟩ := ho (i + 1) _ (by omega) hd (by omega)
      simp only [List.getD, hd, h1, Option.getD_some, h2]
    · rw [if_neg hk, if_neg hk]
theorem zws_push {g : zGl} {sh : zSh} {a a' : zA} {b b' : zB} {c : Nat × Nat × List (Option Nat)} {x : va_E} (h0 : 0 < sh.length) (hx : zce g c sh.length a' b' = x)
    (ho : ∀ (i : Nat) (d : Nat × Nat × List (Option Nat)), i < sh.length → i ≠ 0 → zce g d i a' b' = zce g d i a b) : zws g sh a b ++ [(zad g sh.length, x)] = zws g (sh ++ [c]) a' b' := by
  apply List.ext_getElem?
  intro i
  rw [zws_at]
  have e1 : (sh ++ [c]).length - 1 = sh.length := by simp
  rw [e1]
  by_cases hi : i < sh.length - 1
  · rw [List.getElem?_append_left (by rw [zws_len]; exact hi), zws_at, if_pos hi, if_pos (by omega)]
    have : (sh ++ [c]).getD (i + 1) (0, 0, []) = sh.getD (i + 1) (0, 0, []) := by
      simp only [List.getD]
      rw [List.getElem?_append_left (by omega)]
    rw [this, ho (i + 1) _ (by omega) (by omega)]
  · by_cases hi2 : i = sh.length - 1
    · subst hi2
      rw [List.getElem?_append_right (by rw [zws_len]; exact Nat.le_refl _), zws_len, if_pos (by omega), show sh.length - 1 + 1 = sh.length by omega]
      have : (sh ++ [c]).getD sh.length (0, 0, []) = c := by simp [List.getD]
      rw [this, hx]
      simp only [Nat.sub_self, List.getElem?_cons_zero]
      unfold zad
      rw [if_neg (by omega)]
    · rw [if_neg (by omega), List.getElem?_eq_none (by simp [zws_len]; omega)]
def zInv (g : zGl) (sh : zSh) (a : zA) : Prop := sh[0]? = some (25, 0, []) ∧ (∀ j, j < g.2.2.2.1 → a 0 j = g.2.2.2.2.1 j) ∧ a 0 1000000 = Int32.ofNat g.2.2.2.1
theorem zkd_at {sh : zSh} {q k : Nat} (h : zkd sh q = k) (hk : k ≠ 99) : ∃ n rs, sh[q]? = some (k, n, rs) := by
  unfold zkd at h
  split at h
  · next c e =>
    obtain ⟨x, n, rs⟩ := c
    exact ⟨n, rs, by rw [e]; cases h; rfl⟩
  · exact absurd h.symm hk
theorem zokc_at {sh : zSh} {q k : Nat} (h : zokc sh q k = true) (hk : k ≠ 99) : ∃ n rs, sh[q]? = some (k, n, rs) := zkd_at (Nat.eq_of_beq_eq_true h) hk
theorem zne0 {g : zGl} {sh : zSh} {a : zA} (hi : zInv g sh a) {q : Nat} {k n : Nat} {rs : List (Option Nat)} (h : sh[q]? = some (k, n, rs)) (hk : k ≠ 25) : q ≠ 0 := by
  intro e
  subst e
  rw [hi.1] at h
  cases h
  exact hk rfl
theorem zInv_up {g : zGl} {sh : zSh} {a : zA} (hi : zInv g sh a) {q j : Nat} {x : Int32} (hq : q ≠ 0) : zInv g sh (zup a q j x) := by
  refine ⟨hi.1, fun i h => ?_, ?_⟩
  · unfold zup
    rw [if_neg (fun h => hq h.1.symm)]
    exact hi.2.1 i h
  · unfold zup
    rw [if_neg (fun h => hq h.1.symm)]
    exact hi.2.2
theorem zce_A {g : zGl} {d : Nat × Nat × List (Option Nat)} {i : Nat} {a a' : zA} {b b' : zB} (ha : ∀ j, a' i j = a i j) (hb : ∀ j, b' i j = b i j) : zce g d i a' b' = zce g d i a b := by
  have e1 : a' i = a i := funext ha
  have e2 : b' i = b i := funext hb
  unfold zce zfl
  rw [e1, e2]
theorem zfl_at {g : zGl} {ci q k : Nat} {rs : List (Option Nat)} {a : zA} {b : zB} (hk : k < zsz ci) : (zfl g ci q rs a b)[k]? = some (zfv g (zty ci k) (a q k) (b q k) (rs[k]?).join) := by
  unfold zfl
  rw [List.getElem?_map, List.getElem?_range hk]
  rfl
theorem zfl_len {g : zGl} {ci q : Nat} {rs : List (Option Nat)} {a : zA} {b : zB} : (zfl g ci q rs a b).length = zsz ci := by simp [zfl]
/-- a field's change -/
theorem zfl_set {g : zGl} {ci q k : Nat} {rs rs' : List (Option Nat)} {a a' : zA} {b b' : zB} {v : Value} (hk : k < zsz ci) (hv : zfv g (zty ci k) (a' q k) (b' q k) (rs'[k]?).join = v)
    (ho : ∀ j, j ≠ k → a' q j = a q j ∧ b' q j = b q j ∧ rs'[j]? = rs[j]?) : (zfl g ci q rs a b).set k v = zfl g ci q rs' a' b' := by
  apply List.ext_getElem?
  intro i
  rw [List.getElem?_set]
  by_cases hi : k = i
  · subst hi
    rw [if_pos rfl, if_pos (by rw [zfl_len]; exact hk), zfl_at hk, hv]
  · rw [if_neg hi]
    by_cases h2 : i < zsz ci
    · obtain ⟨h3, h4, h5⟩ := ho i (fun e => hi e.symm)
      rw [zfl_at h2, zfl_at h2, h3, h4, h5]
    · rw [List.getElem?_eq_none (by rw [zfl_len]; omega), List.getElem?_eq_none (by rw [zfl_len]; omega)]
theorem zce_obj {g : zGl} {ci n q : Nat} {rs : List (Option Nat)} {a : zA} {b : zB} (h : ci < 10) : zce g (ci, n, rs) q a b = .inr (ci, zfl g ci q rs a b) := by
  match ci, h with
  | 0, _ => rfl
  | 1, _ => rfl
  | 2, _ => rfl
  | 3, _ => rfl
  | 4, _ => rfl
  | 5, _ => rfl
  | 6, _ => rfl
  | 7, _ => rfl
  | 8, _ => rfl
  | 9, _ => rfl
-- the locals
def zLV (g : zGl) (nL : Nat) (ls : List Value) (A : Array Slot) : Prop := A.size = nL ∧ lv_wf A ∧ ∀ i v, zget ls i = v → v ≠ .retAddr 0 → A[i]? = some (.val (zvm g v))
theorem zget_set (ls : List Value) (i : Nat) (v : Value) (j : Nat) : zget (zset ls i v) j = zget ls j ∨ (j = i ∧ zget (zset ls i v) j = v) := by
  induction ls generalizing i j with
  | nil => exact .inl rfl
  | cons x t ih =>
    cases i with
    | zero => cases j with
      | zero => exact .inr ⟨rfl, rfl⟩
      | succ j => exact .inl rfl
    | succ i => cases j with
      | zero => exact .inl rfl
      | succ j =>
        rcases ih i j with h | ⟨h1, h2⟩
        · exact .inl h
        · exact .inr ⟨by rw [h1], h2⟩
theorem zget_set_ne (ls : List Value) {i : Nat} (v : Value) {j : Nat} (h : j ≠ i) : zget (zset ls i v) j = zget ls j := (zget_set ls i v j).resolve_right fun q => h q.1
theorem zget_set_same (ls : List Value) (i : Nat) (v : Value) : zget (zset ls i v) i = v ∨ zget (zset ls i v) i = .retAddr 0 := by
  induction ls generalizing i with
  | nil => exact .inr rfl
  | cons x t ih => cases i with
    | zero => exact .inl rfl
    | succ i => exact ih i
theorem zget_mkF (l : List Nat) : ∀ (k : Nat) (ls : List Value) (i : Nat), zget (zmkF l k ls) i = zget ls i ∨ zget (zmkF l k ls) i = .retAddr 0
  | _, [], _ => .inl rfl
  | k, v :: t, 0 => by
    show cond (zmem l k) v (.retAddr 0) = v ∨ cond (zmem l k) v (.retAddr 0) = .retAddr 0
    cases zmem l k with
    | true => exact .inl rfl
    | false => exact .inr rfl
  | k, v :: t, i + 1 => zget_mkF l (k + 1) t i
theorem zLV_mk {g : zGl} {nL : Nat} {ls : List Value} {A : Array Slot} (mi : zMi) (pc : Nat) (h : zLV g nL ls A) : zLV g nL (zmk mi pc ls) A := by
  refine ⟨h.1, h.2.1, fun i v hv hne => ?_⟩
  unfold zmk at hv
  split at hv
  · exact h.2.2 i v hv hne
  · next l _ =>
    rcases zget_mkF l 0 ls i with e | e
    · exact h.2.2 i v (e.symm.trans hv) hne
    · exact absurd (hv.symm.trans e) hne
def zkn (g : zGl) (nL : Nat) (ls : List Value) : List (Nat × Value) := (List.range nL).filterMap fun i => if zget ls i = .retAddr 0 then none else some (i, zvm g (zget ls i))
theorem zkn_in {g : zGl} {nL : Nat} {ls : List Value} {i : Nat} (h : i < nL) (hne : zget ls i ≠ .retAddr 0) : (i, zvm g (zget ls i)) ∈ zkn g nL ls := List.mem_filterMap.mpr ⟨i, List.mem_range.mpr h, by rw [if_neg hne]⟩
theorem zLV_has {g : zGl} {nL : Nat} {ls : List Value} {A : Array Slot} (h : zLV g nL ls A) : lv_has A nL (zkn g nL ls) := by
  refine ⟨h.1, h.2.1, fun q hq => ?_⟩
  obtain ⟨i, hi, e⟩ := List.mem_filterMap.mp hq
  split at e
  · cases e
  · next hne => cases e; exact h.2.2 i _ rfl hne
theorem zvm_cat {g : zGl} (v : Value) : (zvm g v).category = v.category := by cases v <;> rfl
theorem zkil_get (ls : List Value) (i j : Nat) : zget (zkil ls i) j = zget ls j ∨ zget (zkil ls i) j = .retAddr 0 := by
  unfold zkil
  split
  · exact .inl rfl
  · split
    · rcases zget_set ls _ (.retAddr 0) j with h | h
      · exact .inl h
      · exact .inr h.2
    · rcases zget_set ls _ (.retAddr 0) j with h | h
      · exact .inl h
      · exact .inr h.2
    · exact .inl rfl
theorem zkil_long (ls : List Value) {i j : Nat} (h : j + 1 = i) (hc : (zget ls j).category = 2) : zget (zkil ls i) j = .retAddr 0 := by
  subst h
  unfold zkil
  have hz : ∀ w, zget (zset ls j w) j = w ∨ zget (zset ls j w) j = .retAddr 0 := fun w => zget_set_same ls j w
  cases hv : zget ls j with
  | long x => simp only [hv]; rcases hz (.retAddr 0) with h | h <;> exact h
  | double x => simp only [hv]; rcases hz (.retAddr 0) with h | h <;> exact h
  | _ => rw [hv] at hc; simp [Value.category] at hc
theorem zLV_st1 {g : zGl} {nL : Nat} {ls : List Value} {A A' : Array Slot} {i : Nat} {v : Value} (h : zLV g nL ls A)
    (h' : lv_has A' nL ((i, zvm g v) :: (zkn g nL ls).filter (fun q => !(q.1 == i) && !(q.1 + 1 == i && q.2.category == 2)))) : zLV g nL (zst1 ls i v) A' := by
  refine ⟨h'.1, h'.2.1, fun j w hw hne => ?_⟩
  unfold zst1 at hw
  by_cases hj : j = i
  · subst hj
    rcases zget_set_same (zkil ls j) j v with e | e
    · rw [e] at hw; subst hw; exact h'.2.2 (j, zvm g v) List.mem_cons_self
    · exact absurd (hw.symm.trans e) hne
  · rw [zget_set_ne _ _ hj] at hw
    rcases zkil_get ls i j with e | e
    · rw [e] at hw
      subst hw
      have hl : j < nL := by
        have := h.2.2 j _ rfl hne
        rw [← h.1]
        exact lv_lt this
      refine h'.2.2 (j, zvm g (zget ls j)) (List.mem_cons_of_mem _ (List.mem_filter.mpr ⟨zkn_in hl hne, ?_⟩))
      have hk : ¬ (j + 1 = i ∧ (zget ls j).category = 2) := fun q => hne (e.symm.trans (zkil_long ls q.1 q.2))
      simp only [zvm_cat, Bool.and_eq_true, Bool.not_eq_true', beq_eq_false_iff_ne, ne_eq, Bool.and_eq_false_iff]
      refine ⟨hj, ?_⟩
      by_cases h1 : j + 1 = i
      · exact .inr fun q => hk ⟨h1, q⟩
      · exact .inl h1
    · exact absurd (hw.symm.trans e) hne
theorem zLV_st2 {g : zGl} {nL : Nat} {ls : List Value} {A A' : Array Slot} {i : Nat} {v : Value} (h : zLV g nL ls A)
    (h' : lv_has A' nL ((i, zvm g v) :: (zkn g nL ls).filter (fun q => !(q.1 == i) && (!(q.1 == i + 1) && !(q.1 + 1 == i && q.2.category == 2))))) : zLV g nL (zst2 ls i v) A' := by
  refine ⟨h'.1, h'.2.1, fun j w hw hne => ?_⟩
  unfold zst2 at hw
  by_cases hj2 : j = i + 1
  · subst hj2
    rcases zget_set_same (zset (zkil ls i) i v) (i + 1) (.retAddr 0) with e | e <;> exact absurd (hw.symm.trans e) hne
  rw [zget_set_ne _ _ hj2] at hw
  by_cases hj : j = i
  · subst hj
    rcases zget_set_same (zkil ls j) j v with e | e
    · rw [e] at hw; subst hw; exact h'.2.2 (j, zvm g v) List.mem_cons_self
    · exact absurd (hw.symm.trans e) hne
  · rw [zget_set_ne _ _ hj] at hw
    rcases zkil_get ls i j with e | e
    · rw [e] at hw
      subst hw
      have hl : j < nL := by
        have := h.2.2 j _ rfl hne
        rw [← h.1]
        exact lv_lt this
      refine h'.2.2 (j, zvm g (zget ls j)) (List.mem_cons_of_mem _ (List.mem_filter.mpr ⟨zkn_in hl hne, ?_⟩))
      have hk : ¬ (j + 1 = i ∧ (zget ls j).category = 2) := fun q => hne (e.symm.trans (zkil_long ls q.1 q.2))
      simp only [zvm_cat, Bool.and_eq_true, Bool.not_eq_true', beq_eq_false_iff_ne, ne_eq, Bool.and_eq_false_iff]
      refine ⟨hj, hj2, ?_⟩
      by_cases h1 : j + 1 = i
      · exact .inr fun q => hk ⟨h1, q⟩
      · exact .inl h1
    · exact absurd (hw.symm.trans e) hne
theorem zLV_lin {g : zGl} (as : List Value) : ∀ (k i : Nat), zget (zlin as) i ≠ .retAddr 0 → (k + i, zvm g (zget (zlin as) i)) ∈ lv_args k (as.map (zvm g)) := by
  induction as with
  | nil => intro k i h; exact absurd rfl h
  | cons v t ih =>
    intro k i h
    simp only [List.map_cons, lv_args, zvm_cat]
    unfold zlin at h ⊢
    by_cases hc : v.category = 2
    · rw [show Nat.beq v.category 2 = true by rw [hc]; rfl, cond_true] at h ⊢
      rw [if_pos hc]
      match i, h with
      | 0, h => exact List.mem_cons_self
      | 1, h => exact absurd rfl h
      | i + 2, h =>
        have := ih (k + 2) i h
        rw [show k + 2 + i = k + (i + 2) by omega] at this
        exact List.mem_cons_of_mem _ this
    · rw [show Nat.beq v.category 2 = false by rcases lv_cat v with e | e; rw [e]; rfl; exact absurd e hc, cond_false] at h ⊢
      rw [if_neg hc]
      match i, h with
      | 0, h => exact List.mem_cons_self
      | i + 1, h =>
        have := ih (k + 1) i h
        rw [show k + 1 + i = k + (i + 1) by omega] at this
        exact List.mem_cons_of_mem _ this
theorem zget_pad (n : Nat) (l : List Value) (i : Nat) : zget (zpad n l) i = zget l i ∨ zget (zpad n l) i = .retAddr 0 := by
  unfold zpad
  induction l generalizing i n with
  | nil =>
    right
    simp only [List.nil_append, List.length_nil, Nat.sub_zero]
    induction n generalizing i with
    | zero => rfl
    | succ n ih => cases i with
      | zero => rfl
      | succ i => exact ih i
  | cons v t ih => cases i with
    | zero => exact .inl rfl
    | succ i =>
      have := ih (n - 1) i
      rw [show n - 1 - t.length = n - (v :: t).length by simp; omega] at this
      exact this
theorem zlin_len {g : zGl} (as : List Value) : (lg_sl (as.map (zvm g))).length = (zlin as).length := by
  induction as with
  | nil => rfl
  | cons v t ih =>
    simp only [lg_sl, List.map_cons, List.flatMap_cons, List.length_append, zvm_cat] at ih ⊢
    unfold zlin
    by_cases hc : v.category = 2
    · rw [show Nat.beq v.category 2 = true by rw [hc]; rfl, cond_true, if_pos hc]
      simp only [List.length_cons, List.length_nil] at ih ⊢
      omega
    · rw [show Nat.beq v.category 2 = false by rcases lv_cat v with e | e; rw [e]; rfl; exact absurd e hc, cond_false, if_neg hc]
      simp only [List.length_cons, List.length_nil] at ih ⊢
      omega
theorem zLV_entry {g : zGl} {n : Nat} {as : List Value} (h : (zlin as).length ≤ n) : zLV g n (zpad n (zlin as)) ((lg_sl (as.map (zvm g)) ++ List.replicate (n - (lg_sl (as.map (zvm g))).length) Slot.unset).toArray) := by
  have hl := lv_entry (as.map (zvm g)) (n := n) (by rw [zlin_len]; exact h)
  refine ⟨hl.1, hl.2.1, fun i v hv hne => ?_⟩
  rcases zget_pad n (zlin as) i with e | e
  · rw [e] at hv
    subst hv
    have := zLV_lin (g := g) as 0 i hne
    rw [Nat.zero_add] at this
    exact hl.2.2 _ this
  · exact absurd (hv.symm.trans e) hne
