/-! Runs with fuel, the run without fuel, and that it goes on block by block. -/
def zadd (dc dx ds : Nat) (r : zR) : zR := match r with
  | some (v, sh, a, b, c, x, s) => some (v, sh, a, b, dc + c, dx + x, ds + s)
  | none => none
def zRET (v : Option Value) (sh : zSh) (a : zA) (b : zB) : zR := some (v, sh, a, b, 0, 0, 0)
def zCNT (n : Nat) (r : zR) : zR := zadd 1 0 n r
abbrev zEv : Type := Nat → Nat → zCf → zR
abbrev zPm : Type := List Value → zSh → zA → zB → Option (Int32 × zA × zB × Nat × Nat)
def zent (M : Nat → Option zMi) (f : zEv) (c d : Nat) (as : List Value) (sh : zSh) (a : zA) (b : zB) : zR := match M c with
  | none => none
  | some mi => cond (Nat.ble (zlin as).length mi.1.2.2.1) (f c d (0, zpad mi.1.2.2.1 (zlin as), [], sh, a, b)) none
def zCI (M : Nat → Option zMi) (f : zEv) (c d : Nat) (as : List Value) (sh : zSh) (a : zA) (b : zB) (k : Int32 → zA → zB → zR) : zR :=
  match zent M f c d as sh a b with
  | some (some (.int x), sh', a', b', 0, 0, 0) => if sh' = sh then k x a' b' else none
  | _ => none
def zCV (M : Nat → Option zMi) (f : zEv) (c d : Nat) (as : List Value) (sh : zSh) (a : zA) (b : zB) (k : zA → zB → zR) : zR :=
  match zent M f c d as sh a b with
  | some (none, sh', a', b', 0, 0, 0) => if sh' = sh then k a' b' else none
  | _ => none
def zCA (M : Nat → Option zMi) (f : zEv) (c : Nat) (as : List Value) (sh : zSh) (a : zA) (b : zB) (k : zSh → zA → zB → zR) : zR :=
  match zent M f c 31 as sh a b with
  | some (none, sh', a', b', dc, 0, ds) => if sh'.length = sh.length + dc then zadd dc 0 ds (k sh' a' b') else none
  | _ => none
def zPR (prm : zPm) (as : List Value) (sh : zSh) (a : zA) (b : zB) (k : Int32 → zA → zB → zR) : zR := match prm as sh a b with
  | some (x, a', b', dx, ds) => match k x a' b' with
    | some (v, sh2, a2, b2, 0, x2, s2) => some (v, sh2, a2, b2, 0, dx + x2, ds + s2)
    | _ => none
  | none => none
/-- one step, what is behind it by k, calls by f -/
def zS (M : Nat → Option zMi) (prm : zPm) (f : zEv) (k : zCf → zR) (t : zAct) : zR :=
  zint none (fun c x y => cond c x y) zRET (zCI M f) (zCV M f) (zCA M f) (zPR prm) zCNT k t
def zarr (mi : zMi) (c : zCf) : zCf := (c.1, zmk mi c.1 c.2.1, c.2.2)
def zact (mi : zMi) (d : Nat) (c : zCf) : zAct := zdec mi d c.1 c.2.1 c.2.2.1 c.2.2.2.1 c.2.2.2.2.1 c.2.2.2.2.2
def zev (M : Nat → Option zMi) (prm : zPm) : Nat → zEv
  | 0, _, _, _ => none
  | n + 1, k, d, c => match M k with
    | none => none
    | some mi => zS M prm (zev M prm n) (fun c' => zev M prm n k d (zarr mi c')) (zact mi d c)
def zle (x y : zR) : Prop := ∀ r, x = some r → y = some r
theorem zle_refl (x : zR) : zle x x := fun _ h => h
theorem zle_add {dc dx ds : Nat} {x y : zR} (h : zle x y) : zle (zadd dc dx ds x) (zadd dc dx ds y) := by
  intro r hr
  cases x with
  | none => cases hr
  | some z => rw [h z rfl]; exact hr
theorem zent_mono {M : Nat → Option zMi} {f g : zEv} (h : ∀ k d c, zle (f k d c) (g k d c)) (c d : Nat) (as : List Value) (sh : zSh) (a : zA) (b : zB) : zle (zent M f c d as sh a b) (zent M g c d as sh a b) := by
  unfold zent
  split
  · exact zle_refl _
  · cases Nat.ble _ _ with
    | true => exact h _ _ _
    | false => exact zle_refl _
theorem zbrs_mono {k l : zCf → zR} (h : ∀ c, zle (k c) (l c)) : ∀ (bs : List (Bool × Option zCf)) (d : Option zCf), zle (zbrs none (fun c x y => cond c x y) k bs d) (zbrs none (fun c x y => cond c x y) l bs d)
  | [], none => zle_refl _
  | [], some c => h c
  | (g, t) :: r, d => by
    intro z hz
    unfold zbrs at hz ⊢
    cases g with
    | true => cases t with
      | none => cases hz
      | some c => exact h c z hz
    | false => exact zbrs_mono h r d z hz
theorem zCI_mono {M : Nat → Option zMi} {f g : zEv} (h : ∀ k d c, zle (f k d c) (g k d c)) {k l : Int32 → zA → zB → zR} (hk : ∀ x a b, zle (k x a b) (l x a b)) (c d : Nat) (as : List Value) (sh : zSh) (a : zA) (b : zB) : zle (zCI M f c d as sh a b k) (zCI M g c d as sh a b l) := by
  intro r hr
  unfold zCI at hr ⊢
  split at hr
  · next x sh' a' b' e =>
    rw [zent_mono h _ _ _ _ _ _ _ e]
    split at hr
    · next hs => simp only [hs, if_true]; exact hk _ _ _ r hr
    · cases hr
  · cases hr
theorem zCV_mono {M : Nat → Option zMi} {f g : zEv} (h : ∀ k d c, zle (f k d c) (g k d c)) {k l : zA → zB → zR} (hk : ∀ a b, zle (k a b) (l a b)) (c d : Nat) (as : List Value) (sh : zSh) (a : zA) (b : zB) : zle (zCV M f c d as sh a b k) (zCV M g c d as sh a b l) := by
  intro r hr
  unfold zCV at hr ⊢
  split at hr
  · next sh' a' b' e =>
    rw [zent_mono h _ _ _ _ _ _ _ e]
    split at hr
    · next hs => simp only [hs, if_true]; exact hk _ _ r hr
    · cases hr
  · cases hr
theorem zCA_mono {M : Nat → Option zMi} {f g : zEv} (h : ∀ k d c, zle (f k d c) (g k d c)) {k l : zSh → zA → zB → zR} (hk : ∀ s a b, zle (k s a b) (l s a b)) (c : Nat) (as : List Value) (sh : zSh) (a : zA) (b : zB) : zle (zCA M f c as sh a b k) (zCA M g c as sh a b l) := by
  intro r hr
  unfold zCA at hr ⊢
  split at hr
  · next sh' a' b' dc ds e =>
    rw [zent_mono h _ _ _ _ _ _ _ e]
    split at hr
    · next hs => simp only [hs, if_true]; exact zle_add (hk _ _ _) r hr
    · cases hr
  · cases hr
theorem zPR_mono {prm : zPm} {k l : Int32 → zA → zB → zR} (hk : ∀ x a b, zle (k x a b) (l x a b)) (as : List Value) (sh : zSh) (a : zA) (b : zB) : zle (zPR prm as sh a b k) (zPR prm as sh a b l) := by
  intro r hr
  unfold zPR at hr ⊢
  split at hr
  · next x a' b' dx ds e =>
    split at hr
    · next v sh2 a2 b2 x2 s2 e2 =>
      rw [hk _ _ _ _ e2]
      exact hr
    · cases hr
  · cases hr
theorem zS_mono {M : Nat → Option zMi} {prm : zPm} {f g : zEv} (h : ∀ k d c, zle (f k d c) (g k d c)) {k l : zCf → zR} (hk : ∀ c, zle (k c) (l c)) (t : zAct) : zle (zS M prm f k t) (zS M prm g l t) := by
  obtain ⟨s, t⟩ := t
  unfold zS zint
  cases s with
  | false => exact zle_refl _
  | true =>
    simp only [cond_true]
    split
    · exact zbrs_mono hk _ _
    · exact zle_add (zbrs_mono hk _ _)
    · exact zCI_mono h (fun _ _ _ => hk _) _ _ _ _ _ _
    · exact zCV_mono h (fun _ _ => hk _) _ _ _ _ _ _
    · exact zCA_mono h (fun _ _ _ => hk _) _ _ _ _ _
    · exact zPR_mono (fun _ _ _ => hk _) _ _ _ _
    · exact zle_refl _
    · exact zle_refl _
theorem zev_step (M : Nat → Option zMi) (prm : zPm) : ∀ (n k d : Nat) (c : zCf), zle (zev M prm n k d c) (zev M prm (n + 1) k d c)
  | 0, _, _, _ => fun _ h => by cases h
  | n + 1, k, d, c => by
    show zle (zev M prm (n + 1) k d c) (zev M prm (n + 1 + 1) k d c)
    unfold zev
    cases M k with
    | none => exact zle_refl _
    | some mi => exact zS_mono (fun k d c => zev_step M prm n k d c) (fun c' => zev_step M prm n k d _) _
theorem zev_mono {M : Nat → Option zMi} {prm : zPm} {n m : Nat} (h : n ≤ m) (k d : Nat) (c : zCf) : zle (zev M prm n k d c) (zev M prm m k d c) := by
  induction h with
  | refl => exact zle_refl _
  | step _ ih => exact fun r hr => zev_step M prm _ k d c r (ih r hr)
noncomputable def zr (M : Nat → Option zMi) (prm : zPm) : zEv := fun k d c => @dite _ (∃ n, (zev M prm n k d c).isSome = true) (Classical.propDecidable _) (fun h => zev M prm (Classical.choose h) k d c) (fun _ => none)
theorem zr_of {M : Nat → Option zMi} {prm : zPm} {n k d : Nat} {c : zCf} : zle (zev M prm n k d c) (zr M prm k d c) := by
  intro r hr
  have h : ∃ n, (zev M prm n k d c).isSome = true := ⟨n, by rw [hr]; rfl⟩
  unfold zr
  rw [dif_pos h]
  obtain ⟨r2, h2⟩ := Option.isSome_iff_exists.mp (Classical.choose_spec h)
  have a1 := zev_mono (Nat.le_max_left n (Classical.choose h)) k d c r hr
  have a2 := zev_mono (Nat.le_max_right n (Classical.choose h)) k d c r2 h2
  rw [h2, ← a1, a2]
theorem zr_ex {M : Nat → Option zMi} {prm : zPm} {k d : Nat} {c : zCf} {r} (hr : zr M prm k d c = some r) : ∃ n, zev M prm n k d c = some r := by
  unfold zr at hr
  split at hr
  · exact ⟨_, hr⟩
  · cases hr
theorem zent_ex {M : Nat → Option zMi} {prm : zPm} {c d : Nat} {as : List Value} {sh : zSh} {a : zA} {b : zB} {r} (h : zent M (zr M prm) c d as sh a b = some r) : ∃ n, zent M (zev M prm n) c d as sh a b = some r := by
  unfold zent at h ⊢
  split at h
  · cases h
  · next mi hm =>
    cases hc : Nat.ble (zlin as).length mi.1.2.2.1 with
    | true => rw [hc] at h; exact zr_ex h
    | false => rw [hc] at h; cases h
theorem zbrs_ex {M : Nat → Option zMi} {prm : zPm} {k d : Nat} {mi : zMi} : ∀ {bs : List (Bool × Option zCf)} {e : Option zCf} {r}, zbrs none (fun c x y => cond c x y) (fun c' => zr M prm k d (zarr mi c')) bs e = some r → ∃ n, zbrs none (fun c x y => cond c x y) (fun c' => zev M prm n k d (zarr mi c')) bs e = some r
  | [], none, _, h => by cases h
  | [], some c, _, h => zr_ex h
  | (g, t) :: bs, e, _, h => by
    unfold zbrs at h ⊢
    cases g with
    | true => cases t with
      | none => cases h
      | some c => exact zr_ex h
    | false => exact zbrs_ex h
theorem zadd_ex {dc dx ds : Nat} {x : zR} {r} (h : zadd dc dx ds x = some r) : ∃ y, x = some y ∧ zadd dc dx ds (some y) = some r := by
  cases x with
  | none => cases h
  | some y => exact ⟨y, rfl, h⟩
theorem zS_ex {M : Nat → Option zMi} {prm : zPm} {k d : Nat} {mi : zMi} {t : zAct} {r} (h : zS M prm (zr M prm) (fun c' => zr M prm k d (zarr mi c')) t = some r) : ∃ n, zS M prm (zev M prm n) (fun c' => zev M prm n k d (zarr mi c')) t = some r := by
  obtain ⟨s, t⟩ := t
  unfold zS zint at h
  cases s with
  | false => cases h
  | true =>
    simp only [cond_true] at h
    have up : ∀ {n1 n2 : Nat}, (∀ k d c, zle (zev M prm n1 k d c) (zev M prm (max n1 n2) k d c)) := fun {n1 n2} k d c => zev_mono (Nat.le_max_left _ _) k d c
    have up2 : ∀ {n1 n2 : Nat}, (∀ k d c, zle (zev M prm n2 k d c) (zev M prm (max n1 n2) k d c)) := fun {n1 n2} k d c => zev_mono (Nat.le_max_right _ _) k d c
    split at h
    · next bs e =>
      obtain ⟨n, hn⟩ := zbrs_ex h
      exact ⟨n, by unfold zS zint; simpa only [cond_true] using hn⟩
    · next bs e c =>
      obtain ⟨y, h1, h2⟩ := zadd_ex h
      obtain ⟨n, hn⟩ := zbrs_ex h1
      refine ⟨n, ?_⟩
      unfold zS zint
      simp only [cond_true]
      show zadd 1 0 c _ = _
      rw [hn]
      exact h2
    · unfold zCI at h
      split at h
      · next x sh' a' b' e =>
        obtain ⟨n1, h1⟩ := zent_ex e
        split at h
        · next hs =>
          obtain ⟨n2, h2⟩ := zr_ex h
          refine ⟨max n1 n2, ?_⟩
          unfold zS zint
          simp only [cond_true]
          unfold zCI
          rw [zent_mono (up (n2 := n2)) _ _ _ _ _ _ _ h1]
          simp only [hs, if_true]
          exact up2 _ _ _ _ h2
        · cases h
      · cases h
    · unfold zCV at h
      split at h
      · next sh' a' b' e =>
        obtain ⟨n1, h1⟩ := zent_ex e
        split at h
        · next hs =>
          obtain ⟨n2, h2⟩ := zr_ex h
          refine ⟨max n1 n2, ?_⟩
          unfold zS zint
          simp only [cond_true]
          unfold zCV
          rw [zent_mono (up (n2 := n2)) _ _ _ _ _ _ _ h1]
          simp only [hs, if_true]
          exact up2 _ _ _ _ h2
        · cases h
      · cases h
    · unfold zCA at h
      split at h
      · next sh' a' b' dc ds e =>
        obtain ⟨n1, h1⟩ := zent_ex e
        split at h
        case isFalse => cases h
        next hs =>
        obtain ⟨y, h3, h4⟩ := zadd_ex h
        obtain ⟨n2, h2⟩ := zr_ex h3
        refine ⟨max n1 n2, ?_⟩
        unfold zS zint
        simp only [cond_true]
        unfold zCA
        rw [zent_mono (up (n2 := n2)) _ _ _ _ _ _ _ h1]
        simp only [hs, if_true]
        show zadd dc 0 ds (zev M prm (max n1 n2) k d (zarr mi _)) = _
        rw [up2 (n1 := n1) _ _ _ _ h2]
        exact h4
      · cases h
    · unfold zPR at h
      split at h
      · next x a' b' dx ds e =>
        split at h
        · next v sh2 a2 b2 x2 s2 e2 =>
          obtain ⟨n, hn⟩ := zr_ex e2
          refine ⟨n, ?_⟩
          unfold zS zint
          simp only [cond_true]
          unfold zPR
          rw [e]
          dsimp only
          rw [hn]
          exact h
        · cases h
      · cases h
    · cases h
    · next v sh a b => exact ⟨0, h⟩
theorem zext {x y : zR} (h : zle x y) (h2 : zle y x) : x = y := by
  cases x with
  | some r => exact (h r rfl).symm
  | none => cases y with
    | none => rfl
    | some r => exact h2 r rfl
theorem zr_eq {M : Nat → Option zMi} {prm : zPm} {k d : Nat} {mi : zMi} (hm : M k = some mi) (c : zCf) : zr M prm k d c = zS M prm (zr M prm) (fun c' => zr M prm k d (zarr mi c')) (zact mi d c) := by
  refine zext (fun r h => ?_) (fun r h => ?_)
  · obtain ⟨n, hn⟩ := zr_ex h
    cases n with
    | zero => cases hn
    | succ n =>
      unfold zev at hn
      rw [hm] at hn
      exact zS_mono (fun k d c => zr_of) (fun c' => zr_of) _ r hn
  · obtain ⟨n, hn⟩ := zS_ex h
    refine zr_of (n := n + 1) r ?_
    unfold zev
    rw [hm]
    exact hn
/-- block by block -/
theorem zr_run {M : Nat → Option zMi} {prm : zPm} {k d : Nat} {mi : zMi} (hm : M k = some mi) : ∀ (n : Nat) (c : zCf), zr M prm k d c = zrun none (fun c x y => cond c x y) zRET (zCI M (zr M prm)) (zCV M (zr M prm)) (zCA M (zr M prm)) (zPR prm) zCNT mi d (zr M prm k d) n c
  | 0, c => rfl
  | n + 1, (pc, ls, st, sh, a, b) => by
    rw [zr_eq hm]
    unfold zrun zS zact
    congr 1
    funext c'
    unfold zarr zmk
    split
    · next e => rw [e]; exact zr_run hm n c'
    · next l e => rw [e]
