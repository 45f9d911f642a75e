/-! CALLS 16: seats: the search by itself -/
def yu1 (u : Int32) (q : Nat) : Int32 := u ||| (1 <<< (zi q &&& 31))
def ylf (c s : Nat) : Option (Nat × Nat) → Option (Nat × Nat)
  | none => some (c, s)
  | some (c', s') => if s < s' then some (c, s) else some (c', s')
def ypn (s : Nat) : Option (Nat × Nat) → Bool
  | none => true
  | some (_, s') => decide (s < s')
def yrS (np : Nat) (w : Nat → Nat → Nat) : Nat → Nat → Int32 → Nat → Nat → Option (Nat × Nat) → Option (Nat × Nat)
  | 0, _, _, c, s, st => ylf c s st
  | m + 1, i, u, c, s, st => (List.range np).foldl (fun st q => if q = i ∨ yb_t u q = true then st else yrS np w m (i + 1) (yu1 u q) (10 * c + q) (s + w i q) st) st
def ycS (np : Nat) (w : Nat → Nat → Nat) : Nat → Nat → Int32 → Nat → Nat → Option (Nat × Nat) → Option (Nat × Nat)
  | 0, _, _, c, s, st => ylf c s st
  | m + 1, i, u, c, s, st => bif ypn s st then (List.range np).foldl (fun st q => if q = i ∨ yb_t u q = true then st else ycS np w m (i + 1) (yu1 u q) (10 * c + q) (s + w i q) st) st else st
theorem zl_same {α : Type} {f : α → Nat → α} {a : α} (h : ∀ q, f a q = a) : ∀ l : List Nat, l.foldl f a = a
  | [] => rfl
  | q :: l => by
    show l.foldl f (f a q) = a
    rw [h q]; exact zl_same h l
theorem yrS_p {np : Nat} {w : Nat → Nat → Nat} {c' s' : Nat} : ∀ (m i : Nat) (u : Int32) (c s : Nat), s' ≤ s → yrS np w m i u c s (some (c', s')) = some (c', s')
  | 0, i, u, c, s, h => if_neg (by omega)
  | m + 1, i, u, c, s, h => zl_same (fun q => by
    by_cases z : q = i ∨ yb_t u q = true
    · exact if_pos z
    · exact (if_neg z).trans (yrS_p m (i + 1) (yu1 u q) (10 * c + q) (s + w i q) (by omega))) _
theorem ycS_e {np : Nat} {w : Nat → Nat → Nat} : ∀ (m i : Nat) (u : Int32) (c s : Nat) (st : Option (Nat × Nat)), ycS np w m i u c s st = yrS np w m i u c s st
  | 0, i, u, c, s, st => rfl
  | m + 1, i, u, c, s, st => by
    have e : (List.range np).foldl (fun st q => if q = i ∨ yb_t u q = true then st else ycS np w m (i + 1) (yu1 u q) (10 * c + q) (s + w i q) st) st = yrS np w (m + 1) i u c s st := zl_fc (fun q a _ => by
      by_cases z : q = i ∨ yb_t u q = true
      · rw [if_pos z, if_pos z]
      · rw [if_neg z, if_neg z]; exact ycS_e m (i + 1) (yu1 u q) (10 * c + q) (s + w i q) a) st
    show (bif ypn s st then _ else st) = _
    rw [e]
    cases st with
    | none => rfl
    | some y =>
      obtain ⟨c', s'⟩ := y
      by_cases z : s < s'
      · show (bif decide (s < s') then _ else _) = _
        rw [decide_eq_true z, cond_true]
      · show (bif decide (s < s') then _ else _) = _
        rw [decide_eq_false z, cond_false]
        exact (yrS_p (m + 1) i u c s (by omega)).symm
theorem zl_some {α : Type} {f : Option α → Nat → Option α} (h : ∀ a q, a ≠ none → f a q ≠ none) : ∀ (l : List Nat) (a : Option α), a ≠ none → l.foldl f a ≠ none
  | [], a, ha => ha
  | q :: l, a, ha => zl_some h l (f a q) (h a q ha)
theorem zl_some2 {α : Type} {f : Option α → Nat → Option α} (h : ∀ a q, a ≠ none → f a q ≠ none) {x : Nat} (hx : ∀ a, f a x ≠ none) : ∀ (l : List Nat) (a : Option α), x ∈ l → l.foldl f a ≠ none
  | [], a, hm => by cases hm
  | q :: l, a, hm => by
    rcases List.mem_cons.mp hm with z | z
    · subst z; exact zl_some h l _ (hx a)
    · exact zl_some2 h hx l _ z
theorem yrS_s {np : Nat} {w : Nat → Nat → Nat} : ∀ (m i : Nat) (u : Int32) (c s : Nat) (st : Option (Nat × Nat)), st ≠ none → yrS np w m i u c s st ≠ none
  | 0, i, u, c, s, st, h => by
    cases st with
    | none => exact absurd rfl h
    | some y =>
      obtain ⟨c', s'⟩ := y
      show (if s < s' then some (c, s) else some (c', s')) ≠ none
      by_cases z : s < s'
      · rw [if_pos z]; exact fun y => by cases y
      · rw [if_neg z]; exact fun y => by cases y
  | m + 1, i, u, c, s, st, h => zl_some (fun a q ha => by
    by_cases z : q = i ∨ yb_t u q = true
    · rw [if_pos z]; exact ha
    · rw [if_neg z]; exact yrS_s m (i + 1) (yu1 u q) (10 * c + q) (s + w i q) a ha) _ st h
theorem ylf_s {c s : Nat} {st : Option (Nat × Nat)} : ylf c s st ≠ none := by
  cases st with
  | none => exact fun y => by cases y
  | some y =>
    obtain ⟨c', s'⟩ := y
    show (if s < s' then some (c, s) else some (c', s')) ≠ none
    by_cases z : s < s'
    · rw [if_pos z]; exact fun y => by cases y
    · rw [if_neg z]; exact fun y => by cases y
theorem yrS_n {np : Nat} {w : Nat → Nat → Nat} (h2 : 2 ≤ np) (h6 : np ≤ 6) : ∀ (m i : Nat) (u : Int32) (c s : Nat) (st : Option (Nat × Nat)), i + (m + 1) = np → (∀ j, (j = 0 ∨ i < j) → j < 32 → yb_t u j = false) → yrS np w (m + 1) i u c s st ≠ none
  | m, i, u, c, s, st, hi, hu => by
    have pres : ∀ (a : Option (Nat × Nat)) (q : Nat), a ≠ none → (if q = i ∨ yb_t u q = true then a else yrS np w m (i + 1) (yu1 u q) (10 * c + q) (s + w i q) a) ≠ none := fun a q ha => by
      by_cases z : q = i ∨ yb_t u q = true
      · rw [if_pos z]; exact ha
      · rw [if_neg z]; exact yrS_s m _ _ _ _ a ha
    match m, hi, pres with
    | 0, hi, pres =>
      refine zl_some2 pres (x := 0) (fun a => ?_) _ st (List.mem_range.mpr (by omega))
      rw [if_neg (fun z => by rcases z with z | z; omega; rw [hu 0 (Or.inl rfl) (by decide)] at z; cases z)]
      exact ylf_s
    | m + 1, hi, pres =>
      refine zl_some2 pres (x := i + 1) (fun a => ?_) _ st (List.mem_range.mpr (by omega))
      rw [if_neg (fun z => by rcases z with z | z; omega; rw [hu (i + 1) (Or.inr (Nat.lt_succ_self i)) (by omega)] at z; cases z)]
      refine yrS_n h2 h6 m (i + 1) (yu1 u (i + 1)) (10 * c + (i + 1)) (s + w i (i + 1)) a (by omega) (fun j hj hj2 => ?_)
      unfold yu1
      rw [yb_or, hu j (by omega) hj2, yb_1s (i + 1) (by omega) j hj2, decide_eq_false (by omega)]
      rfl
