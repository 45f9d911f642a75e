/-! WAYS: who comes to whom by how many saddles -/
def yEd (V : yV) (r q : Nat) : Prop := ∃ i f, i < 8 ∧ V.1 i = some (r, q, f)
def yWk (V : yV) (m a b : Nat) : Prop := ∃ v : Nat → Nat, v 0 = a ∧ v m = b ∧ ∀ i, i < m → yEd V (v i) (v (i + 1))
theorem yWk_0 {V : yV} {a b : Nat} : yWk V 0 a b ↔ a = b := ⟨fun ⟨v, h1, h2, _⟩ => h1.symm.trans h2, fun h => ⟨fun _ => a, rfl, h, fun i hi => absurd hi (Nat.not_lt_zero i)⟩⟩
theorem yWk_s {V : yV} {m a b : Nat} : yWk V (m + 1) a b ↔ ∃ c, yWk V m a c ∧ yEd V c b := by
  constructor
  · rintro ⟨v, h1, h2, h3⟩
    exact ⟨v m, ⟨v, h1, rfl, fun i hi => h3 i (by omega)⟩, h2 ▸ h3 m (by omega)⟩
  · rintro ⟨c, ⟨v, h1, h2, h3⟩, he⟩
    refine ⟨fun i => if i ≤ m then v i else b, ?_, ?_, fun i hi => ?_⟩
    · show (if 0 ≤ m then v 0 else b) = a
      rw [if_pos (Nat.zero_le _)]; exact h1
    · show (if m + 1 ≤ m then v (m + 1) else b) = b
      rw [if_neg (by omega)]
    · show yEd V (if i ≤ m then v i else b) (if i + 1 ≤ m then v (i + 1) else b)
      by_cases q : i + 1 ≤ m
      · rw [if_pos q, if_pos (by omega)]; exact h3 i (by omega)
      · rw [if_neg q, if_pos (by omega), show i = m by omega, h2]; exact he
theorem yphp : ∀ (n : Nat) (f : Nat → Nat), (∀ i, i < n + 1 → f i < n) → ∃ i j, i < j ∧ j < n + 1 ∧ f i = f j
  | 0, f, h => absurd (h 0 (by decide)) (Nat.not_lt_zero _)
  | n + 1, f, h => by
    by_cases q : ∃ i, i < n + 1 ∧ f i = f (n + 1)
    · obtain ⟨i, hi, e⟩ := q
      exact ⟨i, n + 1, hi, by omega, e⟩
    · have hne : ∀ i, i < n + 1 → f i ≠ f (n + 1) := fun i hi e => q ⟨i, hi, e⟩
      have hc := h (n + 1) (by omega)
      obtain ⟨i, j, hij, hj, e⟩ := yphp n (fun i => if f i < f (n + 1) then f i else f i - 1) (fun i hi => by
        have h1 := h i (by omega)
        have h2 := hne i hi
        show (if f i < f (n + 1) then f i else f i - 1) < n
        by_cases z : f i < f (n + 1)
        · rw [if_pos z]; omega
        · rw [if_neg z]; omega)
      refine ⟨i, j, hij, by omega, ?_⟩
      have e : (if f i < f (n + 1) then f i else f i - 1) = (if f j < f (n + 1) then f j else f j - 1) := e
      have h2 := hne i (by omega)
      have h3 := hne j hj
      by_cases z : f i < f (n + 1)
      · rw [if_pos z] at e
        by_cases z2 : f j < f (n + 1)
        · rw [if_pos z2] at e; exact e
        · rw [if_neg z2] at e; omega
      · rw [if_neg z] at e
        by_cases z2 : f j < f (n + 1)
        · rw [if_pos z2] at e; omega
        · rw [if_neg z2] at e; omega
theorem yEd_6 {np : Nat} {V : yV} (hO : yO np V) (h6 : np ≤ 6) {r q : Nat} (h : yEd V r q) : r < 6 ∧ q < 6 := by
  obtain ⟨i, f, hi, hv⟩ := h
  have := hO.1 i r q f hi hv
  omega
/-- a way is no longer than six -/
theorem yWk_6 {np : Nat} {V : yV} (hO : yO np V) (h6 : np ≤ 6) {a b : Nat} : ∀ (N m : Nat), m ≤ N → 1 ≤ m → yWk V m a b → ∃ j, 1 ≤ j ∧ j ≤ 6 ∧ yWk V j a b
  | 0, m, hm, h1, _ => by omega
  | N + 1, m, hm, h1, hw => by
    by_cases q : m ≤ 6
    · exact ⟨m, h1, q, hw⟩
    · obtain ⟨v, e0, em, he⟩ := hw
      obtain ⟨i, j, hij, hj, e⟩ := yphp 6 (fun t => v (t + 1)) (fun t ht => (yEd_6 hO h6 (he t (by omega))).2)
      have e : v (i + 1) = v (j + 1) := e
      refine yWk_6 hO h6 N (m - (j - i)) (by omega) (by omega) ⟨fun t => if t ≤ i + 1 then v t else v (t + (j - i)), ?_, ?_, fun t ht => ?_⟩
      · show (if 0 ≤ i + 1 then v 0 else v (0 + (j - i))) = a
        rw [if_pos (Nat.zero_le _)]; exact e0
      · show (if m - (j - i) ≤ i + 1 then v (m - (j - i)) else v (m - (j - i) + (j - i))) = b
        by_cases z : m - (j - i) ≤ i + 1
        · rw [if_pos z, show m - (j - i) = i + 1 by omega, e, show j + 1 = m by omega]; exact em
        · rw [if_neg z, show m - (j - i) + (j - i) = m by omega]; exact em
      · show yEd V (if t ≤ i + 1 then v t else v (t + (j - i))) (if t + 1 ≤ i + 1 then v (t + 1) else v (t + 1 + (j - i)))
        by_cases z : t + 1 ≤ i + 1
        · rw [if_pos z, if_pos (by omega)]; exact he t (by omega)
        · rw [if_neg z]
          by_cases z2 : t ≤ i + 1
          · have : t = i + 1 := by omega
            subst this
            rw [if_pos z2, e, show i + 1 + 1 + (j - i) = j + 1 + 1 by omega]
            exact he (j + 1) (by omega)
          · rw [if_neg z2, show t + 1 + (j - i) = t + (j - i) + 1 by omega]
            exact he (t + (j - i)) (by omega)
/-- on whom these sit at once (bits) -/
def yrd (V : yV) (ps : Int32) : Int32 := (List.range 8).foldl (fun a i => match V.1 i with | some (r, q, _) => if yb_t ps r = true then a ||| (1 <<< (zi q &&& 31)) else a | none => a) 0
theorem yrd_t {np : Nat} {V : yV} (hO : yO np V) (h6 : np ≤ 6) {ps : Int32} {x : Nat} (hx : x < 32) : yb_t (yrd V ps) x = true ↔ ∃ r, yb_t ps r = true ∧ yEd V r x := by
  have key : ∀ m, m ≤ 8 → (yb_t ((List.range m).foldl (fun a i => match V.1 i with | some (r, q, _) => if yb_t ps r = true then a ||| (1 <<< (zi q &&& 31)) else a | none => a) 0) x = true ↔ ∃ i r f, i < m ∧ V.1 i = some (r, x, f) ∧ yb_t ps r = true) := by
    intro m
    induction m with
    | zero => exact fun _ => ⟨fun h => (by rw [show yb_t ((List.range 0).foldl _ 0) x = yb_t 0 x from rfl, yb_0] at h; cases h), fun ⟨i, _, _, hi, _⟩ => absurd hi (Nat.not_lt_zero i)⟩
    | succ m ih =>
      intro hm
      have ih := ih (by omega)
      rw [zl_rs]
      cases hv : V.1 m with
      | none =>
        refine ih.trans ⟨fun ⟨i, r, f, hi, h⟩ => ⟨i, r, f, by omega, h⟩, fun ⟨i, r, f, hi, h⟩ => ⟨i, r, f, ?_, h⟩⟩
        have : i ≠ m := fun z => by rw [z, hv] at h; cases h.1
        omega
      | some y =>
        obtain ⟨r0, q0, f0⟩ := y
        obtain ⟨o1, o2, -, -⟩ := hO.1 m r0 q0 f0 (by omega) hv
        show yb_t (if yb_t ps r0 = true then _ ||| (1 <<< (zi q0 &&& 31)) else _) x = true ↔ _
        by_cases z : yb_t ps r0 = true
        · rw [if_pos z, yb_or, Bool.or_eq_true, ih, yb_1s q0 (by omega) x hx, decide_eq_true_eq]
          constructor
          · rintro (⟨i, r, f, hi, h⟩ | h)
            · exact ⟨i, r, f, by omega, h⟩
            · subst h; exact ⟨m, r0, f0, by omega, hv, z⟩
          · rintro ⟨i, r, f, hi, h1, h2⟩
            by_cases q : i = m
            · rw [q, hv] at h1
              cases h1
              exact Or.inr rfl
            · exact Or.inl ⟨i, r, f, by omega, h1, h2⟩
        · rw [if_neg z, ih]
          refine ⟨fun ⟨i, r, f, hi, h⟩ => ⟨i, r, f, by omega, h⟩, fun ⟨i, r, f, hi, h1, h2⟩ => ⟨i, r, f, ?_, h1, h2⟩⟩
          have : i ≠ m := fun w => by
            rw [w, hv] at h1
            cases h1
            exact z h2
          omega
  refine (key 8 (Nat.le_refl _)).trans ⟨fun ⟨i, r, f, hi, h1, h2⟩ => ⟨r, h2, i, f, hi, h1⟩, fun ⟨r, h2, i, f, hi, h1⟩ => ⟨i, r, f, hi, h1, h2⟩⟩
theorem zl_fcp {α : Type} {g g' : α → Nat → α} {m : Nat} {a : α} (h : ∀ x i, g x i = g' x i) : (List.range m).foldl g a = (List.range m).foldl g' a := by
  have : g = g' := by funext x i; exact h x i
  rw [this]
/-- above whom: by a way of one to m -/
def yab (V : yV) (p m : Nat) : Int32 × Int32 := (List.range m).foldl (fun (a : Int32 × Int32) _ => (yrd V a.1, a.2 ||| yrd V a.1)) (1 <<< (zi p &&& 31), 0)
theorem yab_t {np : Nat} {V : yV} (hO : yO np V) (h6 : np ≤ 6) {p : Nat} (hp : p < 32) : ∀ (m x : Nat), x < 32 → (yb_t (yab V p m).1 x = true ↔ yWk V m p x) ∧ (yb_t (yab V p m).2 x = true ↔ ∃ j, 1 ≤ j ∧ j ≤ m ∧ yWk V j p x) := by
  intro m
  induction m with
  | zero =>
    intro x hx
    refine ⟨?_, ?_⟩
    · show yb_t (1 <<< (zi p &&& 31)) x = true ↔ _
      rw [yb_1s p hp x hx, decide_eq_true_eq, yWk_0]
      exact ⟨fun h => h.symm, fun h => h.symm⟩
    · show yb_t 0 x = true ↔ _
      rw [yb_0]
      exact ⟨fun h => (by cases h), fun ⟨j, h1, h2, _⟩ => by omega⟩
  | succ m ih =>
    intro x hx
    have e1 : (yab V p (m + 1)).1 = yrd V (yab V p m).1 := by unfold yab; rw [zl_rs]
    have e2 : (yab V p (m + 1)).2 = (yab V p m).2 ||| yrd V (yab V p m).1 := by unfold yab; rw [zl_rs]
    have k1 : yb_t (yrd V (yab V p m).1) x = true ↔ yWk V (m + 1) p x := by
      rw [yrd_t hO h6 hx, yWk_s]
      refine ⟨fun ⟨r, h1, h2⟩ => ⟨r, (ih r (by have := yEd_6 hO h6 h2; omega)).1.mp h1, h2⟩, fun ⟨r, h1, h2⟩ => ⟨r, (ih r (by have := yEd_6 hO h6 h2; omega)).1.mpr h1, h2⟩⟩
    refine ⟨by rw [e1]; exact k1, ?_⟩
    rw [e2, yb_or, Bool.or_eq_true, k1, (ih x hx).2]
    constructor
    · rintro (⟨j, h1, h2, h3⟩ | h)
      · exact ⟨j, h1, by omega, h3⟩
      · exact ⟨m + 1, by omega, by omega, h⟩
    · rintro ⟨j, h1, h2, h3⟩
      by_cases q : j ≤ m
      · exact Or.inl ⟨j, h1, q, h3⟩
      · rw [show j = m + 1 by omega] at h3
        exact Or.inr h3
section
variable {P : zp} {n : Nat × Nat} {b d np : Nat} {V : yV} {T : yT}
theorem yrd_C (hC : yC P b V) (hO : yO np V) (h6 : np ≤ 6) {ps : Int32} : zq_ridden P b ps = yrd V ps := by
  refine zl_fc (fun i a hi => ?_) 0
  rw [yb_sad hC hO h6 hi]
  unfold yth
  cases hv : V.1 i with
  | none => rfl
  | some y =>
    obtain ⟨r, q, f⟩ := y
    obtain ⟨c1, c2, -⟩ := yC_p hC hi hv
    obtain ⟨o1, -⟩ := hO.1 i r q f hi hv
    show (bif true && zq_bit ps (P.2.1 (b + 1) i) then _ else _) = if yb_t ps r = true then _ else _
    rw [c1, c2, yb_bit (by omega), Bool.true_and]
    cases yb_t ps r <;> rfl
theorem yab_C (h : zp_sb b) (hC : yC P b V) (hO : yO np V) (h6 : np ≤ 6) {p : Nat} : zk_sm (d + 3) m_Stand_above [.ref b, .int (zi p)] (zp_M P, n) = some (some (.int (yab V p 6).2), (zp_M P, n)) := by
  rw [zs_above h]
  have e : zq_above P b (zi p) = (yab V p 6).2 := by
    unfold zq_above yab
    congr 1
    exact zl_fcp (fun a _ => by rw [yrd_C hC hO h6])
  rw [e]
end
