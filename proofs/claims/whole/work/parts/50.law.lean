/-! SPECS 9: laws: their pieces, how they work out; the class's law over its stack -/
/-- a law: clauses, each its test's pieces (none: no test) and its sum's; a piece: 0 a number, 1 a letter, 2.. the signs + - * / = < > ! & | -/
abbrev yL : Type := List (List (Nat × Nat) × List (Nat × Nat))
def yqM (x y : Int64) : Int64 := if lg_cmp x y < 0 then y else x
def yqm (x y : Int64) : Int64 := if 0 < lg_cmp x y then y else x
theorem zs_maxJ {d : Nat} {x y : Int64} {s : zk_S} : zk_sm d m_Math_max_JJ [.long x, .long y] s = some (some (.long (yqM x y)), s) := by
  rw [e_Math_max_JJ]
  unfold yqM
  by_cases h : lg_cmp x y < 0
  · rw [if_pos h, if_pos h]
  · rw [if_neg h, if_neg h]
theorem zs_minJ {d : Nat} {x y : Int64} {s : zk_S} : zk_sm d m_Math_min_JJ [.long x, .long y] s = some (some (.long (yqm x y)), s) := by
  rw [e_Math_min_JJ]
  unfold yqm
  by_cases h : 0 < lg_cmp x y
  · rw [if_pos h, if_pos h]
  · rw [if_neg h, if_neg h]
theorem zs_cL {x : Int64} {s : zk_S} : zk_cL (some (some (.long x), s)) = some (x, s) := rfl
def ybd (x : Int64) : Int32 := Int64.toInt32 (yqM (-1000000) (yqm 1000000 x))
theorem zs_Rbounded {d : Nat} {x : Int64} {s : zk_S} : zk_sm (d + 1) m_R_bounded [.long x] s = some (some (Value.int (ybd x)), s) := by
  rw [e_R_bounded, zs_minJ, zs_cL, Option.bind_some, zs_maxJ, zs_cL, Option.bind_some]
  rfl
theorem lg_0 (x y : Int64) : lg_cmp x y = 0 ↔ x = y := by
  unfold lg_cmp
  by_cases h : x > y
  · rw [if_pos h]
    exact ⟨fun z => absurd z (by decide), fun z => by subst z; exact absurd h (Int64.lt_irrefl (a := x))⟩
  · rw [if_neg h]
    by_cases h2 : x = y
    · rw [if_pos h2]; exact ⟨fun _ => h2, fun _ => rfl⟩
    · rw [if_neg h2]; exact ⟨fun z => absurd z (by decide), fun z => absurd z h2⟩
theorem lg_l (x y : Int64) : lg_cmp x y < 0 ↔ x < y := by
  unfold lg_cmp
  by_cases h : x > y
  · rw [if_pos h]
    exact ⟨fun z => absurd z (by decide), fun z => absurd (Int64.lt_trans h z) (Int64.lt_irrefl (a := y))⟩
  · rw [if_neg h]
    by_cases h2 : x = y
    · rw [if_pos h2]; exact ⟨fun z => absurd z (by decide), fun z => absurd z (by rw [h2]; exact Int64.lt_irrefl (a := y))⟩
    · rw [if_neg h2]
      refine ⟨fun _ => ?_, fun _ => by decide⟩
      rcases Int64.lt_or_le (a := x) (b := y) with z | z
      · exact z
      · exact absurd (Int64.le_antisymm (Int64.not_lt.mp h) z) h2
theorem lg_g (x y : Int64) : 0 < lg_cmp x y ↔ y < x := by
  unfold lg_cmp
  by_cases h : x > y
  · rw [if_pos h]; exact ⟨fun _ => h, fun _ => by decide⟩
  · rw [if_neg h]
    by_cases h2 : x = y
    · rw [if_pos h2]; exact ⟨fun z => absurd z (by decide), fun z => absurd z h⟩
    · rw [if_neg h2]; exact ⟨fun z => absurd z (by decide), fun z => absurd z h⟩
/-- two numbers joined by a sign -/
def ybin (c : Nat) (a b : Int32) : Int32 := match c with
  | 2 => ybd (a.toInt64 + b.toInt64)
  | 3 => ybd (a.toInt64 - b.toInt64)
  | 4 => ybd (a.toInt64 * b.toInt64)
  | 5 => if b.toInt64 = 0 then 0 else ybd (a.toInt64 / b.toInt64)
  | 6 => if a.toInt64 = b.toInt64 then 1 else 0
  | 7 => if a.toInt64 < b.toInt64 then 1 else 0
  | 8 => if b.toInt64 < a.toInt64 then 1 else 0
  | 10 => if a.toInt64 = 0 then 0 else if b.toInt64 = 0 then 0 else 1
  | _ => if a.toInt64 = 0 then (if b.toInt64 = 0 then 0 else 1) else 1
set_option maxHeartbeats 1000000 in
theorem zs_Rworked {d c : Nat} {a b : Int32} {s : zk_S} (hc : 2 ≤ c) (hc2 : c < 12) (hc9 : c ≠ 9) : zk_sm (d + 2) m_R_worked [.int (zi c), .long a.toInt64, .long b.toInt64] s = some (some (Value.int (ybin c a b)), s) := by
  have hi : ∀ {p q : Prop} [Decidable p] [Decidable q] {x y : Int32}, (p ↔ q) → (if p then (some (some (Value.int x), s) : Option zk_R) else some (some (Value.int y), s)) = some (some (Value.int (if q then x else y)), s) := by
    intro p q _ _ x y h
    by_cases z : p
    · rw [if_pos z, if_pos (h.mp z)]
    · rw [if_neg z, if_neg (fun w => z (h.mpr w))]
  rw [e_R_worked]
  have hh : c = 2 ∨ c = 3 ∨ c = 4 ∨ c = 5 ∨ c = 6 ∨ c = 7 ∨ c = 8 ∨ c = 10 ∨ c = 11 := by omega
  rcases hh with rfl | rfl | rfl | rfl | rfl | rfl | rfl | rfl | rfl
  · rw [if_pos (by decide), zs_Rbounded, zs_cI, Option.bind_some]; rfl
  · rw [if_neg (by decide), if_pos (by decide), zs_Rbounded, zs_cI, Option.bind_some]; rfl
  · rw [if_neg (by decide), if_neg (by decide), if_pos (by decide), zs_Rbounded, zs_cI, Option.bind_some]; rfl
  · rw [if_neg (by decide), if_neg (by decide), if_neg (by decide), if_pos (by decide)]
    by_cases z : b.toInt64 = 0
    · rw [if_pos ((lg_0 _ _).mpr z)]
      show _ = some (some (Value.int (if b.toInt64 = 0 then 0 else ybd (a.toInt64 / b.toInt64))), s)
      rw [if_pos z]
    · rw [if_neg (fun w => z ((lg_0 _ _).mp w)), if_neg z, zs_Rbounded, zs_cI, Option.bind_some]
      show _ = some (some (Value.int (if b.toInt64 = 0 then 0 else ybd (a.toInt64 / b.toInt64))), s)
      rw [if_neg z]
  · rw [if_neg (by decide), if_neg (by decide), if_neg (by decide), if_neg (by decide), if_pos (by decide)]
    exact hi (lg_0 _ _)
  · rw [if_neg (by decide), if_neg (by decide), if_neg (by decide), if_neg (by decide), if_neg (by decide), if_pos (by decide)]
    exact hi (lg_l _ _)
  · rw [if_neg (by decide), if_neg (by decide), if_neg (by decide), if_neg (by decide), if_neg (by decide), if_neg (by decide), if_pos (by decide)]
    exact hi (lg_g _ _)
  · rw [if_neg (by decide), if_neg (by decide), if_neg (by decide), if_neg (by decide), if_neg (by decide), if_neg (by decide), if_neg (by decide), if_neg (by decide), if_pos (by decide)]
    show _ = some (some (Value.int (if a.toInt64 = 0 then 0 else if b.toInt64 = 0 then 0 else 1)), s)
    by_cases z : a.toInt64 = 0
    · rw [if_pos ((lg_0 _ _).mpr z), if_pos z]
    · rw [if_neg (fun w => z ((lg_0 _ _).mp w)), if_neg z]
      exact hi (lg_0 _ _)
  · rw [if_neg (by decide), if_neg (by decide), if_neg (by decide), if_neg (by decide), if_neg (by decide), if_neg (by decide), if_neg (by decide), if_neg (by decide), if_neg (by decide)]
    show _ = some (some (Value.int (if a.toInt64 = 0 then (if b.toInt64 = 0 then 0 else 1) else 1)), s)
    by_cases z : a.toInt64 = 0
    · rw [if_pos ((lg_0 _ _).mpr z), if_pos z]
      exact hi (lg_0 _ _)
    · rw [if_neg (fun w => z ((lg_0 _ _).mp w)), if_neg z]
/-- the class's own signs -/
def ysg (c : Nat) : Int32 := match c with | 2 => 43 | 3 => 45 | 4 => 42 | 5 => 47 | 6 => 61 | 7 => 60 | 8 => 62 | 9 => 33 | 10 => 38 | _ => 124
def ylt (i : Nat) : Int32 := match i with | 0 => 115 | 1 => 98 | 2 => 102 | 3 => 116 | 4 => 103 | _ => 119
theorem ybd_01 {p : Prop} [Decidable p] : ybd (if p then 1 else 0) = if p then 1 else 0 := by
  by_cases z : p
  · rw [if_pos z, if_pos z]; decide
  · rw [if_neg z, if_neg z]; decide
