/-! PARSING 4: laws: what reading one comes to; pieces put down; an atom -/
abbrev yPr : Type := Nat × Option (List (Nat × Nat))
abbrev yfP : List (Nat × Nat) := [(13, 1), (24, 1)]
abbrev yfQ : List (Nat × Nat) := [(269, 3), (269, 4), (269, 5)]
abbrev ykQ : List Nat := [271, 272, 273]
def ycs (P : zp) (u : Nat) (X : List (Nat × Nat)) : Prop := ∀ j o, X[j]? = some o → P.2.1 25 (u + j) = yec o
def yps (Q : zp) (t c : Nat) (X : List (Nat × Nat)) : Prop := ∀ j o, X[j]? = some o → Q.2.1 271 (520 * t + c + j) = zi o.1 ∧ Q.2.1 272 (520 * t + c + j) = zi o.2
def yob (o : yPr) : Int32 := match o.2 with | some _ => 1 | none => 0
/-- the class ahead of it -/
def yc0 (n : Nat × Nat) (L : Nat) (xs : Nat → Int32) (B : Nat → Nat) (len m u : Nat) (P : zp) : Prop := yTp P B len ∧ P.1 13 1 = zi m ∧ m ≤ len ∧ P.1 24 1 = zi u ∧ u ≤ m ∧ zk_kE L xs (zp_M P, n)
/-- .. and behind it -/
def yc9 (n : Nat × Nat) (r : Option zk_R) (u : Nat) (o : yPr) (P : zp) : Prop := ∃ P', r = some (some (.int (yob o)), (zp_M P', n)) ∧ yF yfP [25] P P' ∧ P'.1 13 1 = zi o.1 ∧ ∀ X, o.2 = some X → P'.1 24 1 = zi (u + X.length) ∧ ycs P' u X ∧ ∀ j, j < u → P'.2.1 25 j = P.2.1 25 j
/-- the reference ahead of it -/
def yq0 (B : Nat → Nat) (len m c dd t : Nat) (Q : zp) : Prop := yTq Q B len ∧ Q.1 269 3 = zi m ∧ m ≤ len ∧ Q.1 269 4 = -1 ∧ Q.1 269 5 = zi dd ∧ Q.1 269 14 = zi t ∧ t < 5 ∧ Q.2.1 273 t = zi c ∧ c ≤ m
def yKp (t c : Nat) (Q Q' : zp) : Prop := ∀ j, j < 520 * t + c ∨ 520 * t + 520 ≤ j → Q'.2.1 271 j = Q.2.1 271 j ∧ Q'.2.1 272 j = Q.2.1 272 j
def yqs (len m c dd t : Nat) (o : yPr) (Q' : zp) : Prop := match o.2 with
  | some X => Q'.1 269 3 = zi o.1 ∧ Q'.1 269 4 = -1 ∧ Q'.1 269 5 = zi dd ∧ Q'.2.1 273 t = zi (c + X.length) ∧ yps Q' t c X
  | none => Q'.1 269 4 = zi o.1 ∧ ∃ a c' dd', Q'.1 269 3 = zi a ∧ Q'.1 269 5 = dd' ∧ Q'.2.1 273 t = zi c' ∧ c ≤ c' ∧ c' + m ≤ a + c ∧ a + dd ≤ len + 8
def yq9 (n : Nat × Nat) (r : Option zk_R) (len m c dd t : Nat) (o : yPr) (Q : zp) : Prop := ∃ Q', r = some (none, (zp_M Q', n)) ∧ yF yfQ ykQ Q Q' ∧ yKp t c Q Q' ∧ (∀ i, i ≠ t → Q'.2.1 273 i = Q.2.1 273 i) ∧ yqs len m c dd t o Q'
def yoF (len m : Nat) (o : yPr) (ty : List (Nat × Nat) → Prop) : Prop := o.1 ≤ len ∧ match o.2 with | some X => m < o.1 ∧ X.length + m ≤ o.1 ∧ ty X | none => True
/-- a reader of both sides: f by the class, g by the reference, at depth D or deeper -/
def yRd (n : Nat × Nat) (L : Nat) (xs : Nat → Int32) (B : Nat → Nat) (len m dd D : Nat) (f g : Nat) (as : List Value) (ty : List (Nat × Nat) → Prop) : Prop := ∃ o : yPr, yoF len m o ty ∧ (∀ (P : zp) (u e : Nat), D ≤ e → yc0 n L xs B len m u P → yc9 n (zk_sm e f (.ref 24 :: as) (zp_M P, n)) u o P) ∧ ∀ (Q : zp) (n : Nat × Nat) (c t e : Nat), D ≤ e → yq0 B len m c dd t Q → yq9 n (zk_sm e g [.ref 269] (zp_M Q, n)) len m c dd t o Q
theorem yKp_r {t c : Nat} {Q : zp} : yKp t c Q Q := fun _ _ => ⟨rfl, rfl⟩
theorem yKp_t {t c c' : Nat} {Q Q' Q'' : zp} (hc : c ≤ c') (h : yKp t c Q Q') (h' : yKp t c' Q' Q'') : yKp t c Q Q'' := fun j hj => ⟨(h' j (by omega)).1.trans (h j hj).1, (h' j (by omega)).2.trans (h j hj).2⟩
theorem yty_a : ∀ (X Y : List (Nat × Nat)) (ts : List Bool), yty (X ++ Y) ts = (yty X ts).bind (yty Y)
  | [], Y, ts => rfl
  | o :: X, Y, ts => by
    show (yty1 o.1 o.2 ts).bind (yty (X ++ Y)) = ((yty1 o.1 o.2 ts).bind (yty X)).bind (yty Y)
    cases yty1 o.1 o.2 ts with
    | none => rfl
    | some ts' => exact yty_a X Y ts'
theorem ycs_a {P : zp} {u : Nat} {X Y : List (Nat × Nat)} (h : ycs P u X) (h' : ycs P (u + X.length) Y) : ycs P u (X ++ Y) := by
  intro j o hj
  rcases Nat.lt_or_ge j X.length with z | z
  · rw [List.getElem?_append_left z] at hj
    exact h j o hj
  · rw [List.getElem?_append_right z] at hj
    have := h' _ o hj
    rw [show u + X.length + (j - X.length) = u + j by omega] at this
    exact this
theorem yps_a {Q : zp} {t c : Nat} {X Y : List (Nat × Nat)} (h : yps Q t c X) (h' : yps Q t (c + X.length) Y) : yps Q t c (X ++ Y) := by
  intro j o hj
  rcases Nat.lt_or_ge j X.length with z | z
  · rw [List.getElem?_append_left z] at hj
    exact h j o hj
  · rw [List.getElem?_append_right z] at hj
    have := h' _ o hj
    rw [show 520 * t + (c + X.length) + (j - X.length) = 520 * t + c + j by omega] at this
    exact this
section
variable {P Q : zp} {n : Nat × Nat} {d L len m u c dd t : Nat} {xs : Nat → Int32} {B : Nat → Nat}
theorem zp_Y0 : zk_gR (zp_M P, n) 24 2 0 = some 25 := zp_gR (by decide +kernel)
theorem zp_Y1 : zk_gI (zp_M P, n) 24 2 1 = some (P.1 24 1) := zp_gI (by decide +kernel)
theorem zp_Y1p {x : Int32} : zk_pf (zp_M P, n) 24 2 1 (.int x) = some (zp_M (zp_sF P 24 1 x), n) := zp_pI (by decide +kernel)
theorem zp_Y2 : zk_gR (zp_M P, n) 24 2 2 = some 13 := zp_gR (by decide +kernel)
theorem zp_Yv : zk_rv (zp_M P, n) 24 2 = some () := zp_rv (by decide +kernel)
theorem zp_a25 : zp_ad 25 = (0, 240) := by decide +kernel
theorem zp_a273 : zp_ad 273 = (0, 5) := by decide +kernel
theorem zp_R8' : zk_gR (zp_M P, n) 269 12 8 = some 273 := zp_gR (by decide +kernel)
theorem zp_R14' : zk_gI (zp_M P, n) 269 12 14 = some (P.1 269 14) := zp_gI (by decide +kernel)
theorem zi_520 (t c : Nat) : 520 * zi t + zi c = zi (520 * t + c) := by
  show Int32.ofNat 520 * Int32.ofNat t + Int32.ofNat c = _
  rw [← Int32.ofNat_mul, ← Int32.ofNat_add]
/-- a step put down by the class -/
def yem (P : zp) (u : Nat) (x : Int32) : zp := zp_sF (zp_sA P 25 u x) 24 1 (zi (u + 1))
theorem zs_emit (hu : P.1 24 1 = zi u) (h : u < 240) {x : Int32} : zk_sm (d + 1) m_LawReader_emit [.ref 24, .int x] (zp_M P, n) = some (none, (zp_M (yem P u x), n)) := by
  rw [e_LawReader_emit, zp_Y1, Option.bind_some, hu, zp_Y0, Option.bind_some, zp_al zp_a25 (by decide), Option.bind_some, if_pos ((zi_nI (by omega) (by decide)).mpr h), Option.bind_some, Option.bind_some, zs_put zp_a25 (by decide), zs_cV, Option.bind_some, zp_pi h (by decide), zp_Y1, Option.bind_some, show (zp_sA P 25 u x).1 24 1 = zi u from hu, zi_s, zp_Y1p, Option.bind_some]
  rfl
theorem yem_F {x : Int32} : yF yfP [25] P (yem P u x) := yF_t (yF_A (by decide)) (yF_f (by decide))
theorem yem_u {x : Int32} : (yem P u x).1 24 1 = zi (u + 1) := zp_f9
theorem yem_m {x : Int32} : (yem P u x).1 13 1 = P.1 13 1 := zp_f8 (by decide)
theorem yem_9 {x : Int32} : (yem P u x).2.1 25 u = x := zp_a9
theorem yem_8 {x : Int32} {j : Nat} (h : j ≠ u) : (yem P u x).2.1 25 j = P.2.1 25 j := zp_a8 h
/-- a piece put down by the reference -/
def ypt (Q : zp) (t c : Nat) (x y : Int32) : zp := zp_sA (zp_sA (zp_sA Q 271 (520 * t + c) x) 272 (520 * t + c) y) 273 t (zi (c + 1))
theorem zs_Rput (ht : Q.1 269 14 = zi t) (h5 : t < 5) (hc : Q.2.1 273 t = zi c) (h : c < 520) {x y : Int32} : zk_sm d m_R_put [.ref 269, .int x, .int y] (zp_M Q, n) = some (none, (zp_M (ypt Q t c x y), n)) := by
  have h1 : (zp_sA Q 271 (520 * t + c) x).1 269 14 = zi t := ht
  have h2 : (zp_sA Q 271 (520 * t + c) x).2.1 273 t = zi c := by rw [zp_a7 (by decide)]; exact hc
  have h3 : (zp_sA (zp_sA Q 271 (520 * t + c) x) 272 (520 * t + c) y).1 269 14 = zi t := ht
  have h4 : (zp_sA (zp_sA Q 271 (520 * t + c) x) 272 (520 * t + c) y).2.1 273 t = zi c := by rw [zp_a7 (by decide)]; exact h2
  rw [e_R_put, zp_R6, Option.bind_some, zp_R14', Option.bind_some, ht, zp_R8', Option.bind_some, Option.bind_some, zp_ldi zp_a273 h5 (by decide), Option.bind_some, hc, zi_520, zp_sti zp_a271 (show 520 * t + c < 2600 by omega) (by decide), Option.bind_some, zp_R7, Option.bind_some, zp_R14', Option.bind_some, h1, zp_R8', Option.bind_some, Option.bind_some, zp_ldi zp_a273 h5 (by decide), Option.bind_some, h2, zi_520, zp_sti zp_a272 (show 520 * t + c < 2600 by omega) (by decide), Option.bind_some, zp_R8', Option.bind_some, zp_R14', Option.bind_some, h3, zp_ldi zp_a273 h5 (by decide), Option.bind_some, h4, zi_s, zp_sti zp_a273 h5 (by decide), Option.bind_some]
  rfl
theorem ypt_F {x y : Int32} : yF yfQ ykQ Q (ypt Q t c x y) := yF_t (yF_t (yF_A (by decide)) (yF_A (by decide))) (yF_A (by decide))
theorem ypt_c {x y : Int32} : (ypt Q t c x y).2.1 273 t = zi (c + 1) := zp_a9
theorem ypt_i {x y : Int32} {i : Nat} (h : i ≠ t) : (ypt Q t c x y).2.1 273 i = Q.2.1 273 i := by
  refine (zp_a8 h).trans ?_
  rw [zp_a7 (by decide), zp_a7 (by decide)]
theorem ypt_9 {x y : Int32} : (ypt Q t c x y).2.1 271 (520 * t + c) = x ∧ (ypt Q t c x y).2.1 272 (520 * t + c) = y := by
  unfold ypt
  constructor
  · rw [zp_a7 (by decide), zp_a7 (by decide)]; exact zp_a9
  · rw [zp_a7 (by decide)]; exact zp_a9
theorem ypt_8 {x y : Int32} {j : Nat} (h : j ≠ 520 * t + c) : (ypt Q t c x y).2.1 271 j = Q.2.1 271 j ∧ (ypt Q t c x y).2.1 272 j = Q.2.1 272 j := by
  unfold ypt
  constructor
  · rw [zp_a7 (by decide), zp_a7 (by decide)]; exact zp_a8 h
  · rw [zp_a7 (by decide), zp_a8 h, zp_a7 (by decide)]
theorem ypt_K {x y : Int32} (hc : c < 520) : yKp t c Q (ypt Q t c x y) := fun j hj => ypt_8 (by omega)
/-- the letters -/
theorem yix_l : ∀ b, b < 256 → (yix [115, 98, 102, 116, 103, 119] 0 (zi b) = -1 ∧ ¬ (zi b = 115 ∨ zi b = 98 ∨ zi b = 102 ∨ zi b = 116 ∨ zi b = 103 ∨ zi b = 119)) ∨ ∃ i, i < 6 ∧ yix [115, 98, 102, 116, 103, 119] 0 (zi b) = zi i ∧ zi b = ylt i := by
  have h : (List.range 256).all (fun b => (decide (yix [115, 98, 102, 116, 103, 119] 0 (zi b) = -1) && !(decide (zi b = 115) || (decide (zi b = 98) || (decide (zi b = 102) || (decide (zi b = 116) || (decide (zi b = 103) || decide (zi b = 119))))))) || (List.range 6).any (fun i => decide (yix [115, 98, 102, 116, 103, 119] 0 (zi b) = zi i) && decide (zi b = ylt i))) = true := by decide +kernel
  intro b hb
  have h1 := List.all_eq_true.mp h b (List.mem_range.mpr hb)
  rw [Bool.or_eq_true] at h1
  rcases h1 with h1 | h1
  · left
    rw [Bool.and_eq_true, Bool.not_eq_true', Bool.or_eq_false_iff, Bool.or_eq_false_iff, Bool.or_eq_false_iff, Bool.or_eq_false_iff, Bool.or_eq_false_iff] at h1
    obtain ⟨a, b1, b2, b3, b4, b5, b6⟩ := h1
    refine ⟨of_decide_eq_true a, ?_⟩
    rintro (z | z | z | z | z | z)
    · exact of_decide_eq_false b1 z
    · exact of_decide_eq_false b2 z
    · exact of_decide_eq_false b3 z
    · exact of_decide_eq_false b4 z
    · exact of_decide_eq_false b5 z
    · exact of_decide_eq_false b6 z
  · right
    obtain ⟨i, hi, h2⟩ := List.any_eq_true.mp h1
    rw [Bool.and_eq_true] at h2
    exact ⟨i, List.mem_range.mp hi, of_decide_eq_true h2.1, of_decide_eq_true h2.2⟩
theorem zs_letterOf {i : Nat} (hi : i < 6) {s : zk_S} : zk_sm d m_R_letterOf [.int (ylt i)] s = some (some (.int (zi i)), s) := by
  rw [e_R_letterOf]
  match i, hi with
  | 0, _ => rfl
  | 1, _ => rfl
  | 2, _ => rfl
  | 3, _ => rfl
  | 4, _ => rfl
  | 5, _ => rfl
theorem zs_letterOf_n {x : Int32} (h : ¬ (x = 115 ∨ x = 98 ∨ x = 102 ∨ x = 116 ∨ x = 103 ∨ x = 119)) {s : zk_S} : zk_sm d m_R_letterOf [.int x] s = some (some (.int (-1)), s) := by
  rw [e_R_letterOf, if_neg (fun z => h (Or.inl z)), if_neg (fun z => h (Or.inr (Or.inl z))), if_neg (fun z => h (Or.inr (Or.inr (Or.inl z)))), if_neg (fun z => h (Or.inr (Or.inr (Or.inr (Or.inl z))))), if_neg (fun z => h (Or.inr (Or.inr (Or.inr (Or.inr (Or.inl z)))))), if_neg (fun z => h (Or.inr (Or.inr (Or.inr (Or.inr (Or.inr z))))))]
theorem ylt_v {i : Nat} (hi : i < 6) : ydgt (ylt i) = false ∧ ylt i ≠ 91 ∧ ylt i ≠ -1 ∧ yec (1, i) = -ylt i := by
  match i, hi with
  | 0, _ => decide
  | 1, _ => decide
  | 2, _ => decide
  | 3, _ => decide
  | 4, _ => decide
  | 5, _ => decide
/-- an opening and a closing by the reference -/
theorem zs_Ropens (hm : Q.1 269 3 = zi m) (hd : Q.1 269 5 = zi dd) (h6 : dd < 6) : zk_sm (d + 1) m_R_opens [.ref 269] (zp_M Q, n) = some (none, (zp_M (zp_sF (zp_sF Q 269 5 (zi (dd + 1))) 269 3 (zi (m + 1))), n)) := by
  rw [e_R_opens, zp_R5', Option.bind_some, hd, if_neg (show ¬ zi dd = 6 from fun z => by have := (zi_eq (b := 6) (by omega) (by decide)).mp z; omega), Option.bind_some, zi_s, zp_R5p, Option.bind_some, zp_R3', Option.bind_some, show (zp_sF Q 269 5 (zi (dd + 1))).1 269 3 = zi m from (zp_f8 (by decide)).trans hm, zi_s, zp_R3p, Option.bind_some]
theorem zs_Ropens6 (hm : Q.1 269 3 = zi m) (hw : Q.1 269 4 = -1) (hd : Q.1 269 5 = 6) : ∃ Q', zk_sm (d + 1) m_R_opens [.ref 269] (zp_M Q, n) = some (none, (zp_M Q', n)) ∧ Q'.1 269 3 = zi (m + 1) ∧ Q'.1 269 4 = zi m ∧ yF yfQ [] Q Q' := by
  refine ⟨zp_sF (zp_sF (zp_sF Q 269 4 (zi m)) 269 5 (6 + 1)) 269 3 (zi (m + 1)), ?_, zp_f9, (zp_f8 (by decide)).trans ((zp_f8 (by decide)).trans zp_f9), yF_t (yF_f (by decide)) (yF_t (yF_f (by decide)) (yF_f (by decide)))⟩
  rw [e_R_opens, zp_R5', Option.bind_some, hd, if_pos rfl, zp_Rv, Option.bind_some, zs_Rbad hm hw, zs_cV, Option.bind_some, zp_R5', Option.bind_some, show (zp_sF Q 269 4 (zi m)).1 269 5 = 6 from (zp_f8 (by decide)).trans hd, zp_R5p, Option.bind_some, zp_R3', Option.bind_some, show (zp_sF (zp_sF Q 269 4 (zi m)) 269 5 (6 + 1)).1 269 3 = zi m from (zp_f8 (by decide)).trans ((zp_f8 (by decide)).trans hm), zi_s, zp_R3p, Option.bind_some]
theorem zs_Rcloses (hT : yTq Q B len) (hm : Q.1 269 3 = zi m) (hl : m ≤ len) (hw : Q.1 269 4 = -1) (hd : Q.1 269 5 = zi (dd + 1)) {x : Int32} : ∃ Q', zk_sm (d + 2) m_R_closes [.ref 269, .int x] (zp_M Q, n) = some (none, (zp_M Q', n)) ∧ Q'.1 269 3 = zi (ysk B len m + 1) ∧ Q'.1 269 4 = (if yhb B len (ysk B len m) = x then -1 else zi (ysk B len m)) ∧ Q'.1 269 5 = zi dd ∧ yF yfQ [] Q Q' := by
  obtain ⟨Q1, e1, g1, f1⟩ := zs_Rlook (d := d) (n := n) hT hm (by omega)
  have F1 : yF yfQ [] Q Q1 := yF_m f1 (fun x hx => by simp only [List.mem_cons, List.not_mem_nil, or_false] at hx ⊢; exact Or.inl hx) (fun _ h => h)
  have w1 : Q1.1 269 4 = -1 := (f1.1 269 4 (by decide)).trans hw
  have d1 : Q1.1 269 5 = zi (dd + 1) := (f1.1 269 5 (by decide)).trans hd
  have hs := e_R_closes (d + 1) 269 x (zp_M Q, n)
  rw [zp_R4', Option.bind_some, hw, if_pos rfl, zp_Rv, Option.bind_some, e1, zs_cI, Option.bind_some] at hs
  by_cases z : yhb B len (ysk B len m) = x
  · rw [if_pos z, zp_R3', Option.bind_some, g1, zi_s, zp_R3p, Option.bind_some, zp_R5', Option.bind_some, show (zp_sF Q1 269 3 (zi (ysk B len m + 1))).1 269 5 = zi (dd + 1) from (zp_f8 (by decide)).trans d1, zi_d (show 0 < dd + 1 by omega), Nat.add_sub_cancel, zp_R5p, Option.bind_some] at hs
    exact ⟨_, hs, (zp_f8 (by decide)).trans zp_f9, by rw [if_pos z]; exact (zp_f8 (by decide)).trans ((zp_f8 (by decide)).trans w1), zp_f9, yF_t F1 (yF_t (yF_f (by decide)) (yF_f (by decide)))⟩
  · rw [if_neg z, zp_Rv, Option.bind_some, zs_Rbad g1 w1, zs_cV, Option.bind_some, zp_R3', Option.bind_some, show (zp_sF Q1 269 4 (zi (ysk B len m))).1 269 3 = zi (ysk B len m) from (zp_f8 (by decide)).trans g1, zi_s, zp_R3p, Option.bind_some, zp_R5', Option.bind_some, show (zp_sF (zp_sF Q1 269 4 (zi (ysk B len m))) 269 3 (zi (ysk B len m + 1))).1 269 5 = zi (dd + 1) from (zp_f8 (by decide)).trans ((zp_f8 (by decide)).trans d1), zi_d (show 0 < dd + 1 by omega), Nat.add_sub_cancel, zp_R5p, Option.bind_some] at hs
    exact ⟨_, hs, (zp_f8 (by decide)).trans zp_f9, by rw [if_neg z]; exact (zp_f8 (by decide)).trans ((zp_f8 (by decide)).trans zp_f9), zp_f9, yF_t F1 (yF_t (yF_f (by decide)) (yF_t (yF_f (by decide)) (yF_f (by decide))))⟩
theorem zs_Rcloses2 {a q : Nat} {dv x : Int32} (hm : Q.1 269 3 = zi a) (hw : Q.1 269 4 = zi q) (hq : q < 1000) (hd : Q.1 269 5 = dv) : ∃ Q', zk_sm (d + 1) m_R_closes [.ref 269, .int x] (zp_M Q, n) = some (none, (zp_M Q', n)) ∧ Q'.1 269 3 = zi (a + 1) ∧ Q'.1 269 4 = zi q ∧ yF yfQ [] Q Q' := by
  refine ⟨zp_sF (zp_sF Q 269 3 (zi (a + 1))) 269 5 (dv - 1), ?_, (zp_f8 (by decide)).trans zp_f9, (zp_f8 (by decide)).trans ((zp_f8 (by decide)).trans hw), yF_t (yF_f (by decide)) (yF_f (by decide))⟩
  rw [e_R_closes, zp_R4', Option.bind_some, hw, if_neg (zi_n1 (by omega)), zp_R3', Option.bind_some, hm, zi_s, zp_R3p, Option.bind_some, zp_R5', Option.bind_some, show (zp_sF Q 269 3 (zi (a + 1))).1 269 5 = dv from (zp_f8 (by decide)).trans hd, zp_R5p, Option.bind_some]
end
