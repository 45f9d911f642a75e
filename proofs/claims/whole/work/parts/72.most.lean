/-! SPECS 24: who sits, who bears none, who will throw, sides, measures: of both sides -/
def yst2 (V : yV) (i p q : Nat) : Bool := match V.1 i with | some (r, q', _) => decide (r = p) && decide (q' = q) | none => false
/-- the place of the saddle of p on q -/
def ypl (V : yV) (p q : Nat) : Option Nat := (List.range 8).find? (fun i => yst2 V i p q)
theorem zl_findc {f g : Nat → Bool} {m : Nat} (h : ∀ i, i < m → f i = g i) : (List.range m).find? f = (List.range m).find? g := by
  cases hf : (List.range m).find? g with
  | some i =>
    obtain ⟨a1, a2, a3⟩ := List.find?_range_eq_some.mp hf
    have hi := List.mem_range.mp a2
    exact List.find?_range_eq_some.mpr ⟨by rw [h i hi]; exact a1, a2, fun j hj => by rw [h j (by omega)]; exact a3 j hj⟩
  | none =>
    have a := List.find?_range_eq_none.mp hf
    exact List.find?_range_eq_none.mpr (fun i hi => by rw [h i hi]; exact a i hi)
def ysc (V : yV) (p : Nat) : Nat := (List.range 8).foldl (fun a i => match V.1 i with | some (r, _, _) => if r = p then a + 1 else a | none => a) 0
theorem ysc_b {V : yV} {p : Nat} : ysc V p ≤ 8 := by
  have key : ∀ m, (List.range m).foldl (fun a i => match V.1 i with | some (r, _, _) => if r = p then a + 1 else a | none => a) 0 ≤ m := by
    intro m
    induction m with
    | zero => exact Nat.le_refl _
    | succ m ih =>
      rw [zl_rs]
      cases hv : V.1 m with
      | none => exact Nat.le_succ_of_le ih
      | some y =>
        obtain ⟨r, q, f⟩ := y
        show (if r = p then _ + 1 else _) ≤ m + 1
        by_cases z : r = p
        · rw [if_pos z]; omega
        · rw [if_neg z]; omega
  exact key 8
theorem ysc_p {V : yV} {p : Nat} : 0 < ysc V p ↔ ∃ i q f, i < 8 ∧ V.1 i = some (p, q, f) := by
  have key : ∀ m, 0 < (List.range m).foldl (fun a i => match V.1 i with | some (r, _, _) => if r = p then a + 1 else a | none => a) 0 ↔ ∃ i q f, i < m ∧ V.1 i = some (p, q, f) := by
    intro m
    induction m with
    | zero => exact ⟨fun h => absurd h (Nat.lt_irrefl _), fun ⟨i, _, _, hi, _⟩ => absurd hi (Nat.not_lt_zero i)⟩
    | succ m ih =>
      rw [zl_rs]
      cases hv : V.1 m with
      | none =>
        refine ih.trans ⟨fun ⟨i, q, f, hi, h⟩ => ⟨i, q, f, by omega, h⟩, fun ⟨i, q, f, hi, h⟩ => ⟨i, q, f, ?_, h⟩⟩
        have : i ≠ m := fun z => by rw [z, hv] at h; cases h
        omega
      | some y =>
        obtain ⟨r, q, f⟩ := y
        show 0 < (if r = p then _ + 1 else _) ↔ _
        by_cases z : r = p
        · rw [if_pos z]
          exact ⟨fun _ => ⟨m, q, f, by omega, by rw [hv, z]⟩, fun _ => by omega⟩
        · rw [if_neg z]
          refine ih.trans ⟨fun ⟨i, q, f, hi, h⟩ => ⟨i, q, f, by omega, h⟩, fun ⟨i, q', f', hi, h⟩ => ⟨i, q', f', ?_, h⟩⟩
          have : i ≠ m := fun w => by
            rw [w, hv] at h
            cases h
            exact z rfl
          omega
  exact key 8
/-- the people who sit (bits) -/
def ysp_ (V : yV) : Int32 := (List.range 8).foldl (fun a i => match V.1 i with | some (r, _, _) => a ||| (1 <<< (zi r &&& 31)) | none => a) 0
theorem ysp_t {np : Nat} {V : yV} (hO : yO np V) (h6 : np ≤ 6) {x : Nat} (hx : x < 32) : yb_t (ysp_ V) x = true ↔ ∃ i q f, i < 8 ∧ V.1 i = some (x, q, f) := by
  have key : ∀ m, m ≤ 8 → (yb_t ((List.range m).foldl (fun a i => match V.1 i with | some (r, _, _) => a ||| (1 <<< (zi r &&& 31)) | none => a) 0) x = true ↔ ∃ i q f, i < m ∧ V.1 i = some (x, q, f)) := by
    intro m
    induction m with
    | zero => exact fun _ => ⟨fun h => (by rw [show yb_t ((List.range 0).foldl _ 0) x = yb_t 0 x from rfl, yb_0] at h; cases h), fun ⟨i, _, _, hi, _⟩ => absurd hi (Nat.not_lt_zero i)⟩
    | succ m ih =>
      intro hm
      have ih := ih (by omega)
      rw [zl_rs]
      cases hv : V.1 m with
      | none =>
        refine ih.trans ⟨fun ⟨i, q, f, hi, h⟩ => ⟨i, q, f, by omega, h⟩, fun ⟨i, q, f, hi, h⟩ => ⟨i, q, f, ?_, h⟩⟩
        have : i ≠ m := fun z => by rw [z, hv] at h; cases h
        omega
      | some y =>
        obtain ⟨r, q, f⟩ := y
        have o1 := (hO.1 m r q f (by omega) hv).1
        show yb_t (_ ||| (1 <<< (zi r &&& 31))) x = true ↔ _
        rw [yb_or, Bool.or_eq_true, ih, yb_1s r (by omega) x hx, decide_eq_true_eq]
        constructor
        · rintro (⟨i, q', f', hi, h⟩ | h)
          · exact ⟨i, q', f', by omega, h⟩
          · subst h; exact ⟨m, q, f, by omega, hv⟩
        · rintro ⟨i, q', f', hi, h⟩
          by_cases z : i = m
          · rw [z, hv] at h
            cases h
            exact Or.inr rfl
          · exact Or.inl ⟨i, q', f', by omega, h⟩
  exact key 8 (Nat.le_refl _)
section
variable {P : zp} {n : Nat × Nat} {b d np : Nat} {V : yV} {T : yT}
theorem ypl_C (h : zp_sb b) (hC : yC P b V) (hO : yO np V) (h6 : np ≤ 6) {p q : Nat} (hp : p < 6) (hq : q < 6) : zk_sm (d + 3) m_Stand_placeOf [.ref b, .int (zi p), .int (zi q)] (zp_M P, n) = some (some (.int (yfi (ypl V p q))), (zp_M P, n)) := by
  rw [zs_placeOf h]
  have e : (List.range 8).find? (fun i => zq_on P b (zi i) (zi q) && decide (P.2.1 (b + 1) i = zi p)) = ypl V p q := zl_findc (fun i hi => by
    rw [yb_on hC hO h6 hi hq]
    unfold yon yst2
    cases hv : V.1 i with
    | none => rfl
    | some y =>
      obtain ⟨r, q', f⟩ := y
      obtain ⟨c1, -, -⟩ := yC_p hC hi hv
      have o1 := (hO.1 i r q' f hi hv).1
      show (decide (q' = q) && decide (P.2.1 (b + 1) i = zi p)) = (decide (r = p) && decide (q' = q))
      rw [c1, show decide (zi r = zi p) = decide (r = p) from decide_eq_decide.mpr (zi_eq (by omega) (by omega)), Bool.and_comm])
  unfold zq_place
  rw [e]
  cases ypl V p q <;> rfl
theorem ypl_R (hT : yTR P T) (hp0 : 0 < T.1) (hR : yR (P.2.1 286) V) (hO : yO T.1 V) {p q : Nat} (hp : p < 6) (hq : q < 6) : zk_sm (d + 3) m_R_sitsOn [.ref 269, .int (zi p), .int (zi q)] (zp_M P, n) = some (some (.int (zp_b (ypl V p q).isSome)), (zp_M P, n)) := by
  have h6 := hT.2.1
  have h25 : 0 < P.1 269 25 := by rw [hT.1]; exact (zi_0 (by omega)).mpr hp0
  have e : zr_sits P (zi p) (zi q) = (ypl V p q).isSome := by
    unfold zr_sits ypl
    rw [zl_anyc (g := fun i => yst2 V i p q) (fun i hi => by
      rw [yb_ron hR hO h6 hi hq]
      unfold yon yst2
      cases hv : V.1 i with
      | none => rfl
      | some y =>
        obtain ⟨r, q', f⟩ := y
        obtain ⟨c1, -, -, -⟩ := yR_p hR hi hv
        have o1 := (hO.1 i r q' f hi hv).1
        show (decide (q' = q) && decide (P.2.1 286 (4 * i + 0) = zi p)) = (decide (r = p) && decide (q' = q))
        rw [c1, show decide (zi r = zi p) = decide (r = p) from decide_eq_decide.mpr (zi_eq (by omega) (by omega)), Bool.and_comm])]
    rw [Bool.eq_iff_iff, List.any_eq_true, List.find?_isSome]
  rw [zs_RsitsOn h25, e]
theorem ysc_C (h : zp_sb b) (hC : yC P b V) (hO : yO np V) (h6 : np ≤ 6) {p : Nat} (hp : p < 6) : zk_sm (d + 2) m_Stand_satBy [.ref b, .int (zi p)] (zp_M P, n) = some (some (.int (zi (ysc V p))), (zp_M P, n)) := by
  rw [zs_satBy h]
  have key : ∀ m, m ≤ 8 → (List.range m).foldl (fun a i => bif zq_sad P b (zi i) && decide (P.2.1 (b + 1) i = zi p) then a + 1 else a) (0 : Int32) = zi ((List.range m).foldl (fun a i => match V.1 i with | some (r, _, _) => if r = p then a + 1 else a | none => a) 0) := by
    intro m
    induction m with
    | zero => exact fun _ => rfl
    | succ m ih =>
      intro hm
      rw [zl_rs, zl_rs, ih (by omega), yb_sad hC hO h6 (by omega)]
      unfold yth
      cases hv : V.1 m with
      | none => rfl
      | some y =>
        obtain ⟨r, q', f⟩ := y
        obtain ⟨c1, -, -⟩ := yC_p hC (by omega) hv
        have o1 := (hO.1 m r q' f (by omega) hv).1
        show (bif true && decide (P.2.1 (b + 1) m = zi p) then zi _ + 1 else zi _) = zi (if r = p then _ + 1 else _)
        rw [c1, Bool.true_and]
        by_cases z : r = p
        · rw [if_pos z, decide_eq_true (show zi r = zi p by rw [z]), cond_true, zi_s]
        · rw [if_neg z, decide_eq_false (show ¬ zi r = zi p from fun w => z ((zi_eq (by omega) (by omega)).mp w)), cond_false]
  have e : zq_satBy P b (zi p) = zi (ysc V p) := key 8 (Nat.le_refl _)
  rw [e]
theorem ysc_R (hT : yTR P T) (hp0 : 0 < T.1) (hR : yR (P.2.1 286) V) (hO : yO T.1 V) {p : Nat} (hp : p < 6) : zk_sm (d + 2) m_R_satBy [.ref 269, .int (zi p)] (zp_M P, n) = some (some (.int (zi (ysc V p))), (zp_M P, n)) := by
  have h6 := hT.2.1
  have h25 : 0 < P.1 269 25 := by rw [hT.1]; exact (zi_0 (by omega)).mpr hp0
  rw [zs_RsatBy h25]
  have key : ∀ m, m ≤ 8 → (List.range m).foldl (fun a i => bif zr_th P i && decide (P.2.1 286 (4 * i + 0) = zi p) then a + 1 else a) (0 : Int32) = zi ((List.range m).foldl (fun a i => match V.1 i with | some (r, _, _) => if r = p then a + 1 else a | none => a) 0) := by
    intro m
    induction m with
    | zero => exact fun _ => rfl
    | succ m ih =>
      intro hm
      rw [zl_rs, zl_rs, ih (by omega), yb_rth hR (by omega)]
      unfold yth
      cases hv : V.1 m with
      | none => rfl
      | some y =>
        obtain ⟨r, q', f⟩ := y
        obtain ⟨c1, -, -, -⟩ := yR_p hR (by omega) hv
        have o1 := (hO.1 m r q' f (by omega) hv).1
        show (bif true && decide (P.2.1 286 (4 * m + 0) = zi p) then zi _ + 1 else zi _) = zi (if r = p then _ + 1 else _)
        rw [c1, Bool.true_and]
        by_cases z : r = p
        · rw [if_pos z, decide_eq_true (show zi r = zi p by rw [z]), cond_true, zi_s]
        · rw [if_neg z, decide_eq_false (show ¬ zi r = zi p from fun w => z ((zi_eq (by omega) (by omega)).mp w)), cond_false]
  have e : zr_satBy P (zi p) = zi (ysc V p) := key 8 (Nat.le_refl _)
  rw [e]
theorem ysp_C (h : zp_sb b) (hC : yC P b V) (hO : yO np V) (h6 : np ≤ 6) : zk_sm (d + 2) m_Stand_sittingPeople [.ref b] (zp_M P, n) = some (some (.int (ysp_ V)), (zp_M P, n)) := by
  rw [zs_sittingPeople h]
  have e : zq_sitting P b = ysp_ V := zl_fc (fun i a hi => by
    rw [yb_sad hC hO h6 hi]
    unfold yth
    cases hv : V.1 i with
    | none => rfl
    | some y =>
      obtain ⟨r, q', f⟩ := y
      obtain ⟨c1, -, -⟩ := yC_p hC hi hv
      show (bif true then a ||| (1 <<< (P.2.1 (b + 1) i &&& 31)) else a) = a ||| (1 <<< (zi r &&& 31))
      rw [c1]; rfl) 0
  rw [e]
end
/-- a person's answer: strength, breadth, temper, gall, load, above whom -/
def ypv (T : yT) (V : yV) (p j : Nat) : Int32 := match j with | 0 => T.2.1 p | 1 => T.2.2.1 p | 2 => T.2.2.2.1 p | 3 => V.2.1 p | 4 => yld T V p (V.2.1 p) V.2.2.2 | _ => (yab V p 6).2
section
variable {P : zp} {n : Nat × Nat} {d nl : Nat} {V : yV} {T : yT} {L : Nat → Nat × Nat × Nat} {c0 : Int32}
theorem zp_R0 : zk_gI (zp_M P, n) 269 12 0 = some (P.1 269 0) := zp_gI (by decide +kernel)
theorem zp_R0p {x : Int32} : zk_pf (zp_M P, n) 269 12 0 (.int x) = some (zp_M (zp_sF P 269 0 x), n) := zp_pI (by decide +kernel)
theorem yc_personC (hP : yP P n.1 T V nl L c0) {p w : Int32} : (((yrg T.1 p && yrg 6 w) = false) ∧ zk_sm (d + 20) m_SaddlerKnows_person [.ref 12, .int p, .int w] (zp_M P, n) = some (some (.retAddr 0), (zp_M P, n))) ∨ ∃ a j P1, a < T.1 ∧ j < 6 ∧ p = zi a ∧ w = zi j ∧ zk_sm (d + 20) m_SaddlerKnows_person [.ref 12, .int p, .int w] (zp_M P, n) = some (some (.int (ypv T V a j)), (zp_M P1, n)) ∧ yF [] [] P P1 := by
  have hT := hP.1.1
  have h6 := hT.2.1
  have hC := hP.2.1.1
  have hO := hP.2.1.2.2.1
  cases h : yrg T.1 p with
  | false =>
    refine Or.inl ⟨rfl, ?_⟩
    rw [e_SaddlerKnows_person, zp_Cv, Option.bind_some, yg_pers hT, h, zs_cI, Option.bind_some, zp_ib]; rfl
  | true =>
    obtain ⟨a, ha, rfl⟩ := yrg_o h
    cases h2 : yrg 6 w with
    | false =>
      refine Or.inl ⟨rfl, ?_⟩
      have w' : ∀ k, k < 6 → ¬ w = zi k := fun k hk z => by rw [z, yrg_i hk] at h2; cases h2
      rw [e_SaddlerKnows_person, zp_Cv, Option.bind_some, yg_pers hT, h, zs_cI, Option.bind_some, zp_ib, cond_true, if_neg (show ¬ w = 0 from w' 0 (by decide)), if_neg (show ¬ w = 1 from w' 1 (by decide)), if_neg (show ¬ w = 2 from w' 2 (by decide)), if_neg (show ¬ w = 3 from w' 3 (by decide)), if_neg (show ¬ w = 4 from w' 4 (by decide)), if_neg (show ¬ w = 5 from w' 5 (by decide))]
    | true =>
      obtain ⟨j, hj, rfl⟩ := yrg_o h2
      have hj' : j = 0 ∨ j = 1 ∨ j = 2 ∨ j = 3 ∨ j = 4 ∨ j = 5 := by omega
      have hst : ∀ r (f : Nat → Int32), (∀ p, p < T.1 → P.2.1 r p = f p) → zp_gt P r 6 (zi a) = f a := fun r f hf => (zp_gi (show a < 6 by omega) (by decide)).trans (hf a ha)
      rcases hj' with rfl | rfl | rfl | rfl | rfl | rfl
      · refine Or.inr ⟨a, 0, P, ha, by decide, rfl, rfl, ?_, yF_r⟩
        rw [e_SaddlerKnows_person, zp_Cv, Option.bind_some, yg_pers hT, h, zs_cI, Option.bind_some, zp_ib, cond_true, if_pos (by decide), zp_C3, Option.bind_some, zp_T4, Option.bind_some, zs_at zp_a27 (by decide), zs_cI, Option.bind_some, hst 27 _ (fun p hp => (hT.2.2.1 p hp).1)]
        rfl
      · refine Or.inr ⟨a, 1, P, ha, by decide, rfl, rfl, ?_, yF_r⟩
        rw [e_SaddlerKnows_person, zp_Cv, Option.bind_some, yg_pers hT, h, zs_cI, Option.bind_some, zp_ib, cond_true, if_neg (by decide), if_pos (by decide), zp_C3, Option.bind_some, zp_T5, Option.bind_some, zs_at zp_a28 (by decide), zs_cI, Option.bind_some, hst 28 _ (fun p hp => (hT.2.2.1 p hp).2.1)]
        rfl
      · refine Or.inr ⟨a, 2, P, ha, by decide, rfl, rfl, ?_, yF_r⟩
        rw [e_SaddlerKnows_person, zp_Cv, Option.bind_some, yg_pers hT, h, zs_cI, Option.bind_some, zp_ib, cond_true, if_neg (by decide), if_neg (by decide), if_pos (by decide), zp_C3, Option.bind_some, zp_T6, Option.bind_some, zs_at zp_a29 (by decide), zs_cI, Option.bind_some, hst 29 _ (fun p hp => (hT.2.2.1 p hp).2.2)]
        rfl
      · refine Or.inr ⟨a, 3, P, ha, by decide, rfl, rfl, ?_, yF_r⟩
        rw [e_SaddlerKnows_person, zp_Cv, Option.bind_some, yg_pers hT, h, zs_cI, Option.bind_some, zp_ib, cond_true, if_neg (by decide), if_neg (by decide), if_neg (by decide), if_pos (by decide), zp_C5, Option.bind_some, zp_s3 zs_35, Option.bind_some, zs_at (zp_sb_t zs_35).2.2.2.2 (by decide), zs_cI, Option.bind_some, yC_g hC (by omega)]
        rfl
      · obtain ⟨P1, e1, f1⟩ := zs_loadNow (d := d + 12) (n := n) zs_35 hT hC hO ha
        refine Or.inr ⟨a, 4, P1, ha, by decide, rfl, rfl, ?_, f1⟩
        rw [e_SaddlerKnows_person, zp_Cv, Option.bind_some, yg_pers hT, h, zs_cI, Option.bind_some, zp_ib, cond_true, if_neg (by decide), if_neg (by decide), if_neg (by decide), if_neg (by decide), if_pos (by decide), zp_C4, Option.bind_some, zp_C5, Option.bind_some, zp_Lv, Option.bind_some, e1, zs_cI, Option.bind_some]
        rfl
      · refine Or.inr ⟨a, 5, P, ha, by decide, rfl, rfl, ?_, yF_r⟩
        rw [e_SaddlerKnows_person, zp_Cv, Option.bind_some, yg_pers hT, h, zs_cI, Option.bind_some, zp_ib, cond_true, if_neg (by decide), if_neg (by decide), if_neg (by decide), if_neg (by decide), if_neg (by decide), if_pos (by decide), zp_C5, Option.bind_some, zp_sv zs_35, Option.bind_some, yab_C zs_35 hC hO h6, zs_cI, Option.bind_some]
        rfl
theorem yc_personR (hP : yP P n.1 T V nl L c0) {p w : Int32} : (((yrg T.1 p && yrg 6 w) = false) → ∃ P2, zk_sm (d + 20) m_R_person [.ref 269, .int p, .int w] (zp_M P, n) = some (some (.int 0), (zp_M P2, n)) ∧ P2.1 269 0 = 1 ∧ yF [(269, 0)] [278, 279] P P2) ∧ ∀ a j, a < T.1 → j < 6 → p = zi a → w = zi j → ∃ P2, zk_sm (d + 20) m_R_person [.ref 269, .int p, .int w] (zp_M P, n) = some (some (.int (ypv T V a j)), (zp_M P2, n)) ∧ P2.1 269 0 = 0 ∧ yF [(269, 0)] [278, 279] P P2 := by
  have hT := hP.1.2.1
  have h6 := hT.2.1
  have hR := hP.2.1.2.1
  have hO := hP.2.1.2.2.1
  constructor
  · intro hn
    refine ⟨zp_sF P 269 0 1, ?_, zp_f9, yF_f (by decide)⟩
    cases h : yrg T.1 p with
    | false => rw [e_R_person, zp_Rv, Option.bind_some, yg_Rpers hT, h, zs_cI, Option.bind_some, zp_ib, cond_false, zp_R0p, Option.bind_some, zp_R0, Option.bind_some, zp_f9, if_pos rfl]
    | true =>
      rw [h, Bool.true_and] at hn
      rw [e_R_person, zp_Rv, Option.bind_some, yg_Rpers hT, h, zs_cI, Option.bind_some, zp_ib, cond_true, yg_Rin (m := 6) (by decide) (by decide) (by decide), hn, zs_cI, Option.bind_some, zp_ib, cond_false, zp_R0p, Option.bind_some, zp_R0, Option.bind_some, zp_f9, if_pos rfl]
  · rintro a j ha hj rfl rfl
    have h : yrg T.1 (zi a) = true := yrg_i ha
    have h2 : yrg 6 (zi j) = true := yrg_i hj
    have f0 : yF [(269, 0)] [278, 279] P (zp_sF P 269 0 0) := yF_f (by decide)
    have hT0 : yTR (zp_sF P 269 0 0) T := yTR_F (by decide) f0 hT
    have hR0 : yR ((zp_sF P 269 0 0).2.1 286) V := hR
    have hcl : ∀ X : Option zk_R, (∀ Y : Prop, Y → Y) → True := fun _ _ => trivial
    have hj' : j = 0 ∨ j = 1 ∨ j = 2 ∨ j = 3 ∨ j = 4 ∨ j = 5 := by omega
    rcases hj' with rfl | rfl | rfl | rfl | rfl | rfl
    · refine ⟨zp_sF P 269 0 0, ?_, zp_f9, f0⟩
      rw [e_R_person, zp_Rv, Option.bind_some, yg_Rpers hT, h, zs_cI, Option.bind_some, zp_ib, cond_true, yg_Rin (m := 6) (by decide) (by decide) (by decide), h2, zs_cI, Option.bind_some, zp_ib, cond_true, zp_R0p, Option.bind_some, zp_R0, Option.bind_some, zp_f9, if_neg (by decide), if_neg (by decide), if_neg (by decide), if_neg (by decide), zp_Rv, Option.bind_some, show zk_sm (d + 19) m_R_ofPerson [.ref 269, .int (zi a), .int (zi 0)] (zp_M (zp_sF P 269 0 0), n) = _ from zs_RofS hT0 ha, zs_cI, Option.bind_some]
      rfl
    · refine ⟨zp_sF P 269 0 0, ?_, zp_f9, f0⟩
      rw [e_R_person, zp_Rv, Option.bind_some, yg_Rpers hT, h, zs_cI, Option.bind_some, zp_ib, cond_true, yg_Rin (m := 6) (by decide) (by decide) (by decide), h2, zs_cI, Option.bind_some, zp_ib, cond_true, zp_R0p, Option.bind_some, zp_R0, Option.bind_some, zp_f9, if_neg (by decide), if_neg (by decide), if_neg (by decide), if_neg (by decide), zp_Rv, Option.bind_some, show zk_sm (d + 19) m_R_ofPerson [.ref 269, .int (zi a), .int (zi 1)] (zp_M (zp_sF P 269 0 0), n) = _ from zs_RofB hT0 ha, zs_cI, Option.bind_some]
      rfl
    · refine ⟨zp_sF P 269 0 0, ?_, zp_f9, f0⟩
      rw [e_R_person, zp_Rv, Option.bind_some, yg_Rpers hT, h, zs_cI, Option.bind_some, zp_ib, cond_true, yg_Rin (m := 6) (by decide) (by decide) (by decide), h2, zs_cI, Option.bind_some, zp_ib, cond_true, zp_R0p, Option.bind_some, zp_R0, Option.bind_some, zp_f9, if_neg (by decide), if_neg (by decide), if_neg (by decide), if_neg (by decide), zp_Rv, Option.bind_some, show zk_sm (d + 19) m_R_ofPerson [.ref 269, .int (zi a), .int (zi 2)] (zp_M (zp_sF P 269 0 0), n) = _ from zs_RofT hT0 ha, zs_cI, Option.bind_some]
      rfl
    · refine ⟨zp_sF P 269 0 0, ?_, zp_f9, f0⟩
      rw [e_R_person, zp_Rv, Option.bind_some, yg_Rpers hT, h, zs_cI, Option.bind_some, zp_ib, cond_true, yg_Rin (m := 6) (by decide) (by decide) (by decide), h2, zs_cI, Option.bind_some, zp_ib, cond_true, zp_R0p, Option.bind_some, zp_R0, Option.bind_some, zp_f9, if_neg (by decide), if_pos (by decide), zp_R27, Option.bind_some, zi_32, zp_ldi zp_a286 (show 32 + a < 221 by omega) (by decide), Option.bind_some, hR0.2.1 a (by omega)]
      rfl
    · obtain ⟨P2, e2, f2⟩ := zs_RloadOf (d := d + 11) (n := n) (by omega) hT0 hR0 hO ha
      refine ⟨P2, ?_, (f2.1 269 0 (by decide)).trans zp_f9, yF_t f0 (yF_m f2 (fun _ h => by cases h) (fun _ h => h))⟩
      rw [e_R_person, zp_Rv, Option.bind_some, yg_Rpers hT, h, zs_cI, Option.bind_some, zp_ib, cond_true, yg_Rin (m := 6) (by decide) (by decide) (by decide), h2, zs_cI, Option.bind_some, zp_ib, cond_true, zp_R0p, Option.bind_some, zp_R0, Option.bind_some, zp_f9, if_neg (by decide), if_neg (by decide), if_pos (by decide), zp_Rv, Option.bind_some, e2, zs_cI, Option.bind_some]
      rfl
    · refine ⟨zp_sF P 269 0 0, ?_, zp_f9, f0⟩
      rw [e_R_person, zp_Rv, Option.bind_some, yg_Rpers hT, h, zs_cI, Option.bind_some, zp_ib, cond_true, yg_Rin (m := 6) (by decide) (by decide) (by decide), h2, zs_cI, Option.bind_some, zp_ib, cond_true, zp_R0p, Option.bind_some, zp_R0, Option.bind_some, zp_f9, if_neg (by decide), if_neg (by decide), if_neg (by decide), if_pos (by decide), zp_Rv, Option.bind_some, zs_Rabove hT0 hR0 hO (by omega), zs_cI, Option.bind_some]
      rfl
end
