/-! PARSING 11: laws: truths and conditions, whatever their first unit -/
section
variable {n : Nat × Nat} {L len m dd : Nat} {xs : Nat → Int32} {B : Nat → Nat}
noncomputable def yrT (h : Nat → zk_S → Option zk_R) (e : Nat) (s : zk_S) : Option zk_R := (zk_cV (h e s)).bind fun t => (zk_rv t 269 12).bind fun _ => zk_sm e m_R_goOnAnd [.ref 269] t
noncomputable def yrO (h : Nat → zk_S → Option zk_R) (e : Nat) (s : zk_S) : Option zk_R := (zk_cV (yrT h e s)).bind fun t => (zk_rv t 269 12).bind fun _ => zk_sm e m_R_goOnOr [.ref 269] t
theorem zk_cV_b {α : Type} {x : Option α} {f : α → Option zk_R} : zk_cV (x.bind f) = x.bind (fun a => zk_cV (f a)) := by
  cases x <;> rfl
theorem yrT_b {α : Type} {h : Nat → zk_S → Option zk_R} {e : Nat} {s : zk_S} {F : zk_S → Option α} : (zk_cV (yrT h e s)).bind F = (zk_cV (h e s)).bind fun t => (zk_rv t 269 12).bind fun _ => (zk_cV (zk_sm e m_R_goOnAnd [.ref 269] t)).bind F := by
  unfold yrT
  cases zk_cV (h e s) with
  | none => rfl
  | some t =>
    rw [Option.bind_some, Option.bind_some]
    cases zk_rv t 269 12 <;> rfl
theorem yrO_b {α : Type} {h : Nat → zk_S → Option zk_R} {e : Nat} {s : zk_S} {F : zk_S → Option α} : (zk_cV (yrO h e s)).bind F = (zk_cV (yrT h e s)).bind fun t => (zk_rv t 269 12).bind fun _ => (zk_cV (zk_sm e m_R_goOnOr [.ref 269] t)).bind F := by
  unfold yrO
  cases zk_cV (yrT h e s) with
  | none => rfl
  | some t =>
    rw [Option.bind_some, Option.bind_some]
    cases zk_rv t 269 12 <;> rfl
theorem eA_C {sr : Int32} (e k : Nat) (s : zk_S) (hk : k ≤ 240) : zk_sf (e + 1) m_LawReader_readsTruth 13 [.ref 24, .int (zi dd), .int sr, .int (zi k)] [] s = ylpC 38 (yfU dd) (fun e k s => zk_sf (e + 1) m_LawReader_readsTruth 13 [.ref 24, .int (zi dd), .int sr, .int (zi k)] [] s) e k s := by
  rw [e_LawReader_readsTruth_13, if_neg (show ¬ (240 : Int32) < zi k from fun z => absurd ((zi_l (i := 240) (by decide) (by omega)).mp z) (by omega)), zi_s]
  rfl
theorem eA_R (e : Nat) (s : zk_S) : zk_sf (e + 1) m_R_goOnAnd 0 [.ref 269] [] s = ylpR 38 10 yrU (fun e s => zk_sf (e + 1) m_R_goOnAnd 0 [.ref 269] [] s) e s := by
  rw [e_R_goOnAnd_0]
  rfl
theorem eO_C {sr : Int32} (e k : Nat) (s : zk_S) (hk : k ≤ 240) : zk_sf (e + 1) m_LawReader_readsCondition 13 [.ref 24, .int (zi dd), .int sr, .int (zi k)] [] s = ylpC 124 (fun e s => zk_sm e m_LawReader_readsTruth [.ref 24, .int (zi dd), .int 0] s) (fun e k s => zk_sf (e + 1) m_LawReader_readsCondition 13 [.ref 24, .int (zi dd), .int sr, .int (zi k)] [] s) e k s := by
  rw [e_LawReader_readsCondition_13, if_neg (show ¬ (240 : Int32) < zi k from fun z => absurd ((zi_l (i := 240) (by decide) (by omega)).mp z) (by omega)), zi_s]
  rfl
theorem eO_R (e : Nat) (s : zk_S) : zk_sf (e + 1) m_R_goOnOr 0 [.ref 269] [] s = ylpR 124 11 (yrT yrU) (fun e s => zk_sf (e + 1) m_R_goOnOr 0 [.ref 269] [] s) e s := by
  rw [e_R_goOnOr_0]
  unfold ylpR
  refine congrArg _ (funext fun x1 => ?_)
  by_cases h1 : x1 = -1
  · rw [if_pos h1, if_pos h1]
    refine congrArg _ (funext fun _ => ?_)
    refine congrArg _ (funext fun p2 => ?_)
    by_cases h2 : p2.1 = 124
    · rw [if_pos h2, if_pos h2]
      refine congrArg _ (funext fun x3 => ?_)
      refine congrArg _ (funext fun t4 => ?_)
      refine congrArg _ (funext fun _ => ?_)
      exact (yrT_b (h := yrU) (e := e) (s := t4) (F := fun t5 => (zk_rv t5 269 12).bind fun _ => (zk_cV (zk_sm e m_R_put [.ref 269, .int (zi 11), .int (zi 0)] t5)).bind fun t6 => zk_sf (e + 1) m_R_goOnOr 0 [.ref 269] [] t6)).symm
    · rw [if_neg h2, if_neg h2]
  · rw [if_neg h1, if_neg h1]
/-- what goes on with & -/
theorem yR_and {D : Nat} {sr : Int32} (h240 : len ≤ 240) (hm : m ≤ len) (h6 : dd ≤ 6) (hD : 2 ≤ D) (hU : ∀ m', m ≤ m' → m' ≤ len → yRx n L xs B len m' dd D (yfU dd) yrU (ytyT (2 * dd + 2))) : yRx n L xs B len m dd (D + 1) (fun e s => zk_sf (e + 1) m_LawReader_readsTruth 13 [.ref 24, .int (zi dd), .int sr, .int 0] [] s) (fun e s => zk_sm e m_R_goOnAnd [.ref 269] s) (ytyLT (2 * dd + 1)) := by
  have h := yR_loop (n := n) (L := L) (xs := xs) (B := B) (m := m) (kt := 2 * dd + 1) (p := 10) (cs := 38) (l := fun e k s => zk_sf (e + 1) m_LawReader_readsTruth 13 [.ref 24, .int (zi dd), .int sr, .int (zi k)] [] s) (l' := fun e s => zk_sf (e + 1) m_R_goOnAnd 0 [.ref 269] [] s) h240 h6 hD (by decide) (by decide) (fun ts => rfl) hU (fun e k s hk => eA_C e k s hk) (fun e s => eA_R e s) (len - m) m 0 rfl (Nat.le_refl m) hm (Nat.zero_le m)
  exact yRx_r (f := fun e s => zk_sf (e + 1) m_LawReader_readsTruth 13 [.ref 24, .int (zi dd), .int sr, .int (zi 0)] [] s) (f' := fun e s => zk_sf (e + 1) m_R_goOnAnd 0 [.ref 269] [] s) h (fun Q n e _ _ => (e_R_goOnAnd e 269 (zp_M Q, n)).trans (e_R_goOnAnd_0 e 269 (zp_M Q, n)).symm)
theorem yP_and {D : Nat} : yPass n (D + 1) (fun e s => zk_sm e m_R_goOnAnd [.ref 269] s) := fun Q n e q he hw hq => by
  obtain ⟨e, rfl⟩ : ∃ e', e = e' + 1 := ⟨e - 1, by omega⟩
  show zk_sm (e + 1) m_R_goOnAnd [.ref 269] (zp_M Q, n) = _
  rw [e_R_goOnAnd, zp_R4', Option.bind_some, hw, if_neg (zi_n1 (by omega))]
theorem yP_or {D : Nat} : yPass n (D + 1) (fun e s => zk_sm e m_R_goOnOr [.ref 269] s) := fun Q n e q he hw hq => by
  obtain ⟨e, rfl⟩ : ∃ e', e = e' + 1 := ⟨e - 1, by omega⟩
  show zk_sm (e + 1) m_R_goOnOr [.ref 269] (zp_M Q, n) = _
  rw [e_R_goOnOr, zp_R4', Option.bind_some, hw, if_neg (zi_n1 (by omega))]
/-- a truth -/
theorem yR_truth {D : Nat} {sr : Int32} {h : Nat → zk_S → Option zk_R} {ty1 ty : List (Nat × Nat) → Prop} (h240 : len ≤ 240) (hm : m ≤ len) (h6 : dd ≤ 6) (hD : 2 ≤ D) (hU : ∀ m', m ≤ m' → m' ≤ len → yRx n L xs B len m' dd D (yfU dd) yrU (ytyT (2 * dd + 2))) (hF : yRx n L xs B len m dd D (fun e s => zk_sm e m_LawReader_readsUnit [.ref 24, .int (zi dd), .int sr] s) h ty1) (hty : ∀ X Y, ty1 X → ytyLT (2 * dd + 1) Y → ty (X ++ Y)) : yRx n L xs B len m dd (D + 2) (fun e s => zk_sm e m_LawReader_readsTruth [.ref 24, .int (zi dd), .int sr] s) (yrT h) ty := by
  refine yRx_c (D := D + 1) (f := fun e s => zk_sm (e + 1) m_LawReader_readsTruth [.ref 24, .int (zi dd), .int sr] s) ?_ (fun P e _ => rfl)
  refine yR_seq (D := D + 1) (f := fun e s => zk_sm e m_LawReader_readsUnit [.ref 24, .int (zi dd), .int sr] s) (g := fun e s => zk_sf (e + 1) m_LawReader_readsTruth 13 [.ref 24, .int (zi dd), .int sr, .int 0] [] s) (f' := h) (g' := fun e s => zk_sm e m_R_goOnAnd [.ref 269] s) h240 (fun P P3 e _ he => ?_) (fun P P3 e _ he => ?_) (fun Q Q3 n e _ he => ?_) (yRx_D hF (Nat.le_succ D)) (fun q h1 h2 => yR_and h240 h2 h6 hD (fun m' h3 h4 => hU m' (by omega) h4)) yP_and hty
  · show zk_sm (e + 1) m_LawReader_readsTruth [.ref 24, .int (zi dd), .int sr] (zp_M P, n) = _
    rw [e_LawReader_readsTruth, zp_Yv, Option.bind_some, show zk_sm e m_LawReader_readsUnit [.ref 24, .int (zi dd), .int sr] (zp_M P, n) = _ from he, zs_cI, Option.bind_some, if_pos rfl]
  · show zk_sm (e + 1) m_LawReader_readsTruth [.ref 24, .int (zi dd), .int sr] (zp_M P, n) = _
    rw [e_LawReader_readsTruth, zp_Yv, Option.bind_some, show zk_sm e m_LawReader_readsUnit [.ref 24, .int (zi dd), .int sr] (zp_M P, n) = _ from he, zs_cI, Option.bind_some, if_neg zi_1n]
  · unfold yrT
    rw [he, zs_cV, Option.bind_some, zp_Rv, Option.bind_some]
/-- a condition -/
theorem yR_condg {D : Nat} {sr : Int32} {h : Nat → zk_S → Option zk_R} {ty1 ty2 ty : List (Nat × Nat) → Prop} (h240 : len ≤ 240) (hm : m ≤ len) (h6 : dd ≤ 6) (hD : 2 ≤ D) (hU : ∀ m', m ≤ m' → m' ≤ len → yRx n L xs B len m' dd D (yfU dd) yrU (ytyT (2 * dd + 2))) (hF : yRx n L xs B len m dd D (fun e s => zk_sm e m_LawReader_readsUnit [.ref 24, .int (zi dd), .int sr] s) h ty1) (hty : ∀ X Y, ty1 X → ytyLT (2 * dd + 1) Y → ty2 (X ++ Y)) (hty2 : ∀ X Y, ty2 X → ytyLT (2 * dd) Y → ty (X ++ Y)) : yRx n L xs B len m dd (D + 4) (fun e s => zk_sm e m_LawReader_readsCondition [.ref 24, .int (zi dd), .int sr] s) (yrO h) ty := by
  have hT : ∀ m', m ≤ m' → m' ≤ len → yRx n L xs B len m' dd (D + 2) (fun e s => zk_sm e m_LawReader_readsTruth [.ref 24, .int (zi dd), .int 0] s) (yrT yrU) (ytyT (2 * dd + 1)) := fun m' h1 h2 => yR_truth h240 h2 h6 hD (fun m'' h3 h4 => hU m'' (by omega) h4) (hU m' h1 h2) (fun X Y x y ts hts => by rw [yty_a, x ts (by omega), Option.bind_some, y ts hts])
  have hO : ∀ q, m ≤ q → q ≤ len → yRx n L xs B len q dd (D + 3) (fun e s => zk_sf (e + 1) m_LawReader_readsCondition 13 [.ref 24, .int (zi dd), .int sr, .int 0] [] s) (fun e s => zk_sm e m_R_goOnOr [.ref 269] s) (ytyLT (2 * dd)) := fun q h1 h2 => by
    have hl := yR_loop (n := n) (L := L) (xs := xs) (B := B) (m := q) (dd := dd) (D := D + 2) (kt := 2 * dd) (p := 11) (cs := 124) (f := fun e s => zk_sm e m_LawReader_readsTruth [.ref 24, .int (zi dd), .int 0] s) (f' := yrT yrU) (l := fun e k s => zk_sf (e + 1) m_LawReader_readsCondition 13 [.ref 24, .int (zi dd), .int sr, .int (zi k)] [] s) (l' := fun e s => zk_sf (e + 1) m_R_goOnOr 0 [.ref 269] [] s) h240 h6 (by omega) (by decide) (by decide) (fun ts => rfl) (fun m' h3 h4 => hT m' (by omega) h4) (fun e k s hk => eO_C e k s hk) (fun e s => eO_R e s) (len - q) q 0 rfl (Nat.le_refl q) h2 (Nat.zero_le q)
    exact yRx_r (f := fun e s => zk_sf (e + 1) m_LawReader_readsCondition 13 [.ref 24, .int (zi dd), .int sr, .int (zi 0)] [] s) (f' := fun e s => zk_sf (e + 1) m_R_goOnOr 0 [.ref 269] [] s) hl (fun Q n e _ _ => (e_R_goOnOr e 269 (zp_M Q, n)).trans (e_R_goOnOr_0 e 269 (zp_M Q, n)).symm)
  refine yRx_c (D := D + 3) (f := fun e s => zk_sm (e + 1) m_LawReader_readsCondition [.ref 24, .int (zi dd), .int sr] s) ?_ (fun P e _ => rfl)
  refine yR_seq (D := D + 3) (f := fun e s => zk_sm e m_LawReader_readsTruth [.ref 24, .int (zi dd), .int sr] s) (g := fun e s => zk_sf (e + 1) m_LawReader_readsCondition 13 [.ref 24, .int (zi dd), .int sr, .int 0] [] s) (f' := yrT h) (g' := fun e s => zk_sm e m_R_goOnOr [.ref 269] s) h240 (fun P P3 e _ he => ?_) (fun P P3 e _ he => ?_) (fun Q Q3 n e _ he => ?_) (yRx_D (yR_truth h240 hm h6 hD hU hF hty) (Nat.le_succ _)) hO yP_or hty2
  · show zk_sm (e + 1) m_LawReader_readsCondition [.ref 24, .int (zi dd), .int sr] (zp_M P, n) = _
    rw [e_LawReader_readsCondition, zp_Yv, Option.bind_some, show zk_sm e m_LawReader_readsTruth [.ref 24, .int (zi dd), .int sr] (zp_M P, n) = _ from he, zs_cI, Option.bind_some, if_pos rfl]
  · show zk_sm (e + 1) m_LawReader_readsCondition [.ref 24, .int (zi dd), .int sr] (zp_M P, n) = _
    rw [e_LawReader_readsCondition, zp_Yv, Option.bind_some, show zk_sm e m_LawReader_readsTruth [.ref 24, .int (zi dd), .int sr] (zp_M P, n) = _ from he, zs_cI, Option.bind_some, if_neg zi_1n]
  · unfold yrO
    rw [he, zs_cV, Option.bind_some, zp_Rv, Option.bind_some]
/-- conditions that begin anew -/
theorem yR_cond {D : Nat} (h240 : len ≤ 240) (hm : m ≤ len) (h6 : dd ≤ 6) (hD : 2 ≤ D) (hU : ∀ m', m ≤ m' → m' ≤ len → yRx n L xs B len m' dd D (yfU dd) yrU (ytyT (2 * dd + 2))) : yRx n L xs B len m dd (D + 5) (yfC dd) yrC (ytyT (2 * dd)) := by
  have h := yR_condg (ty2 := ytyT (2 * dd + 1)) (ty := ytyT (2 * dd)) h240 hm h6 hD hU (hU m (Nat.le_refl m) hm) (fun X Y x y ts hts => by rw [yty_a, x ts (by omega), Option.bind_some, y ts hts]) (fun X Y x y ts hts => by rw [yty_a, x ts (by omega), Option.bind_some, y ts hts])
  obtain ⟨o, ab, oC, oR⟩ := h
  refine ⟨o, ab, fun P u e he hP => oC P u e (by omega) hP, fun Q n c t e he hQ => ?_⟩
  obtain ⟨e, rfl⟩ : ∃ e', e = e' + 1 := ⟨e - 1, by omega⟩
  obtain ⟨Q3, e3, r3⟩ := oR Q n c t e (by omega) hQ
  refine ⟨Q3, ?_, r3⟩
  show zk_sm (e + 1) m_R_condition [.ref 269] (zp_M Q, n) = _
  have hb : ((zk_cV (yrO yrU e (zp_M Q, n))).bind fun t3 => (some (none, t3) : Option zk_R)) = some (none, (zp_M Q3, n)) := by rw [e3, zs_cV, Option.bind_some]
  rw [yrO_b, yrT_b] at hb
  rw [e_R_condition, zp_Rv, Option.bind_some]
  exact hb
/-- units and conditions, whatever is ahead -/
theorem yR_units (hB : ∀ i, i < len → 1 ≤ B i ∧ B i < 256) (h240 : len ≤ 240) : ∀ (N m dd : Nat), len < m + N → m ≤ len → dd ≤ 6 → yRx n L xs B len m dd (7 * (6 - dd) + 12) (yfU dd) yrU (ytyT (2 * dd + 2))
  | 0, m, dd, h, hm, _ => by omega
  | N + 1, m, dd, h, hm, h6 => yR_unit h240 hm h6 (fun m' h1 h2 => yR_sums hB h240 (len + 1) m' dd (by omega) h2 h6) (fun hd m' h1 h2 => yR_units hB h240 N m' (dd + 1) (by omega) h2 (by omega)) (fun hd m' h1 h2 => yR_cond h240 h2 (by omega) (by omega) (fun m'' h3 h4 => yR_units hB h240 N m'' (dd + 1) (by omega) h4 (by omega)))
/-- the rest of a unit whose first sum is read -/
theorem yR_unit1 (h240 : len ≤ 240) (hm : m ≤ len) (h6 : dd ≤ 6) (hs : ysk B len m = m) (hS : ∀ m', m ≤ m' → m' ≤ len → yRd n L xs B len m' dd (3 * (6 - dd) + 8) m_LawReader_readsSum m_R_sum [.int (zi dd)] (ytyF (2 * dd + 3))) : yRx n L xs B len m dd (3 * (6 - dd) + 10) (fun e s => zk_sm e m_LawReader_readsUnit [.ref 24, .int (zi dd), .int 1] s) (fun e s => zk_sm e m_R_compare [.ref 269] s) (ytyLC (2 * dd + 2)) := by
  obtain ⟨o, ab, oC, oR⟩ := yR_cmp (n := n) (L := L) (xs := xs) (B := B) h240 hm h6 hS
  refine ⟨o, ab, fun P u e he hP => ?_, fun Q n c t e he hQ => oR Q n c t e (by omega) hQ⟩
  obtain ⟨e, rfl⟩ : ∃ e', e = e' + 1 := ⟨e - 1, by omega⟩
  obtain ⟨c1, c2, c3, c4, c5, c6⟩ := hP
  obtain ⟨P1, e1, g1, f1⟩ := zs_sign (d := e) (n := n) c1 c2 c3
  rw [hs] at g1
  obtain ⟨P3, e3, F3, g3, E3, X3⟩ := oC P1 u e (by omega) ⟨yTp_F (by decide) (by decide) f1 c1, g1, c3, (f1.1 24 1 (by decide)).trans c4, c5, zk_sm_k e1 c6⟩
  refine ⟨P3, ?_, yF_t (yF_p1 f1) F3, g3, E3, fun X hX => ?_⟩
  · show zk_sm (e + 1) m_LawReader_readsUnit [.ref 24, .int (zi dd), .int 1] (zp_M P, n) = _
    rw [e_LawReader_readsUnit, zp_Y2, Option.bind_some, zp_Pv', Option.bind_some, e1, zs_cI, Option.bind_some, if_neg zi_1n]
    have h1 : ycmC dd e (zp_M P1, n) = _ := e3
    unfold ycmC at h1
    by_cases a : yhb B len (ysk B len m) = 33
    · rw [if_neg zi_1n]; exact h1
    · rw [if_neg zi_1n]; exact h1
  · obtain ⟨x1, x2, x3⟩ := X3 X hX
    exact ⟨x1, x2, fun j hj => by rw [x3 j hj, f1.2.1 25 (by decide)]⟩
end
