/-! PARSING 21: counties: is it whole -/
def yokd (D : yD) (l : Nat) : Prop := (D.2.2.2 l).1 < D.2.1.1 ∧ (D.2.2.2 l).2.1 < D.2.1.1 ∧ (D.2.2.2 l).1 ≠ (D.2.2.2 l).2.1 ∧ ∀ j, j < l → ¬ ((D.2.2.2 j).1 = (D.2.2.2 l).1 ∧ (D.2.2.2 j).2.1 = (D.2.2.2 l).2.1)
def yWh (D : yD) : Prop := 2 ≤ D.2.1.1 ∧ ∀ l, l < D.2.2.1 → yokd D l
section
variable {n : Nat × Nat} {L len m : Nat} {xs : Nat → Int32} {B : Nat → Nat} {D : yD}
theorem yZ_clause (hB : ∀ i, i < len → 1 ≤ B i ∧ B i < 256) (h240 : len ≤ 240) (hv : yDv D) (hm : m ≤ len) : ∃ o, yZc n L xs B len D m o := by
  by_cases h1 : yhb B len (ysk B len m) = 115
  · cases ht : D.1.2.2 with
    | false => exact yZ_s hB h240 hv hm h1 ht
    | true => exact ⟨_, yZ_bad hm (fun _ => ht) (fun z => absurd (h1.symm.trans z) (by decide)) (fun z => absurd (h1.symm.trans z) (by decide))⟩
  · by_cases h2 : yhb B len (ysk B len m) = 112
    · by_cases ht : D.2.1.1 < 6
      · exact yZ_p hB h240 hv hm h2 ht
      · exact ⟨_, yZ_bad hm (fun z => absurd z h1) (fun _ => by have := hv.2.1; omega) (fun z => absurd (h2.symm.trans z) (by decide))⟩
    · by_cases h3 : yhb B len (ysk B len m) = 108
      · by_cases ht : D.2.2.1 < 8
        · exact yZ_l hB h240 hv hm h3 ht
        · exact ⟨_, yZ_bad hm (fun z => absurd z h1) (fun z => absurd z h2) (fun _ => by have := hv.2.2.1; omega)⟩
      · exact ⟨_, yZ_bad hm (fun z => absurd z h1) (fun z => absurd z h2) (fun z => absurd z h3)⟩
theorem zs_ahead {P : zp} {d l : Nat} (hv : yDv D) (hD : yDp P D) (hl : l < D.2.2.1) : ((∀ j, j < l → ¬ ((D.2.2.2 j).1 = (D.2.2.2 l).1 ∧ (D.2.2.2 j).2.1 = (D.2.2.2 l).2.1)) → zk_sm (d + 1) m_Told_isToldAhead [.ref 16, .int (zi l)] (zp_M P, n) = some (some (.int 0), (zp_M P, n))) ∧ ((¬ ∀ j, j < l → ¬ ((D.2.2.2 j).1 = (D.2.2.2 l).1 ∧ (D.2.2.2 j).2.1 = (D.2.2.2 l).2.1)) → zk_sm (d + 1) m_Told_isToldAhead [.ref 16, .int (zi l)] (zp_M P, n) = some (some (.int 1), (zp_M P, n))) := by
  obtain ⟨v1, v2, v3, v4⟩ := hv
  obtain ⟨d1, d2, d3, d4, d5, d6, d7⟩ := hD
  rw [e_Told_isToldAhead]
  refine zl_ind (m := l) (L := fun j (_ : Unit) => zk_sf (d + 1) m_Told_isToldAhead 2 [.ref 16, .int (zi l), .int (zi j)] [] (zp_M P, n)) (I := fun i _ => ∀ j, j < i → ¬ ((D.2.2.2 j).1 = (D.2.2.2 l).1 ∧ (D.2.2.2 j).2.1 = (D.2.2.2 l).2.1)) (Q := fun r => ((∀ j, j < l → ¬ ((D.2.2.2 j).1 = (D.2.2.2 l).1 ∧ (D.2.2.2 j).2.1 = (D.2.2.2 l).2.1)) → r = some (some (.int 0), (zp_M P, n))) ∧ ((¬ ∀ j, j < l → ¬ ((D.2.2.2 j).1 = (D.2.2.2 l).1 ∧ (D.2.2.2 j).2.1 = (D.2.2.2 l).2.1)) → r = some (some (.int 1), (zp_M P, n)))) (fun j _ hj hI => ?_) (fun _ hI => ?_) (a := ()) (fun j hj => absurd hj (Nat.not_lt_zero j))
  · obtain ⟨a1, a2, -⟩ := d7 j (by omega)
    obtain ⟨b1, b2, -⟩ := d7 l hl
    have wj := v4 j (by omega)
    have wl := v4 l hl
    have hs := e_Told_isToldAhead_2 d 16 (zi l) (zi j) (zp_M P, n)
    rw [if_pos ((zi_l (by omega) (by omega)).mpr hj), zz_T7, Option.bind_some, zs_at0 zz_a20 (show j < 8 by omega) (by decide), zs_cI, Option.bind_some, zz_T7, Option.bind_some, zs_at0 zz_a20 (show l < 8 by omega) (by decide), zs_cI, Option.bind_some, a1, b1] at hs
    have go : zk_sf (d + 1) m_Told_isToldAhead 2 [.ref 16, .int (zi l), .int (zi j)] [] (zp_M P, n) = zk_sf (d + 1) m_Told_isToldAhead 2 [.ref 16, .int (zi l), .int (zi (j + 1))] [] (zp_M P, n) → ¬ ((D.2.2.2 j).1 = (D.2.2.2 l).1 ∧ (D.2.2.2 j).2.1 = (D.2.2.2 l).2.1) → ∃ a' : Unit, zk_sf (d + 1) m_Told_isToldAhead 2 [.ref 16, .int (zi l), .int (zi j)] [] (zp_M P, n) = zk_sf (d + 1) m_Told_isToldAhead 2 [.ref 16, .int (zi l), .int (zi (j + 1))] [] (zp_M P, n) ∧ ∀ j', j' < j + 1 → ¬ ((D.2.2.2 j').1 = (D.2.2.2 l).1 ∧ (D.2.2.2 j').2.1 = (D.2.2.2 l).2.1) := fun h1 h2 => ⟨(), h1, fun j' hj' => by
      by_cases z : j' = j
      · rw [z]; exact h2
      · exact hI j' (by omega)⟩
    by_cases x : (D.2.2.2 j).1 = (D.2.2.2 l).1
    · rw [if_pos (show zi _ = zi _ by rw [x]), zz_T8, Option.bind_some, zs_at0 zz_a21 (show j < 8 by omega) (by decide), zs_cI, Option.bind_some, zz_T8, Option.bind_some, zs_at0 zz_a21 (show l < 8 by omega) (by decide), zs_cI, Option.bind_some, a2, b2] at hs
      by_cases y : (D.2.2.2 j).2.1 = (D.2.2.2 l).2.1
      · rw [if_pos (show zi _ = zi _ by rw [y])] at hs
        exact Or.inl ⟨fun z => absurd ⟨x, y⟩ (z j hj), fun _ => hs⟩
      · rw [if_neg (show ¬ zi _ = zi _ from fun z => y ((zi_eq (by omega) (by omega)).mp z)), zi_s j] at hs
        exact Or.inr (go hs (fun z => y z.2))
    · rw [if_neg (show ¬ zi _ = zi _ from fun z => x ((zi_eq (by omega) (by omega)).mp z)), zi_s j] at hs
      exact Or.inr (go hs (fun z => x z.1))
  · refine ⟨fun _ => ?_, fun z => absurd hI z⟩
    show zk_sf (d + 1) m_Told_isToldAhead 2 [.ref 16, .int (zi l), .int (zi l)] [] (zp_M P, n) = _
    rw [e_Told_isToldAhead_2, if_neg (fun z => absurd ((zi_l (by omega) (by omega)).mp z) (Nat.lt_irrefl _))]
theorem zs_whole {P : zp} {d : Nat} (hv : yDv D) (hD : yDp P D) : (yWh D → zk_sm (d + 2) m_Told_isWhole [.ref 16] (zp_M P, n) = some (some (.int 1), (zp_M P, n))) ∧ (¬ yWh D → zk_sm (d + 2) m_Told_isWhole [.ref 16] (zp_M P, n) = some (some (.int 0), (zp_M P, n))) := by
  obtain ⟨v1, v2, v3, v4⟩ := id hv
  obtain ⟨d1, d2, d3, d4, d5, d6, d7⟩ := id hD
  rw [e_Told_isWhole, zz_T2, Option.bind_some, d4]
  by_cases h2 : 2 ≤ D.2.1.1
  · rw [if_neg (show ¬ zi D.2.1.1 < 2 from fun z => absurd ((zi_l (m := 2) (by omega) (by decide)).mp z) (by omega))]
    refine zl_ind (m := D.2.2.1) (L := fun l (_ : Unit) => zk_sf (d + 2) m_Told_isWhole 12 [.ref 16, .int (zi l)] [] (zp_M P, n)) (I := fun i _ => ∀ l, l < i → yokd D l) (Q := fun r => (yWh D → r = some (some (.int 1), (zp_M P, n))) ∧ (¬ yWh D → r = some (some (.int 0), (zp_M P, n)))) (fun l _ hl hI => ?_) (fun _ hI => ?_) (a := ()) (fun j hj => absurd hj (Nat.not_lt_zero j))
    · obtain ⟨a1, a2, -⟩ := d7 l hl
      have wl := v4 l hl
      have bad : ¬ yokd D l → zk_sf (d + 2) m_Told_isWhole 12 [.ref 16, .int (zi l)] [] (zp_M P, n) = some (some (.int 0), (zp_M P, n)) → (yWh D → zk_sf (d + 2) m_Told_isWhole 12 [.ref 16, .int (zi l)] [] (zp_M P, n) = some (some (.int 1), (zp_M P, n))) ∧ (¬ yWh D → zk_sf (d + 2) m_Told_isWhole 12 [.ref 16, .int (zi l)] [] (zp_M P, n) = some (some (.int 0), (zp_M P, n))) := fun h1 h2 => ⟨fun z => absurd (z.2 l hl) h1, fun _ => h2⟩
      have hs := e_Told_isWhole_12 (d + 1) 16 (zi l) (zp_M P, n)
      rw [zz_T3, Option.bind_some, d5, if_pos ((zi_l (by omega) (by omega)).mpr hl), zz_T7, Option.bind_some, zs_at0 zz_a20 (show l < 8 by omega) (by decide), zs_cI, Option.bind_some, zz_T2, Option.bind_some, d4, a1] at hs
      by_cases x : (D.2.2.2 l).1 < D.2.1.1
      · rw [if_pos (show zi _ < zi _ from (zi_l (by omega) (by omega)).mpr x), zz_T8, Option.bind_some, zs_at0 zz_a21 (show l < 8 by omega) (by decide), zs_cI, Option.bind_some, zz_T2, Option.bind_some, d4, a2] at hs
        by_cases y : (D.2.2.2 l).2.1 < D.2.1.1
        · rw [if_pos (show zi _ < zi _ from (zi_l (by omega) (by omega)).mpr y), zz_T7, Option.bind_some, zs_at0 zz_a20 (show l < 8 by omega) (by decide), zs_cI, Option.bind_some, a1, zz_T8, Option.bind_some, zs_at0 zz_a21 (show l < 8 by omega) (by decide), zs_cI, Option.bind_some, a2] at hs
          by_cases w : (D.2.2.2 l).1 = (D.2.2.2 l).2.1
          · rw [if_pos (show zi _ = zi _ by rw [w])] at hs
            exact Or.inl (bad (fun z => z.2.2.1 w) hs)
          · rw [if_neg (show ¬ zi _ = zi _ from fun z => w ((zi_eq (by omega) (by omega)).mp z)), zz_Tv, Option.bind_some] at hs
            obtain ⟨t1, t2⟩ := zs_ahead (n := n) (d := d) hv hD hl
            by_cases t : ∀ j, j < l → ¬ ((D.2.2.2 j).1 = (D.2.2.2 l).1 ∧ (D.2.2.2 j).2.1 = (D.2.2.2 l).2.1)
            · rw [t1 t, zs_cI, Option.bind_some, if_pos rfl, zi_s l] at hs
              refine Or.inr ⟨(), hs, fun j hj => ?_⟩
              by_cases z : j = l
              · rw [z]; exact ⟨x, y, w, t⟩
              · exact hI j (by omega)
            · rw [t2 t, zs_cI, Option.bind_some, if_neg zi_1n] at hs
              exact Or.inl (bad (fun z => t z.2.2.2) hs)
        · rw [if_neg (show ¬ zi _ < zi _ from fun z => y ((zi_l (by omega) (by omega)).mp z))] at hs
          exact Or.inl (bad (fun z => y z.2.1) hs)
      · rw [if_neg (show ¬ zi _ < zi _ from fun z => x ((zi_l (by omega) (by omega)).mp z))] at hs
        exact Or.inl (bad (fun z => x z.1) hs)
    · refine ⟨fun _ => ?_, fun z => absurd ⟨h2, hI⟩ z⟩
      show zk_sf (d + 2) m_Told_isWhole 12 [.ref 16, .int (zi D.2.2.1)] [] (zp_M P, n) = _
      rw [e_Told_isWhole_12, zz_T3, Option.bind_some, d5, if_neg (fun z => absurd ((zi_l (by omega) (by omega)).mp z) (Nat.lt_irrefl _))]
  · rw [if_pos (show zi D.2.1.1 < 2 from (zi_l (m := 2) (by omega) (by decide)).mpr (by omega))]
    exact ⟨fun z => absurd z.1 h2, fun _ => rfl⟩
theorem zs_Rwh83 {Q : zp} {d l : Nat} {g : Bool} (hv : yDv D) (hD : yDq Q D) (hl : l < D.2.2.1) : ∃ g' : Bool, (g' = true ↔ g = true ∧ ∀ j, j < l → ¬ ((D.2.2.2 j).1 = (D.2.2.2 l).1 ∧ (D.2.2.2 j).2.1 = (D.2.2.2 l).2.1)) ∧ zk_sf d m_R_isWhole 83 [.ref 269, .int (zp_b g), .int (zi l), .int (zi (D.2.2.2 l).1), .int (zi (D.2.2.2 l).2.1), .int 0] [] (zp_M Q, n) = zk_sf d m_R_isWhole 16 [.ref 269, .int (zp_b g'), .int (zi (l + 1)), .int (zi (D.2.2.2 l).1), .int (zi (D.2.2.2 l).2.1), .int (zi l)] [] (zp_M Q, n) := by
  obtain ⟨v1, v2, v3, v4⟩ := hv
  obtain ⟨d1, d2, d3, d4, d6, d7⟩ := hD
  refine zl_ind (m := l) (L := fun j (b : Bool) => zk_sf d m_R_isWhole 83 [.ref 269, .int (zp_b b), .int (zi l), .int (zi (D.2.2.2 l).1), .int (zi (D.2.2.2 l).2.1), .int (zi j)] [] (zp_M Q, n)) (I := fun i b => b = true ↔ g = true ∧ ∀ j, j < i → ¬ ((D.2.2.2 j).1 = (D.2.2.2 l).1 ∧ (D.2.2.2 j).2.1 = (D.2.2.2 l).2.1)) (Q := fun r => ∃ g' : Bool, (g' = true ↔ g = true ∧ ∀ j, j < l → ¬ ((D.2.2.2 j).1 = (D.2.2.2 l).1 ∧ (D.2.2.2 j).2.1 = (D.2.2.2 l).2.1)) ∧ r = zk_sf d m_R_isWhole 16 [.ref 269, .int (zp_b g'), .int (zi (l + 1)), .int (zi (D.2.2.2 l).1), .int (zi (D.2.2.2 l).2.1), .int (zi l)] [] (zp_M Q, n)) (fun j b hj hI => Or.inr ?_) (fun b hI => ⟨b, hI, ?_⟩) (a := g) ⟨fun z => ⟨z, fun j hj => absurd hj (Nat.not_lt_zero j)⟩, fun z => z.1⟩
  · obtain ⟨a1, a2, -⟩ := d7 j (by omega)
    have wj := v4 j (by omega)
    have wl := v4 l hl
    have hs := e_R_isWhole_83 d 269 (zp_b b) (zi l) (zi (D.2.2.2 l).1) (zi (D.2.2.2 l).2.1) (zi j) (zp_M Q, n)
    rw [if_pos ((zi_l (by omega) (by omega)).mpr hj), zp_ib] at hs
    cases b with
    | false =>
      rw [cond_false, zi_s j] at hs
      exact ⟨false, hs, ⟨fun z => (by cases z), fun z => hI.mpr ⟨z.1, fun j' hj' => z.2 j' (by omega)⟩⟩⟩
    | true =>
      have hg := hI.mp rfl
      rw [cond_true, zz_R19, Option.bind_some, show 3 * zi j + 0 = zi (3 * j + 0) from zi_3c j 0, zp_ldi zz_a282 (show 3 * j + 0 < 24 by omega) (by decide), Option.bind_some, a1] at hs
      have st : ∀ b' : Bool, (b' = true ↔ ¬ ((D.2.2.2 j).1 = (D.2.2.2 l).1 ∧ (D.2.2.2 j).2.1 = (D.2.2.2 l).2.1)) → (b' = true ↔ g = true ∧ ∀ j', j' < j + 1 → ¬ ((D.2.2.2 j').1 = (D.2.2.2 l).1 ∧ (D.2.2.2 j').2.1 = (D.2.2.2 l).2.1)) := fun b' hb => ⟨fun z => ⟨hg.1, fun j' hj' => by
        by_cases w : j' = j
        · rw [w]; exact hb.mp z
        · exact hg.2 j' (by omega)⟩, fun z => hb.mpr (z.2 j (by omega))⟩
      by_cases x : (D.2.2.2 j).1 = (D.2.2.2 l).1
      · rw [if_pos (show zi _ = zi _ by rw [x]), Option.bind_some, show 3 * zi j + 1 = zi (3 * j + 1) from zi_3c j 1, zp_ldi zz_a282 (show 3 * j + 1 < 24 by omega) (by decide), Option.bind_some, a2] at hs
        by_cases y : (D.2.2.2 j).2.1 = (D.2.2.2 l).2.1
        · rw [if_pos (show zi _ = zi _ by rw [y]), zi_s j] at hs
          exact ⟨false, hs, st false ⟨fun z => (by cases z), fun z => absurd ⟨x, y⟩ z⟩⟩
        · rw [if_neg (show ¬ zi _ = zi _ from fun z => y ((zi_eq (by omega) (by omega)).mp z)), zi_s j] at hs
          exact ⟨true, hs, st true ⟨fun _ z => y z.2, fun _ => rfl⟩⟩
      · rw [if_neg (show ¬ zi _ = zi _ from fun z => x ((zi_eq (by omega) (by omega)).mp z)), zi_s j] at hs
        exact ⟨true, hs, st true ⟨fun _ z => x z.1, fun _ => rfl⟩⟩
  · show zk_sf d m_R_isWhole 83 [.ref 269, .int (zp_b b), .int (zi l), .int (zi (D.2.2.2 l).1), .int (zi (D.2.2.2 l).2.1), .int (zi l)] [] (zp_M Q, n) = _
    rw [e_R_isWhole_83, if_neg (fun z => absurd ((zi_l (by omega) (by omega)).mp z) (Nat.lt_irrefl _)), zi_s l]
theorem zs_Rwhole {Q : zp} {d : Nat} (hv : yDv D) (hD : yDq Q D) : (yWh D → zk_sm d m_R_isWhole [.ref 269] (zp_M Q, n) = some (some (.int 1), (zp_M Q, n))) ∧ (¬ yWh D → zk_sm d m_R_isWhole [.ref 269] (zp_M Q, n) = some (some (.int 0), (zp_M Q, n))) := by
  obtain ⟨v1, v2, v3, v4⟩ := id hv
  obtain ⟨d1, d2, d3, d4, d6, d7⟩ := id hD
  have key : ∀ g0 : Bool, (g0 = true ↔ 2 ≤ D.2.1.1) → (yWh D → zk_sf d m_R_isWhole 16 [.ref 269, .int (zp_b g0), .int 0, .retAddr 0, .retAddr 0, .retAddr 0] [] (zp_M Q, n) = some (some (.int 1), (zp_M Q, n))) ∧ (¬ yWh D → zk_sf d m_R_isWhole 16 [.ref 269, .int (zp_b g0), .int 0, .retAddr 0, .retAddr 0, .retAddr 0] [] (zp_M Q, n) = some (some (.int 0), (zp_M Q, n))) := by
    intro g0 hg0
    refine zl_ind (m := D.2.2.1) (L := fun l (b : Bool × Value × Value × Value) => zk_sf d m_R_isWhole 16 [.ref 269, .int (zp_b b.1), .int (zi l), b.2.1, b.2.2.1, b.2.2.2] [] (zp_M Q, n)) (I := fun i b => b.1 = true ↔ 2 ≤ D.2.1.1 ∧ ∀ l, l < i → yokd D l) (Q := fun r => (yWh D → r = some (some (.int 1), (zp_M Q, n))) ∧ (¬ yWh D → r = some (some (.int 0), (zp_M Q, n)))) (fun l b hl hI => Or.inr ?_) (fun b hI => ?_) (a := (g0, .retAddr 0, .retAddr 0, .retAddr 0)) ⟨fun z => ⟨hg0.mp z, fun j hj => absurd hj (Nat.not_lt_zero j)⟩, fun z => hg0.mpr z.1⟩
    · obtain ⟨b, w3, w4, w5⟩ := b
      have hI : b = true ↔ 2 ≤ D.2.1.1 ∧ ∀ l', l' < l → yokd D l' := hI
      obtain ⟨a1, a2, -⟩ := d7 l hl
      have wl := v4 l hl
      have hs := e_R_isWhole_16 d 269 (zp_b b) (zi l) w3 w4 w5 (zp_M Q, n)
      rw [zz_R21, Option.bind_some, d4, if_pos ((zi_l (by omega) (by omega)).mpr hl), zz_R19, Option.bind_some, show 3 * zi l + 0 = zi (3 * l + 0) from zi_3c l 0, zp_ldi zz_a282 (show 3 * l + 0 < 24 by omega) (by decide), Option.bind_some, Option.bind_some, show 3 * zi l + 1 = zi (3 * l + 1) from zi_3c l 1, zp_ldi zz_a282 (show 3 * l + 1 < 24 by omega) (by decide), Option.bind_some, zp_ib, a1, a2] at hs
      -- what the flag becomes
      have go : ∀ g : Bool, (g = true ↔ (b = true ∧ (D.2.2.2 l).1 < D.2.1.1 ∧ (D.2.2.2 l).2.1 < D.2.1.1 ∧ (D.2.2.2 l).1 ≠ (D.2.2.2 l).2.1)) → zk_sf d m_R_isWhole 16 [.ref 269, .int (zp_b b), .int (zi l), w3, w4, w5] [] (zp_M Q, n) = zk_sf d m_R_isWhole 83 [.ref 269, .int (zp_b g), .int (zi l), .int (zi (D.2.2.2 l).1), .int (zi (D.2.2.2 l).2.1), .int 0] [] (zp_M Q, n) → ∃ a' : Bool × Value × Value × Value, zk_sf d m_R_isWhole 16 [.ref 269, .int (zp_b b), .int (zi l), w3, w4, w5] [] (zp_M Q, n) = zk_sf d m_R_isWhole 16 [.ref 269, .int (zp_b a'.1), .int (zi (l + 1)), a'.2.1, a'.2.2.1, a'.2.2.2] [] (zp_M Q, n) ∧ (a'.1 = true ↔ 2 ≤ D.2.1.1 ∧ ∀ l', l' < l + 1 → yokd D l') := by
        intro g hg h
        obtain ⟨g', h1, h2⟩ := zs_Rwh83 (n := n) (d := d) (g := g) hv hD hl
        refine ⟨(g', _, _, _), h.trans h2, fun z => ?_, fun z => ?_⟩
        · obtain ⟨z1, z2⟩ := h1.mp z
          obtain ⟨y1, y2, y3, y4⟩ := hg.mp z1
          obtain ⟨x1, x2⟩ := hI.mp y1
          refine ⟨x1, fun l' hl' => ?_⟩
          by_cases w : l' = l
          · rw [w]; exact ⟨y2, y3, y4, z2⟩
          · exact x2 l' (by omega)
        · obtain ⟨y2, y3, y4, z2⟩ := z.2 l (by omega)
          exact h1.mpr ⟨hg.mpr ⟨hI.mpr ⟨z.1, fun l' hl' => z.2 l' (by omega)⟩, y2, y3, y4⟩, z2⟩
      cases b with
      | false =>
        rw [cond_false] at hs
        exact go false ⟨fun z => (by cases z), fun z => z.1⟩ hs
      | true =>
        rw [cond_true, zz_R20, Option.bind_some, d3] at hs
        by_cases x : (D.2.2.2 l).1 < D.2.1.1
        · rw [if_pos (show zi _ < zi _ from (zi_l (by omega) (by omega)).mpr x), Option.bind_some] at hs
          by_cases y : (D.2.2.2 l).2.1 < D.2.1.1
          · rw [if_pos (show zi _ < zi _ from (zi_l (by omega) (by omega)).mpr y)] at hs
            by_cases w : (D.2.2.2 l).1 = (D.2.2.2 l).2.1
            · rw [if_pos (show zi _ = zi _ by rw [w])] at hs
              exact go false ⟨fun z => (by cases z), fun z => absurd w z.2.2.2⟩ hs
            · rw [if_neg (show ¬ zi _ = zi _ from fun z => w ((zi_eq (by omega) (by omega)).mp z))] at hs
              exact go true ⟨fun _ => ⟨rfl, x, y, w⟩, fun _ => rfl⟩ hs
          · rw [if_neg (show ¬ zi _ < zi _ from fun z => y ((zi_l (by omega) (by omega)).mp z))] at hs
            exact go false ⟨fun z => (by cases z), fun z => absurd z.2.2.1 y⟩ hs
        · rw [if_neg (show ¬ zi _ < zi _ from fun z => x ((zi_l (by omega) (by omega)).mp z))] at hs
          exact go false ⟨fun z => (by cases z), fun z => absurd z.2.1 x⟩ hs
    · obtain ⟨b, w3, w4, w5⟩ := b
      have hI : b = true ↔ yWh D := hI
      have e : zk_sf d m_R_isWhole 16 [.ref 269, .int (zp_b b), .int (zi D.2.2.1), w3, w4, w5] [] (zp_M Q, n) = some (some (.int (zp_b b)), (zp_M Q, n)) := by
        rw [e_R_isWhole_16, zz_R21, Option.bind_some, d4, if_neg (fun z => absurd ((zi_l (by omega) (by omega)).mp z) (Nat.lt_irrefl _))]
        cases b <;> rfl
      refine ⟨fun z => ?_, fun z => ?_⟩
      · cases b with
        | true => exact e
        | false => exact absurd (hI.mpr z) (by decide)
      · cases b with
        | true => exact absurd (hI.mp rfl) z
        | false => exact e
  rw [e_R_isWhole, zz_R20, Option.bind_some, d3]
  by_cases h : 2 ≤ D.2.1.1
  · rw [if_pos (show (1 : Int32) < zi D.2.1.1 from (zi_l (i := 1) (by decide) (by omega)).mpr h)]
    exact key true ⟨fun _ => h, fun _ => rfl⟩
  · rw [if_neg (show ¬ (1 : Int32) < zi D.2.1.1 from fun z => h ((zi_l (i := 1) (by decide) (by omega)).mp z))]
    exact key false ⟨fun z => (by cases z), fun z => absurd z h⟩
end
