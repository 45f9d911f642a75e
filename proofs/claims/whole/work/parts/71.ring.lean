/-! CALLS 5: ring, chain -/
/-- how many saddles away, 1000: by none -/
def ydd (V : yV) (p x : Nat) : Nat := match (List.range 6).find? (fun k => yb_t (yab V p (k + 1)).1 x) with | some k => k + 1 | none => 1000
def yen1 (k : Nat) : Int32 := if k = 1000 then -1 else zi k
def yDA (V : yV) (p : Nat) (D : Nat → Nat) : Prop := ∀ x, x < 6 → D x ≤ 1000 ∧ (D x < 1000 → 1 ≤ D x ∧ yWk V (D x) p x)
def yDB (V : yV) (p m : Nat) (D : Nat → Nat) : Prop := ∀ x j, x < 6 → 1 ≤ j → j ≤ m → yWk V j p x → D x ≤ j
theorem ydd_D {np : Nat} {V : yV} (hO : yO np V) (h6 : np ≤ 6) {p x : Nat} {D : Nat → Nat} (hp : p < 32) (hx : x < 6) (hA : yDA V p D) (hB : yDB V p 7 D) : D x = ydd V p x := by
  have hb := fun m => (yab_t hO h6 hp m x (by omega)).1
  unfold ydd
  cases hf : (List.range 6).find? (fun k => yb_t (yab V p (k + 1)).1 x) with
  | some k =>
    obtain ⟨k1, k2, k3⟩ := List.find?_range_eq_some.mp hf
    have hk := List.mem_range.mp k2
    have hw := (hb (k + 1)).mp k1
    have hle := hB x (k + 1) hx (by omega) (by omega) hw
    obtain ⟨a1, a2⟩ := (hA x hx).2 (by omega)
    show D x = k + 1
    by_cases q : D x = k + 1
    · exact q
    · have h3 := k3 (D x - 1) (by omega)
      rw [Nat.sub_add_cancel a1, (hb (D x)).mpr a2] at h3
      cases h3
  | none =>
    show D x = 1000
    have hn := List.find?_range_eq_none.mp hf
    by_cases q : D x < 1000
    · obtain ⟨a1, a2⟩ := (hA x hx).2 q
      obtain ⟨j, j1, j2, j3⟩ := yWk_6 hO h6 (D x) (D x) (Nat.le_refl _) a1 a2
      have h3 := hn (j - 1) (by omega)
      rw [Nat.sub_add_cancel j1, (hb j).mpr j3] at h3
      cases h3
    · have := (hA x hx).1
      omega
theorem ydd_b {V : yV} {p x : Nat} : ydd V p x ≤ 1000 := by
  unfold ydd
  cases hf : (List.range 6).find? (fun k => yb_t (yab V p (k + 1)).1 x) with
  | some k =>
    have := List.mem_range.mp (List.find?_range_eq_some.mp hf).2.1
    show k + 1 ≤ 1000
    omega
  | none => exact Nat.le_refl _
section
variable {P : zp} {n : Nat × Nat} {b d np : Nat} {V : yV} {T : yT}
theorem zi_6g {i : Nat} (h : i < 7) : ¬ (6 : Int32) < zi i := fun z => absurd ((zi_l (i := 6) (m := i) (by decide) (by omega)).mp z) (by omega)
theorem zs_rides (h : zp_sb b) (hC : yC P b V) (hO : yO np V) (h6 : np ≤ 6) {p x : Nat} (hx : x < 6) : zk_sm (d + 4) m_Stand_ridesBetween [.ref b, .int (zi p), .int (zi x)] (zp_M P, n) = some (some (.int (yen1 (ydd V p x))), (zp_M P, n)) := by
  rw [e_Stand_ridesBetween]
  have key := zl_find (L := fun i => zk_sf (d + 4) m_Stand_ridesBetween 7 [.ref b, .int (zi p), .int (zi x), .int (yab V p i).1, .int (zi (i + 1))] [] (zp_M P, n)) (f := fun i => yb_t (yab V p (i + 1)).1 x) (r := fun i => ((some (.int (zi (i + 1))), (zp_M P, n)) : zk_R)) (r0 := (some (.int (-1)), (zp_M P, n))) (m := 6) (fun i hi => ?_) ?_
  · refine key.trans ?_
    unfold ydd
    cases hf : (List.range 6).find? (fun k => yb_t (yab V p (k + 1)).1 x) with
    | some k =>
      have hk := List.mem_range.mp (List.find?_range_eq_some.mp hf).2.1
      show some (some (Value.int (zi (k + 1))), _) = some (some (Value.int (yen1 (k + 1))), _)
      unfold yen1
      rw [if_neg (by omega)]
    | none => rfl
  · show zk_sf (d + 4) m_Stand_ridesBetween 7 [.ref b, .int (zi p), .int (zi x), .int (yab V p i).1, .int (zi (i + 1))] [] (zp_M P, n) = _
    have e1 : (yab V p (i + 1)).1 = yrd V (yab V p i).1 := by unfold yab; rw [zl_rs]
    rw [e_Stand_ridesBetween_7, if_neg (zi_6g (by omega)), zp_sv h, Option.bind_some, zs_riddenBy h, zs_cI, Option.bind_some, yrd_C hC hO h6, ← e1, zs_hasBit, zs_cI, Option.bind_some, zp_ib, yb_bit (by omega), zi_s]
  · show zk_sf (d + 4) m_Stand_ridesBetween 7 [.ref b, .int (zi p), .int (zi x), .int (yab V p 6).1, .int (zi 7)] [] (zp_M P, n) = _
    rw [e_Stand_ridesBetween_7, if_pos (by decide)]
theorem zp_a291 : zp_ad 291 = (0, 6) := by decide +kernel
theorem zp_R39 : zk_gR (zp_M P, n) 269 12 39 = some 291 := zp_gR (by decide +kernel)
set_option maxHeartbeats 4000000 in
theorem zs_Raway (hT : yTR P T) (hR : yR (P.2.1 286) V) (hO : yO T.1 V) {p : Nat} (hp : p < 6) : ∃ P' D, zk_sm (d + 4) m_R_layAway [.ref 269, .int (zi p)] (zp_M P, n) = some (none, (zp_M P', n)) ∧ yF [] [291] P P' ∧ (∀ x, x < 6 → P'.2.1 291 x = zi (D x)) ∧ yDA V p D ∧ yDB V p 7 D := by
  have h6 := hT.2.1
  rw [e_R_layAway]
  refine zl_ind (m := 6) (L := fun i (a : zp) => zk_sf (d + 4) m_R_layAway 2 [.ref 269, .int (zi p), .int (zi i), .retAddr 0, .retAddr 0] [] (zp_M a, n)) (I := fun i a => yF [] [291] P a ∧ ∀ x, x < i → a.2.1 291 x = zi 1000) (Q := fun r => ∃ P' D, r = some (none, (zp_M P', n)) ∧ yF [] [291] P P' ∧ (∀ x, x < 6 → P'.2.1 291 x = zi (D x)) ∧ yDA V p D ∧ yDB V p 7 D) (fun i P1 hi hI => Or.inr ?_) (fun P1 hI => ?_) (a := P) ⟨yF_r, fun x hx => absurd hx (Nat.not_lt_zero x)⟩
  · obtain ⟨f1, a1⟩ := hI
    refine ⟨zp_sA P1 291 i 1000, ?_, yF_t f1 (yF_A (by decide)), fun x hx => ?_⟩
    · show zk_sf (d + 4) m_R_layAway 2 [.ref 269, .int (zi p), .int (zi i), .retAddr 0, .retAddr 0] [] (zp_M P1, n) = _
      rw [e_R_layAway_2, if_pos (zi_6 hi), zp_R39, Option.bind_some, zp_sti zp_a291 hi (by decide), Option.bind_some, zi_s]
    · by_cases q : x = i
      · rw [q]; exact zp_u9
      · exact (zp_u8 q).trans (a1 x (by omega))
  · obtain ⟨f1, a1⟩ := hI
    show ∃ P' D, zk_sf (d + 4) m_R_layAway 2 [.ref 269, .int (zi p), .int (zi 6), .retAddr 0, .retAddr 0] [] (zp_M P1, n) = _ ∧ _
    rw [e_R_layAway_2, if_neg zi_6n]
    refine zl_ind (m := 7) (L := fun i (a : Value × Value × zp) => zk_sf (d + 4) m_R_layAway 25 [.ref 269, .int (zi p), .int (zi i), a.1, a.2.1] [] (zp_M a.2.2, n)) (I := fun i a => yF [] [291] P a.2.2 ∧ ∃ D, (∀ x, x < 6 → a.2.2.2.1 291 x = zi (D x)) ∧ yDA V p D ∧ yDB V p i D) (Q := fun r => ∃ P' D, r = some (none, (zp_M P', n)) ∧ yF [] [291] P P' ∧ (∀ x, x < 6 → P'.2.1 291 x = zi (D x)) ∧ yDA V p D ∧ yDB V p 7 D) (fun i a hi hI => Or.inr ?_) (fun a hI => ?_) (a := (.retAddr 0, .retAddr 0, P1)) ⟨f1, fun _ => 1000, a1, fun x _ => ⟨Nat.le_refl _, fun z => absurd z (Nat.lt_irrefl _)⟩, fun x j _ h1 h2 _ => by omega⟩
    · obtain ⟨v3, v4, P2⟩ := a
      obtain ⟨f2, D, d1, d2, d3⟩ := hI
      have f2 : yF [] [291] P P2 := f2
      have d1 : ∀ x, x < 6 → P2.2.1 291 x = zi (D x) := d1
      show ∃ a', zk_sf (d + 4) m_R_layAway 25 [.ref 269, .int (zi p), .int (zi i), v3, v4] [] (zp_M P2, n) = _ ∧ _
      rw [e_R_layAway_25, if_neg (zi_6g hi)]
      refine zl_ind (m := 8) (L := fun k (a : Value × zp) => zk_sf (d + 4) m_R_layAway 33 [.ref 269, .int (zi p), .int (zi i), .int (zi k), a.1] [] (zp_M a.2, n)) (I := fun k a => yF [] [291] P a.2 ∧ ∃ D, (∀ x, x < 6 → a.2.2.1 291 x = zi (D x)) ∧ yDA V p D ∧ yDB V p i D ∧ ∀ k' r q f, k' < k → V.1 k' = some (r, q, f) → (r = p → D q ≤ 1) ∧ ∀ j, 1 ≤ j → j ≤ i → yWk V j p r → D q ≤ j + 1) (Q := fun r => ∃ a' : Value × Value × zp, r = zk_sf (d + 4) m_R_layAway 25 [.ref 269, .int (zi p), .int (zi (i + 1)), a'.1, a'.2.1] [] (zp_M a'.2.2, n) ∧ yF [] [291] P a'.2.2 ∧ ∃ D, (∀ x, x < 6 → a'.2.2.2.1 291 x = zi (D x)) ∧ yDA V p D ∧ yDB V p (i + 1) D) (fun k a hk hI => Or.inr ?_) (fun a hI => ?_) (a := (v4, P2)) ⟨f2, D, d1, d2, d3, fun k' _ _ _ hk' => absurd hk' (Nat.not_lt_zero k')⟩
      · obtain ⟨v5, P3⟩ := a
        obtain ⟨f3, D, d1, d2, d3, d4⟩ := hI
        have f3 : yF [] [291] P P3 := f3
        have d1 : ∀ x, x < 6 → P3.2.1 291 x = zi (D x) := d1
        have hT3 : yTR P3 T := yTR_F (by decide) f3 hT
        have hR3 : yR (P3.2.1 286) V := by rw [f3.2.1 286 (by decide)]; exact hR
        show ∃ a', zk_sf (d + 4) m_R_layAway 33 [.ref 269, .int (zi p), .int (zi i), .int (zi k), v5] [] (zp_M P3, n) = _ ∧ _
        rw [e_R_layAway_33, if_pos (zi_8 hk), zp_Rv, Option.bind_some, yg_Rthere hT3 hR3 hO, yis_k hk, zs_cI, Option.bind_some, zp_ib, zi_s]
        cases hv : V.1 k with
        | none =>
          refine ⟨(v5, P3), ?_, f3, D, d1, d2, d3, fun k' r q f hk' hv' => ?_⟩
          · rw [show yth V k = false by unfold yth; rw [hv]; rfl]; rfl
          · have : k' ≠ k := fun z => by rw [z, hv] at hv'; cases hv'
            exact d4 k' r q f (by omega) hv'
        | some y =>
          obtain ⟨r, q, f⟩ := y
          obtain ⟨o1, o2, -, -⟩ := hO.1 k r q f hk hv
          have he : yEd V r q := ⟨k, f, hk, hv⟩
          have q6 : q < 6 := by omega
          have r6 : r < 6 := by omega
          have eR : zk_sm (d + 3) m_R_of [.ref 269, .int (zi k), .int 0] (zp_M P3, n) = _ := (yg_RofR (d := d + 3) (n := n) hR3 hk hv).1
          have eQ : zk_sm (d + 3) m_R_of [.ref 269, .int (zi k), .int 1] (zp_M P3, n) = _ := (yg_RofR (d := d + 3) (n := n) hR3 hk hv).2
          have hq1000 := (d2 q q6).1
          have hr1000 := (d2 r r6).1
          -- the row after the saddle
          have fin : ∀ (st : Nat) (v : Value), st ≤ 1000 → (r = p → st = 0) → (r ≠ p → st = D r) → ∃ a' : Value × zp, zk_sf (d + 4) m_R_layAway 33 [.ref 269, .int (zi p), .int (zi i), .int (zi (k + 1)), v] [] (zp_M (zp_sA P3 291 q (zi (min (D q) (st + 1)))), n) = zk_sf (d + 4) m_R_layAway 33 [.ref 269, .int (zi p), .int (zi i), .int (zi (k + 1)), a'.1] [] (zp_M a'.2, n) ∧ yF [] [291] P a'.2 ∧ ∃ D, (∀ x, x < 6 → a'.2.2.1 291 x = zi (D x)) ∧ yDA V p D ∧ yDB V p i D ∧ ∀ k' r q f, k' < k + 1 → V.1 k' = some (r, q, f) → (r = p → D q ≤ 1) ∧ ∀ j, 1 ≤ j → j ≤ i → yWk V j p r → D q ≤ j + 1 := by
            intro st v hst s0 s1
            have hle : ∀ x, (if x = q then min (D q) (st + 1) else D x) ≤ D x := fun x => by
              by_cases z : x = q
              · rw [if_pos z, z]; exact Nat.min_le_left _ _
              · rw [if_neg z]; exact Nat.le_refl _
            refine ⟨(v, _), rfl, yF_t f3 (yF_A (by decide)), fun x => if x = q then min (D q) (st + 1) else D x, fun x hx => ?_, fun x hx => ?_, fun x j hx h1 h2 hw => ?_, fun k' r' q' f' hk' hv' => ?_⟩
            · show zp_u P3.2.1 291 q (zi (min (D q) (st + 1))) 291 x = zi (if x = q then min (D q) (st + 1) else D x)
              by_cases z : x = q
              · rw [if_pos z, z, zp_u9]
              · rw [if_neg z, zp_u8 z]; exact d1 x hx
            · show (if x = q then min (D q) (st + 1) else D x) ≤ 1000 ∧ ((if x = q then min (D q) (st + 1) else D x) < 1000 → 1 ≤ (if x = q then min (D q) (st + 1) else D x) ∧ yWk V (if x = q then min (D q) (st + 1) else D x) p x)
              by_cases z : x = q
              · subst z
                rw [if_pos rfl]
                by_cases w : D x ≤ st + 1
                · rw [Nat.min_eq_left w]; exact d2 x hx
                · rw [Nat.min_eq_right (by omega)]
                  refine ⟨by omega, fun w2 => ⟨by omega, ?_⟩⟩
                  by_cases rp : r = p
                  · rw [s0 rp]
                    exact yWk_s.mpr ⟨r, yWk_0.mpr rp.symm, he⟩
                  · have hs := s1 rp
                    exact yWk_s.mpr ⟨r, by rw [hs]; exact ((d2 r r6).2 (by omega)).2, he⟩
              · rw [if_neg z]; exact d2 x hx
            · exact Nat.le_trans (hle x) (d3 x j hx h1 h2 hw)
            · by_cases z : k' = k
              · rw [z, hv] at hv'
                cases hv'
                show (r = p → (if q = q then min (D q) (st + 1) else D q) ≤ 1) ∧ ∀ j, 1 ≤ j → j ≤ i → yWk V j p r → (if q = q then min (D q) (st + 1) else D q) ≤ j + 1
                rw [if_pos rfl]
                refine ⟨fun rp => ?_, fun j h1 h2 hw => ?_⟩
                · rw [s0 rp]; exact Nat.min_le_right _ _
                · refine Nat.le_trans (Nat.min_le_right _ _) ?_
                  by_cases rp : r = p
                  · rw [s0 rp]; omega
                  · rw [s1 rp]
                    have := d3 r j r6 h1 h2 hw
                    omega
              · obtain ⟨b1, b2⟩ := d4 k' r' q' f' (by omega) hv'
                exact ⟨fun rp => Nat.le_trans (hle q') (b1 rp), fun j h1 h2 hw => Nat.le_trans (hle q') (b2 j h1 h2 hw)⟩
          rw [show yth V k = true by unfold yth; rw [hv]; rfl, cond_true, zp_Rv, Option.bind_some, eR, zs_cI, Option.bind_some]
          by_cases rp : r = p
          · rw [if_pos (show zi r = zi p by rw [rp]), zp_R39, Option.bind_some, zp_Rv, Option.bind_some, eQ, zs_cI, Option.bind_some, zp_R39, Option.bind_some, zp_Rv, Option.bind_some, eQ, zs_cI, Option.bind_some, zp_ldi zp_a291 q6 (by decide), Option.bind_some, d1 q q6, show (0 : Int32) + 1 = zi (0 + 1) by decide, zs_min, zs_cI, Option.bind_some, zq_mi (by omega) (by decide), zp_sti zp_a291 q6 (by decide), Option.bind_some]
            exact fin 0 _ (by omega) (fun _ => rfl) (fun z => absurd rp z)
          · rw [if_neg (show ¬ zi r = zi p from fun z => rp ((zi_eq (by omega) (by omega)).mp z)), zp_R39, Option.bind_some, zp_Rv, Option.bind_some, eR, zs_cI, Option.bind_some, zp_ldi zp_a291 r6 (by decide), Option.bind_some, zp_R39, Option.bind_some, zp_Rv, Option.bind_some, eQ, zs_cI, Option.bind_some, zp_R39, Option.bind_some, zp_Rv, Option.bind_some, eQ, zs_cI, Option.bind_some, zp_ldi zp_a291 q6 (by decide), Option.bind_some, d1 q q6, d1 r r6, zi_s, zs_min, zs_cI, Option.bind_some, zq_mi (by omega) (by omega), zp_sti zp_a291 q6 (by decide), Option.bind_some]
            exact fin (D r) _ hr1000 (fun z => absurd z rp) (fun _ => rfl)
      · obtain ⟨v5, P3⟩ := a
        obtain ⟨f3, D, d1, d2, d3, d4⟩ := hI
        refine ⟨(.int (zi 8), v5, P3), ?_, f3, D, d1, d2, fun x j hx h1 h2 hw => ?_⟩
        · show zk_sf (d + 4) m_R_layAway 33 [.ref 269, .int (zi p), .int (zi i), .int (zi 8), v5] [] (zp_M P3, n) = _
          rw [e_R_layAway_33, if_neg zi_8n, zi_s]
        · obtain ⟨c, hc, k', f, hk', hv'⟩ := yWk_s.mp (by rw [Nat.sub_add_cancel h1]; exact hw : yWk V (j - 1 + 1) p x)
          obtain ⟨b1, b2⟩ := d4 k' c x f hk' hv'
          by_cases q : j = 1
          · subst q
            exact b1 (yWk_0.mp hc).symm
          · have := b2 (j - 1) (by omega) (by omega) hc
            omega
    · obtain ⟨v3, v4, P2⟩ := a
      obtain ⟨f2, D, d1, d2, d3⟩ := hI
      refine ⟨P2, D, ?_, f2, d1, d2, d3⟩
      show zk_sf (d + 4) m_R_layAway 25 [.ref 269, .int (zi p), .int (zi 7), v3, v4] [] (zp_M P2, n) = _
      rw [e_R_layAway_25, if_pos (by decide)]
theorem ySc_a : ySc [] [291] := ⟨by decide, by decide, by decide, by decide, by decide, by decide⟩
theorem zs_Raw (hT : yTR P T) (hR : yR (P.2.1 286) V) (hO : yO T.1 V) {p : Nat} (hp : p < 6) : ∃ P', zk_sm (d + 4) m_R_layAway [.ref 269, .int (zi p)] (zp_M P, n) = some (none, (zp_M P', n)) ∧ yF [] [291] P P' ∧ ∀ x, x < 6 → P'.2.1 291 x = zi (ydd V p x) := by
  obtain ⟨P', D, e, f, d1, d2, d3⟩ := zs_Raway (d := d) (n := n) hT hR hO hp
  exact ⟨P', e, f, fun x hx => by rw [d1 x hx, ydd_D hO hT.2.1 (by omega) hx d2 d3]⟩
end
section
variable {P : zp} {n : Nat × Nat} {d : Nat}
theorem yc_chain (hI : yI P n.1) {p x : Int32} : yOK (d + 20) P n m_SaddlerKnows_chain m_R_chain [.int p, .int x] := by
  obtain ⟨h0, T, V, nl, L, c0, hP⟩ := id hI
  have hT := hP.1.1
  have hR := hP.1.2.1
  have h6 := hT.2.1
  have hC := hP.2.1.1
  have hO := hP.2.1.2.2.1
  cases h : yrg T.1 p with
  | false =>
    refine yOK_q (v := -1) (P1 := P) (P2 := P) ?_ ?_ hI
    · rw [e_SaddlerKnows_chain, zp_Cv, Option.bind_some, yg_pers hT, h, zs_cI, Option.bind_some, zp_ib]; rfl
    · rw [e_R_chain, zp_Rv, Option.bind_some, yg_Rpers hR, h, zs_cI, Option.bind_some, zp_ib]; rfl
  | true =>
    cases h2 : yrg T.1 x with
    | false =>
      refine yOK_q (v := -1) (P1 := P) (P2 := P) ?_ ?_ hI
      · rw [e_SaddlerKnows_chain, zp_Cv, Option.bind_some, yg_pers hT, h, zs_cI, Option.bind_some, zp_ib, cond_true, zp_Cv, Option.bind_some, yg_pers hT, h2, zs_cI, Option.bind_some, zp_ib]; rfl
      · rw [e_R_chain, zp_Rv, Option.bind_some, yg_Rpers hR, h, zs_cI, Option.bind_some, zp_ib, cond_true, zp_Rv, Option.bind_some, yg_Rpers hR, h2, zs_cI, Option.bind_some, zp_ib]; rfl
    | true =>
      obtain ⟨a, ha, rfl⟩ := yrg_o h
      obtain ⟨c, hc, rfl⟩ := yrg_o h2
      obtain ⟨P2, e2, f2, a2⟩ := zs_Raw (d := d + 15) (n := n) hR hP.2.1.2.1 hO (show a < 6 by omega)
      have hdd := @ydd_b V a c
      by_cases q : zi a = zi c
      · refine yOK_q (v := 0) (P1 := P) (P2 := P2) ?_ ?_ ⟨h0, T, V, nl, L, c0, yP_F ySc_a f2 hP⟩
        · rw [e_SaddlerKnows_chain, zp_Cv, Option.bind_some, yg_pers hT, h, zs_cI, Option.bind_some, zp_ib, cond_true, zp_Cv, Option.bind_some, yg_pers hT, h2, zs_cI, Option.bind_some, zp_ib, cond_true, if_pos q]
        · rw [e_R_chain, zp_Rv, Option.bind_some, yg_Rpers hR, h, zs_cI, Option.bind_some, zp_ib, cond_true, zp_Rv, Option.bind_some, yg_Rpers hR, h2, zs_cI, Option.bind_some, zp_ib, cond_true, zp_Rv, Option.bind_some, e2, zs_cV, Option.bind_some, if_pos q]
      · have ec : zk_ldI (zp_M P2, n) 291 (zi c) = some (zi (ydd V a c)) := (zp_ldi zp_a291 (show c < 6 by omega) (by decide)).trans (by rw [a2 c (by omega)])
        refine yOK_q (v := yen1 (ydd V a c)) (P1 := P) (P2 := P2) ?_ ?_ ⟨h0, T, V, nl, L, c0, yP_F ySc_a f2 hP⟩
        · rw [e_SaddlerKnows_chain, zp_Cv, Option.bind_some, yg_pers hT, h, zs_cI, Option.bind_some, zp_ib, cond_true, zp_Cv, Option.bind_some, yg_pers hT, h2, zs_cI, Option.bind_some, zp_ib, cond_true, if_neg q, zp_C5, Option.bind_some, zp_sv zs_35, Option.bind_some, zs_rides zs_35 hC hO h6 (by omega), zs_cI, Option.bind_some]
        · rw [e_R_chain, zp_Rv, Option.bind_some, yg_Rpers hR, h, zs_cI, Option.bind_some, zp_ib, cond_true, zp_Rv, Option.bind_some, yg_Rpers hR, h2, zs_cI, Option.bind_some, zp_ib, cond_true, zp_Rv, Option.bind_some, e2, zs_cV, Option.bind_some, if_neg q, zp_R39, Option.bind_some, ec, Option.bind_some]
          unfold yen1
          by_cases z : ydd V a c = 1000
          · rw [if_pos z, z, if_neg (by decide)]
          · rw [if_neg z, if_pos (show zi (ydd V a c) < 1000 from (zi_l (m := 1000) (by omega) (by decide)).mpr (by omega)), Option.bind_some, ec, Option.bind_some]
def yrr (V : yV) (m : Nat) : Nat := (List.range m).foldl (fun a p => min a (ydd V p p)) 1000
theorem yrr_b {V : yV} {m : Nat} : yrr V m ≤ 1000 := by
  induction m with
  | zero => exact Nat.le_refl _
  | succ m ih =>
    have e : yrr V (m + 1) = min (yrr V m) (ydd V m m) := zl_rs
    rw [e]
    exact Nat.le_trans (Nat.min_le_left _ _) ih
theorem yc_ring (hI : yI P n.1) : yOK (d + 20) P n m_SaddlerKnows_ring m_R_ring [] := by
  obtain ⟨h0, T, V, nl, L, c0, hP⟩ := id hI
  have hT := hP.1.1
  have hR := hP.1.2.1
  have h6 := hT.2.1
  have hC := hP.2.1.1
  have hO := hP.2.1.2.2.1
  have h1 : zk_sm (d + 20) m_SaddlerKnows_ring [.ref 12] (zp_M P, n) = some (some (.int (yen1 (yrr V T.1))), (zp_M P, n)) := by
    rw [e_SaddlerKnows_ring]
    refine zl_ind (m := T.1) (L := fun i (a : Int32 × Value) => zk_sf (d + 20) m_SaddlerKnows_ring 4 [.ref 12, .int a.1, .int (zi i), a.2] [] (zp_M P, n)) (I := fun i a => a.1 = yen1 (yrr V i)) (Q := fun r => r = some (some (.int (yen1 (yrr V T.1))), (zp_M P, n))) (fun i a hi hI => Or.inr ?_) (fun a hI => ?_) (a := (-1, .retAddr 0)) rfl
    · obtain ⟨x, v⟩ := a
      have hx : x = yen1 (yrr V i) := hI
      subst hx
      have e : yrr V (i + 1) = min (yrr V i) (ydd V i i) := zl_rs
      have hd := @ydd_b V i i
      have hr := @yrr_b V i
      show ∃ a', zk_sf (d + 20) m_SaddlerKnows_ring 4 [.ref 12, .int (yen1 (yrr V i)), .int (zi i), v] [] (zp_M P, n) = _ ∧ _
      rw [e_SaddlerKnows_ring_4, zp_C3, Option.bind_some, zp_T2, Option.bind_some, hT.1, if_pos ((zi_l (by omega) (by omega)).mpr hi), zp_C5, Option.bind_some, zp_sv zs_35, Option.bind_some, zs_rides zs_35 hC hO h6 (by omega), zs_cI, Option.bind_some, zi_s]
      by_cases z : ydd V i i = 1000
      · refine ⟨(yen1 (yrr V i), .int (yen1 (ydd V i i))), ?_, ?_⟩
        · rw [if_pos (show yen1 (ydd V i i) = -1 by unfold yen1; rw [if_pos z])]
        · show yen1 (yrr V i) = yen1 (yrr V (i + 1))
          rw [e, z, Nat.min_eq_left hr]
      · have ed : yen1 (ydd V i i) = zi (ydd V i i) := if_neg z
        rw [ed, if_neg (zi_n1 (by omega))]
        by_cases z2 : yrr V i = 1000
        · refine ⟨(zi (ydd V i i), .int (zi (ydd V i i))), ?_, ?_⟩
          · rw [if_pos (show yen1 (yrr V i) = -1 by unfold yen1; rw [if_pos z2])]
          · show zi (ydd V i i) = yen1 (yrr V (i + 1))
            rw [e, z2, Nat.min_eq_right hd, ed]
        · have er : yen1 (yrr V i) = zi (yrr V i) := if_neg z2
          rw [er, if_neg (zi_n1 (by omega))]
          by_cases z3 : ydd V i i < yrr V i
          · refine ⟨(zi (ydd V i i), .int (zi (ydd V i i))), ?_, ?_⟩
            · rw [if_pos ((zi_l (by omega) (by omega)).mpr z3)]
            · show zi (ydd V i i) = yen1 (yrr V (i + 1))
              rw [e, Nat.min_eq_right (by omega), ed]
          · refine ⟨(zi (yrr V i), .int (zi (ydd V i i))), ?_, ?_⟩
            · rw [if_neg (fun w => z3 ((zi_l (by omega) (by omega)).mp w))]
            · show zi (yrr V i) = yen1 (yrr V (i + 1))
              rw [e, Nat.min_eq_left (by omega), er]
    · obtain ⟨x, v⟩ := a
      have hx : x = yen1 (yrr V T.1) := hI
      show zk_sf (d + 20) m_SaddlerKnows_ring 4 [.ref 12, .int x, .int (zi T.1), v] [] (zp_M P, n) = _
      rw [e_SaddlerKnows_ring_4, zp_C3, Option.bind_some, zp_T2, Option.bind_some, hT.1, if_neg (fun z => absurd ((zi_l (by omega) (by omega)).mp z) (Nat.lt_irrefl _)), hx]
  have h2 : ∃ P2, zk_sm (d + 20) m_R_ring [.ref 269] (zp_M P, n) = some (some (.int (yen1 (yrr V T.1))), (zp_M P2, n)) ∧ yF [] [291] P P2 := by
    rw [e_R_ring]
    refine zl_ind (m := T.1) (L := fun i (a : Nat × zp) => zk_sf (d + 20) m_R_ring 6 [.ref 269, .int (zi a.1), .int (zi i)] [] (zp_M a.2, n)) (I := fun i a => yF [] [291] P a.2 ∧ a.1 = yrr V i) (Q := fun r => ∃ P2, r = some (some (.int (yen1 (yrr V T.1))), (zp_M P2, n)) ∧ yF [] [291] P P2) (fun i a hi hI => Or.inr ?_) (fun a hI => ?_) (a := (1000, P)) ⟨yF_r, rfl⟩
    · obtain ⟨x, P1⟩ := a
      obtain ⟨f1, hx⟩ := hI
      have f1 : yF [] [291] P P1 := f1
      have hx : x = yrr V i := hx
      have hR1 : yTR P1 T := yTR_F (by decide) f1 hR
      obtain ⟨P2, e2, f2, a2⟩ := zs_Raw (d := d + 15) (n := n) hR1 (by rw [f1.2.1 286 (by decide)]; exact hP.2.1.2.1) hO (show i < 6 by omega)
      have e : yrr V (i + 1) = min (yrr V i) (ydd V i i) := zl_rs
      have hd := @ydd_b V i i
      have hr := @yrr_b V i
      refine ⟨(min (yrr V i) (ydd V i i), P2), ?_, yF_t f1 f2, e.symm⟩
      show zk_sf (d + 20) m_R_ring 6 [.ref 269, .int (zi x), .int (zi i)] [] (zp_M P1, n) = _
      rw [e_R_ring_6, zp_R25, Option.bind_some, hR1.1, if_pos ((zi_l (by omega) (by omega)).mpr hi), zp_Rv, Option.bind_some, e2, zs_cV, Option.bind_some, zp_R39, Option.bind_some, zp_ldi zp_a291 (show i < 6 by omega) (by decide), Option.bind_some, a2 i (by omega), hx, zs_min, zs_cI, Option.bind_some, zq_mi (by omega) (by omega), zi_s]
    · obtain ⟨x, P1⟩ := a
      obtain ⟨f1, hx⟩ := hI
      have f1 : yF [] [291] P P1 := f1
      have hx : x = yrr V T.1 := hx
      have hR1 : yTR P1 T := yTR_F (by decide) f1 hR
      have hr := @yrr_b V T.1
      refine ⟨P1, ?_, f1⟩
      show zk_sf (d + 20) m_R_ring 6 [.ref 269, .int (zi x), .int (zi T.1)] [] (zp_M P1, n) = _
      rw [e_R_ring_6, zp_R25, Option.bind_some, hR1.1, if_neg (fun z => absurd ((zi_l (by omega) (by omega)).mp z) (Nat.lt_irrefl _)), hx]
      unfold yen1
      by_cases z : yrr V T.1 = 1000
      · rw [if_pos z, z, if_neg (by decide)]
      · rw [if_neg z, if_pos (show zi (yrr V T.1) < 1000 from (zi_l (m := 1000) (by omega) (by decide)).mpr (by omega))]
  obtain ⟨P2, e2, f2⟩ := h2
  exact yOK_q h1 e2 ⟨h0, T, V, nl, L, c0, yP_F ySc_a f2 hP⟩
end
