/-! CALLS 18: seats, by both sides -/
def yti (P : zp) (T : yT) (V : yV) (i j : Nat) : Prop := ∀ r q, r < T.1 → q < T.1 → r ≠ q → (r < i ∨ (r = i ∧ q < j)) → P.2.1 267 (6 * r + q) = zi (ywn T V r q)
theorem ySc_66 : ySc [(266, 3), (266, 4)] [267] := ⟨by decide, by decide, by decide, by decide, by decide, by decide⟩
theorem ySc_40 : ySc [(269, 40), (269, 41)] [278, 279] := ⟨by decide, by decide, by decide, by decide, by decide, by decide⟩
section
variable {P : zp} {n : Nat × Nat} {d : Nat} {V : yV} {T : yT}
theorem yTC_267 {P' : zp} (f : yF [] [267] P P') (hT : yTC P T) : yTC P' T := yTC_F (by decide) (by decide) f hT
theorem yC_267 {P' : zp} (f : yF [] [267] P P') (hC : yC P 35 V) : yC P' 35 V := yC_F (fun j h0 hj z => by simp only [List.mem_cons, List.not_mem_nil, or_false] at z; omega) (fun z => by cases z) (fun z => by cases z) f hC
theorem yti_s {i q : Nat} {x : Int32} (h6 : T.1 ≤ 6) (hi : i < T.1) (hq : q < T.1) (ht : yti P T V i q) (hx : i ≠ q → x = zi (ywn T V i q)) : yti (zp_sA P 267 (6 * i + q) x) T V i (q + 1) := by
  intro r q' hr hq' hn hc
  by_cases z : r = i ∧ q' = q
  · obtain ⟨rfl, rfl⟩ := z
    exact zp_a9.trans (hx hn)
  · refine (zp_a8 (by omega)).trans (ht r q' hr hq' hn (by omega))
theorem zs_sin (hO : yO T.1 V) (h6 : T.1 ≤ 6) {i : Nat} (hi : i < T.1) {P : zp} {v : Value} (hT : yTC P T) (hC : yC P 35 V) (ht : yti P T V i 0) : ∃ P' v', zk_sf (d + 8) m_Seating_search 25 [.ref 266, .ref 35, .int (zi i), .int 0, v] [] (zp_M P, n) = zk_sf (d + 8) m_Seating_search 12 [.ref 266, .ref 35, .int (zi (i + 1)), .int (zi T.1), v'] [] (zp_M P', n) ∧ yti P' T V (i + 1) 0 ∧ yF [] [267] P P' := by
  refine zl_ind (m := T.1) (L := fun q (a : zp × Value) => zk_sf (d + 8) m_Seating_search 25 [.ref 266, .ref 35, .int (zi i), .int (zi q), a.2] [] (zp_M a.1, n)) (I := fun q a => yti a.1 T V i q ∧ yF [] [267] P a.1) (Q := fun r => ∃ P' v', r = zk_sf (d + 8) m_Seating_search 12 [.ref 266, .ref 35, .int (zi (i + 1)), .int (zi T.1), v'] [] (zp_M P', n) ∧ yti P' T V (i + 1) 0 ∧ yF [] [267] P P') (fun q a hq hI => Or.inr ?_) (fun a hI => ?_) (a := (P, v)) ⟨ht, yF_r⟩
  · obtain ⟨a, v⟩ := a
    obtain ⟨ta, fa⟩ := hI
    have ta : yti a T V i q := ta
    have fa : yF [] [267] P a := fa
    have Ta := yTC_267 fa hT
    have Ca := yC_267 fa hC
    have e6 : zi i * 6 + zi q = zi (6 * i + q) := by
      show Int32.ofNat i * Int32.ofNat 6 + Int32.ofNat q = _
      rw [← Int32.ofNat_mul, ← Int32.ofNat_add, Nat.mul_comm]
    show ∃ a' : zp × Value, zk_sf (d + 8) m_Seating_search 25 [.ref 266, .ref 35, .int (zi i), .int (zi q), v] [] (zp_M a, n) = _ ∧ yti a'.1 T V i (q + 1) ∧ _
    rw [e_Seating_search_25, zp_K0, Option.bind_some, zp_TT2, Option.bind_some, show a.1 26 2 = zi T.1 from Ta.1, if_pos ((zi_l (by omega) (by omega)).mpr hq), zi_s]
    by_cases q1 : i = q
    · obtain ⟨P1, e1, f1⟩ := zs_wereIt (d := d + 1) (n := n) zs_35 Ta Ca hO (r := i) (q := q) (f := 0) hi hq
      refine ⟨(zp_sA P1 267 (6 * i + q) (yp T i q 0 (V.2.1 q) V.2.2.2), .int 0), ?_, yti_s h6 hi hq (fun r q' hr hq' hn hc => by rw [f1.2.1 267 (by decide)]; exact ta r q' hr hq' hn hc) (fun z => absurd q1 z), yF_t fa (yF_t (yF_m f1 (fun _ h => h) (fun _ h => by cases h)) (yF_A (by decide)))⟩
      rw [if_pos (by rw [q1]), zp_K2, Option.bind_some, zp_K1, Option.bind_some, zp_Lv, Option.bind_some, show zk_sm (d + 7) m_Pinches_wereIt [.ref 33, .ref 35, .int (zi i), .int (zi q), .int 0] (zp_M a, n) = _ from e1, zs_cI, Option.bind_some, zs_put zp_a267 (by decide), zs_cV, Option.bind_some, e6, zp_pi (show 6 * i + q < 36 by omega) (by decide)]
    · obtain ⟨P1, e1, f1⟩ := zs_bestFit (d := d) (n := n) zs_35 Ta Ca hO (r := i) (q := q) hi hq
      have T1 := yTC_0 f1 Ta
      have C1 := yC_0 f1 zs_35 Ca
      obtain ⟨P2, e2, f2⟩ := zs_wereIt (d := d + 1) (n := n) zs_35 T1 C1 hO (r := i) (q := q) (f := ybf T V i q) hi hq
      refine ⟨(zp_sA P2 267 (6 * i + q) (zi (ywn T V i q)), .int (zi (ybf T V i q))), ?_, yti_s h6 hi hq (fun r q' hr hq' hn hc => by rw [f2.2.1 267 (by decide), f1.2.1 267 (by decide)]; exact ta r q' hr hq' hn hc) (fun _ => rfl), yF_t fa (yF_t (yF_m f1 (fun _ h => h) (fun _ h => by cases h)) (yF_t (yF_m f2 (fun _ h => h) (fun _ h => by cases h)) (yF_A (by decide))))⟩
      rw [if_neg (fun z => q1 ((zi_eq (by omega) (by omega)).mp z)), zp_K1, Option.bind_some, zp_Lv, Option.bind_some, e1, zs_cI, Option.bind_some, zp_K2, Option.bind_some, zp_K1, Option.bind_some, zp_Lv, Option.bind_some, show zk_sm (d + 7) m_Pinches_wereIt [.ref 33, .ref 35, .int (zi i), .int (zi q), .int (zi (ybf T V i q))] (zp_M P1, n) = _ from e2, zs_cI, Option.bind_some, zs_put zp_a267 (by decide), zs_cV, Option.bind_some, e6, zp_pi (show 6 * i + q < 36 by omega) (by decide), ywn_e]
  · obtain ⟨a, v⟩ := a
    obtain ⟨ta, fa⟩ := hI
    have ta : yti a T V i T.1 := ta
    have fa : yF [] [267] P a := fa
    have Ta := yTC_267 fa hT
    refine ⟨a, v, ?_, fun r q hr hq hn hc => ta r q hr hq hn (by omega), fa⟩
    show zk_sf (d + 8) m_Seating_search 25 [.ref 266, .ref 35, .int (zi i), .int (zi T.1), v] [] (zp_M a, n) = _
    rw [e_Seating_search_25, zp_K0, Option.bind_some, zp_TT2, Option.bind_some, show a.1 26 2 = zi T.1 from Ta.1, if_neg (fun z => absurd ((zi_l (by omega) (by omega)).mp z) (Nat.lt_irrefl _)), zi_s]
theorem zs_search (hO : yO T.1 V) (hT : yTC P T) (hC : yC P 35 V) : ∃ P', zk_sm (d + 8) m_Seating_search [.ref 266, .ref 35] (zp_M P, n) = some (none, (zp_M P', n)) ∧ yst4 P' (yrS T.1 (ywn T V) T.1 0 0 0 0 none) ∧ yF yc66 [267] P P' := by
  have h6 := hT.2.1
  obtain ⟨P0, h0⟩ : ∃ P0, P0 = zp_sF (zp_sF P 266 3 (-1)) 266 4 (-1) := ⟨_, rfl⟩
  have f0 : yF yc66 [267] P P0 := by rw [h0]; exact yF_t (yF_f (by decide)) (yF_f (by decide))
  have T0 : yTC P0 T := yTC_F (by decide) (by decide) f0 hT
  have C0 : yC P0 35 V := yC_F (fun j h0 hj z => by simp only [List.mem_cons, List.not_mem_nil, or_false] at z; omega) (by decide) (by decide) f0 hC
  have s0 : yst4 P0 none := by rw [h0]; exact ⟨(zp_f8 (by decide)).trans zp_f9, zp_f9⟩
  rw [e_Seating_search, zp_K3p, Option.bind_some, zp_K4p, Option.bind_some, ← h0]
  refine zl_ind (m := T.1) (L := fun i (a : zp × Value × Value) => zk_sf (d + 8) m_Seating_search 12 [.ref 266, .ref 35, .int (zi i), a.2.1, a.2.2] [] (zp_M a.1, n)) (I := fun i a => yti a.1 T V i 0 ∧ yF [] [267] P0 a.1) (Q := fun r => ∃ P', r = some (none, (zp_M P', n)) ∧ yst4 P' (yrS T.1 (ywn T V) T.1 0 0 0 0 none) ∧ yF yc66 [267] P P') (fun i a hi hI => Or.inr ?_) (fun a hI => ?_) (a := (P0, .retAddr 0, .retAddr 0)) ⟨fun r q _ _ _ hc => by omega, yF_r⟩
  · obtain ⟨a, v3, v4⟩ := a
    obtain ⟨ta, fa⟩ := hI
    have ta : yti a T V i 0 := ta
    have fa : yF [] [267] P0 a := fa
    have Ta := yTC_267 fa T0
    obtain ⟨P', v', e', t', f'⟩ := zs_sin (d := d) (n := n) (v := v4) hO h6 hi Ta (yC_267 fa C0) ta
    refine ⟨(P', .int (zi T.1), v'), ?_, t', yF_t fa f'⟩
    show zk_sf (d + 8) m_Seating_search 12 [.ref 266, .ref 35, .int (zi i), v3, v4] [] (zp_M a, n) = _
    rw [e_Seating_search_12, zp_K0, Option.bind_some, zp_TT2, Option.bind_some, show a.1 26 2 = zi T.1 from Ta.1, if_pos ((zi_l (by omega) (by omega)).mpr hi), e']
  · obtain ⟨a, v3, v4⟩ := a
    obtain ⟨ta, fa⟩ := hI
    have ta : yti a T V T.1 0 := ta
    have fa : yF [] [267] P0 a := fa
    have Ta := yTC_267 fa T0
    have sa : yst4 a none := by
      obtain ⟨s1, s2⟩ := s0
      exact ⟨(fa.1 266 3 (by decide)).trans s1, (fa.1 266 4 (by decide)).trans s2⟩
    obtain ⟨P', e', s', f'⟩ := zs_seatFrom (d := d + (6 - T.1)) (n := n) (V := V) h6 T.1 0 0 0 0 none a (Nat.zero_add _) Ta.1 (fun r q hr hq hn => ta r q hr hq hn (Or.inl hr)) (by decide) (Nat.le_refl _) sa
    rw [show d + (6 - T.1) + T.1 + 1 = d + 7 by omega] at e'
    rw [ycS_e] at s'
    refine ⟨P', ?_, s', yF_t f0 (yF_t (yF_m fa (fun _ h => by cases h) (fun _ h => h)) (yF_m f' (fun _ h => h) (fun _ h => by cases h)))⟩
    show zk_sf (d + 8) m_Seating_search 12 [.ref 266, .ref 35, .int (zi T.1), v3, v4] [] (zp_M a, n) = _
    rw [e_Seating_search_12, zp_K0, Option.bind_some, zp_TT2, Option.bind_some, show a.1 26 2 = zi T.1 from Ta.1, if_neg (fun z => absurd ((zi_l (by omega) (by omega)).mp z) (Nat.lt_irrefl _)), zp_Kv, Option.bind_some, show zk_sm (d + 7) m_Seating_seatFrom [.ref 266, .int 0, .int 0, .int 0, .int 0] (zp_M a, n) = _ from e', zs_cV, Option.bind_some]
theorem yc_seats (hI : yI P n.1) {x : Int32} : yOK (d + 20) P n m_SaddlerKnows_seats m_R_seats [.int x] := by
  obtain ⟨h0, T, V, nl, L, c0, hP⟩ := id hI
  have hT := hP.1.1
  have hR := hP.1.2.1
  have h6 := hT.2.1
  have hC := hP.2.1.1
  have hO := hP.2.1.2.2.1
  by_cases hp : 0 < T.1
  · have hz' : ∀ P' : zp, yTR P' T → ¬ P'.1 269 25 = 0 := fun P' h' z => by
      rw [h'.1] at z
      have := (zi_eq (b := 0) (by omega) (by decide)).mp z
      omega
    have h2 : 2 ≤ T.1 := by
      rcases hP.1.2.2.1.2.2.1.2 with z | z
      · omega
      · exact z
    cases hx : yrg 2 x with
    | false =>
      have x0 : ¬ x = 0 := fun z => by rw [z] at hx; exact absurd hx (by decide)
      have x1 : ¬ x = 1 := fun z => by rw [z] at hx; exact absurd hx (by decide)
      refine yOK_q (v := -1) (P1 := P) (P2 := P) ?_ ?_ hI
      · rw [e_SaddlerKnows_seats, zp_Cv, Option.bind_some, yg_cnt hT, zs_cI, Option.bind_some, zp_ib, decide_eq_true hp, cond_true, if_neg x0, if_neg x1]
      · rw [e_R_seats, zp_R25, Option.bind_some, if_neg (hz' P hR), yg_Rin (m := 2) (by decide) (by decide) (by decide), hx, zs_cI, Option.bind_some, zp_ib, cond_false]
    | true =>
      obtain ⟨P1, e1, s1, f1⟩ := zs_search (d := d + 11) (n := n) hO hT hC
      have hP1 := yP_F ySc_66 f1 hP
      obtain ⟨P0, hP0⟩ : ∃ P0, P0 = zp_sF P1 269 40 (-1) := ⟨_, rfl⟩
      have f0 : yF yr40 [278, 279] P1 P0 := by rw [hP0]; exact yF_f (by decide)
      have hR0 : yTR P0 T := yTR_F (by decide) f0 hP1.1.2.1
      have r0 : yR (P0.2.1 286) V := by rw [f0.2.1 286 (by decide)]; exact hP1.2.1.2.1
      obtain ⟨P2, e2, s2, f2⟩ := zs_Rtry (d := d + (11 - T.1)) (n := n) hO h6 T.1 0 0 0 0 none P0 (Nat.zero_add _) hR0 r0 (by decide) (Nat.le_refl _) (by rw [hP0]; exact zp_f9)
      rw [show d + (11 - T.1) + T.1 + 8 = d + 19 by omega] at e2
      have hP2 := yP_F ySc_40 (yF_t f0 f2) hP1
      have hne : yrS T.1 (ywn T V) T.1 0 0 0 0 none ≠ none := by
        obtain ⟨m, hm⟩ : ∃ m, T.1 = m + 1 := ⟨T.1 - 1, by omega⟩
        have := yrS_n (np := T.1) (w := ywn T V) h2 h6 m 0 0 0 0 none (by omega) (fun j _ _ => yb_0 j)
        rw [← hm] at this
        exact this
      cases hy : yrS T.1 (ywn T V) T.1 0 0 0 0 none with
      | none => exact absurd hy hne
      | some y =>
        obtain ⟨c, s⟩ := y
        rw [hy] at s1 s2
        obtain ⟨-, -, c3, c4⟩ := s1
        obtain ⟨-, -, r3, r4⟩ := s2
        have eR : ∀ v : Int32, x = 0 ∧ v = zi c ∨ ¬ x = 0 ∧ v = zi s → zk_sm (d + 20) m_R_seats [.ref 269, .int x] (zp_M P1, n) = some (some (.int v), (zp_M P2, n)) := fun v hv => by
          rw [e_R_seats, zp_R25, Option.bind_some, if_neg (hz' P1 hP1.1.2.1), yg_Rin (m := 2) (by decide) (by decide) (by decide), hx, zs_cI, Option.bind_some, zp_ib, cond_true, zp_R40p, Option.bind_some, ← hP0, zp_Rv, Option.bind_some, show zk_sm (d + 19) m_R_trySeats [.ref 269, .int 0, .int 0, .int 0, .int 0] (zp_M P0, n) = _ from e2, zs_cV, Option.bind_some]
          rcases hv with ⟨z, rfl⟩ | ⟨z, rfl⟩
          · rw [if_pos z, zp_R40, Option.bind_some, r3]
          · rw [if_neg z, zp_R41, Option.bind_some, r4]
        by_cases x0 : x = 0
        · refine yOK_q (v := zi c) (P1 := P1) (P2 := P2) ?_ (eR _ (Or.inl ⟨x0, rfl⟩)) ⟨h0, T, V, nl, L, c0, hP2⟩
          rw [e_SaddlerKnows_seats, zp_Cv, Option.bind_some, yg_cnt hT, zs_cI, Option.bind_some, zp_ib, decide_eq_true hp, cond_true, if_pos x0, zp_C9, Option.bind_some, zp_C5, Option.bind_some, zp_Kv, Option.bind_some, show zk_sm (d + 19) m_Seating_search [.ref 266, .ref 35] (zp_M P, n) = _ from e1, zs_cV, Option.bind_some, if_pos x0, zp_C9, Option.bind_some, zp_K3, Option.bind_some, c3]
        · have x1 : x = 1 := by
            obtain ⟨k, hk, rfl⟩ := yrg_o hx
            rcases Nat.lt_or_ge k 1 with z | z
            · exact absurd (show zi k = 0 by rw [show k = 0 by omega]; rfl) x0
            · rw [show k = 1 by omega]; rfl
          refine yOK_q (v := zi s) (P1 := P1) (P2 := P2) ?_ (eR _ (Or.inr ⟨x0, rfl⟩)) ⟨h0, T, V, nl, L, c0, hP2⟩
          rw [e_SaddlerKnows_seats, zp_Cv, Option.bind_some, yg_cnt hT, zs_cI, Option.bind_some, zp_ib, decide_eq_true hp, cond_true, if_neg x0, if_pos x1, zp_C9, Option.bind_some, zp_C5, Option.bind_some, zp_Kv, Option.bind_some, show zk_sm (d + 19) m_Seating_search [.ref 266, .ref 35] (zp_M P, n) = _ from e1, zs_cV, Option.bind_some, if_neg x0, zp_C9, Option.bind_some, zp_K4, Option.bind_some, c4]
  · have hz : P.1 269 25 = 0 := by rw [hR.1, show T.1 = 0 by omega]; rfl
    refine yOK_q (v := -1) (P1 := P) (P2 := P) ?_ ?_ hI
    · rw [e_SaddlerKnows_seats, zp_Cv, Option.bind_some, yg_cnt hT, zs_cI, Option.bind_some, zp_ib, decide_eq_false hp, cond_false]
    · rw [e_R_seats, zp_R25, Option.bind_some, if_pos hz]
end
