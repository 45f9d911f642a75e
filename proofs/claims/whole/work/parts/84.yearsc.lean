/-! CALLS 13: years, by both sides -/
noncomputable def yym (T : yT) (x : Int32) (A : yAA) (y : Int64) : yAA := ymk (ykp A) (ynw T (ydw (A.2.2 0).1 T.1 y x, (A.2.2 0).2))
noncomputable def yys (T : yT) (x : Int32) : Nat → yAA → Int64 → yAA
  | 0, A, _ => A
  | k + 1, A, y => yys T x k (yym T x A y) (ydz y x)
theorem ymk2 {A : yAA} {S S' : yS_} : ymk (ymk A S') S = ymk A S := Prod.ext rfl (Prod.ext rfl (funext fun i => by
  show (if i = 0 then S else if i = 0 then S' else A.2.2 i) = if i = 0 then S else A.2.2 i
  by_cases z : i = 0
  · rw [if_pos z, if_pos z]
  · rw [if_neg z, if_neg z, if_neg z]))
theorem yAS_y {T : yT} {A : yAA} {x : Int32} {y : Int64} {h : Nat} (hp0 : 0 < T.1) (hS : yAS T.1 A) (hh : h ≤ 9) (he : T.2.2.2.2.1 = zi h) (hw : (A.2.2 0).1.2.2.2 < 999) : yAS T.1 (yym T x A y) := by
  obtain ⟨o, b⟩ := hS.2.2.1 0 (Nat.zero_le _)
  have hw' : (ydw (A.2.2 0).1 T.1 y x).2.2.2 = (A.2.2 0).1.2.2.2 := by rw [ydw_2]
  have hw9 : (ydw (A.2.2 0).1 T.1 y x).2.2.2 < 999 := by rw [hw']; exact hw
  refine yAS_k hS (yO_nw (ydw_O o hp0) hw9) (yB_wk (ydw_B b) hh he hw9) ?_ ?_
  · show (A.2.2 0).1.2.2.2 ≤ (ydw (A.2.2 0).1 T.1 y x).2.2.2 + 1
    rw [hw']; exact Nat.le_succ _
  · show (ydw (A.2.2 0).1 T.1 y x).2.2.2 + 1 ≤ (A.2.2 0).1.2.2.2 + 1
    rw [hw']; exact Nat.le_refl _
theorem yTC_A {P P' : zp} {T : yT} (f : yF yfA ykA P P') (hT : yTC P T) : yTC P' T := yTC_F (fun k hk z => by
    have h1 := ykA_m.mp z
    simp only [List.mem_cons, List.not_mem_nil, or_false] at hk
    omega) (fun x hx z => by
    have h1 := yfA_n z
    simp only [List.mem_cons, List.not_mem_nil, or_false] at hx
    rcases hx with rfl | rfl | rfl <;> rcases h1 with h1 | h1 | h1 | h1 | h1 <;> first | (cases h1; done) | (have h2 : 49 ≤ _ := h1.1; revert h2; decide)) f hT
section
variable {P : zp} {n : Nat × Nat} {d : Nat} {T : yT} {A : yAA} {y : Int64} {x : Int32}
theorem zs_yearA (hT : yTC P T) (hp0 : 0 < T.1) (hA : yAC P A) (hS : yAS T.1 A) (hw : (A.2.2 0).1.2.2.2 < 999) (hy : P.2.2.1 12 12 = y) (hx : P.1 12 11 = x) : ∃ P1 P2 P3, zk_sm (d + 10) m_Past_keep [.ref 40, .ref 35] (zp_M P, n) = some (none, (zp_M P1, n)) ∧ zk_sm (d + 10) m_SaddlerKnows_drawAhead [.ref 12] (zp_M P1, n) = some (none, (zp_M P2, n)) ∧ zk_sm (d + 10) m_SaddlerKnows_passWeek [.ref 12] (zp_M P2, n) = some (none, (zp_M P3, n)) ∧ yAC P3 (yym T x A y) ∧ yF yfA ykA (zp_sJ P 12 12 (ydz y x)) P3 := by
  obtain ⟨P1, e1, c1, f1⟩ := zs_keep (d := d + 6) (n := n) hA hS.1 hS.2.1
  have hT1 : yTC P1 T := yTC_A f1 hT
  obtain ⟨o, b⟩ := hS.2.2.1 0 (Nat.zero_le _)
  have y1 : P1.2.2.1 12 12 = y := by rw [f1.2.2.1 12]; exact hy
  have x1 : P1.1 12 11 = x := (f1.1 12 11 (fun z => by
    have h1 := yfA_n z
    rcases h1 with h1 | h1 | h1 | h1 | h1 <;> first | (cases h1; done) | (have h2 : 49 ≤ _ := h1.1; revert h2; decide))).trans hx
  obtain ⟨P2, e2, c2, f2⟩ := zs_drawAhead (d := d + 6) (n := n) hT1 hp0 (V := (A.2.2 0).1) c1.2.2.2.1 o y1
  rw [x1] at c2 f2
  have hw' : (ydw (A.2.2 0).1 T.1 y x).2.2.2 = (A.2.2 0).1.2.2.2 := by rw [ydw_2]
  have hw9 : (ydw (A.2.2 0).1 T.1 y x).2.2.2 < 999 := by rw [hw']; exact hw
  have c2' := yAC_st (P := zp_sJ P1 12 12 (ydz y x)) (show yAC _ (ykp A) from c1) f2 c2 hw'
  have f12 : yF yfA ykA (zp_sJ P 12 12 (ydz y x)) P2 := yF_t (yF_s f1) (yF_35 f2)
  obtain ⟨P3, e3, c3, f3⟩ := zs_passWeek (d := d) (n := n) (yTC_A f12 (show yTC (zp_sJ P 12 12 _) T from hT)) c2' (ydw_O o hp0) (ydw_B b) hw9 (fun i hi hi2 => by
    have hi2 : i ≤ min 40 (A.1 + 1) := hi2
    obtain ⟨k, rfl⟩ : ∃ k, i = k + 1 := ⟨i - 1, by omega⟩
    have := ych hS k (by omega)
    show (A.2.2 k).1.2.2.2 ≤ (ydw (A.2.2 0).1 T.1 y x).2.2.2 ∧ (ydw (A.2.2 0).1 T.1 y x).2.2.2 ≤ (A.2.2 k).1.2.2.2 + 39
    omega)
  refine ⟨P1, P2, P3, e1, e2, e3, ?_, yF_t f12 f3⟩
  rw [ymk2] at c3
  exact c3
theorem zs_yearR (hT : yTR P T) (hp0 : 0 < T.1) (hA : yAR P A) (hS : yAS T.1 A) (hw : (A.2.2 0).1.2.2.2 < 999) (hy : P.2.2.1 269 35 = y) (hx : P.1 269 30 = x) : ∃ P1 P2 P3, zk_sm (d + 10) m_R_keep [.ref 269] (zp_M P, n) = some (none, (zp_M P1, n)) ∧ zk_sm (d + 10) m_R_drawWeek [.ref 269] (zp_M P1, n) = some (none, (zp_M P2, n)) ∧ zk_sm (d + 10) m_R_passWeek [.ref 269] (zp_M P2, n) = some (none, (zp_M P3, n)) ∧ yAR P3 (yym T x A y) ∧ yF yfR ykR (zp_sJ P 269 35 (ydz y x)) P3 := by
  obtain ⟨P1, e1, c1, f1⟩ := zs_Rkeep (d := d + 10) (n := n) hA hS.1
  have hT1 : yTR P1 T := yTR_F (by decide) f1 hT
  obtain ⟨o, b⟩ := hS.2.2.1 0 (Nat.zero_le _)
  have y1 : P1.2.2.1 269 35 = y := by rw [f1.2.2.1 269]; exact hy
  have x1 : P1.1 269 30 = x := (f1.1 269 30 (by decide)).trans hx
  obtain ⟨P2, e2, c2, f2, k2⟩ := zs_RdrawWeek (d := d + 6) (n := n) hT1 hp0 (V := (A.2.2 0).1) c1.2.1.1 o y1
  rw [x1] at c2 f2
  have hw' : (ydw (A.2.2 0).1 T.1 y x).2.2.2 = (A.2.2 0).1.2.2.2 := by rw [ydw_2]
  have hw9 : (ydw (A.2.2 0).1 T.1 y x).2.2.2 < 999 := by rw [hw']; exact hw
  have c2' := yAR_st (P := zp_sJ P1 269 35 (ydz y x)) (show yAR _ (ykp A) from c1) f2 k2 c2 hw'
  have f12 : yF yfR ykR (zp_sJ P 269 35 (ydz y x)) P2 := yF_t (yF_s f1) (yF_m f2 (fun _ h => by cases h) (fun k hk => by simp only [List.mem_cons, List.not_mem_nil, or_false] at hk ⊢; omega))
  obtain ⟨P3, e3, c3, f3⟩ := zs_RpassWeek (d := d) (n := n) (yTR_F (by decide) f12 (show yTR (zp_sJ P 269 35 _) T from hT)) hp0 c2' (ydw_O o hp0) hw9
  refine ⟨P1, P2, P3, e1, e2, e3, ?_, yF_t f12 f3⟩
  rw [ymk2] at c3
  exact c3
theorem zs_yloop {m : Nat} {h : Nat} {l : Int64} (hm : m ≤ 60) (hp0 : 0 < T.1) (hh : h ≤ 9) (he : T.2.2.2.2.1 = zi h) : ∀ (j k : Nat) (A : yAA) (y : Int64) (P : zp), k + j = m → yTC P T → yAC P A → yAS T.1 A → P.2.2.1 12 12 = y → P.1 12 11 = x → (A.2.2 0).1.2.2.2 + j ≤ 999 → ∃ P' y', zk_sf (d + 11) m_SaddlerKnows_years 43 [.ref 12, .int (zi m), .long l, .retAddr 0, .int (zi k)] [] (zp_M P, n) = some (some (.int (zi ((A.2.2 0).1.2.2.2 + j))), (zp_M P', n)) ∧ yAC P' (yys T x j A y) ∧ yAS T.1 (yys T x j A y) ∧ yF yfA ykA (zp_sJ P 12 12 y') P'
  | 0, k, A, y, P, hk, hT, hA, hS, hy, hx, hw => by
    have hk : k = m := hk
    subst hk
    refine ⟨P, y, ?_, hA, hS, ?_⟩
    · rw [e_SaddlerKnows_years_43, if_neg (fun z => absurd ((zi_l (by omega) (by omega)).mp z) (Nat.lt_irrefl _)), zp_C5, Option.bind_some, zp_s5 zs_35, Option.bind_some, hA.2.2.2.1.2.2.2]
      rfl
    · exact ⟨fun _ _ _ => rfl, fun _ _ => rfl, fun k' => funext fun j' => by
        show P.2.2.1 k' j' = (if k' = 12 ∧ j' = 12 then y else P.2.2.1 k' j')
        by_cases z : k' = 12 ∧ j' = 12
        · rw [if_pos z, z.1, z.2, hy]
        · rw [if_neg z], rfl, yG_r⟩
  | j + 1, k, A, y, P, hk, hT, hA, hS, hy, hx, hw => by
    obtain ⟨P1, P2, P3, e1, e2, e3, c3, f3⟩ := zs_yearA (d := d) (n := n) hT hp0 hA hS (by omega) hy hx
    have hT3 : yTC P3 T := yTC_A f3 (show yTC (zp_sJ P 12 12 _) T from hT)
    have hw1 : ((yym T x A y).2.2 0).1.2.2.2 = (A.2.2 0).1.2.2.2 + 1 := by
      show (ydw (A.2.2 0).1 T.1 y x).2.2.2 + 1 = _
      rw [ydw_2]
    have y3 : P3.2.2.1 12 12 = ydz y x := by rw [f3.2.2.1 12]; exact zp_j9
    have x3 : P3.1 12 11 = x := (f3.1 12 11 (fun z => by
      have h1 := yfA_n z
      rcases h1 with h1 | h1 | h1 | h1 | h1 <;> first | (cases h1; done) | (have h2 : 49 ≤ _ := h1.1; revert h2; decide))).trans hx
    obtain ⟨P4, y4, e4, c4, s4, f4⟩ := zs_yloop hm hp0 hh he j (k + 1) (yym T x A y) (ydz y x) P3 (by omega) hT3 c3 (yAS_y hp0 hS hh he (by omega)) y3 x3 (by rw [hw1]; omega)
    have f5 := yF_s (k := 12) (j := 12) (x := y4) f3
    rw [zp_jj] at f5
    refine ⟨P4, y4, ?_, c4, s4, yF_t f5 f4⟩
    rw [e_SaddlerKnows_years_43, if_pos ((zi_l (by omega) (by omega)).mpr (by omega)), zp_C6, Option.bind_some, zp_C5, Option.bind_some, zp_Sv, Option.bind_some, e1, zs_cV, Option.bind_some, zp_Cv, Option.bind_some, e2, zs_cV, Option.bind_some, zp_Cv, Option.bind_some, e3, zs_cV, Option.bind_some, zi_s, e4, hw1, show (A.2.2 0).1.2.2.2 + 1 + j = (A.2.2 0).1.2.2.2 + (j + 1) by omega]
theorem zs_Ryloop {m : Nat} {h : Nat} {l : Int64} (hm : m ≤ 60) (hp0 : 0 < T.1) (hh : h ≤ 9) (he : T.2.2.2.2.1 = zi h) : ∀ (j k : Nat) (A : yAA) (y : Int64) (P : zp), k + j = m → yTR P T → yAR P A → yAS T.1 A → P.2.2.1 269 35 = y → P.1 269 30 = x → (A.2.2 0).1.2.2.2 + j ≤ 999 → ∃ P' y', zk_sf (d + 11) m_R_years 25 [.ref 269, .int (zi m), .long l, .retAddr 0, .int (zi k)] [] (zp_M P, n) = some (some (.int (zi ((A.2.2 0).1.2.2.2 + j))), (zp_M P', n)) ∧ yAR P' (yys T x j A y) ∧ yF yfR ykR (zp_sJ P 269 35 y') P'
  | 0, k, A, y, P, hk, hT, hA, hS, hy, hx, hw => by
    have hk : k = m := hk
    subst hk
    refine ⟨P, y, ?_, hA, ?_⟩
    · rw [e_R_years_25, if_neg (fun z => absurd ((zi_l (by omega) (by omega)).mp z) (Nat.lt_irrefl _)), zp_R27, Option.bind_some, zp_lit (i := 39) (y := 39) zp_a286 rfl (by decide) (by decide), Option.bind_some, hA.2.1.1.2.2.2]
      rfl
    · exact ⟨fun _ _ _ => rfl, fun _ _ => rfl, fun k' => funext fun j' => by
        show P.2.2.1 k' j' = (if k' = 269 ∧ j' = 35 then y else P.2.2.1 k' j')
        by_cases z : k' = 269 ∧ j' = 35
        · rw [if_pos z, z.1, z.2, hy]
        · rw [if_neg z], rfl, yG_r⟩
  | j + 1, k, A, y, P, hk, hT, hA, hS, hy, hx, hw => by
    obtain ⟨P1, P2, P3, e1, e2, e3, c3, f3⟩ := zs_yearR (d := d) (n := n) hT hp0 hA hS (by omega) hy hx
    have hT3 : yTR P3 T := yTR_F (by decide) f3 (show yTR (zp_sJ P 269 35 _) T from hT)
    have hw1 : ((yym T x A y).2.2 0).1.2.2.2 = (A.2.2 0).1.2.2.2 + 1 := by
      show (ydw (A.2.2 0).1 T.1 y x).2.2.2 + 1 = _
      rw [ydw_2]
    have y3 : P3.2.2.1 269 35 = ydz y x := by rw [f3.2.2.1 269]; exact zp_j9
    have x3 : P3.1 269 30 = x := (f3.1 269 30 (by decide)).trans hx
    obtain ⟨P4, y4, e4, c4, f4⟩ := zs_Ryloop hm hp0 hh he j (k + 1) (yym T x A y) (ydz y x) P3 (by omega) hT3 c3 (yAS_y hp0 hS hh he (by omega)) y3 x3 (by rw [hw1]; omega)
    have f5 := yF_s (k := 269) (j := 35) (x := y4) f3
    rw [zp_jj] at f5
    refine ⟨P4, y4, ?_, c4, yF_t f5 f4⟩
    rw [e_R_years_25, if_pos ((zi_l (by omega) (by omega)).mpr (by omega)), zp_Rv, Option.bind_some, e1, zs_cV, Option.bind_some, zp_Rv, Option.bind_some, e2, zs_cV, Option.bind_some, zp_Rv, Option.bind_some, e3, zs_cV, Option.bind_some, zi_s, e4, hw1, show (A.2.2 0).1.2.2.2 + 1 + j = (A.2.2 0).1.2.2.2 + (j + 1) by omega]
end
section
variable {P : zp} {n : Nat × Nat} {d : Nat}
theorem yc_years (hI : yI P n.1) {x : Int32} {l : Int64} : yOK (d + 20) P n m_SaddlerKnows_years m_R_years [.int x, .long l] := by
  obtain ⟨h0, T, V, nl, L, c0, hP⟩ := id hI
  have hT := hP.1.1
  have hR := hP.1.2.1
  have h6 := hT.2.1
  have h5 : P.1 35 5 = zi V.2.2.2 := hP.2.1.1.2.2.2
  have hw9 := hP.2.1.2.2.2.1.2.2
  by_cases hp : 0 < T.1
  · have hz' : ∀ P' : zp, yTR P' T → ¬ P'.1 269 25 = 0 := fun P' h' z => by
      rw [h'.1] at z
      have := (zi_eq (b := 0) (by omega) (by decide)).mp z
      omega
    by_cases q1 : x < 1
    · refine yOK_q (v := -1) (P1 := P) (P2 := P) ?_ ?_ hI
      · rw [e_SaddlerKnows_years, zp_Cv, Option.bind_some, yg_cnt hT, zs_cI, Option.bind_some, zp_ib, decide_eq_true hp, cond_true, if_pos q1]
      · rw [e_R_years, zp_R25, Option.bind_some, if_neg (hz' P hR), zp_Rv, Option.bind_some, e_R_areWeeks, zs_Rin160, decide_eq_true q1, zs_cI, Option.bind_some, zp_ib, Bool.not_true, Bool.false_and, cond_false, zs_cI, Option.bind_some, if_pos (show (0 : Int32) = 0 from rfl)]
    · by_cases q2 : 60 < x
      · refine yOK_q (v := -1) (P1 := P) (P2 := P) ?_ ?_ hI
        · rw [e_SaddlerKnows_years, zp_Cv, Option.bind_some, yg_cnt hT, zs_cI, Option.bind_some, zp_ib, decide_eq_true hp, cond_true, if_neg q1, if_pos q2]
        · rw [e_R_years, zp_R25, Option.bind_some, if_neg (hz' P hR), zp_Rv, Option.bind_some, e_R_areWeeks, zs_Rin160, decide_eq_false q1, decide_eq_true q2, zs_cI, Option.bind_some, zp_ib, Bool.not_true, Bool.and_false, cond_false, zs_cI, Option.bind_some, if_pos (show (0 : Int32) = 0 from rfl)]
      · obtain ⟨k, k1, k60, rfl⟩ := yrg_60 q1 q2
        have es : zi V.2.2.2 + zi k = zi (V.2.2.2 + k) := (Int32.ofNat_add _ _).symm
        have l39 : ∀ P1 : zp, yR (P1.2.1 286) V → zk_ldI (zp_M P1, n) 286 39 = some (zi V.2.2.2) := fun P1 h => (zp_lit (i := 39) (y := 39) zp_a286 rfl (by decide) (by decide)).trans (by rw [h.2.2.2])
        by_cases q3 : V.2.2.2 + k ≤ 999
        · have n3 : ¬ (999 : Int32) < zi (V.2.2.2 + k) := fun z => absurd ((zi_l (i := 999) (by decide) (by omega)).mp z) (by omega)
          obtain ⟨A, a0, aC, aR, aS⟩ := yA_o hP.2.1
          obtain ⟨h, hh, hb⟩ := hP.1.2.2.1.2.2.2.2.2.2.2
          have he : T.2.2.2.2.1 = zi h := hT.2.2.2.1.symm.trans hb
          have ex : P.1 12 11 = P.1 269 30 := hP.2.2.2.1
          obtain ⟨P0, hP0⟩ : ∃ P0, P0 = zp_sJ P 12 12 l := ⟨_, rfl⟩
          have hPP : yP P0 n.1 T V nl L c0 := by rw [hP0]; exact hP
          have aC0 : yAC P0 A := by rw [hP0]; exact aC
          have aR0 : yAR P0 A := by rw [hP0]; exact aR
          have j0 : P0.2.2.1 12 12 = l := by rw [hP0]; exact zp_j9
          have x0 : P0.1 12 11 = P.1 269 30 := by rw [hP0]; exact ex
          obtain ⟨P1, y1, e1, c1, s1, f1⟩ := zs_yloop (d := d + 9) (n := n) (l := l) k60 hp hh he k 0 A l P0 (Nat.zero_add _) hPP.1.1 aC0 aS j0 x0 (by rw [a0]; exact q3)
          have hP1 : yP (zp_sJ P0 12 12 y1) n.1 T V nl L c0 := hPP
          have hJ1 := yJ_A f1 hP1.1
          obtain ⟨P2, hP2⟩ : ∃ P2, P2 = zp_sJ P1 269 35 l := ⟨_, rfl⟩
          have hJ2 : yJ P2 n.1 T nl L c0 := by rw [hP2]; exact hJ1
          have aR1 : yAR P1 A := yAR_A f1 (show yAR (zp_sJ P0 12 12 y1) A from aR0)
          have aR2 : yAR P2 A := by rw [hP2]; exact aR1
          have j2 : P2.2.2.1 269 35 = l := by rw [hP2]; exact zp_j9
          have x2 : P2.1 269 30 = P.1 269 30 := by
            rw [hP2]
            refine (f1.1 269 30 (fun z => by
              have h1 := yfA_n z
              rcases h1 with h1 | h1 | h1 | h1 | h1 <;> first | (cases h1; done) | (have h2 : _ ≤ _ ∧ _ := h1; simp only [] at h2; omega))).trans ?_
            rw [hP0]; rfl
          obtain ⟨P3, y3, e3, r3, f3⟩ := zs_Ryloop (d := d + 9) (n := n) (l := l) k60 hp hh he k 0 A l P2 (Nat.zero_add _) hJ2.2.1 aR2 aS j2 x2 (by rw [a0]; exact q3)
          rw [a0] at e1 e3
          have f3' : yF yfR ykR (zp_sJ P1 269 35 y3) P3 := by rw [hP2, zp_jj] at f3; exact f3
          refine yOK_q (v := zi (V.2.2.2 + k)) (P1 := P1) (P2 := P3) ?_ ?_ (yI_acts (P := zp_sJ (zp_sJ P0 12 12 y1) 269 35 y3) h0 hPP.1 hPP.2.2 (yF_s f1) (show yAC (zp_sJ P1 269 35 y3) _ from c1) f3' r3 s1)
          · rw [e_SaddlerKnows_years, zp_Cv, Option.bind_some, yg_cnt hT, zs_cI, Option.bind_some, zp_ib, decide_eq_true hp, cond_true, if_neg q1, if_neg q2, zp_C5, Option.bind_some, zp_s5 zs_35, Option.bind_some, h5, es, if_neg n3, zp_pL (by decide +kernel), Option.bind_some, ← hP0]
            exact e1
          · have r1 : yR (P1.2.1 286) V := by rw [← a0]; exact aR1.2.1.1
            rw [e_R_years, zp_R25, Option.bind_some, if_neg (hz' P1 hJ1.2.1), zp_Rv, Option.bind_some, e_R_areWeeks, zs_Rin160, decide_eq_false q1, decide_eq_false q2, zs_cI, Option.bind_some, zp_ib, Bool.not_false, Bool.true_and, cond_true, zp_R27, Option.bind_some, l39 P1 r1, Option.bind_some, es, if_neg n3, zs_cI, Option.bind_some, if_neg (show ¬ (1 : Int32) = 0 by decide), zp_pL (by decide +kernel), Option.bind_some, ← hP2]
            exact e3
        · have n3 : (999 : Int32) < zi (V.2.2.2 + k) := (zi_l (i := 999) (by decide) (by omega)).mpr (by omega)
          refine yOK_q (v := -1) (P1 := P) (P2 := P) ?_ ?_ hI
          · rw [e_SaddlerKnows_years, zp_Cv, Option.bind_some, yg_cnt hT, zs_cI, Option.bind_some, zp_ib, decide_eq_true hp, cond_true, if_neg q1, if_neg q2, zp_C5, Option.bind_some, zp_s5 zs_35, Option.bind_some, h5, es, if_pos n3]
          · rw [e_R_years, zp_R25, Option.bind_some, if_neg (hz' P hR), zp_Rv, Option.bind_some, e_R_areWeeks, zs_Rin160, decide_eq_false q1, decide_eq_false q2, zs_cI, Option.bind_some, zp_ib, Bool.not_false, Bool.true_and, cond_true, zp_R27, Option.bind_some, l39 P hP.2.1.2.1, Option.bind_some, es, if_pos n3, zs_cI, Option.bind_some, if_pos (show (0 : Int32) = 0 from rfl)]
  · have hz : P.1 269 25 = 0 := by rw [hR.1, show T.1 = 0 by omega]; rfl
    refine yOK_q (v := -1) (P1 := P) (P2 := P) ?_ ?_ hI
    · rw [e_SaddlerKnows_years, zp_Cv, Option.bind_some, yg_cnt hT, zs_cI, Option.bind_some, zp_ib, decide_eq_false hp, cond_false]
    · rw [e_R_years, zp_R25, Option.bind_some, if_pos hz]
end
