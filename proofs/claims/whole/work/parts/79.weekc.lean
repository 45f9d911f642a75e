/-! CALLS 8: what is refused; weeks -/
theorem ych {np : Nat} {A : yAA} (hS : yAS np A) : ∀ i, i ≤ A.1 → (A.2.2 i).1.2.2.2 ≤ (A.2.2 0).1.2.2.2 ∧ (A.2.2 0).1.2.2.2 ≤ (A.2.2 i).1.2.2.2 + i := by
  intro i
  induction i with
  | zero => exact fun _ => ⟨Nat.le_refl _, Nat.le_refl _⟩
  | succ i ih =>
    intro hi
    obtain ⟨a1, a2⟩ := ih (by omega)
    obtain ⟨b1, b2⟩ := hS.2.2.2 i (by omega)
    omega
/-- kept, and another state now -/
theorem yAS_k {np : Nat} {A : yAA} {S : yS_} (hS : yAS np A) (hO : yO np S.1) (hB : yB np S.1) (h1 : (A.2.2 0).1.2.2.2 ≤ S.1.2.2.2) (h2 : S.1.2.2.2 ≤ (A.2.2 0).1.2.2.2 + 1) : yAS np (ymk (ykp A) S) := by
  obtain ⟨s1, s2, s3, s4⟩ := hS
  refine ⟨Nat.min_le_left _ _, Nat.mod_lt _ (by decide), fun i hi => ?_, fun i hi => ?_⟩
  · have hi : i ≤ min 40 (A.1 + 1) := hi
    show yO np (if i = 0 then S else (ykp A).2.2 i).1 ∧ yB np (if i = 0 then S else (ykp A).2.2 i).1
    rcases Nat.eq_zero_or_pos i with z | z
    · rw [if_pos z]; exact ⟨hO, hB⟩
    · obtain ⟨k, rfl⟩ : ∃ k, i = k + 1 := ⟨i - 1, by omega⟩
      rw [if_neg (by omega)]
      exact s3 k (by omega)
  · have hi : i < min 40 (A.1 + 1) := hi
    show (if i + 1 = 0 then S else (ykp A).2.2 (i + 1)).1.2.2.2 ≤ (if i = 0 then S else (ykp A).2.2 i).1.2.2.2 ∧ (if i = 0 then S else (ykp A).2.2 i).1.2.2.2 ≤ (if i + 1 = 0 then S else (ykp A).2.2 (i + 1)).1.2.2.2 + 1
    rw [if_neg (show ¬ i + 1 = 0 by omega)]
    show (A.2.2 i).1.2.2.2 ≤ (if i = 0 then S else (ykp A).2.2 i).1.2.2.2 ∧ (if i = 0 then S else (ykp A).2.2 i).1.2.2.2 ≤ (A.2.2 i).1.2.2.2 + 1
    rcases Nat.eq_zero_or_pos i with z | z
    · subst z
      rw [if_pos rfl]; exact ⟨h1, h2⟩
    · obtain ⟨k, rfl⟩ : ∃ k, i = k + 1 := ⟨i - 1, by omega⟩
      rw [if_neg (by omega)]
      exact s4 k (by omega)
noncomputable def yst_ (T : yT) (A : yAA) : yAA := ymk (ykp A) (ynw T (A.2.2 0))
noncomputable def yws (T : yT) : Nat → yAA → yAA
  | 0, A => A
  | k + 1, A => yws T k (yst_ T A)
theorem yAS_w {T : yT} {A : yAA} {h : Nat} (hS : yAS T.1 A) (hh : h ≤ 9) (he : T.2.2.2.2.1 = zi h) (hw : (A.2.2 0).1.2.2.2 < 999) : yAS T.1 (yst_ T A) := by
  obtain ⟨o, b⟩ := hS.2.2.1 0 (Nat.zero_le _)
  exact yAS_k hS (yO_nw o hw) (yB_wk b hh he hw) (Nat.le_succ _) (Nat.le_refl _)
section
variable {P : zp} {n : Nat × Nat} {d : Nat} {T : yT} {A : yAA}
theorem zs_weekA (hT : yTC P T) (hA : yAC P A) (hS : yAS T.1 A) (hw : (A.2.2 0).1.2.2.2 < 999) : ∃ P' P'', zk_sm (d + 10) m_Past_keep [.ref 40, .ref 35] (zp_M P, n) = some (none, (zp_M P', n)) ∧ zk_sm (d + 10) m_SaddlerKnows_passWeek [.ref 12] (zp_M P', n) = some (none, (zp_M P'', n)) ∧ yAC P'' (yst_ T A) ∧ yF yfA ykA P P'' := by
  obtain ⟨P1, e1, c1, f1⟩ := zs_keep (d := d + 6) (n := n) hA hS.1 hS.2.1
  have hT1 : yTC P1 T := yTC_F (fun k hk z => by
    have h1 := ykA_m.mp z
    simp only [List.mem_cons, List.not_mem_nil, or_false] at hk
    omega) (fun x hx z => by
    have h1 := yfA_n z
    simp only [List.mem_cons, List.not_mem_nil, or_false] at hx
    rcases hx with rfl | rfl | rfl <;> rcases h1 with h1 | h1 | h1 | h1 | h1 <;> first | (cases h1; done) | (have h2 : 49 ≤ _ := h1.1; revert h2; decide)) f1 hT
  obtain ⟨o, b⟩ := hS.2.2.1 0 (Nat.zero_le _)
  obtain ⟨P2, e2, c2, f2⟩ := zs_passWeek (d := d) (n := n) hT1 c1 o b hw (fun i hi hi2 => by
    have hi2 : i ≤ min 40 (A.1 + 1) := hi2
    obtain ⟨k, rfl⟩ : ∃ k, i = k + 1 := ⟨i - 1, by omega⟩
    have := ych hS k (by omega)
    show (A.2.2 k).1.2.2.2 ≤ (A.2.2 0).1.2.2.2 ∧ (A.2.2 0).1.2.2.2 ≤ (A.2.2 k).1.2.2.2 + 39
    omega)
  exact ⟨P1, P2, e1, e2, c2, yF_t f1 f2⟩
theorem zs_weekR (hT : yTR P T) (hp0 : 0 < T.1) (hA : yAR P A) (hS : yAS T.1 A) (hw : (A.2.2 0).1.2.2.2 < 999) : ∃ P' P'', zk_sm (d + 10) m_R_keep [.ref 269] (zp_M P, n) = some (none, (zp_M P', n)) ∧ zk_sm (d + 10) m_R_passWeek [.ref 269] (zp_M P', n) = some (none, (zp_M P'', n)) ∧ yAR P'' (yst_ T A) ∧ yF yfR ykR P P'' := by
  obtain ⟨P1, e1, c1, f1⟩ := zs_Rkeep (d := d + 10) (n := n) hA hS.1
  have hT1 : yTR P1 T := yTR_F (by decide) f1 hT
  obtain ⟨o, b⟩ := hS.2.2.1 0 (Nat.zero_le _)
  obtain ⟨P2, e2, c2, f2⟩ := zs_RpassWeek (d := d) (n := n) hT1 hp0 c1 o hw
  exact ⟨P1, P2, e1, e2, c2, yF_t f1 f2⟩
theorem yI_acts {P1 P2 : zp} {nl : Nat} {L : Nat → Nat × Nat × Nat} {c0 : Int32} {m : Nat} (h0 : 300 ≤ m) (hJ : yJ P m T nl L c0) (hK : yK P) (f1 : yF yfA ykA P P1) (c1 : yAC P1 A) (f2 : yF yfR ykR P1 P2) (r2 : yAR P2 A) (hS : yAS T.1 A) : yI P2 m :=
  ⟨h0, T, (A.2.2 0).1, nl, L, c0, yJ_R f2 (yJ_A f1 hJ), yA_i (yAC_R (by decide) (by decide) f2 c1) r2 hS, yK_R f2 (yK_A f1 hK)⟩
theorem zs_refk {k : Nat} (hk : k < 5) : zk_sm (d + 1) m_SaddlerKnows_refused [.ref 12, .int (zi k)] (zp_M P, n) = some (some (.int (-1)), (zp_M (zp_sA P 268 k (P.2.1 268 k + 1)), n)) := by
  rw [zs_refused]
  unfold zq_refuse
  rw [zp_pi hk (by decide), zp_gi hk (by decide)]
theorem zs_Rrefk {k : Nat} (hk : k < 5) : zk_sm d m_R_isRefused [.ref 269, .int (zi k)] (zp_M P, n) = some (some (.int 1), (zp_M (zp_sA P 287 k (P.2.1 287 k + 1)), n)) := by
  rw [e_R_isRefused, if_neg (zi_n1 (by omega)), zp_R28, Option.bind_some, zp_ldi zp_a287 hk (by decide), Option.bind_some, zp_sti zp_a287 hk (by decide), Option.bind_some, if_neg (zi_n1 (by omega))]
theorem zs_Rref0 {s : zk_S} : zk_sm d m_R_isRefused [.ref 269, .int (-1)] s = some (some (.int 0), s) := by
  rw [e_R_isRefused, if_pos rfl, if_pos rfl]
theorem yOK_ref {c r : Nat} {as : List Value} {V : yV} {nl : Nat} {L : Nat → Nat × Nat × Nat} {c0 : Int32} {k : Nat} (h0 : 300 ≤ n.1) (hP : yP P n.1 T V nl L c0) (hk : k < 5) (h1 : zk_sm d c (.ref 12 :: as) (zp_M P, n) = some (some (.int (-1)), (zp_M (zp_sA P 268 k (P.2.1 268 k + 1)), n))) (h2 : ∀ P1 : zp, P1.2.1 287 = P.2.1 287 → yTR P1 T → yR (P1.2.1 286) V → zk_sm d r (.ref 269 :: as) (zp_M P1, n) = some (some (.int (-1)), (zp_M (zp_sA P1 287 k (P1.2.1 287 k + 1)), n))) : yOK d P n c r as := by
  have f1 : yF [] [268, 287] P (zp_sA P 268 k (P.2.1 268 k + 1)) := yF_A (by decide)
  have f2 : yF [] [268, 287] P (zp_sA (zp_sA P 268 k (P.2.1 268 k + 1)) 287 k ((zp_sA P 268 k (P.2.1 268 k + 1)).2.1 287 k + 1)) := yF_t f1 (yF_A (by decide))
  refine yOK_q h1 (h2 _ rfl (yTR_F (by decide) f1 hP.1.2.1) hP.2.1.2.1) ⟨h0, T, V, nl, L, c0, yP_K (by decide) (by decide) (by decide) (by decide) f2 hP ?_⟩
  obtain ⟨k1, k2, len, l1, l2, l3, l4⟩ := hP.2.2
  refine ⟨fun j hj => ?_, k2, len, l1, l2, l3, l4⟩
  have e1 : (zp_sA (zp_sA P 268 k (P.2.1 268 k + 1)) 287 k ((zp_sA P 268 k (P.2.1 268 k + 1)).2.1 287 k + 1)).2.1 268 = (zp_sA P 268 k (P.2.1 268 k + 1)).2.1 268 := zp_a7 (by decide)
  have e2 : (zp_sA P 268 k (P.2.1 268 k + 1)).2.1 287 = P.2.1 287 := zp_a7 (by decide)
  rw [e1, e2]
  by_cases q : j = k
  · subst q
    rw [zp_a9, zp_a9, k1 j hj]
  · rw [zp_a8 q, zp_a8 q, e2]
    exact k1 j hj
theorem zs_wloop {m : Nat} {h : Nat} (hm : m ≤ 60) (hh : h ≤ 9) (he : T.2.2.2.2.1 = zi h) : ∀ (j k : Nat) (A : yAA) (P : zp), k + j = m → yTC P T → yAC P A → yAS T.1 A → (A.2.2 0).1.2.2.2 + j ≤ 999 → ∃ P', zk_sf (d + 11) m_SaddlerKnows_weeks 53 [.ref 12, .int (zi m), .int (zi k)] [] (zp_M P, n) = some (some (.int (zi ((A.2.2 0).1.2.2.2 + j))), (zp_M P', n)) ∧ yAC P' (yws T j A) ∧ yAS T.1 (yws T j A) ∧ yF yfA ykA P P'
  | 0, k, A, P, hk, hT, hA, hS, hw => by
    have hk : k = m := hk
    subst hk
    refine ⟨P, ?_, hA, hS, yF_r⟩
    rw [e_SaddlerKnows_weeks_53, if_neg (fun z => absurd ((zi_l (by omega) (by omega)).mp z) (Nat.lt_irrefl _)), zp_C5, Option.bind_some, zp_s5 zs_35, Option.bind_some, hA.2.2.2.1.2.2.2]
    rfl
  | j + 1, k, A, P, hk, hT, hA, hS, hw => by
    obtain ⟨P1, P2, e1, e2, c2, f2⟩ := zs_weekA (d := d) (n := n) hT hA hS (by omega)
    have hT2 : yTC P2 T := yTC_F (fun k hk z => by
      have h1 := ykA_m.mp z
      simp only [List.mem_cons, List.not_mem_nil, or_false] at hk
      omega) (fun x hx z => by
      have h1 := yfA_n z
      simp only [List.mem_cons, List.not_mem_nil, or_false] at hx
      rcases hx with rfl | rfl | rfl <;> rcases h1 with h1 | h1 | h1 | h1 | h1 <;> first | (cases h1; done) | (have h2 : 49 ≤ _ := h1.1; revert h2; decide)) f2 hT
    have hw1 : ((yst_ T A).2.2 0).1.2.2.2 = (A.2.2 0).1.2.2.2 + 1 := rfl
    obtain ⟨P3, e3, c3, s3, f3⟩ := zs_wloop hm hh he j (k + 1) (yst_ T A) P2 (by omega) hT2 c2 (yAS_w hS hh he (by omega)) (by rw [hw1]; omega)
    refine ⟨P3, ?_, c3, s3, yF_t f2 f3⟩
    rw [e_SaddlerKnows_weeks_53, if_pos ((zi_l (by omega) (by omega)).mpr (by omega)), zp_C6, Option.bind_some, zp_C5, Option.bind_some, zp_Sv, Option.bind_some, e1, zs_cV, Option.bind_some, zp_Cv, Option.bind_some, e2, zs_cV, Option.bind_some, zi_s, e3, hw1, show (A.2.2 0).1.2.2.2 + 1 + j = (A.2.2 0).1.2.2.2 + (j + 1) by omega]
theorem zs_Rwloop2 {m : Nat} {h : Nat} (hm : m ≤ 60) (hp0 : 0 < T.1) (hh : h ≤ 9) (he : T.2.2.2.2.1 = zi h) : ∀ (j k : Nat) (A : yAA) (P : zp), k + j = m → yTR P T → yAR P A → yAS T.1 A → (A.2.2 0).1.2.2.2 + j ≤ 999 → ∃ P', zk_sf (d + 11) m_R_weeks 49 [.ref 269, .int (zi m), .int (zi k)] [] (zp_M P, n) = some (some (.int (zi ((A.2.2 0).1.2.2.2 + j))), (zp_M P', n)) ∧ yAR P' (yws T j A) ∧ yF yfR ykR P P'
  | 0, k, A, P, hk, hT, hA, hS, hw => by
    have hk : k = m := hk
    subst hk
    refine ⟨P, ?_, hA, yF_r⟩
    rw [e_R_weeks_49, if_neg (fun z => absurd ((zi_l (by omega) (by omega)).mp z) (Nat.lt_irrefl _)), zp_R27, Option.bind_some, zp_lit (i := 39) (y := 39) zp_a286 rfl (by decide) (by decide), Option.bind_some, hA.2.1.1.2.2.2]
    rfl
  | j + 1, k, A, P, hk, hT, hA, hS, hw => by
    obtain ⟨P1, P2, e1, e2, c2, f2⟩ := zs_weekR (d := d) (n := n) hT hp0 hA hS (by omega)
    have hT2 : yTR P2 T := yTR_F (by decide) f2 hT
    have hw1 : ((yst_ T A).2.2 0).1.2.2.2 = (A.2.2 0).1.2.2.2 + 1 := rfl
    obtain ⟨P3, e3, c3, f3⟩ := zs_Rwloop2 hm hp0 hh he j (k + 1) (yst_ T A) P2 (by omega) hT2 c2 (yAS_w hS hh he (by omega)) (by rw [hw1]; omega)
    refine ⟨P3, ?_, c3, yF_t f2 f3⟩
    rw [e_R_weeks_49, if_pos ((zi_l (by omega) (by omega)).mpr (by omega)), zp_Rv, Option.bind_some, e1, zs_cV, Option.bind_some, zp_Rv, Option.bind_some, e2, zs_cV, Option.bind_some, zi_s, e3, hw1, show (A.2.2 0).1.2.2.2 + 1 + j = (A.2.2 0).1.2.2.2 + (j + 1) by omega]
end
section
variable {P : zp} {n : Nat × Nat} {d : Nat}
/-- weeks: 1 .. 60 -/
theorem yrg_60 {x : Int32} (h1 : ¬ x < 1) (h2 : ¬ 60 < x) : ∃ k, 1 ≤ k ∧ k ≤ 60 ∧ x = zi k := by
  have h0 : ¬ x < 0 := fun z => h1 (Int32.lt_trans z (by decide))
  obtain ⟨k, hk, rfl⟩ := zi_r h0
  refine ⟨k, ?_, ?_, rfl⟩
  · by_cases z : 1 ≤ k
    · exact z
    · exact absurd ((zi_l (m := 1) hk (by decide)).mpr (by omega)) h1
  · by_cases z : k ≤ 60
    · exact z
    · exact absurd ((zi_l (i := 60) (by decide) hk).mpr (by omega)) h2
theorem zs_Rin160 {x : Int32} {s : zk_S} : zk_sm d m_R_in [.int x, .int 1, .int 60] s = some (some (.int (zp_b (!decide (x < 1) && !decide (60 < x)))), s) := zs_Rin
theorem yc_weeks (hI : yI P n.1) {x : Int32} : yOK (d + 20) P n m_SaddlerKnows_weeks m_R_weeks [.int x] := by
  obtain ⟨h0, T, V, nl, L, c0, hP⟩ := id hI
  have hT := hP.1.1
  have hR := hP.1.2.1
  have h6 := hT.2.1
  have h5 : P.1 35 5 = zi V.2.2.2 := hP.2.1.1.2.2.2
  have hw9 := hP.2.1.2.2.2.1.2.2
  by_cases hp : 0 < T.1
  · have hz' : ∀ P' : zp, yTR P' T → ¬ P'.1 269 25 = 0 := fun P' h' z => by
      rw [h'.1] at z
      have := (zi_eq (b := 0) (by omega) (by decide)).mp z
      omega
    by_cases q1 : x < 1
    · refine yOK_ref (k := 1) h0 hP (by decide) ?_ (fun P1 _ hR1 _ => ?_)
      · rw [e_SaddlerKnows_weeks, zp_Cv, Option.bind_some, yg_cnt hT, zs_cI, Option.bind_some, zp_ib, decide_eq_true hp, cond_true, if_pos q1, zp_Cv, Option.bind_some, show zk_sm (d + 19) m_SaddlerKnows_refused [.ref 12, .int 1] (zp_M P, n) = _ from zs_refk (k := 1) (by decide), zs_cI, Option.bind_some]
      · rw [e_R_weeks, zp_R25, Option.bind_some, if_neg (hz' P1 hR1), zs_Rin160, decide_eq_true q1, zs_cI, Option.bind_some, zp_ib, Bool.not_true, Bool.false_and, cond_false, zp_Rv, Option.bind_some, show zk_sm (d + 19) m_R_isRefused [.ref 269, .int 1] (zp_M P1, n) = _ from zs_Rrefk (k := 1) (by decide), zs_cI, Option.bind_some, if_neg (show ¬ (1 : Int32) = 0 by decide)]
    · by_cases q2 : 60 < x
      · refine yOK_ref (k := 1) h0 hP (by decide) ?_ (fun P1 _ hR1 _ => ?_)
        · rw [e_SaddlerKnows_weeks, zp_Cv, Option.bind_some, yg_cnt hT, zs_cI, Option.bind_some, zp_ib, decide_eq_true hp, cond_true, if_neg q1, if_pos q2, zp_Cv, Option.bind_some, show zk_sm (d + 19) m_SaddlerKnows_refused [.ref 12, .int 1] (zp_M P, n) = _ from zs_refk (k := 1) (by decide), zs_cI, Option.bind_some]
        · rw [e_R_weeks, zp_R25, Option.bind_some, if_neg (hz' P1 hR1), zs_Rin160, decide_eq_false q1, decide_eq_true q2, zs_cI, Option.bind_some, zp_ib, Bool.not_true, Bool.and_false, cond_false, zp_Rv, Option.bind_some, show zk_sm (d + 19) m_R_isRefused [.ref 269, .int 1] (zp_M P1, n) = _ from zs_Rrefk (k := 1) (by decide), zs_cI, Option.bind_some, if_neg (show ¬ (1 : Int32) = 0 by decide)]
      · obtain ⟨k, k1, k60, rfl⟩ := yrg_60 q1 q2
        have es : zi V.2.2.2 + zi k = zi (V.2.2.2 + k) := (Int32.ofNat_add _ _).symm
        have l39 : ∀ P1 : zp, yR (P1.2.1 286) V → zk_ldI (zp_M P1, n) 286 39 = some (zi V.2.2.2) := fun P1 h => (zp_lit (i := 39) (y := 39) zp_a286 rfl (by decide) (by decide)).trans (by rw [h.2.2.2])
        by_cases q3 : V.2.2.2 + k ≤ 999
        · have n3 : ¬ (999 : Int32) < zi (V.2.2.2 + k) := fun z => absurd ((zi_l (i := 999) (by decide) (by omega)).mp z) (by omega)
          obtain ⟨A, a0, aC, aR, aS⟩ := yA_o hP.2.1
          obtain ⟨h, hh, hb⟩ := hP.1.2.2.1.2.2.2.2.2.2.2
          have he : T.2.2.2.2.1 = zi h := hT.2.2.2.1.symm.trans hb
          obtain ⟨P1, e1, c1, s1, f1⟩ := zs_wloop (d := d + 9) (n := n) k60 hh he k 0 A P (Nat.zero_add _) hT aC aS (by rw [a0]; exact q3)
          have hJ1 := yJ_A f1 hP.1
          obtain ⟨P2, e2, r2, f2⟩ := zs_Rwloop2 (d := d + 9) (n := n) k60 hp hh he k 0 A P1 (Nat.zero_add _) hJ1.2.1 (yAR_A f1 aR) aS (by rw [a0]; exact q3)
          rw [a0] at e1 e2
          refine yOK_q (v := zi (V.2.2.2 + k)) (P1 := P1) (P2 := P2) ?_ ?_ (yI_acts h0 hP.1 hP.2.2 f1 c1 f2 r2 s1)
          · rw [e_SaddlerKnows_weeks, zp_Cv, Option.bind_some, yg_cnt hT, zs_cI, Option.bind_some, zp_ib, decide_eq_true hp, cond_true, if_neg q1, if_neg q2, zp_C5, Option.bind_some, zp_s5 zs_35, Option.bind_some, h5, es, if_neg n3]
            exact e1
          · have r1 : yR (P1.2.1 286) V := by rw [← a0]; exact (yAR_A f1 aR).2.1.1
            rw [e_R_weeks, zp_R25, Option.bind_some, if_neg (hz' P1 hJ1.2.1), zs_Rin160, decide_eq_false q1, decide_eq_false q2, zs_cI, Option.bind_some, zp_ib, Bool.not_false, Bool.true_and, cond_true, zp_Rv, Option.bind_some, e_R_areWeeks, zs_Rin160, decide_eq_false q1, decide_eq_false q2, zs_cI, Option.bind_some, zp_ib, Bool.not_false, Bool.true_and, cond_true, zp_R27, Option.bind_some, l39 P1 r1, Option.bind_some, es, if_neg n3, zs_cI, Option.bind_some, if_neg (show ¬ (1 : Int32) = 0 by decide), zp_Rv, Option.bind_some, zs_Rref0, zs_cI, Option.bind_some, if_pos (show (0 : Int32) = 0 from rfl)]
            exact e2
        · have n3 : (999 : Int32) < zi (V.2.2.2 + k) := (zi_l (i := 999) (by decide) (by omega)).mpr (by omega)
          refine yOK_ref (k := 4) h0 hP (by decide) ?_ (fun P1 _ hR1 r1 => ?_)
          · rw [e_SaddlerKnows_weeks, zp_Cv, Option.bind_some, yg_cnt hT, zs_cI, Option.bind_some, zp_ib, decide_eq_true hp, cond_true, if_neg q1, if_neg q2, zp_C5, Option.bind_some, zp_s5 zs_35, Option.bind_some, h5, es, if_pos n3, zp_Cv, Option.bind_some, show zk_sm (d + 19) m_SaddlerKnows_refused [.ref 12, .int 4] (zp_M P, n) = _ from zs_refk (k := 4) (by decide), zs_cI, Option.bind_some]
          · rw [e_R_weeks, zp_R25, Option.bind_some, if_neg (hz' P1 hR1), zs_Rin160, decide_eq_false q1, decide_eq_false q2, zs_cI, Option.bind_some, zp_ib, Bool.not_false, Bool.true_and, cond_true, zp_Rv, Option.bind_some, e_R_areWeeks, zs_Rin160, decide_eq_false q1, decide_eq_false q2, zs_cI, Option.bind_some, zp_ib, Bool.not_false, Bool.true_and, cond_true, zp_R27, Option.bind_some, l39 P1 r1, Option.bind_some, es, if_pos n3, zs_cI, Option.bind_some, if_pos (show (0 : Int32) = 0 from rfl), zp_Rv, Option.bind_some, show zk_sm (d + 19) m_R_isRefused [.ref 269, .int 4] (zp_M P1, n) = _ from zs_Rrefk (k := 4) (by decide), zs_cI, Option.bind_some, if_neg (show ¬ (1 : Int32) = 0 by decide)]
  · have hz : ∀ P' : zp, yTR P' T → P'.1 269 25 = 0 := fun P' h' => by rw [h'.1, show T.1 = 0 by omega]; rfl
    refine yOK_ref (k := 0) h0 hP (by decide) ?_ (fun P1 _ hR1 _ => ?_)
    · rw [e_SaddlerKnows_weeks, zp_Cv, Option.bind_some, yg_cnt hT, zs_cI, Option.bind_some, zp_ib, decide_eq_false hp, cond_false, zp_Cv, Option.bind_some, show zk_sm (d + 19) m_SaddlerKnows_refused [.ref 12, .int 0] (zp_M P, n) = _ from zs_refk (k := 0) (by decide), zs_cI, Option.bind_some]
    · rw [e_R_weeks, zp_R25, Option.bind_some, if_pos (hz P1 hR1), zp_Rv, Option.bind_some, show zk_sm (d + 19) m_R_isRefused [.ref 269, .int 0] (zp_M P1, n) = _ from zs_Rrefk (k := 0) (by decide), zs_cI, Option.bind_some, if_neg (show ¬ (1 : Int32) = 0 by decide)]
end
