/-! ACTS: a week, by both sides -/
theorem yp_b {T : yT} {r q f k : Nat} {g : Int32} : 0 ≤ (yp T r q f g k).toInt ∧ (yp T r q f g k).toInt ≤ 30 := by
  unfold yp
  generalize T.2.2.2.2.2 (T.2.1 r) (T.2.2.1 q) (zi f) (T.2.2.2.1 q) g (zi (k % 100)) = y
  unfold zq_max zq_min
  have h0 : (0 : Int32).toInt = 0 := by decide
  have h3 : (30 : Int32).toInt = 30 := by decide
  by_cases z : y < 30
  · rw [if_pos z]
    have z1 := Int32.lt_iff_toInt_lt.mp z
    by_cases w : 0 < y
    · rw [if_pos w]
      have w1 := Int32.lt_iff_toInt_lt.mp w
      omega
    · rw [if_neg w]; omega
  · rw [if_neg z, if_pos (by decide)]; omega
theorem yld_b {T : yT} {V : yV} {p w : Nat} {g : Int32} : 0 ≤ (yld T V p g w).toInt ∧ (yld T V p g w).toInt ≤ 240 := by
  have key : ∀ m, m ≤ 8 → 0 ≤ ((List.range m).foldl (yld1 T V p g w) 0).toInt ∧ ((List.range m).foldl (yld1 T V p g w) 0).toInt ≤ 30 * m := by
    intro m
    induction m with
    | zero => exact fun _ => ⟨(by decide : (0 : Int) ≤ (0 : Int32).toInt), (by decide : (0 : Int32).toInt ≤ 30 * ((0 : Nat) : Int))⟩
    | succ m ih =>
      intro hm
      obtain ⟨i1, i2⟩ := ih (by omega)
      rw [zl_rs]
      generalize (List.range m).foldl (yld1 T V p g w) 0 = a at i1 i2
      have same : 0 ≤ a.toInt ∧ a.toInt ≤ 30 * ((m + 1 : Nat) : Int) := ⟨i1, by omega⟩
      unfold yld1
      cases hv : V.1 m with
      | none => exact same
      | some y =>
        obtain ⟨r, q, f⟩ := y
        show 0 ≤ (if q = p then a + yp T r p f g w else a).toInt ∧ (if q = p then a + yp T r p f g w else a).toInt ≤ _
        by_cases z : q = p
        · rw [if_pos z]
          obtain ⟨b1, b2⟩ := @yp_b T r p f w g
          have e2 : (a + yp T r p f g w).toInt = a.toInt + (yp T r p f g w).toInt := by
            rw [Int32.toInt_add, Int.bmod_def]
            omega
          rw [e2]
          exact ⟨by omega, by omega⟩
        · rw [if_neg z]; exact same
  have := key 8 (Nat.le_refl _)
  exact ⟨this.1, by have := this.2; exact this⟩
theorem yB_wk {T : yT} {V : yV} {h : Nat} (hB : yB T.1 V) (hh : h ≤ 9) (he : T.2.2.2.2.1 = zi h) (hw : V.2.2.2 < 999) : yB T.1 (ywk T V 99) := by
  obtain ⟨b1, b2, b3⟩ := hB
  have h0 : (0 : Int32).toInt = 0 := by decide
  have h9 : (99 : Int32).toInt = 99 := by decide
  have hz : (zi h).toInt = (h : Int) := Int32.toInt_ofNat_small (by omega)
  refine ⟨fun p hp => ?_, fun p hp hp6 => ?_, hw⟩
  · show ¬ (if p < T.1 then (yst1 T V 99 p).1 else V.2.1 p) < 0 ∧ ¬ 99 < (if p < T.1 then (yst1 T V 99 p).1 else V.2.1 p)
    obtain ⟨g1, g2⟩ := b1 p hp
    have k1 : 0 ≤ (V.2.1 p).toInt := by
      rcases Int.lt_or_le (V.2.1 p).toInt 0 with z | z
      · exact absurd (Int32.lt_iff_toInt_lt.mpr (by rw [h0]; exact z)) g1
      · exact z
    have k2 : (V.2.1 p).toInt ≤ 99 := by
      rcases Int.lt_or_le 99 (V.2.1 p).toInt with z | z
      · exact absurd (Int32.lt_iff_toInt_lt.mpr (by rw [h9]; exact z)) g2
      · exact z
    have fin : ∀ x : Int32, 0 ≤ x.toInt → x.toInt ≤ 99 → ¬ x < 0 ∧ ¬ 99 < x := fun x h1 h2 => ⟨fun z => by have := Int32.lt_iff_toInt_lt.mp z; omega, fun z => by have := Int32.lt_iff_toInt_lt.mp z; omega⟩
    by_cases z : p < T.1
    · rw [if_pos z]
      have hgl : 0 ≤ (ygl T V p (V.2.1 p) V.2.2.2).toInt ∧ (ygl T V p (V.2.1 p) V.2.2.2).toInt ≤ 99 := by
        obtain ⟨l1, l2⟩ := @yld_b T V p V.2.2.2 (V.2.1 p)
        have e2 : (V.2.1 p + yld T V p (V.2.1 p) V.2.2.2).toInt = (V.2.1 p).toInt + (yld T V p (V.2.1 p) V.2.2.2).toInt := by
          rw [Int32.toInt_add, Int.bmod_def]
          omega
        unfold ygl zq_min
        by_cases w : V.2.1 p + yld T V p (V.2.1 p) V.2.2.2 < 99
        · rw [if_pos w]
          have := Int32.lt_iff_toInt_lt.mp w
          omega
        · rw [if_neg w]; omega
      unfold yst1
      by_cases w : p = 99 ∨ ybr V p = false
      · rw [if_pos w]
        have e2 : (V.2.1 p - T.2.2.2.2.1).toInt = (V.2.1 p).toInt - h := by
          rw [he, Int32.toInt_sub, hz, Int.bmod_def]
          omega
        refine fin _ ?_ ?_
        · show 0 ≤ (zq_max 0 (V.2.1 p - T.2.2.2.2.1)).toInt
          unfold zq_max
          by_cases u : 0 < V.2.1 p - T.2.2.2.2.1
          · rw [if_pos u]
            have := Int32.lt_iff_toInt_lt.mp u
            omega
          · rw [if_neg u]; omega
        · show (zq_max 0 (V.2.1 p - T.2.2.2.2.1)).toInt ≤ 99
          unfold zq_max
          by_cases u : 0 < V.2.1 p - T.2.2.2.2.1
          · rw [if_pos u]; omega
          · rw [if_neg u]; omega
      · rw [if_neg w]
        by_cases u : ygl T V p (V.2.1 p) V.2.2.2 < ylm T p
        · rw [if_pos u]; exact fin _ hgl.1 hgl.2
        · rw [if_neg u]
          have e2 : (ygl T V p (V.2.1 p) V.2.2.2 / 2).toInt = (ygl T V p (V.2.1 p) V.2.2.2).toInt.tdiv 2 := by
            rw [Int32.toInt_div, show (2 : Int32).toInt = 2 by decide, Int.bmod_def]
            have : (ygl T V p (V.2.1 p) V.2.2.2).toInt.tdiv 2 = (ygl T V p (V.2.1 p) V.2.2.2).toInt / 2 := Int.tdiv_eq_ediv_of_nonneg hgl.1
            omega
          have e3 : (ygl T V p (V.2.1 p) V.2.2.2).toInt.tdiv 2 = (ygl T V p (V.2.1 p) V.2.2.2).toInt / 2 := Int.tdiv_eq_ediv_of_nonneg hgl.1
          exact fin _ (by show 0 ≤ (ygl T V p (V.2.1 p) V.2.2.2 / 2).toInt; omega) (by show (ygl T V p (V.2.1 p) V.2.2.2 / 2).toInt ≤ 99; omega)
    · rw [if_neg z]; exact ⟨g1, g2⟩
  · show (if p < T.1 then (yst1 T V 99 p).1 else V.2.1 p) = 0
    rw [if_neg (by omega)]
    exact b2 p hp hp6
/-- a week more: stand and log -/
noncomputable def ynw (T : yT) (S : yS_) : yS_ := (ywk T S.1 99, fun j c => match j with | 0 => (match c with | 0 => ytw T S.1 99 | 1 => ygs (ywk T S.1 99) T.1 | _ => zq_bits (yns (ywk T S.1 99))) | j + 1 => S.2 j c)
section
variable {P : zp} {n : Nat × Nat} {d : Nat} {T : yT} {A : yAA}
theorem yC_st {b : Nat} {V V' : yV} {c : Int32} (hC : yC P b V) (h1 : V'.1 = V.1) (h2 : V'.2.1 = V.2.1) (h3 : V'.2.2.1 = c) (h4 : V'.2.2.2 = V.2.2.2) : yC (zp_sF P b 4 c) b V' := by
  refine ⟨fun k hk => ?_, fun p hp => ?_, zp_f9.trans h3.symm, ?_⟩
  · rw [h1]; exact hC.1 k hk
  · rw [h2]; exact hC.2.1 p hp
  · rw [h4]; exact (zp_f8 (by omega)).trans hC.2.2.2
set_option maxHeartbeats 4000000 in
theorem zs_passWeek (hT : yTC P T) (hA : yAC P A) (hO : yO T.1 (A.2.2 0).1) (hB : yB T.1 (A.2.2 0).1) (hw : (A.2.2 0).1.2.2.2 < 999) (hc : ∀ i, 1 ≤ i → i ≤ A.1 → (A.2.2 i).1.2.2.2 ≤ (A.2.2 0).1.2.2.2 ∧ (A.2.2 0).1.2.2.2 ≤ (A.2.2 i).1.2.2.2 + 39) : ∃ P', zk_sm (d + 10) m_SaddlerKnows_passWeek [.ref 12] (zp_M P, n) = some (none, (zp_M P', n)) ∧ yAC P' (ymk A (ynw T (A.2.2 0))) ∧ yF yfA ykA P P' := by
  obtain ⟨c0, c1, c2, c3, c4, c5⟩ := hA
  have h6 := hT.2.1
  obtain ⟨P1, e1, y1, f1⟩ := zs_pass (d := d + 1) (n := n) zs_35 hT c3 hO
  obtain ⟨V, hV⟩ : ∃ V, V = (A.2.2 0).1 := ⟨_, rfl⟩
  rw [← hV] at e1 y1 hw hO hB
  have hO1 : yO T.1 (ywc T V 99) := ⟨(ymd_O (T := T) (e := 99) (i := T.1) hO).1, by show V.2.2.2 + 1 ≤ 2000; omega⟩
  have hgl : zq_gall P1 35 = ygs (ywk T V 99) T.1 := by
    have e : zq_gall P1 35 = ygs (ywk T V 99) 6 := zl_fc (fun i a hi => by rw [y1.2.1 i hi]; rfl) 0
    rw [e]
    have key : ∀ j, T.1 + j ≤ 6 → ygs (ywk T V 99) (T.1 + j) = ygs (ywk T V 99) T.1 := by
      intro j
      induction j with
      | zero => exact fun _ => rfl
      | succ j ih =>
        intro h
        have e : ygs (ywk T V 99) (T.1 + (j + 1)) = ygs (ywk T V 99) (T.1 + j) + (ywk T V 99).2.1 (T.1 + j) := zl_rs
        have e0 : (ywk T V 99).2.1 (T.1 + j) = 0 := by
          show (if T.1 + j < T.1 then _ else V.2.1 (T.1 + j)) = 0
          rw [if_neg (by omega)]
          exact hB.2.1 _ (by omega) (by omega)
        rw [e, e0, ih (by omega)]
        exact zi_p _
    have := key (6 - T.1) (by omega)
    rw [show T.1 + (6 - T.1) = 6 by omega] at this
    exact this
  have hcn : zq_bits (zq_places P1 35) = zq_bits (yns (ywk T V 99)) := by rw [yns_C y1 hO1 h6]; rfl
  have h15 : P1.1 35 5 = zi (V.2.2.2 + 1) := y1.2.2.2
  have hm3 : ∀ k c, zi (k % 100) * 3 + zi c = zi (3 * (k % 100) + c) := fun k c => by
    show Int32.ofNat _ * Int32.ofNat 3 + Int32.ofNat c = _
    rw [← Int32.ofNat_mul, ← Int32.ofNat_add, Nat.mul_comm]
  have hm0 : zi (V.2.2.2 % 100) * 3 = zi (3 * (V.2.2.2 % 100)) := by
    show Int32.ofNat _ * Int32.ofNat 3 = _
    rw [← Int32.ofNat_mul, Nat.mul_comm]
  -- the log written
  obtain ⟨P2, hP2⟩ : ∃ P2, P2 = zp_sA (zp_sA (zp_sA P1 41 (3 * (V.2.2.2 % 100)) (ytw T V 99)) 41 (3 * (V.2.2.2 % 100) + 1) (ygs (ywk T V 99) T.1)) 41 (3 * (V.2.2.2 % 100) + 2) (zq_bits (yns (ywk T V 99))) := ⟨_, rfl⟩
  have f2 : yF [] [41] P1 P2 := by rw [hP2]; exact yF_t (yF_t (yF_A (by decide)) (yF_A (by decide))) (yF_A (by decide))
  have y2 : yC P2 35 (ywc T V 99) := yC_F (fun j j0 j5 z => by simp only [List.mem_cons, List.not_mem_nil, or_false] at z; omega) (by decide) (by decide) f2 y1
  have ew : zk_sm (d + 9) m_Past_write [.ref 40, .int (ytw T V 99), .ref 35] (zp_M P1, n) = some (none, (zp_M P2, n)) := by
    have g1 : ∀ (x : Int32) (i : Nat), zq_gall (zp_sA P1 41 i x) 35 = zq_gall P1 35 := fun x i => rfl
    have g2 : ∀ (x y : Int32) (i j : Nat), zq_places (zp_sA (zp_sA P1 41 i x) 41 j y) 35 = zq_places P1 35 := fun x y i j => rfl
    rw [e_Past_write, zp_s5 zs_35, Option.bind_some, h15, zi_d (by omega), Nat.add_sub_cancel, zs_fmod (by omega), zs_cI, Option.bind_some, zp_S0, Option.bind_some, zs_put zp_a41 (by decide), zs_cV, Option.bind_some, hm0, zp_pi (show 3 * (V.2.2.2 % 100) < 300 by omega) (by decide), zp_S0, Option.bind_some, zp_sv zs_35, Option.bind_some, zs_allGall zs_35, zs_cI, Option.bind_some, zs_put zp_a41 (by decide), zs_cV, Option.bind_some, g1, hgl, zi_s, zp_pi (show 3 * (V.2.2.2 % 100) + 1 < 300 by omega) (by decide), zp_S0, Option.bind_some, zp_sv zs_35, Option.bind_some, zs_saddleCount zs_35, zs_cI, Option.bind_some, zs_put zp_a41 (by decide), zs_cV, Option.bind_some, g2, hcn, show zi (3 * (V.2.2.2 % 100)) + 2 = zi (3 * (V.2.2.2 % 100) + 2) from (Int32.ofNat_add _ 2).symm, zp_pi (show 3 * (V.2.2.2 % 100) + 2 < 300 by omega) (by decide), ← hP2]
  have hcn2 : zq_bits (zq_places P2 35) = zq_bits (yns (ywk T V 99)) := by rw [yns_C y2 hO1 h6]; rfl
  have y3 : yC (zp_sF P2 35 4 (zq_min 999 (V.2.2.1 + zq_bits (yns (ywk T V 99))))) 35 (ywk T V 99) := yC_st y2 rfl rfl rfl rfl
  have f3 : yF yfA ykA P (zp_sF P2 35 4 (zq_min 999 (V.2.2.1 + zq_bits (yns (ywk T V 99))))) := yF_t (yF_35 f1) (yF_t (yF_m f2 (fun _ h => by cases h) (fun k hk => by
    simp only [List.mem_cons, List.not_mem_nil, or_false] at hk
    exact ykA_m.mpr (by omega))) (yF_f (by
      unfold yfA
      rw [List.mem_append]
      exact Or.inl (by decide))))
  have e41 : ∀ j, (zp_sF P2 35 4 (zq_min 999 (V.2.2.1 + zq_bits (yns (ywk T V 99))))).2.1 41 j = if j = 3 * (V.2.2.2 % 100) + 2 then zq_bits (yns (ywk T V 99)) else if j = 3 * (V.2.2.2 % 100) + 1 then ygs (ywk T V 99) T.1 else if j = 3 * (V.2.2.2 % 100) then ytw T V 99 else P.2.1 41 j := fun j => by
    show P2.2.1 41 j = _
    rw [hP2, ← f1.2.1 41 (by decide)]
    show zp_u (zp_u (zp_u P1.2.1 41 _ _) 41 _ _) 41 _ _ 41 j = _
    by_cases q2 : j = 3 * (V.2.2.2 % 100) + 2
    · rw [if_pos q2, q2, zp_u9]
    · rw [if_neg q2, zp_u8 q2]
      by_cases q1 : j = 3 * (V.2.2.2 % 100) + 1
      · rw [if_pos q1, q1, zp_u9]
      · rw [if_neg q1, zp_u8 q1]
        by_cases q0 : j = 3 * (V.2.2.2 % 100)
        · rw [if_pos q0, q0, zp_u9]
        · rw [if_neg q0, zp_u8 q0]
  refine ⟨zp_sF P2 35 4 (zq_min 999 (V.2.2.1 + zq_bits (yns (ywk T V 99)))), ?_, ⟨by rw [f3.2.2.2.1]; exact c0, ?_, ?_, ?_, fun i hi => ?_, fun i hi => ?_⟩, f3⟩
  · rw [e_SaddlerKnows_passWeek, zp_C4, Option.bind_some, zp_C5, Option.bind_some, zp_Lv, Option.bind_some, e1, zs_cI, Option.bind_some, zp_C6, Option.bind_some, zp_C5, Option.bind_some, zp_Sv, Option.bind_some, ew, zs_cV, Option.bind_some, zp_C5, Option.bind_some, Option.bind_some, zp_s4 zs_35, Option.bind_some, Option.bind_some, zp_sv zs_35, Option.bind_some, zs_saddleCount zs_35, zs_cI, Option.bind_some, hcn2, zs_min, zs_cI, Option.bind_some, y2.2.2.1, zp_s4p zs_35, Option.bind_some]
    rfl
  · refine (zp_f8 (by decide)).trans ((f2.1 40 6 (by decide)).trans ((f1.1 40 6 (by decide)).trans c1))
  · refine (zp_f8 (by decide)).trans ((f2.1 40 5 (by decide)).trans ((f1.1 40 5 (by decide)).trans c2))
  · show yC _ 35 (if 0 = 0 then ynw T (A.2.2 0) else _).1
    rw [if_pos rfl, ← hV.symm]
    show yC _ 35 (ywk T (A.2.2 0).1 99)
    rw [← hV]; exact y3
  · have hi : i < A.1 := hi
    show yC _ (49 + 5 * ((A.2.1 + 39 - i) % 40)) (if i + 1 = 0 then ynw T (A.2.2 0) else A.2.2 (i + 1)).1
    rw [if_neg (by omega)]
    have hs : (A.2.1 + 39 - i) % 40 < 40 := Nat.mod_lt _ (by decide)
    have k1 := yC_F (fun j j0 j5 z => by simp only [List.mem_cons, List.not_mem_nil, or_false] at z; omega) (by simp; omega) (by simp; omega) f1 (c4 i hi)
    have k2 := yC_F (fun j j0 j5 z => by simp only [List.mem_cons, List.not_mem_nil, or_false] at z; omega) (by simp) (by simp) f2 k1
    exact ⟨k2.1, k2.2.1, (zp_f8 (by omega)).trans k2.2.2.1, (zp_f8 (by omega)).trans k2.2.2.2⟩
  · have hi : i ≤ A.1 := hi
    rcases Nat.eq_zero_or_pos i with z | z
    · subst z
      show yEn _ (if 0 = 0 then ynw T (A.2.2 0) else _)
      rw [if_pos rfl]
      intro j c hj hc'
      have hj : j < min 60 ((A.2.2 0).1.2.2.2 + 1) := hj
      show (zp_sF P2 35 4 (zq_min 999 (V.2.2.1 + zq_bits (yns (ywk T V 99))))).2.1 41 (3 * (((A.2.2 0).1.2.2.2 + 1 - 1 - j) % 100) + c) = (ynw T (A.2.2 0)).2 j c
      rw [← hV] at hj ⊢
      rw [e41]
      rcases Nat.eq_zero_or_pos j with y | y
      · subst y
        have hcc : c = 0 ∨ c = 1 ∨ c = 2 := by omega
        rcases hcc with rfl | rfl | rfl
        · rw [if_neg (by omega), if_neg (by omega), if_pos (by omega), hV]; rfl
        · rw [if_neg (by omega), if_pos (by omega), hV]; rfl
        · rw [if_pos (by omega), hV]; rfl
      · obtain ⟨k, rfl⟩ : ∃ k, j = k + 1 := ⟨j - 1, by omega⟩
        have := c5 0 (Nat.zero_le _) k c (by rw [← hV]; omega) hc'
        rw [← hV] at this
        have ne : (V.2.2.2 + 1 - 1 - (k + 1)) % 100 ≠ V.2.2.2 % 100 := by omega
        rw [if_neg (by omega), if_neg (by omega), if_neg (by omega), show V.2.2.2 + 1 - 1 - (k + 1) = V.2.2.2 - 1 - k by omega]
        exact this
    · show yEn _ (if i = 0 then ynw T (A.2.2 0) else A.2.2 i)
      rw [if_neg (by omega)]
      intro j c hj hc'
      obtain ⟨w1, w2⟩ := hc i z hi
      rw [← hV] at w1 w2
      have ne : ((A.2.2 i).1.2.2.2 - 1 - j) % 100 ≠ V.2.2.2 % 100 := by omega
      rw [e41, if_neg (by omega), if_neg (by omega), if_neg (by omega)]
      exact c5 i hi j c hj hc'
end
