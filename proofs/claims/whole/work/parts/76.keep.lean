/-! ACTS: what is kept, by both sides -/
theorem zq_cp_t {P : zp} {a c m : Nat} (h : a ≠ c) : (∀ i, (zq_cp P a c m).2.1 c i = if i < m then P.2.1 a i else P.2.1 c i) ∧ (∀ k, k ≠ c → (zq_cp P a c m).2.1 k = P.2.1 k) ∧ (zq_cp P a c m).1 = P.1 ∧ (zq_cp P a c m).2.2 = P.2.2 := by
  unfold zq_cp
  induction m with
  | zero => exact ⟨fun i => (if_neg (Nat.not_lt_zero i)).symm, fun _ _ => rfl, rfl, rfl⟩
  | succ m ih =>
    obtain ⟨i1, i2, i3, i4⟩ := ih
    rw [zl_rs]
    refine ⟨fun i => ?_, fun k hk => ?_, i3, i4⟩
    · show zp_u _ c m _ c i = _
      rw [i2 a h]
      by_cases q : i = m
      · rw [q, zp_u9, if_pos (Nat.lt_succ_self m)]
      · rw [zp_u8 q, i1 i]
        by_cases q2 : i < m
        · rw [if_pos q2, if_pos (by omega)]
        · rw [if_neg q2, if_neg (by omega)]
    · show zp_u _ c m _ k = _
      rw [zp_uo hk]; exact i2 k hk
theorem yF_cp {P : zp} {a c m : Nat} {fs : List (Nat × Nat)} {ks : List Nat} (h : a ≠ c) (hc : c ∈ ks) : yF fs ks P (zq_cp P a c m) := by
  obtain ⟨i1, i2, i3, i4⟩ := @zq_cp_t P a c m h
  exact ⟨fun k j _ => by rw [i3], fun k hk => i2 k (fun z => hk (z ▸ hc)), fun k => by rw [i4], by rw [i4], by rw [i4]; exact yG_r⟩
section
variable {P : zp} {n : Nat × Nat} {b c d : Nat} {V : yV} {T : yT} {A : yAA}
theorem zp_sb_d (h : zp_sb b) (h' : zp_sb c) (hn : b ≠ c) : b + 4 < c ∨ c + 4 < b := by
  rcases h with h | ⟨j, hj, h⟩ <;> rcases h' with h' | ⟨j', hj', h'⟩ <;> omega
theorem yC_copy (h : zp_sb b) (h' : zp_sb c) (hn : b ≠ c) (hC : yC P c V) : yC (zq_copy P b c) b V ∧ yF (ybj b) (ybk b) P (zq_copy P b c) := by
  have hd := zp_sb_d h h' hn
  obtain ⟨x1, x2, x3, x4⟩ := @zq_cp_t P (c + 1) (b + 1) 8 (by omega)
  obtain ⟨y1, y2, y3, y4⟩ := @zq_cp_t (zq_cp P (c + 1) (b + 1) 8) (c + 2) (b + 2) 8 (by omega)
  obtain ⟨z1, z2, z3, z4⟩ := @zq_cp_t (zq_cp (zq_cp P (c + 1) (b + 1) 8) (c + 2) (b + 2) 8) (c + 3) (b + 3) 8 (by omega)
  obtain ⟨w1, w2, w3, w4⟩ := @zq_cp_t (zq_cp (zq_cp (zq_cp P (c + 1) (b + 1) 8) (c + 2) (b + 2) 8) (c + 3) (b + 3) 8) (c + 4) (b + 4) 6 (by omega)
  have e1 : ∀ k, k < 8 → (zq_copyA P b c).2.1 (b + 1) k = P.2.1 (c + 1) k := fun k hk => by
    show (zq_cp (zq_cp (zq_cp (zq_cp P (c + 1) (b + 1) 8) (c + 2) (b + 2) 8) (c + 3) (b + 3) 8) (c + 4) (b + 4) 6).2.1 (b + 1) k = _
    rw [w2 (b + 1) (by omega), z2 (b + 1) (by omega), y2 (b + 1) (by omega), x1 k, if_pos hk]
  have e2 : ∀ k, k < 8 → (zq_copyA P b c).2.1 (b + 2) k = P.2.1 (c + 2) k := fun k hk => by
    show (zq_cp (zq_cp (zq_cp (zq_cp P (c + 1) (b + 1) 8) (c + 2) (b + 2) 8) (c + 3) (b + 3) 8) (c + 4) (b + 4) 6).2.1 (b + 2) k = _
    rw [w2 (b + 2) (by omega), z2 (b + 2) (by omega), y1 k, if_pos hk, x2 (c + 2) (by omega)]
  have e3 : ∀ k, k < 8 → (zq_copyA P b c).2.1 (b + 3) k = P.2.1 (c + 3) k := fun k hk => by
    show (zq_cp (zq_cp (zq_cp (zq_cp P (c + 1) (b + 1) 8) (c + 2) (b + 2) 8) (c + 3) (b + 3) 8) (c + 4) (b + 4) 6).2.1 (b + 3) k = _
    rw [w2 (b + 3) (by omega), z1 k, if_pos hk, y2 (c + 3) (by omega), x2 (c + 3) (by omega)]
  have e4 : ∀ k, k < 6 → (zq_copyA P b c).2.1 (b + 4) k = P.2.1 (c + 4) k := fun k hk => by
    show (zq_cp (zq_cp (zq_cp (zq_cp P (c + 1) (b + 1) 8) (c + 2) (b + 2) 8) (c + 3) (b + 3) 8) (c + 4) (b + 4) 6).2.1 (b + 4) k = _
    rw [w1 k, if_pos hk, z2 (c + 4) (by omega), y2 (c + 4) (by omega), x2 (c + 4) (by omega)]
  have e5 : (zq_copyA P b c).1 = P.1 := w3.trans (z3.trans (y3.trans x3))
  have f1 : yF (ybj b) (ybk b) P (zq_copyA P b c) := yF_t (yF_t (yF_t (yF_cp (by omega) (by simp)) (yF_cp (by omega) (by simp))) (yF_cp (by omega) (by simp))) (yF_cp (by omega) (by simp))
  refine ⟨⟨fun k hk => ?_, fun p hp => ?_, ?_, ?_⟩, yF_t f1 (yF_t (yF_f (by simp)) (yF_f (by simp)))⟩
  · show match V.1 k with | none => (zq_copyA P b c).2.1 (b + 1) k = -1 | some (r, q, f) => (zq_copyA P b c).2.1 (b + 1) k = zi r ∧ (zq_copyA P b c).2.1 (b + 2) k = zi q ∧ (zq_copyA P b c).2.1 (b + 3) k = zi f
    rw [e1 k hk, e2 k hk, e3 k hk]
    exact hC.1 k hk
  · show (zq_copyA P b c).2.1 (b + 4) p = _
    rw [e4 p hp]; exact hC.2.1 p hp
  · refine (zp_f8 (by omega)).trans (zp_f9.trans ?_)
    rw [e5]; exact hC.2.2.1
  · refine zp_f9.trans ((zp_f8 (by omega)).trans ?_)
    rw [e5]; exact hC.2.2.2
theorem zi_md40 {k : Nat} (h : k < 2 ^ 31) : zi k - zi k / 40 * 40 = zi (k % 40) := by
  have e1 : zi k / 40 = zi (k / 40) := (Int32.ofNat_div h (by decide : 40 < 2 ^ 31)).symm
  have e2 : zi (k / 40) * 40 = zi (k / 40 * 40) := (Int32.ofNat_mul (k / 40) 40).symm
  rw [e1, e2, zi_sub (by omega)]
  congr 1
  omega
theorem zs_cR {b : Nat} {s : zk_S} : zk_cR (some (some (.ref b), s)) = some (some b, s) := rfl
theorem zp_S3 : zk_gR (zp_M P, n) 40 3 3 = some 48 := zp_gR (by decide +kernel)
theorem zp_S5 : zk_gI (zp_M P, n) 40 3 5 = some (P.1 40 5) := zp_gI (by decide +kernel)
theorem zp_S5p {x : Int32} : zk_pf (zp_M P, n) 40 3 5 (.int x) = some (zp_M (zp_sF P 40 5 x), n) := zp_pI (by decide +kernel)
theorem zp_S6p {x : Int32} : zk_pf (zp_M P, n) 40 3 6 (.int x) = some (zp_M (zp_sF P 40 6 x), n) := zp_pI (by decide +kernel)
theorem zp_a48 : zp_ad 48 = (10 + 7, 40) := by decide +kernel
theorem zp_R33 : zk_gR (zp_M P, n) 269 12 33 = some 289 := zp_gR (by decide +kernel)
theorem zp_R34p {x : Int32} : zk_pf (zp_M P, n) 269 12 34 (.int x) = some (zp_M (zp_sF P 269 34 x), n) := zp_pI (by decide +kernel)
theorem zp_a289 : zp_ad 289 = (0, 8840) := by decide +kernel
theorem zs_standAt (hr : ∀ s, s < 40 → P.2.2.2.1 48 s = some (49 + 5 * s)) {s : Nat} (hs : s < 40) : zk_sm d m_Past_standAt [.ref 40, .int (zi s)] (zp_M P, n) = some (some (.ref (49 + 5 * s)), (zp_M P, n)) := by
  rw [e_Past_standAt, if_neg (zi_n (by omega)), zp_S3, Option.bind_some, zp_al zp_a48 (by decide), Option.bind_some, if_pos ((zi_nI (by omega) (by decide)).mpr hs), Option.bind_some, zp_ldRi zp_a48 hs (by decide), Option.bind_some, hr s hs]
def ykp (A : yAA) : yAA := (min 40 (A.1 + 1), (A.2.1 + 1) % 40, fun i => match i with | 0 => A.2.2 0 | i + 1 => A.2.2 i)
def ymk (A : yAA) (S : yS_) : yAA := (A.1, A.2.1, fun i => if i = 0 then S else A.2.2 i)
theorem zs_sb {s : Nat} (h : s < 40) : zp_sb (49 + 5 * s) := Or.inr ⟨s, h, rfl⟩
theorem yF_sA {s : Nat} {P' : zp} (h : s < 40) (f : yF (ybj (49 + 5 * s)) (ybk (49 + 5 * s)) P P') : yF yfA ykA P P' := yF_m f (fun x hx => by
    simp only [List.mem_cons, List.not_mem_nil, or_false] at hx
    rcases hx with rfl | rfl
    · exact yfA_m h (Or.inl rfl)
    · exact yfA_m h (Or.inr rfl)) (fun k hk => by
    simp only [List.mem_cons, List.not_mem_nil, or_false] at hk
    refine ykA_m.mpr ?_
    omega)
theorem yF_35 {P' : zp} (f : yF (ybj 35) (ybk 35) P P') : yF yfA ykA P P' := yF_m f (fun x hx => by
    simp only [List.mem_cons, List.not_mem_nil, or_false] at hx
    unfold yfA
    rw [List.mem_append]
    rcases hx with rfl | rfl
    · exact Or.inl (by decide)
    · exact Or.inl (by decide)) (fun k hk => by
    simp only [List.mem_cons, List.not_mem_nil, or_false] at hk
    refine ykA_m.mpr ?_
    omega)
theorem yfA_40 {j : Nat} (h : j = 5 ∨ j = 6) : (40, j) ∈ yfA := by
  unfold yfA
  rw [List.mem_append]
  rcases h with rfl | rfl
  · exact Or.inl (by decide)
  · exact Or.inl (by decide)
set_option maxHeartbeats 2000000 in
theorem zs_keep (hA : yAC P A) (h1 : A.1 ≤ 40) (h2 : A.2.1 < 40) : ∃ P', zk_sm (d + 4) m_Past_keep [.ref 40, .ref 35] (zp_M P, n) = some (none, (zp_M P', n)) ∧ yAC P' (ykp A) ∧ yF yfA ykA P P' := by
  obtain ⟨c0, c1, c2, c3, c4, c5⟩ := hA
  obtain ⟨y1, y2⟩ := yC_copy (zs_sb h2) zs_35 (by omega) c3
  have f1 := yF_sA h2 y2
  have hg5 : (zq_copy P (49 + 5 * A.2.1) 35).1 40 5 = zi A.2.1 := (y2.1 40 5 (by simp; omega)).trans c2
  have hg6 : (zq_copy P (49 + 5 * A.2.1) 35).1 40 6 = zi A.1 := (y2.1 40 6 (by simp)).trans c1
  have f2 : yF yfA ykA P (zp_sF (zp_sF (zq_copy P (49 + 5 * A.2.1) 35) 40 5 (zi ((A.2.1 + 1) % 40))) 40 6 (zi (min 40 (A.1 + 1)))) := yF_t f1 (yF_t (yF_f (yfA_40 (Or.inl rfl))) (yF_f (yfA_40 (Or.inr rfl))))
  refine ⟨zp_sF (zp_sF (zq_copy P (49 + 5 * A.2.1) 35) 40 5 (zi ((A.2.1 + 1) % 40))) 40 6 (zi (min 40 (A.1 + 1))), ?_, ⟨by rw [f2.2.2.2.1]; exact c0, zp_f9, (zp_f8 (by decide)).trans zp_f9, ?_, fun i hi => ?_, fun i hi => ?_⟩, f2⟩
  · rw [e_Past_keep, zp_S5, Option.bind_some, zp_Sv, Option.bind_some, c2, zs_standAt c0 h2, zs_cR, Option.bind_some]
    show ((zk_rv (zp_M P, n) (49 + 5 * A.2.1) 7).bind fun _ => _) = _
    rw [zp_sv (zs_sb h2), Option.bind_some, zs_copy (zs_sb h2) zs_35, zs_cV, Option.bind_some, zp_S5, Option.bind_some, hg5, zi_s, zi_md40 (by omega), zp_S5p, Option.bind_some, zp_S6, Option.bind_some, show (zp_sF (zq_copy P (49 + 5 * A.2.1) 35) 40 5 (zi ((A.2.1 + 1) % 40))).1 40 6 = zi A.1 from (zp_f8 (by decide)).trans hg6, zi_s, zs_min, zs_cI, Option.bind_some, show zq_min 40 (zi (A.1 + 1)) = zi (min 40 (A.1 + 1)) from zq_mi (a := 40) (by decide) (by omega), zp_S6p, Option.bind_some]
  · have hk : yC (zq_copy P (49 + 5 * A.2.1) 35) 35 (A.2.2 0).1 := yC_F (fun j j0 j5 z => by simp only [List.mem_cons, List.not_mem_nil, or_false] at z; omega) (by simp; omega) (by simp; omega) y2 c3
    exact ⟨hk.1, hk.2.1, (zp_f8 (by decide)).trans ((zp_f8 (by decide)).trans hk.2.2.1), (zp_f8 (by decide)).trans ((zp_f8 (by decide)).trans hk.2.2.2)⟩
  · have hi : i < min 40 (A.1 + 1) := hi
    have lift : ∀ b V, b ≠ 40 → yC (zq_copy P (49 + 5 * A.2.1) 35) b V → yC (zp_sF (zp_sF (zq_copy P (49 + 5 * A.2.1) 35) 40 5 (zi ((A.2.1 + 1) % 40))) 40 6 (zi (min 40 (A.1 + 1)))) b V := fun b V hb hk => ⟨hk.1, hk.2.1, (zp_f8 (by omega)).trans ((zp_f8 (by omega)).trans hk.2.2.1), (zp_f8 (by omega)).trans ((zp_f8 (by omega)).trans hk.2.2.2)⟩
    show yC _ (49 + 5 * (((A.2.1 + 1) % 40 + 39 - i) % 40)) (A.2.2 i).1
    rcases Nat.eq_zero_or_pos i with z | z
    · subst z
      rw [show ((A.2.1 + 1) % 40 + 39 - 0) % 40 = A.2.1 by omega]
      exact lift _ _ (by omega) y1
    · obtain ⟨k, rfl⟩ : ∃ k, i = k + 1 := ⟨i - 1, by omega⟩
      have hk := c4 k (by omega)
      have es : ((A.2.1 + 1) % 40 + 39 - (k + 1)) % 40 = (A.2.1 + 39 - k) % 40 := by omega
      have hne : (A.2.1 + 39 - k) % 40 ≠ A.2.1 := by omega
      rw [es]
      refine lift _ _ (by omega) (yC_F (fun j j0 j5 z => ?_) (fun z => ?_) (fun z => ?_) y2 hk)
      · simp only [List.mem_cons, List.not_mem_nil, or_false] at z
        omega
      · simp only [List.mem_cons, List.not_mem_nil, or_false, Prod.mk.injEq] at z
        omega
      · simp only [List.mem_cons, List.not_mem_nil, or_false, Prod.mk.injEq] at z
        omega
  · have hi : i ≤ min 40 (A.1 + 1) := hi
    have e41 : (zp_sF (zp_sF (zq_copy P (49 + 5 * A.2.1) 35) 40 5 (zi ((A.2.1 + 1) % 40))) 40 6 (zi (min 40 (A.1 + 1)))).2.1 41 = P.2.1 41 := y2.2.1 41 (by simp; omega)
    rw [e41]
    rcases Nat.eq_zero_or_pos i with z | z
    · subst z
      exact c5 0 (Nat.zero_le _)
    · obtain ⟨k, rfl⟩ : ∃ k, i = k + 1 := ⟨i - 1, by omega⟩
      exact c5 k (by omega)
set_option maxHeartbeats 2000000 in
theorem zs_Rkeep (hA : yAR P A) (h1 : A.1 ≤ 40) : ∃ P', zk_sm d m_R_keep [.ref 269] (zp_M P, n) = some (none, (zp_M P', n)) ∧ yAR P' (ykp A) ∧ yF yfR ykR P P' := by
  obtain ⟨r1, r2, r3⟩ := hA
  -- the rest: the row is laid at place m
  have rest : ∀ (P1 : zp) (m : Nat), m < 40 → P1.1 269 34 = zi m → ∃ P', zk_sf d m_R_keep 54 [.ref 269, .int 0] [] (zp_M P1, n) = some (none, (zp_M P', n)) ∧ P'.1 269 34 = zi (m + 1) ∧ (∀ j, j < 221 → P'.2.1 289 (221 * m + j) = P1.2.1 286 j) ∧ (∀ j, (j < 221 * m ∨ 221 * m + 221 ≤ j) → P'.2.1 289 j = P1.2.1 289 j) ∧ yF [(269, 34)] [289] P1 P' := by
    intro P1 m hm h34
    refine zl_ind (m := 221) (L := fun i (a : zp) => zk_sf d m_R_keep 54 [.ref 269, .int (zi i)] [] (zp_M a, n)) (I := fun i a => yF [] [289] P1 a ∧ (∀ j, j < i → a.2.1 289 (221 * m + j) = P1.2.1 286 j) ∧ (∀ j, (j < 221 * m ∨ 221 * m + 221 ≤ j) → a.2.1 289 j = P1.2.1 289 j)) (Q := fun r => ∃ P', r = some (none, (zp_M P', n)) ∧ P'.1 269 34 = zi (m + 1) ∧ (∀ j, j < 221 → P'.2.1 289 (221 * m + j) = P1.2.1 286 j) ∧ (∀ j, (j < 221 * m ∨ 221 * m + 221 ≤ j) → P'.2.1 289 j = P1.2.1 289 j) ∧ yF [(269, 34)] [289] P1 P') (fun i a hi hI => Or.inr ?_) (fun a hI => ?_) (a := P1) ⟨yF_r, fun j hj => absurd hj (Nat.not_lt_zero j), fun _ _ => rfl⟩
    · obtain ⟨f, a1, a2⟩ := hI
      have e34 : a.1 269 34 = zi m := (f.1 269 34 (by decide)).trans h34
      have ei : 221 * zi m + zi i = zi (221 * m + i) := by
        show Int32.ofNat 221 * Int32.ofNat m + Int32.ofNat i = _
        rw [← Int32.ofNat_mul, ← Int32.ofNat_add]
      refine ⟨zp_sA a 289 (221 * m + i) (P1.2.1 286 i), ?_, yF_t f (yF_A (by decide)), fun j hj => ?_, fun j hj => (zp_u8 (by omega)).trans (a2 j hj)⟩
      · show zk_sf d m_R_keep 54 [.ref 269, .int (zi i)] [] (zp_M a, n) = _
        rw [e_R_keep_54, if_pos (show zi i < 221 from (zi_l (m := 221) (by omega) (by decide)).mpr hi), zp_R33, Option.bind_some, zp_R34, Option.bind_some, e34, zp_R27, Option.bind_some, zp_ldi zp_a286 hi (by decide), Option.bind_some, ei, zp_sti zp_a289 (show 221 * m + i < 8840 by omega) (by decide), Option.bind_some, zi_s, f.2.1 286 (by decide)]
      · by_cases q : j = i
        · rw [q]; exact zp_u9
        · exact (zp_u8 (by omega)).trans (a1 j (by omega))
    · obtain ⟨f, a1, a2⟩ := hI
      have e34 : a.1 269 34 = zi m := (f.1 269 34 (by decide)).trans h34
      refine ⟨zp_sF a 269 34 (zi (m + 1)), ?_, zp_f9, a1, a2, yF_t (yF_m f (fun _ h => by cases h) (fun _ h => h)) (yF_f (by decide))⟩
      show zk_sf d m_R_keep 54 [.ref 269, .int (zi 221)] [] (zp_M a, n) = _
      rw [e_R_keep_54, if_neg (by decide), zp_R34, Option.bind_some, e34, zi_s, zp_R34p, Option.bind_some]
  rw [e_R_keep, zp_R34, Option.bind_some, r1]
  by_cases q : A.1 = 40
  · rw [if_pos (show zi A.1 = 40 by rw [q]; rfl)]
    have sh : ∃ P1, zk_sf d m_R_keep 13 [.ref 269, .int 221] [] (zp_M P, n) = zk_sf d m_R_keep 54 [.ref 269, .int 0] [] (zp_M P1, n) ∧ P1.1 269 34 = zi 39 ∧ (∀ j, j < 8619 → P1.2.1 289 j = P.2.1 289 (221 + j)) ∧ yF [(269, 34)] [289] P P1 := by
      refine zl_ind (m := 8619) (L := fun i (a : zp) => zk_sf d m_R_keep 13 [.ref 269, .int (zi (221 + i))] [] (zp_M a, n)) (I := fun i a => yF [] [289] P a ∧ (∀ j, j < i → a.2.1 289 j = P.2.1 289 (221 + j)) ∧ (∀ j, i ≤ j → a.2.1 289 j = P.2.1 289 j)) (Q := fun r => ∃ P1, r = zk_sf d m_R_keep 54 [.ref 269, .int 0] [] (zp_M P1, n) ∧ P1.1 269 34 = zi 39 ∧ (∀ j, j < 8619 → P1.2.1 289 j = P.2.1 289 (221 + j)) ∧ yF [(269, 34)] [289] P P1) (fun i a hi hI => Or.inr ?_) (fun a hI => ?_) (a := P) ⟨yF_r, fun j hj => absurd hj (Nat.not_lt_zero j), fun _ _ => rfl⟩
      · obtain ⟨f, a1, a2⟩ := hI
        have ei : zi (221 + i) - 221 = zi i := by
          show zi (221 + i) - zi 221 = zi i
          rw [zi_sub (by omega), Nat.add_sub_cancel_left]
        refine ⟨zp_sA a 289 i (P.2.1 289 (221 + i)), ?_, yF_t f (yF_A (by decide)), fun j hj => ?_, fun j hj => (zp_u8 (by omega)).trans (a2 j (by omega))⟩
        · show zk_sf d m_R_keep 13 [.ref 269, .int (zi (221 + i))] [] (zp_M a, n) = _
          rw [e_R_keep_13, if_pos (show zi (221 + i) < 8840 from (zi_l (m := 8840) (by omega) (by decide)).mpr (by omega)), zp_R33, Option.bind_some, Option.bind_some, zp_ldi zp_a289 (show 221 + i < 8840 by omega) (by decide), Option.bind_some, ei, zp_sti zp_a289 (show i < 8840 by omega) (by decide), Option.bind_some, zi_s, a2 (221 + i) (by omega)]
          rfl
        · by_cases q : j = i
          · rw [q]; exact zp_u9
          · exact (zp_u8 q).trans (a1 j (by omega))
      · obtain ⟨f, a1, a2⟩ := hI
        have e34 : a.1 269 34 = zi A.1 := (f.1 269 34 (by decide)).trans r1
        refine ⟨zp_sF a 269 34 (zi 39), ?_, zp_f9, a1, yF_t (yF_m f (fun _ h => by cases h) (fun _ h => h)) (yF_f (by decide))⟩
        show zk_sf d m_R_keep 13 [.ref 269, .int (zi (221 + 8619))] [] (zp_M a, n) = _
        rw [e_R_keep_13, if_neg (by decide), zp_R34, Option.bind_some, e34, zi_d (by omega), q, zp_R34p, Option.bind_some]
    obtain ⟨P1, e1, h34, s1, f1⟩ := sh
    obtain ⟨P2, e2, h34', t1, t2, f2⟩ := rest P1 39 (by decide) h34
    have e286 : P2.2.1 286 = P.2.1 286 := (f2.2.1 286 (by decide)).trans (f1.2.1 286 (by decide))
    refine ⟨P2, e1.trans e2, ⟨?_, by rw [e286]; exact r2, fun i hi => ?_⟩, yF_m (yF_t f1 f2) (fun x hx => List.mem_cons_of_mem _ hx) (fun k hk => by simp only [List.mem_cons, List.not_mem_nil, or_false] at hk ⊢; omega)⟩
    · show _ = zi (min 40 (A.1 + 1)); rw [q]; exact h34'
    · have hi : i < min 40 (A.1 + 1) := hi
      show yRg (fun j => P2.2.1 289 (221 * (min 40 (A.1 + 1) - 1 - i) + j)) (A.2.2 i)
      rcases Nat.eq_zero_or_pos i with z | z
      · subst z
        have er : ∀ j, j < 221 → P2.2.1 289 (221 * (min 40 (A.1 + 1) - 1 - 0) + j) = P.2.1 286 j := fun j hj => by
          rw [show 221 * (min 40 (A.1 + 1) - 1 - 0) + j = 221 * 39 + j by omega, t1 j hj, f1.2.1 286 (by decide)]
        exact ⟨yR_b (fun j hj => er j (by omega)) r2.1, (er 40 (by decide)).trans r2.2.1, fun j c hj hc => (er _ (by omega)).trans (r2.2.2 j c hj hc)⟩
      · obtain ⟨k, rfl⟩ : ∃ k, i = k + 1 := ⟨i - 1, by omega⟩
        obtain ⟨g1, g2, g3⟩ := r3 k (by omega)
        have er : ∀ j, j < 221 → P2.2.1 289 (221 * (min 40 (A.1 + 1) - 1 - (k + 1)) + j) = P.2.1 289 (221 * (A.1 - 1 - k) + j) := fun j hj => by
          rw [t2 _ (by omega), s1 _ (by omega), show 221 + (221 * (min 40 (A.1 + 1) - 1 - (k + 1)) + j) = 221 * (A.1 - 1 - k) + j by omega]
        exact ⟨yR_b (fun j hj => er j (by omega)) g1, (er 40 (by decide)).trans g2, fun j c hj hc => (er _ (by omega)).trans (g3 j c hj hc)⟩
  · rw [if_neg (show ¬ zi A.1 = 40 from fun z => q ((zi_eq (b := 40) (by omega) (by decide)).mp z))]
    obtain ⟨P2, e2, h34', t1, t2, f2⟩ := rest P A.1 (by omega) r1
    have e286 : P2.2.1 286 = P.2.1 286 := f2.2.1 286 (by decide)
    refine ⟨P2, e2, ⟨?_, by rw [e286]; exact r2, fun i hi => ?_⟩, yF_m f2 (fun x hx => List.mem_cons_of_mem _ hx) (fun k hk => by simp only [List.mem_cons, List.not_mem_nil, or_false] at hk ⊢; omega)⟩
    · show _ = zi (min 40 (A.1 + 1)); rw [h34']; congr 1; omega
    · have hi : i < min 40 (A.1 + 1) := hi
      show yRg (fun j => P2.2.1 289 (221 * (min 40 (A.1 + 1) - 1 - i) + j)) (A.2.2 i)
      rcases Nat.eq_zero_or_pos i with z | z
      · subst z
        have er : ∀ j, j < 221 → P2.2.1 289 (221 * (min 40 (A.1 + 1) - 1 - 0) + j) = P.2.1 286 j := fun j hj => by
          rw [show 221 * (min 40 (A.1 + 1) - 1 - 0) + j = 221 * A.1 + j by omega, t1 j hj]
        exact ⟨yR_b (fun j hj => er j (by omega)) r2.1, (er 40 (by decide)).trans r2.2.1, fun j c hj hc => (er _ (by omega)).trans (r2.2.2 j c hj hc)⟩
      · obtain ⟨k, rfl⟩ : ∃ k, i = k + 1 := ⟨i - 1, by omega⟩
        obtain ⟨g1, g2, g3⟩ := r3 k (by omega)
        have er : ∀ j, j < 221 → P2.2.1 289 (221 * (min 40 (A.1 + 1) - 1 - (k + 1)) + j) = P.2.1 289 (221 * (A.1 - 1 - k) + j) := fun j hj => by
          rw [t2 _ (by omega), show 221 * (min 40 (A.1 + 1) - 1 - (k + 1)) + j = 221 * (A.1 - 1 - k) + j by omega]
        exact ⟨yR_b (fun j hj => er j (by omega)) g1, (er 40 (by decide)).trans g2, fun j c hj hc => (er _ (by omega)).trans (g3 j c hj hc)⟩
end
