/-! CALLS 12: years -/
def ynx (y : Int64) : Int64 := (y * 6364136223846793005) + 1442695040888963407
def ydr (y : Int64) (k : Nat) : Nat := y.toUInt64.toNat / 2 ^ 33 % k
theorem zj_sub {a b : Nat} (h : b ≤ a) : Int64.ofNat a - Int64.ofNat b = Int64.ofNat (a - b) := by
  have e : Int64.ofNat a = Int64.ofNat (a - b) + Int64.ofNat b := by rw [← Int64.ofNat_add, Nat.sub_add_cancel h]
  rw [e, Int64.add_sub_cancel]
theorem zj_k : ∀ k, k < 11 → Int32.toInt64 (zi k) = Int64.ofNat k := by decide +kernel
theorem zj_0 : ∀ k, k < 11 → 0 < k → ¬ Int32.toInt64 (zi k) = 0 := by decide +kernel
theorem zj_33 : (Int32.toInt64 33).toUInt64 &&& Int64.toUInt64 63 = 33 := by decide +kernel
theorem zj_u (u : UInt64) : u.toInt64 = Int64.ofNat u.toNat := by
  apply Int64.toBitVec_inj.mp
  show u.toBitVec = BitVec.ofNat 64 u.toNat
  apply BitVec.eq_of_toNat_eq
  rw [BitVec.toNat_ofNat]
  exact (Nat.mod_eq_of_lt u.toNat_lt).symm
theorem ydr_e {y : Int64} {k : Nat} (h0 : 0 < k) (hk : k < 11) : Int64.toInt32 ((Int64.toUInt64 y >>> ((Int32.toInt64 33).toUInt64 &&& Int64.toUInt64 63)).toInt64 - (Int64.toUInt64 y >>> ((Int32.toInt64 33).toUInt64 &&& Int64.toUInt64 63)).toInt64 / (Int32.toInt64 (zi k)) * (Int32.toInt64 (zi k))) = zi (ydr y k) := by
  rw [zj_33, zj_k k hk, zj_u]
  have e : (Int64.toUInt64 y >>> 33).toNat = y.toUInt64.toNat / 2 ^ 33 := by
    rw [UInt64.toNat_shiftRight, Nat.shiftRight_eq_div_pow]
    rfl
  have hl : y.toUInt64.toNat / 2 ^ 33 < 2 ^ 31 := by
    have := y.toUInt64.toNat_lt
    omega
  rw [e]
  unfold ydr
  generalize y.toUInt64.toNat / 2 ^ 33 = m at hl
  rw [← Int64.ofNat_div (by omega) (by omega), ← Int64.ofNat_mul]
  have h1 : m / k * k ≤ m := Nat.div_mul_le_self m k
  rw [zj_sub h1, show m - m / k * k = m % k by have := Nat.div_add_mod m k; rw [Nat.mul_comm] at this; omega]
  exact Int64.toInt32_ofNat'
theorem ydr_l {y : Int64} {k : Nat} (h0 : 0 < k) : ydr y k < k := Nat.mod_lt _ h0
def ydg (V : yV) (a b f : Nat) : yV := if a = b then V else match yfp V with | none => V | some k => if (ypl V a b).isSome = true then V else ysp V k (some (a, b, f))
def ydt (V : yV) (y : Int64) (x : Int32) : yV := if zi (ydr (ynx y) 10) < x then ysp V (ydr (ynx (ynx y)) 8) none else V
def ydu (y : Int64) (x : Int32) : Int64 := if zi (ydr (ynx y) 10) < x then ynx (ynx y) else ynx y
def ydw (V : yV) (np : Nat) (y : Int64) (x : Int32) : yV := ydt (ydg V (ydr (ynx y) np) (ydr (ynx (ynx y)) np) (ydr (ynx (ynx (ynx y))) 10)) (ynx (ynx (ynx y))) x
def ydz (y : Int64) (x : Int32) : Int64 := ydu (ynx (ynx (ynx y))) x
theorem ydg_2 {V : yV} {a b f : Nat} : (ydg V a b f).2 = V.2 := by
  unfold ydg
  by_cases z : a = b
  · rw [if_pos z]
  · rw [if_neg z]
    cases yfp V with
    | none => rfl
    | some k =>
      show (if (ypl V a b).isSome = true then V else ysp V k (some (a, b, f))).2 = V.2
      by_cases w : (ypl V a b).isSome = true
      · rw [if_pos w]
      · rw [if_neg w]; rfl
theorem ydt_2 {V : yV} {y : Int64} {x : Int32} : (ydt V y x).2 = V.2 := by
  unfold ydt
  by_cases z : zi (ydr (ynx y) 10) < x
  · rw [if_pos z]; rfl
  · rw [if_neg z]
theorem ydw_2 {V : yV} {np : Nat} {y : Int64} {x : Int32} : (ydw V np y x).2 = V.2 := ydt_2.trans ydg_2
theorem ydg_O {np : Nat} {V : yV} {a b f : Nat} (hO : yO np V) (ha : a < np) (hb : b < np) (hf : f < 10) : yO np (ydg V a b f) := by
  unfold ydg
  by_cases z : a = b
  · rw [if_pos z]; exact hO
  · rw [if_neg z]
    cases yfp V with
    | none => exact hO
    | some k =>
      show yO np (if (ypl V a b).isSome = true then V else ysp V k (some (a, b, f)))
      by_cases w : (ypl V a b).isSome = true
      · rw [if_pos w]; exact hO
      · rw [if_neg w]; exact yO_sp hO (fun _ _ _ e => by cases e; exact ⟨ha, hb, z, hf⟩)
theorem ydt_O {np : Nat} {V : yV} {y : Int64} {x : Int32} (hO : yO np V) : yO np (ydt V y x) := by
  unfold ydt
  by_cases z : zi (ydr (ynx y) 10) < x
  · rw [if_pos z]; exact yO_sp hO (fun _ _ _ e => by cases e)
  · rw [if_neg z]; exact hO
theorem ydw_O {np : Nat} {V : yV} {y : Int64} {x : Int32} (hO : yO np V) (h0 : 0 < np) : yO np (ydw V np y x) := ydt_O (ydg_O hO (ydr_l h0) (ydr_l h0) (ydr_l (by decide)))
theorem ydw_B {np : Nat} {V : yV} {y : Int64} {x : Int32} (hB : yB np V) : yB np (ydw V np y x) := by
  unfold yB
  rw [ydw_2]
  exact hB
/-- long fields changed besides -/
theorem yF_s {fs : List (Nat × Nat)} {ks : List Nat} {P P' : zp} {k j : Nat} {x : Int64} (h : yF fs ks P P') : yF fs ks (zp_sJ P k j x) (zp_sJ P' k j x) := ⟨h.1, h.2.1, fun k' => by
  funext j'
  show (if k' = k ∧ j' = j then x else P'.2.2.1 k' j') = (if k' = k ∧ j' = j then x else P.2.2.1 k' j')
  rw [h.2.2.1 k'], h.2.2.2⟩
theorem zp_jj {P : zp} {k j : Nat} {x y : Int64} : zp_sJ (zp_sJ P k j x) k j y = zp_sJ P k j y := by
  unfold zp_sJ
  refine Prod.ext rfl (Prod.ext rfl (Prod.ext (funext fun k' => funext fun j' => ?_) rfl))
  show (if k' = k ∧ j' = j then y else if k' = k ∧ j' = j then x else P.2.2.1 k' j') = (if k' = k ∧ j' = j then y else P.2.2.1 k' j')
  by_cases z : k' = k ∧ j' = j
  · rw [if_pos z, if_pos z]
  · rw [if_neg z, if_neg z, if_neg z]
theorem zp_j9 {P : zp} {k j : Nat} {x : Int64} : (zp_sJ P k j x).2.2.1 k j = x := by
  show (if k = k ∧ j = j then x else P.2.2.1 k j) = x
  exact if_pos ⟨rfl, rfl⟩
theorem zp_ptJ {P : zp} {k m : Nat} {i x : Int32} : (zp_pt P k m i x).2.2 = P.2.2 := by
  unfold zp_pt
  by_cases z : i < 0 ∨ m ≤ i.toNatClampNeg
  · rw [if_pos z]
  · rw [if_neg z]; rfl
theorem zq_girthJ {P : zp} {b : Nat} {i x y z : Int32} : (zq_girth P b i x y z).2.2 = P.2.2 := by
  unfold zq_girth
  rw [zp_ptJ, zp_ptJ, zp_ptJ]
section
variable {P : zp} {n : Nat × Nat} {d : Nat} {T : yT} {A : yAA} {V : yV} {y : Int64}
theorem zs_draw {k : Nat} {z : Int32} (hy : P.2.2.1 12 12 = y) (hz : z = zi k) (h0 : 0 < k) (hk : k < 11) : zk_sm d m_SaddlerKnows_draw [.ref 12, .int z] (zp_M P, n) = some (some (.int (zi (ydr (ynx y) k))), (zp_M (zp_sJ P 12 12 (ynx y)), n)) := by
  rw [hz, e_SaddlerKnows_draw, zp_gL (by decide +kernel), Option.bind_some, zp_pL (by decide +kernel), Option.bind_some, if_pos ((zi_0 (by omega)).mpr h0), zp_gL (by decide +kernel), Option.bind_some, zp_j9, if_neg (zj_0 k hk h0), hy]
  show some (some (Value.int (Int64.toInt32 ((Int64.toUInt64 (ynx y) >>> _).toInt64 - (Int64.toUInt64 (ynx y) >>> _).toInt64 / _ * _))), _) = _
  rw [ydr_e h0 hk]
  rfl
theorem zs_Rdraw {k : Nat} {z : Int32} (hy : P.2.2.1 269 35 = y) (hz : z = zi k) (h0 : 0 < k) (hk : k < 11) : zk_sm d m_R_draw [.ref 269, .int z] (zp_M P, n) = some (some (.int (zi (ydr (ynx y) k))), (zp_M (zp_sJ P 269 35 (ynx y)), n)) := by
  rw [hz, e_R_draw, zp_gL (by decide +kernel), Option.bind_some, zp_pL (by decide +kernel), Option.bind_some, zp_gL (by decide +kernel), Option.bind_some, zp_j9, if_neg (zj_0 k hk h0), hy]
  show some (some (Value.int (Int64.toInt32 ((Int64.toUInt64 (ynx y) >>> _).toInt64 - (Int64.toUInt64 (ynx y) >>> _).toInt64 / _ * _))), _) = _
  rw [ydr_e h0 hk]
  rfl
theorem zs_dtail (hC : yC P 35 V) (hy : P.2.2.1 12 12 = y) : ∃ P', ((zk_rv (zp_M P, n) 12 11).bind fun _ => (zk_cI (zk_sm (d + 3) m_SaddlerKnows_draw [.ref 12, .int 10] (zp_M P, n))).bind fun p10 => (zk_gI p10.2 12 11 11).bind fun x11 => if p10.1 < x11 then (zk_gR p10.2 12 11 5).bind fun b12 => (zk_rv p10.2 12 11).bind fun _ => (zk_cI (zk_sm (d + 3) m_SaddlerKnows_draw [.ref 12, .int 8] p10.2)).bind fun p13 => (zk_rv p13.2 b12 7).bind fun _ => (zk_cV (zk_sm (d + 3) m_Stand_ungirth [.ref b12, .int p13.1] p13.2)).bind fun t14 => (some (none, t14) : Option zk_R) else some (none, p10.2)) = some (none, (zp_M P', n)) ∧ yC P' 35 (ydt V y (P.1 12 11)) ∧ yF (ybj 35) (ybk 35) (zp_sJ P 12 12 (ydu y (P.1 12 11))) P' := by
  rw [zp_Cv, Option.bind_some, zs_draw (k := 10) (z := 10) hy rfl (by decide) (by decide), zs_cI, Option.bind_some, zp_C11, Option.bind_some]
  show ∃ P', (if zi (ydr (ynx y) 10) < P.1 12 11 then _ else _) = _ ∧ _
  unfold ydt ydu
  by_cases z : zi (ydr (ynx y) 10) < P.1 12 11
  · obtain ⟨s1, s2⟩ := yC_set (P := zp_sJ (zp_sJ P 12 12 (ynx y)) 12 12 (ynx (ynx y))) (i := ydr (ynx (ynx y)) 8) (o := none) (x := -1) (y := -1) (z := 0) hC (ydr_l (by decide)) rfl
    refine ⟨_, ?_, by rw [if_pos z]; exact s1, by rw [if_pos z, ← @zp_jj P 12 12 (ynx y)]; exact yF_m s2 (fun _ h => by cases h) (fun _ h => h)⟩
    rw [if_pos z, zp_C5, Option.bind_some, zp_Cv, Option.bind_some, zs_draw (k := 8) (z := 8) zp_j9 rfl (by decide) (by decide), zs_cI, Option.bind_some, zp_sv zs_35, Option.bind_some, zs_ungirth zs_35, zs_cV, Option.bind_some]
  · exact ⟨_, by rw [if_neg z], by rw [if_neg z]; exact hC, by rw [if_neg z]; exact yF_r⟩
theorem zs_drawAhead (hT : yTC P T) (hp0 : 0 < T.1) (hC : yC P 35 V) (hO : yO T.1 V) (hy : P.2.2.1 12 12 = y) : ∃ P', zk_sm (d + 4) m_SaddlerKnows_drawAhead [.ref 12] (zp_M P, n) = some (none, (zp_M P', n)) ∧ yC P' 35 (ydw V T.1 y (P.1 12 11)) ∧ yF (ybj 35) (ybk 35) (zp_sJ P 12 12 (ydz y (P.1 12 11))) P' := by
  have h6 := hT.2.1
  have hnp : P.1 26 2 = zi T.1 := hT.1
  obtain ⟨P1, h1⟩ : ∃ P1, P1 = zp_sJ P 12 12 (ynx y) := ⟨_, rfl⟩
  obtain ⟨P2, h2⟩ : ∃ P2, P2 = zp_sJ P1 12 12 (ynx (ynx y)) := ⟨_, rfl⟩
  obtain ⟨P3, h3⟩ : ∃ P3, P3 = zp_sJ P2 12 12 (ynx (ynx (ynx y))) := ⟨_, rfl⟩
  have j1 : P1.2.2.1 12 12 = ynx y := by rw [h1]; exact zp_j9
  have j2 : P2.2.2.1 12 12 = ynx (ynx y) := by rw [h2]; exact zp_j9
  have j3 : P3.2.2.1 12 12 = ynx (ynx (ynx y)) := by rw [h3]; exact zp_j9
  have f3 : yF (ybj 35) (ybk 35) (zp_sJ P 12 12 (ynx (ynx (ynx y)))) P3 := by rw [h3, h2, h1, zp_jj, zp_jj]; exact yF_r
  have n1 : P1.1 26 2 = zi T.1 := by rw [h1]; exact hnp
  have C3 : yC P3 35 V := by rw [h3, h2, h1]; exact hC
  have x3 : P3.1 12 11 = P.1 12 11 := by rw [h3, h2, h1]; rfl
  have e26 : ∀ Q : zp, zk_gI (zp_M Q, n) 26 10 2 = some (Q.1 26 2) := fun Q => zp_gI (by decide +kernel)
  have l1 := @ydr_l (ynx y) T.1 hp0
  have l2 := @ydr_l (ynx (ynx y)) T.1 hp0
  have l3 := @ydr_l (ynx (ynx (ynx y))) 10 (by decide)
  have fin : ∀ (V' : yV) (P4 : zp), yC P4 35 V' → yF (ybj 35) (ybk 35) (zp_sJ P 12 12 (ynx (ynx (ynx y)))) P4 → ydg V (ydr (ynx y) T.1) (ydr (ynx (ynx y)) T.1) (ydr (ynx (ynx (ynx y))) 10) = V' → ∃ P', ((zk_rv (zp_M P4, n) 12 11).bind fun _ => (zk_cI (zk_sm (d + 3) m_SaddlerKnows_draw [.ref 12, .int 10] (zp_M P4, n))).bind fun p10 => (zk_gI p10.2 12 11 11).bind fun x11 => if p10.1 < x11 then (zk_gR p10.2 12 11 5).bind fun b12 => (zk_rv p10.2 12 11).bind fun _ => (zk_cI (zk_sm (d + 3) m_SaddlerKnows_draw [.ref 12, .int 8] p10.2)).bind fun p13 => (zk_rv p13.2 b12 7).bind fun _ => (zk_cV (zk_sm (d + 3) m_Stand_ungirth [.ref b12, .int p13.1] p13.2)).bind fun t14 => (some (none, t14) : Option zk_R) else some (none, p10.2)) = some (none, (zp_M P', n)) ∧ yC P' 35 (ydw V T.1 y (P.1 12 11)) ∧ yF (ybj 35) (ybk 35) (zp_sJ P 12 12 (ydz y (P.1 12 11))) P' := by
    intro V' P4 hC4 f4 hV
    have j4 : P4.2.2.1 12 12 = ynx (ynx (ynx y)) := by rw [f4.2.2.1 12]; exact zp_j9
    obtain ⟨P', e', c', f'⟩ := zs_dtail (n := n) (d := d) hC4 j4
    have x4 : P4.1 12 11 = P.1 12 11 := f4.1 12 11 (by decide)
    rw [x4] at c' f'
    have f5 := yF_s (k := 12) (j := 12) (x := ydu (ynx (ynx (ynx y))) (P.1 12 11)) f4
    rw [zp_jj] at f5
    exact ⟨P', e', by unfold ydw; rw [hV]; exact c', yF_t f5 f'⟩
  rw [e_SaddlerKnows_drawAhead, zp_C3, Option.bind_some, e26, Option.bind_some, hnp, zp_Cv, Option.bind_some, zs_draw hy rfl hp0 (by omega), zs_cI, Option.bind_some, ← h1, zp_C3, Option.bind_some, e26, Option.bind_some, n1, zp_Cv, Option.bind_some, zs_draw j1 rfl hp0 (by omega), zs_cI, Option.bind_some, ← h2, zp_Cv, Option.bind_some, zs_draw (k := 10) (z := 10) j2 rfl (by decide) (by decide), zs_cI, Option.bind_some, ← h3, zp_C5, Option.bind_some, zp_sv zs_35, Option.bind_some, yfp_C zs_35 C3 hO h6, zs_cI, Option.bind_some]
  by_cases q1 : zi (ydr (ynx y) T.1) = zi (ydr (ynx (ynx y)) T.1)
  · rw [if_pos q1]
    exact fin V P3 C3 f3 (if_pos ((zi_eq (by omega) (by omega)).mp q1))
  · rw [if_neg q1]
    have q1' : ¬ ydr (ynx y) T.1 = ydr (ynx (ynx y)) T.1 := fun z => q1 (by rw [z])
    cases hf : yfp V with
    | none =>
      rw [if_pos (show yfi none = -1 from rfl)]
      exact fin V P3 C3 f3 (by unfold ydg; rw [if_neg q1', hf])
    | some k =>
      have hk := yfp_b hf
      rw [if_neg (show ¬ yfi (some k) = -1 from zi_n1 (by omega)), zp_C5, Option.bind_some, zp_sv zs_35, Option.bind_some, ypl_C zs_35 C3 hO h6 (by omega) (by omega), zs_cI, Option.bind_some]
      cases hs : (ypl V (ydr (ynx y) T.1) (ydr (ynx (ynx y)) T.1)).isSome with
      | true =>
        rw [if_neg (fun z => by have := yfi_n.mp z; rw [hs] at this; cases this)]
        exact fin V P3 C3 f3 (by unfold ydg; rw [if_neg q1', hf]; show (if (ypl V _ _).isSome = true then V else _) = V; rw [if_pos hs])
      | false =>
        rw [if_pos (yfi_n.mpr hs), zp_C5, Option.bind_some, zp_sv zs_35, Option.bind_some]
        obtain ⟨s1, s2⟩ := yC_set (i := k) (o := some (ydr (ynx y) T.1, ydr (ynx (ynx y)) T.1, ydr (ynx (ynx (ynx y))) 10)) (x := zi (ydr (ynx y) T.1)) (y := zi (ydr (ynx (ynx y)) T.1)) (z := zi (ydr (ynx (ynx (ynx y))) 10)) C3 hk ⟨rfl, rfl, rfl⟩
        rw [show yfi (some k) = zi k from rfl, zs_girth zs_35, zs_cV, Option.bind_some]
        exact fin _ _ s1 (yF_t f3 (yF_m s2 (fun _ h => by cases h) (fun _ h => h))) (by unfold ydg; rw [if_neg q1', hf]; show (if (ypl V _ _).isSome = true then V else _) = _; rw [if_neg (by rw [hs]; exact Bool.false_ne_true)])
theorem zs_RmakeNow {k a b f : Nat} (hR : yR (P.2.1 286) V) (hfp : yfp V = some k) (hk : k < 8) : zk_sm (d + 2) m_R_makeNow [.ref 269, .int (zi a), .int (zi b), .int (zi f)] (zp_M P, n) = some (some (.int (zi k)), (zp_M (zp_sA (zp_sA (zp_sA (zp_sA P 286 (4 * k + 0) (zi a)) 286 (4 * k + 1) (zi b)) 286 (4 * k + 2) (zi f)) 286 (4 * k + 3) 1), n)) := by
  have e40 : 4 * zi k + 0 = zi (4 * k + 0) := zi_4 k 0
  have e41 : 4 * zi k + 1 = zi (4 * k + 1) := zi_4 k 1
  have e42 : 4 * zi k + 2 = zi (4 * k + 2) := zi_4 k 2
  rw [e_R_makeNow, zp_Rv, Option.bind_some, yfp_R hR, hfp, zs_cI, Option.bind_some]
  show ((zk_gR (zp_M P, n) 269 12 27).bind fun b2 => (zk_stI (zp_M P, n) b2 (4 * zi k + 0) (zi a)).bind fun t3 => _) = _
  rw [zp_R27, Option.bind_some, e40, zp_sti zp_a286 (show 4 * k + 0 < 221 by omega) (by decide), Option.bind_some, zp_R27, Option.bind_some]
  show ((zk_stI _ 286 (4 * zi k + 1) (zi b)).bind fun t5 => _) = _
  rw [e41, zp_sti zp_a286 (show 4 * k + 1 < 221 by omega) (by decide), Option.bind_some, zp_R27, Option.bind_some]
  show ((zk_stI _ 286 (4 * zi k + 2) (zi f)).bind fun t7 => _) = _
  rw [e42, zp_sti zp_a286 (show 4 * k + 2 < 221 by omega) (by decide), Option.bind_some, zp_R27, Option.bind_some]
  show ((zk_stI _ 286 (4 * zi k + 3) 1).bind fun t9 => _) = _
  rw [zi_43, zp_sti zp_a286 (show 4 * k + 3 < 221 by omega) (by decide), Option.bind_some]
  rfl
theorem zs_Rdtail (hR : yR (P.2.1 286) V) (hy : P.2.2.1 269 35 = y) : ∃ P', ((zk_rv (zp_M P, n) 269 12).bind fun _ => (zk_cI (zk_sm d m_R_draw [.ref 269, .int 10] (zp_M P, n))).bind fun p6 => (zk_gI p6.2 269 12 30).bind fun x7 => if p6.1 < x7 then (zk_gR p6.2 269 12 27).bind fun b8 => (zk_rv p6.2 269 12).bind fun _ => (zk_cI (zk_sm d m_R_draw [.ref 269, .int 8] p6.2)).bind fun p9 => (zk_stI p9.2 b8 ((4 * p9.1) + 3) 0).bind fun t10 => (some (none, t10) : Option zk_R) else some (none, p6.2)) = some (none, (zp_M P', n)) ∧ yR (P'.2.1 286) (ydt V y (P.1 269 30)) ∧ yF [] [286] (zp_sJ P 269 35 (ydu y (P.1 269 30))) P' ∧ (∀ j, 40 ≤ j → P'.2.1 286 j = P.2.1 286 j) := by
  rw [zp_Rv, Option.bind_some, zs_Rdraw (k := 10) (z := 10) hy rfl (by decide) (by decide), zs_cI, Option.bind_some, zp_R30, Option.bind_some]
  show ∃ P', (if zi (ydr (ynx y) 10) < P.1 269 30 then _ else _) = _ ∧ _
  unfold ydt ydu
  have l8 := @ydr_l (ynx (ynx y)) 8 (by decide)
  by_cases z : zi (ydr (ynx y) 10) < P.1 269 30
  · refine ⟨zp_sA (zp_sJ (zp_sJ P 269 35 (ynx y)) 269 35 (ynx (ynx y))) 286 (4 * ydr (ynx (ynx y)) 8 + 3) 0, ?_, by rw [if_pos z]; exact yR_off (P := zp_sJ (zp_sJ P 269 35 (ynx y)) 269 35 (ynx (ynx y))) hR l8, by rw [if_pos z, ← @zp_jj P 269 35 (ynx y)]; exact yF_A (by decide), fun j hj => zp_a8 (by omega)⟩
    rw [if_pos z, zp_R27, Option.bind_some, zp_Rv, Option.bind_some, zs_Rdraw (k := 8) (z := 8) zp_j9 rfl (by decide) (by decide), zs_cI, Option.bind_some, zi_43, zp_sti zp_a286 (show 4 * ydr (ynx (ynx y)) 8 + 3 < 221 by omega) (by decide), Option.bind_some]
  · exact ⟨zp_sJ P 269 35 (ynx y), by rw [if_neg z], by rw [if_neg z]; exact hR, by rw [if_neg z]; exact yF_r, fun _ _ => rfl⟩
theorem zs_RdrawWeek (hT : yTR P T) (hp0 : 0 < T.1) (hR : yR (P.2.1 286) V) (hO : yO T.1 V) (hy : P.2.2.1 269 35 = y) : ∃ P', zk_sm (d + 4) m_R_drawWeek [.ref 269] (zp_M P, n) = some (none, (zp_M P', n)) ∧ yR (P'.2.1 286) (ydw V T.1 y (P.1 269 30)) ∧ yF [] [286] (zp_sJ P 269 35 (ydz y (P.1 269 30))) P' ∧ (∀ j, 40 ≤ j → P'.2.1 286 j = P.2.1 286 j) := by
  have h6 := hT.2.1
  have hnp : P.1 269 25 = zi T.1 := hT.1
  obtain ⟨P1, h1⟩ : ∃ P1, P1 = zp_sJ P 269 35 (ynx y) := ⟨_, rfl⟩
  obtain ⟨P2, h2⟩ : ∃ P2, P2 = zp_sJ P1 269 35 (ynx (ynx y)) := ⟨_, rfl⟩
  obtain ⟨P3, h3⟩ : ∃ P3, P3 = zp_sJ P2 269 35 (ynx (ynx (ynx y))) := ⟨_, rfl⟩
  have j1 : P1.2.2.1 269 35 = ynx y := by rw [h1]; exact zp_j9
  have j2 : P2.2.2.1 269 35 = ynx (ynx y) := by rw [h2]; exact zp_j9
  have j3 : P3.2.2.1 269 35 = ynx (ynx (ynx y)) := by rw [h3]; exact zp_j9
  have f3 : yF [] [286] (zp_sJ P 269 35 (ynx (ynx (ynx y)))) P3 := by rw [h3, h2, h1, zp_jj, zp_jj]; exact yF_r
  have n1 : P1.1 269 25 = zi T.1 := by rw [h1]; exact hnp
  have R3 : yR (P3.2.1 286) V := by rw [h3, h2, h1]; exact hR
  have T3 : yTR P3 T := yTR_F (by decide) f3 (show yTR (zp_sJ P 269 35 _) T from hT)
  have k3 : ∀ j, 40 ≤ j → P3.2.1 286 j = P.2.1 286 j := fun j _ => by rw [h3, h2, h1]; rfl
  have l1 := @ydr_l (ynx y) T.1 hp0
  have l2 := @ydr_l (ynx (ynx y)) T.1 hp0
  have l3 := @ydr_l (ynx (ynx (ynx y))) 10 (by decide)
  have fin : ∀ (V' : yV) (P4 : zp), yR (P4.2.1 286) V' → yF [] [286] (zp_sJ P 269 35 (ynx (ynx (ynx y)))) P4 → (∀ j, 40 ≤ j → P4.2.1 286 j = P.2.1 286 j) → ydg V (ydr (ynx y) T.1) (ydr (ynx (ynx y)) T.1) (ydr (ynx (ynx (ynx y))) 10) = V' → ∃ P', ((zk_rv (zp_M P4, n) 269 12).bind fun _ => (zk_cI (zk_sm (d + 3) m_R_draw [.ref 269, .int 10] (zp_M P4, n))).bind fun p6 => (zk_gI p6.2 269 12 30).bind fun x7 => if p6.1 < x7 then (zk_gR p6.2 269 12 27).bind fun b8 => (zk_rv p6.2 269 12).bind fun _ => (zk_cI (zk_sm (d + 3) m_R_draw [.ref 269, .int 8] p6.2)).bind fun p9 => (zk_stI p9.2 b8 ((4 * p9.1) + 3) 0).bind fun t10 => (some (none, t10) : Option zk_R) else some (none, p6.2)) = some (none, (zp_M P', n)) ∧ yR (P'.2.1 286) (ydw V T.1 y (P.1 269 30)) ∧ yF [] [286] (zp_sJ P 269 35 (ydz y (P.1 269 30))) P' ∧ (∀ j, 40 ≤ j → P'.2.1 286 j = P.2.1 286 j) := by
    intro V' P4 hR4 f4 k4 hV
    have j4 : P4.2.2.1 269 35 = ynx (ynx (ynx y)) := by rw [f4.2.2.1 269]; exact zp_j9
    obtain ⟨P', e', c', f', k'⟩ := zs_Rdtail (n := n) (d := d + 3) hR4 j4
    have x4 : P4.1 269 30 = P.1 269 30 := f4.1 269 30 (by decide)
    rw [x4] at c' f'
    have f5 := yF_s (k := 269) (j := 35) (x := ydu (ynx (ynx (ynx y))) (P.1 269 30)) f4
    rw [zp_jj] at f5
    exact ⟨P', e', by unfold ydw; rw [hV]; exact c', yF_t f5 f', fun j hj => (k' j hj).trans (k4 j hj)⟩
  rw [e_R_drawWeek, zp_R25, Option.bind_some, hnp, zp_Rv, Option.bind_some, zs_Rdraw hy rfl hp0 (by omega), zs_cI, Option.bind_some, ← h1, zp_R25, Option.bind_some, n1, zp_Rv, Option.bind_some, zs_Rdraw j1 rfl hp0 (by omega), zs_cI, Option.bind_some, ← h2, zp_Rv, Option.bind_some, zs_Rdraw (k := 10) (z := 10) j2 rfl (by decide) (by decide), zs_cI, Option.bind_some, ← h3]
  by_cases q1 : zi (ydr (ynx y) T.1) = zi (ydr (ynx (ynx y)) T.1)
  · rw [if_pos q1]
    exact fin V P3 R3 f3 k3 (if_pos ((zi_eq (by omega) (by omega)).mp q1))
  · rw [if_neg q1, zp_Rv, Option.bind_some, ypl_R T3 hp0 R3 hO (by omega) (by omega)]
    have q1' : ¬ ydr (ynx y) T.1 = ydr (ynx (ynx y)) T.1 := fun z => q1 (by rw [z])
    cases hs : (ypl V (ydr (ynx y) T.1) (ydr (ynx (ynx y)) T.1)).isSome with
    | true =>
      rw [zs_cI, Option.bind_some, if_neg (show ¬ zp_b true = 0 by decide)]
      refine fin V P3 R3 f3 k3 ?_
      unfold ydg
      rw [if_neg q1']
      cases hf : yfp V with
      | none => rfl
      | some k => show (if (ypl V _ _).isSome = true then V else _) = V; rw [if_pos hs]
    | false =>
      rw [zs_cI, Option.bind_some, if_pos (show zp_b false = 0 by decide), zp_Rv, Option.bind_some, yfp_R R3]
      cases hf : yfp V with
      | none =>
        rw [zs_cI, Option.bind_some, if_pos (show yfi none = -1 from rfl)]
        exact fin V P3 R3 f3 k3 (by unfold ydg; rw [if_neg q1', hf])
      | some k =>
        have hk := yfp_b hf
        rw [zs_cI, Option.bind_some, if_neg (show ¬ yfi (some k) = -1 from zi_n1 (by omega)), zp_Rv, Option.bind_some, show zk_sm (d + 3) m_R_makeNow [.ref 269, .int (zi _), .int (zi _), .int (zi _)] (zp_M P3, n) = _ from zs_RmakeNow (d := d + 1) R3 hf hk, zs_cI, Option.bind_some]
        exact fin _ _ (yR_make (r := ydr (ynx y) T.1) (q := ydr (ynx (ynx y)) T.1) (f := ydr (ynx (ynx (ynx y))) 10) R3 hk) (yF_t f3 (yF_t (yF_t (yF_t (yF_A (by decide)) (yF_A (by decide))) (yF_A (by decide))) (yF_A (by decide)))) (fun j hj => ((zp_a8 (by omega)).trans ((zp_a8 (by omega)).trans ((zp_a8 (by omega)).trans (zp_a8 (by omega))))).trans (k3 j hj)) (by unfold ydg; rw [if_neg q1', hf]; show (if (ypl V _ _).isSome = true then V else _) = _; rw [if_neg (by rw [hs]; exact Bool.false_ne_true)])
end
