/-! CALLS 21: notes that agree -/
def yag (g v b : Int32) : Bool := if g < v then decide (0 = b) else decide (1 = b)
abbrev yNo : Type := Nat → Nat × Nat × Int32 × Int32
def yNC (P : zp) (nn : Nat) (N : yNo) : Prop := P.1 249 9 = zi nn ∧ nn ≤ 10 ∧ ∀ i, i < nn → P.2.1 255 i = zi (N i).1 ∧ P.2.1 256 i = zi (N i).2.1 ∧ P.2.1 257 i = (N i).2.2.1 ∧ P.2.1 258 i = (N i).2.2.2
def yNR (P : zp) (nn : Nat) (N : yNo) : Prop := P.1 269 46 = zi nn ∧ nn ≤ 10 ∧ ∀ i, i < nn → P.2.1 292 i = zi (N i).1 ∧ P.2.1 293 i = zi (N i).2.1 ∧ P.2.1 294 i = (N i).2.2.1 ∧ P.2.1 295 i = (N i).2.2.2
def yNB (np nn : Nat) (N : yNo) : Prop := ∀ i, i < nn → (N i).1 < np ∧ 1 ≤ (N i).2.1 ∧ (N i).2.1 ≤ 9
theorem yN_o {P : zp} {np : Nat} (h6 : np ≤ 6) (h : yN P np) : ∃ nn N, yNC P nn N ∧ yNR P nn N ∧ yNB np nn N := by
  obtain ⟨nn, n1, n2, n3, n4⟩ := h
  have hp : ∀ i, i < nn → P.2.1 255 i = zi (P.2.1 255 i).toNatClampNeg ∧ (P.2.1 255 i).toNatClampNeg < np := fun i hi => by
    obtain ⟨-, ⟨p, hp, e⟩, -⟩ := n4 i hi
    rw [e, zi_c (by omega)]; exact ⟨rfl, hp⟩
  have hw : ∀ i, i < nn → P.2.1 256 i = zi (P.2.1 256 i).toNatClampNeg ∧ 1 ≤ (P.2.1 256 i).toNatClampNeg ∧ (P.2.1 256 i).toNatClampNeg ≤ 9 := fun i hi => by
    obtain ⟨-, -, ⟨w, w1, w9, e⟩, -⟩ := n4 i hi
    rw [e, zi_c (by omega)]; exact ⟨rfl, w1, w9⟩
  refine ⟨nn, fun i => ((P.2.1 255 i).toNatClampNeg, (P.2.1 256 i).toNatClampNeg, P.2.1 257 i, P.2.1 258 i), ⟨n2, n1, fun i hi => ⟨(hp i hi).1, (hw i hi).1, rfl, rfl⟩⟩, ⟨n3, n1, fun i hi => ?_⟩, fun i hi => ⟨(hp i hi).2, (hw i hi).2⟩⟩
  obtain ⟨⟨e1, e2, e3, e4⟩, -⟩ := n4 i hi
  rw [← e1, ← e2, ← e3, ← e4]
  exact ⟨(hp i hi).1, (hw i hi).1, rfl, rfl⟩
def ybad (U : yV) (N : yNo) (w i : Nat) : Bool := decide ((N i).2.1 = w) && !yag (U.2.1 (N i).1) (N i).2.2.1 (N i).2.2.2
section
variable {P : zp} {n : Nat × Nat} {d np nn : Nat} {U : yV} {N : yNo}
theorem zp_ldBi {k m i : Nat} (h : zp_ad k = (2, m)) (hi : i < m) (hm : m < 2 ^ 31) : zk_ldB (zp_M P, n) k (zi i) = some (P.2.1 k i) := by
  rw [zp_ldB h, zi_c (by omega), if_neg (fun z => z.elim (zi_n (by omega)) (fun z => by omega))]
theorem zp_N2 : zk_gR (zp_M P, n) 249 6 2 = some 250 := zp_gR (by decide +kernel)
theorem zs_250 : zp_sb 250 := Or.inl (Or.inr (Or.inr (Or.inl rfl)))
theorem zs_agrees (h6 : np ≤ 6) (hC : yC P 250 U) (hN : yNC P nn N) (hB : yNB np nn N) {w : Nat} (hw : w < 100) : zk_sm (d + 1) m_Seeing_agreesBehind [.ref 249, .int (zi w)] (zp_M P, n) = some (some (.int (zp_b (!(List.range nn).any (ybad U N w)))), (zp_M P, n)) := by
  obtain ⟨n1, n2, n3⟩ := hN
  rw [e_Seeing_agreesBehind]
  refine zl_ind (m := nn) (L := fun i (v : Value) => zk_sf (d + 1) m_Seeing_agreesBehind 2 [.ref 249, .int (zi w), .int (zi i), v] [] (zp_M P, n)) (I := fun i _ => ∀ j, j < i → ybad U N w j = false) (Q := fun r => r = some (some (.int (zp_b (!(List.range nn).any (ybad U N w)))), (zp_M P, n))) (fun i v hi hI => ?_) (fun v hI => ?_) (a := .retAddr 0) (fun j hj => absurd hj (Nat.not_lt_zero j))
  · obtain ⟨e1, e2, e3, e4⟩ := n3 i hi
    obtain ⟨b1, b2, b3⟩ := hB i hi
    have hs := e_Seeing_agreesBehind_2 d 249 (zi w) (zi i) v (zp_M P, n)
    rw [zp_N9, Option.bind_some, n1, if_pos ((zi_l (by omega) (by omega)).mpr hi), zp_N6, Option.bind_some, zp_al zp_a258 (by decide), Option.bind_some, if_pos ((zi_nI (by omega) (by decide)).mpr (by omega)), zp_N4, Option.bind_some, zs_at zp_a256 (by decide), zs_cI, Option.bind_some, zp_gi (show i < 10 by omega) (by decide), e2, zi_s] at hs
    have more : ybad U N w i = false → ∀ j, j < i + 1 → ybad U N w j = false := fun h j hj => by
      by_cases z : j = i
      · rw [z]; exact h
      · exact hI j (by omega)
    by_cases q : (N i).2.1 = w
    · rw [if_pos (by rw [q]), zp_N2, Option.bind_some, zp_s3 zs_250, Option.bind_some, zp_N3, Option.bind_some, zs_at zp_a255 (by decide), zs_cI, Option.bind_some, zp_gi (show i < 10 by omega) (by decide), e1, zs_at (zp_sb_t zs_250).2.2.2.2 (by decide), zs_cI, Option.bind_some, yC_g hC (show (N i).1 < 6 by omega), zp_N5, Option.bind_some, zs_at zp_a257 (by decide), zs_cI, Option.bind_some, zp_gi (show i < 10 by omega) (by decide), e3] at hs
      have hb : ybad U N w i = !yag (U.2.1 (N i).1) (N i).2.2.1 (N i).2.2.2 := by
        unfold ybad
        rw [decide_eq_true q, Bool.true_and]
      have stop : ybad U N w i = true → (zp_b (!(List.range nn).any (ybad U N w)) : Int32) = 0 := fun h => by
        rw [List.any_eq_true.mpr ⟨i, List.mem_range.mpr hi, h⟩]; rfl
      by_cases g : U.2.1 (N i).1 < (N i).2.2.1
      · rw [if_pos g, zp_N6, Option.bind_some, zp_ldBi zp_a258 (show i < 10 by omega) (by decide), Option.bind_some, e4] at hs
        have hy : yag (U.2.1 (N i).1) (N i).2.2.1 (N i).2.2.2 = decide (0 = (N i).2.2.2) := if_pos g
        by_cases x : 0 = (N i).2.2.2
        · rw [if_pos x] at hs
          exact Or.inr ⟨_, hs, more (by rw [hb, hy, decide_eq_true x]; rfl)⟩
        · rw [if_neg x] at hs
          refine Or.inl (hs.trans ?_)
          rw [stop (by rw [hb, hy, decide_eq_false x]; rfl)]
      · rw [if_neg g, zp_N6, Option.bind_some, zp_ldBi zp_a258 (show i < 10 by omega) (by decide), Option.bind_some, e4] at hs
        have hy : yag (U.2.1 (N i).1) (N i).2.2.1 (N i).2.2.2 = decide (1 = (N i).2.2.2) := if_neg g
        by_cases x : 1 = (N i).2.2.2
        · rw [if_pos x] at hs
          exact Or.inr ⟨_, hs, more (by rw [hb, hy, decide_eq_true x]; rfl)⟩
        · rw [if_neg x] at hs
          refine Or.inl (hs.trans ?_)
          rw [stop (by rw [hb, hy, decide_eq_false x]; rfl)]
    · rw [if_neg (fun z => q ((zi_eq (by omega) (by omega)).mp z))] at hs
      refine Or.inr ⟨v, hs, more ?_⟩
      unfold ybad
      rw [decide_eq_false q, Bool.false_and]
  · show zk_sf (d + 1) m_Seeing_agreesBehind 2 [.ref 249, .int (zi w), .int (zi nn), v] [] (zp_M P, n) = _
    rw [e_Seeing_agreesBehind_2, zp_N9, Option.bind_some, n1, if_neg (fun z => absurd ((zi_l (by omega) (by omega)).mp z) (Nat.lt_irrefl _))]
    have : (List.range nn).any (ybad U N w) = false := by
      rw [Bool.eq_false_iff]
      intro z
      obtain ⟨j, hj, h⟩ := List.any_eq_true.mp z
      rw [hI j (List.mem_range.mp hj)] at h
      cases h
    rw [this]
    rfl
theorem zp_R47 : zk_gR (zp_M P, n) 269 12 47 = some 296 := zp_gR (by decide +kernel)
theorem zp_a296 : zp_ad 296 = (0, 60) := by decide +kernel
theorem zi_6c (w p : Nat) : 6 * zi w + zi p = zi (6 * w + p) := by
  show Int32.ofNat 6 * Int32.ofNat w + Int32.ofNat p = _
  rw [← Int32.ofNat_mul, ← Int32.ofNat_add]
theorem zs_RisFit8 (h6 : np ≤ 6) {G : Nat → Nat → Int32} {x y : Int32} (hG : ∀ w p, w ≤ 9 → p < 6 → P.2.1 296 (6 * w + p) = G w p) (hN : yNR P nn N) (hB : yNB np nn N) : zk_sf (d + 1) m_R_isFit 8 [.ref 269, .int x, .int y, .int 0] [] (zp_M P, n) = some (some (.int (zp_b (!(List.range nn).any (fun i => !yag (G (N i).2.1 (N i).1) (N i).2.2.1 (N i).2.2.2)))), (zp_M P, n)) := by
  obtain ⟨n1, n2, n3⟩ := hN
  have key := zl_any (L := fun i => zk_sf (d + 1) m_R_isFit 8 [.ref 269, .int x, .int y, .int (zi i)] [] (zp_M P, n)) (f := fun i => !yag (G (N i).2.1 (N i).1) (N i).2.2.1 (N i).2.2.2) (r1 := ((some (.int 0), (zp_M P, n)) : zk_R)) (r0 := (some (.int 1), (zp_M P, n))) (m := nn) (fun i hi => ?_) ?_
  · refine key.trans ?_
    cases (List.range nn).any (fun i => !yag (G (N i).2.1 (N i).1) (N i).2.2.1 (N i).2.2.2) <;> rfl
  · obtain ⟨e1, e2, e3, e4⟩ := n3 i hi
    obtain ⟨b1, b2, b3⟩ := hB i hi
    show zk_sf (d + 1) m_R_isFit 8 [.ref 269, .int x, .int y, .int (zi i)] [] (zp_M P, n) = bif !yag (G (N i).2.1 (N i).1) (N i).2.2.1 (N i).2.2.2 then _ else _
    rw [e_R_isFit_8, (zp_R46 : zk_gI (zp_M P, n) 269 12 46 = _), Option.bind_some, n1, if_pos ((zi_l (by omega) (by omega)).mpr hi), zp_R47, Option.bind_some, zp_R43, Option.bind_some, zp_ldi zp_a293 (show i < 10 by omega) (by decide), Option.bind_some, zp_R42, Option.bind_some, zp_ldi zp_a292 (show i < 10 by omega) (by decide), Option.bind_some, e1, e2, zi_6c, zp_ldi zp_a296 (show 6 * (N i).2.1 + (N i).1 < 60 by omega) (by decide), Option.bind_some, hG _ _ b3 (by omega), zp_R44, Option.bind_some, zp_ldi zp_a294 (show i < 10 by omega) (by decide), Option.bind_some, e3, zi_s]
    unfold yag
    by_cases g : G (N i).2.1 (N i).1 < (N i).2.2.1
    · rw [if_pos g, if_pos g, zp_R45, Option.bind_some, zp_ldBi zp_a295 (show i < 10 by omega) (by decide), Option.bind_some, e4]
      by_cases z : 0 = (N i).2.2.2
      · rw [if_pos z, decide_eq_true z]; rfl
      · rw [if_neg z, decide_eq_false z]; rfl
    · rw [if_neg g, if_neg g, zp_R45, Option.bind_some, zp_ldBi zp_a295 (show i < 10 by omega) (by decide), Option.bind_some, e4]
      by_cases z : 1 = (N i).2.2.2
      · rw [if_pos z, decide_eq_true z]; rfl
      · rw [if_neg z, decide_eq_false z]; rfl
  · show zk_sf (d + 1) m_R_isFit 8 [.ref 269, .int x, .int y, .int (zi nn)] [] (zp_M P, n) = _
    rw [e_R_isFit_8, (zp_R46 : zk_gI (zp_M P, n) 269 12 46 = _), Option.bind_some, n1, if_neg (fun z => absurd ((zi_l (by omega) (by omega)).mp z) (Nat.lt_irrefl _))]
end
