/-! PARSING 27: the call text of a law: a new law's cells -/
section
variable {n : Nat × Nat} {P : zp}
theorem zz_a34 : zp_ad 34 = (10 + 1, 4) := by decide +kernel
theorem zz_stR {i la : Nat} {fs : List Value} (hi : i < 4) (hl : 300 ≤ la) (e : P.2.2.2.2 la = zk_ob 1 fs) : zk_stR (zp_M P, n) 34 (zi i) la = some (zp_M (zp_sR P 34 i (some la)), n) := by
  obtain ⟨hr, ht⟩ := zp_ad_i zz_a34 (by decide)
  have hc : ∀ X : zp, zp_M X 34 = zk_ra 1 4 (X.2.2.2.1 34) := fun X => by
    rw [show zp_M X 34 = zp_c X 34 from if_pos hr]
    unfold zp_c
    rw [ht]
    rfl
  unfold zk_stR
  rw [show (zp_M P, n).1 34 = _ from hc P]
  show (match zp_M P la with | .inl (c, _) => if c = 1 ∧ ¬ (zi i < 0 ∨ 4 ≤ (zi i).toNatClampNeg) then some (zk_up (zp_M P) 34 (zk_ra 1 4 (va_up (P.2.2.2.1 34) (zi i).toNatClampNeg (some la))), n) else none | .inr _ => none) = _
  rw [zp_hi hl, e]
  show (if 1 = 1 ∧ ¬ (zi i < 0 ∨ 4 ≤ (zi i).toNatClampNeg) then some (zk_up (zp_M P) 34 (zk_ra 1 4 (va_up (P.2.2.2.1 34) (zi i).toNatClampNeg (some la))), n) else none) = _
  rw [zi_c (by omega), if_pos ⟨rfl, fun z => z.elim (zi_n (by omega)) (fun z => by omega)⟩, zp_Mu (P' := zp_sR P 34 i (some la)) ?_ (fun j hj => zp_Me (P := P) (P' := zp_sR P 34 i (some la)) rfl rfl rfl (zp_uo hj) rfl)]
  rw [hc]
  refine congrArg (zk_ra 1 4) ?_
  funext j
  show (if 34 = 34 ∧ j = i then some la else P.2.2.2.1 34 j) = if j = i then some la else P.2.2.2.1 34 j
  by_cases z : j = i
  · rw [if_pos ⟨rfl, z⟩, if_pos z]
  · rw [if_neg (fun y => z y.2), if_neg z]
theorem zs_copyRowG {a m k len d : Nat} {f : Nat → Int32} (ha : zp_ad a = (0, m)) (hk : 300 ≤ k) (e : P.2.2.2.2 k = zk_ia 0 len f) (hl : len ≤ m) (hm : m < 2 ^ 31) : ∃ g' f', zk_sm d m_SaddlerKnows_copyRow [.ref a, .ref k] (zp_M P, n) = some (none, (zp_M (zp_sG P g'), n)) ∧ (∀ j, j ≠ k → g' j = P.2.2.2.2 j) ∧ g' k = zk_ia 0 len f' ∧ ∀ i, i < len → f' i = P.2.1 a i := by
  rw [e_SaddlerKnows_copyRow]
  refine zl_ind (m := len) (L := fun i (g : zk_M) => zk_sf d m_SaddlerKnows_copyRow 2 [.ref a, .ref k, .int (zi i)] [] (zp_M (zp_sG P g), n)) (I := fun i g => (∀ j, j ≠ k → g j = P.2.2.2.2 j) ∧ ∃ f', g k = zk_ia 0 len f' ∧ ∀ y, y < i → f' y = P.2.1 a y) (Q := fun r => ∃ g' f', r = some (none, (zp_M (zp_sG P g'), n)) ∧ (∀ j, j ≠ k → g' j = P.2.2.2.2 j) ∧ g' k = zk_ia 0 len f' ∧ ∀ i, i < len → f' i = P.2.1 a i) (fun i g hi hI => Or.inr ?_) (fun g hI => ?_) (a := P.2.2.2.2) ⟨fun _ _ => rfl, f, e, fun y hy => absurd hy (Nat.not_lt_zero y)⟩
  · obtain ⟨h1, f', h2, h3⟩ := hI
    have e2 : (zp_sG P g).2.2.2.2 k = zk_ia 0 len f' := h2
    refine ⟨zk_up g k (zk_ia 0 len (upd f' i (P.2.1 a i))), ?_, fun j hj => (zk_up_n hj).trans (h1 j hj), _, zk_up_s _ _ _, fun y hy => ?_⟩
    · show zk_sf d m_SaddlerKnows_copyRow 2 [.ref a, .ref k, .int (zi i)] [] (zp_M (zp_sG P g), n) = _
      rw [e_SaddlerKnows_copyRow_2, yl_al hk e2, Option.bind_some, if_pos ((zi_nI (by omega) (by omega)).mpr hi), zp_al ha (by decide), Option.bind_some, if_pos ((zi_nI (i := i) (m := m) (by omega) (by omega)).mpr (by omega)), zp_ldi ha (show i < m by omega) hm, Option.bind_some, yl_stn hk e2 hi (by omega), Option.bind_some, zi_s]
      rfl
    · rw [zp_upd]
      show (if y = i then P.2.1 a i else f' y) = _
      by_cases z : y = i
      · rw [if_pos z, z]
      · rw [if_neg z]; exact h3 y (by omega)
  · obtain ⟨h1, f', h2, h3⟩ := hI
    have e2 : (zp_sG P g).2.2.2.2 k = zk_ia 0 len f' := h2
    refine ⟨g, f', ?_, h1, h2, h3⟩
    show zk_sf d m_SaddlerKnows_copyRow 2 [.ref a, .ref k, .int (zi len)] [] (zp_M (zp_sG P g), n) = _
    rw [e_SaddlerKnows_copyRow_2, yl_al hk e2, Option.bind_some, if_neg (fun z => absurd ((zi_nI (by omega) (by omega)).mp z) (Nat.lt_irrefl _))]
theorem zs_lawnew {la u len d : Nat} (hl : 300 ≤ la) (h240 : len ≤ 240) (e : P.2.2.2.2 la = zk_ob 1 [.null, .null, .int 0]) : ∃ g' f', zk_sm (d + 1) m_Law_new [.ref la, .ref 25, .int (zi len)] (zp_M P, la + 1, u) = some (none, (zp_M (zp_sG P g'), la + 3, u + 64 + len)) ∧ (∀ j, j ≠ la → j ≠ la + 1 → j ≠ la + 2 → g' j = P.2.2.2.2 j) ∧ g' la = zk_ob 1 [.ref (la + 2), .ref (la + 1), .int 0] ∧ g' (la + 1) = zk_ia 0 64 (fun _ => 0) ∧ g' (la + 2) = zk_ia 0 len f' ∧ ∀ i, i < len → f' i = P.2.1 25 i := by
  obtain ⟨P1, hP1⟩ : ∃ P1, P1 = zp_sG P (zk_up P.2.2.2.2 (la + 1) (zk_ia 0 64 (fun _ => 0))) := ⟨_, rfl⟩
  have g1 : P1.2.2.2.2 la = zk_ob 1 [.null, .null, .int 0] := by rw [hP1]; exact (zk_up_n (by omega)).trans e
  obtain ⟨P2, hP2⟩ : ∃ P2, P2 = zp_sG P1 (zk_up P1.2.2.2.2 la (zk_ob 1 [.null, .ref (la + 1), .int 0])) := ⟨_, rfl⟩
  have e2 : zk_pf (zp_M P1, la + 2, u + 64) la 1 1 (.ref (la + 1)) = some (zp_M P2, la + 2, u + 64) := by rw [yl_pf hl g1 (show 1 < 3 by decide), hP2]; rfl
  obtain ⟨P3, hP3⟩ : ∃ P3, P3 = zp_sG P2 (zk_up P2.2.2.2.2 (la + 2) (zk_ia 0 len (fun _ => 0))) := ⟨_, rfl⟩
  have g3 : P3.2.2.2.2 la = zk_ob 1 [.null, .ref (la + 1), .int 0] := by
    rw [hP3]
    refine (zk_up_n (by omega)).trans ?_
    rw [hP2]
    exact zk_up_s _ _ _
  obtain ⟨P4, hP4⟩ : ∃ P4, P4 = zp_sG P3 (zk_up P3.2.2.2.2 la (zk_ob 1 [.ref (la + 2), .ref (la + 1), .int 0])) := ⟨_, rfl⟩
  have e4 : zk_pf (zp_M P3, la + 3, u + 64 + len) la 1 0 (.ref (la + 2)) = some (zp_M P4, la + 3, u + 64 + len) := by rw [yl_pf hl g3 (show 0 < 3 by decide), hP4]; rfl
  have g4 : P4.2.2.2.2 la = zk_ob 1 [.ref (la + 2), .ref (la + 1), .int 0] := by rw [hP4]; exact zk_up_s _ _ _
  have g5 : P4.2.2.2.2 (la + 2) = zk_ia 0 len (fun _ => 0) := by
    rw [hP4]
    refine (zk_up_n (by omega)).trans ?_
    rw [hP3]
    exact zk_up_s _ _ _
  have g6 : P4.2.2.2.2 (la + 1) = zk_ia 0 64 (fun _ => 0) := by
    rw [hP4]
    refine (zk_up_n (by omega)).trans ?_
    rw [hP3]
    refine (zk_up_n (by omega)).trans ?_
    rw [hP2]
    refine (zk_up_n (by omega)).trans ?_
    rw [hP1]
    exact zk_up_s _ _ _
  have gr : zk_gR (zp_M P4, la + 3, u + 64 + len) la 1 0 = some (la + 2) := by
    unfold zk_gR
    rw [yl_gf hl g4]
    rfl
  obtain ⟨g', f', e5, k1, k2, k3⟩ := zs_copyRowG (P := P4) (n := (la + 3, u + 64 + len)) (d := d) (k := la + 2) zp_a25 (by omega) g5 h240 (by decide)
  have s4 : zp_sG P4 g' = zp_sG P g' := by rw [hP4, hP3, hP2, hP1]; rfl
  have r4 : P4.2.1 25 = P.2.1 25 := by rw [hP4, hP3, hP2, hP1]; rfl
  have o4 : ∀ j, j ≠ la → j ≠ la + 1 → j ≠ la + 2 → P4.2.2.2.2 j = P.2.2.2.2 j := fun j a b c => by
    rw [hP4]
    refine (zk_up_n a).trans ?_
    rw [hP3]
    refine (zk_up_n c).trans ?_
    rw [hP2]
    refine (zk_up_n a).trans ?_
    rw [hP1]
    exact zk_up_n b
  refine ⟨g', f', ?_, fun j a b c => (k1 j c).trans (o4 j a b c), (k1 la (by omega)).trans g4, (k1 (la + 1) (by omega)).trans g6, k2, fun i hi => by rw [k3 i hi, r4]⟩
  have hmin : ∀ s : zk_S, zk_sm d m_Math_min_II [.int (zi len), .int (nI 240)] s = some (some (.int (zi len)), s) := fun s => by
    rw [e_Math_min_II, if_neg (show ¬ nI 240 < zi len from fun z => absurd ((zi_l (i := 240) (by decide) (by omega)).mp z) (by omega))]
  have hmax : ∀ s : zk_S, zk_sm d m_Math_max_II [.int 0, .int (zi len)] s = some (some (.int (zi len)), s) := fun s => by
    rw [e_Math_max_II]
    by_cases z : (0 : Int32) < zi len
    · rw [if_pos z]
    · rw [if_neg z]
      have : len = 0 := by
        rcases Nat.eq_zero_or_pos len with y | y
        · exact y
        · exact absurd ((zi_0 (by omega)).mpr y) z
      rw [this]; rfl
  have hs := e_Law_new d la 25 (zi len) (zp_M P, la + 1, u)
  rw [zp_nw (show 300 ≤ la + 1 by omega), ← hP1, show zk_pf (zp_M P1, la + 1 + 1, u + 64) la 1 1 (.ref (la + 1)) = _ from e2, Option.bind_some, zp_al zp_a25 (by decide), Option.bind_some, hmin, zs_cI, Option.bind_some, hmax, zs_cI, Option.bind_some, if_neg (show ¬ (zi len < 0 ∨ 100000 < zi len) from fun z => z.elim (zi_n (by omega)) (fun z => absurd ((zi_l (i := 100000) (by decide) (by omega)).mp z) (by omega)))] at hs
  rw [show Int32.toNatClampNeg (zi len, (zp_M P2, la + 2, u + 64)).1 = len from zi_c (by omega), zp_nw (show 300 ≤ la + 2 by omega), ← hP3, show zk_pf (zp_M P3, la + 2 + 1, u + 64 + len) la 1 0 (.ref (la + 2)) = _ from e4, Option.bind_some, gr, Option.bind_some, e5, zs_cV, Option.bind_some, s4] at hs
  exact hs
end
