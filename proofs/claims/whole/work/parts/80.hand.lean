/-! CALLS 9: acts by hand: what they change -/
def yks (V : yV) (c : Int32) : yV := (V.1, V.2.1, c, V.2.2.2)
def yfp (V : yV) : Option Nat := (List.range 8).find? (fun i => !yth V i)
section
variable {P : zp} {n : Nat × Nat} {b d np : Nat} {T : yT} {A : yAA} {V : yV}
theorem yfp_C (h : zp_sb b) (hC : yC P b V) (hO : yO np V) (h6 : np ≤ 6) : zk_sm (d + 2) m_Stand_freePlace [.ref b] (zp_M P, n) = some (some (.int (yfi (yfp V))), (zp_M P, n)) := by
  rw [zs_freePlace h]
  have e : (List.range 8).find? (fun i => !zq_sad P b (zi i)) = yfp V := zl_findc (fun i hi => by rw [yb_sad hC hO h6 hi])
  unfold zq_free
  rw [e]
  cases yfp V <;> rfl
theorem yfp_R (hR : yR (P.2.1 286) V) : zk_sm (d + 1) m_R_freePlace [.ref 269] (zp_M P, n) = some (some (.int (yfi (yfp V))), (zp_M P, n)) := by
  rw [zs_RfreePlace]
  have e : (List.range 8).find? (fun i => decide (P.2.1 286 (4 * i + 3) = 0)) = yfp V := zl_findc (fun i hi => by
    have h := hR.1 i hi
    unfold yth
    cases hv : V.1 i with
    | none => rw [hv] at h; rw [show P.2.1 286 (4 * i + 3) = 0 from h]; rfl
    | some y => obtain ⟨r, q, f⟩ := y; rw [hv] at h; rw [h.2.2.2]; rfl)
  unfold zr_free
  rw [e]
  cases yfp V <;> rfl
theorem yAC_st {P' : zp} {V' : yV} (hA : yAC P A) (f : yF (ybj 35) (ybk 35) P P') (hC : yC P' 35 V') (hw : V'.2.2.2 = (A.2.2 0).1.2.2.2) : yAC P' (ymk A (V', (A.2.2 0).2)) := by
  obtain ⟨c0, c1, c2, c3, c4, c5⟩ := hA
  have e41 : P'.2.1 41 = P.2.1 41 := f.2.1 41 (by decide)
  refine ⟨by rw [f.2.2.2.1]; exact c0, (f.1 40 6 (by decide)).trans c1, (f.1 40 5 (by decide)).trans c2, hC, fun i hi => ?_, fun i hi => ?_⟩
  · have hi : i < A.1 := hi
    show yC P' (49 + 5 * ((A.2.1 + 39 - i) % 40)) (if i + 1 = 0 then (V', (A.2.2 0).2) else A.2.2 (i + 1)).1
    rw [if_neg (by omega)]
    have hs : (A.2.1 + 39 - i) % 40 < 40 := Nat.mod_lt _ (by decide)
    exact yC_F (fun j j0 j5 z => by simp only [List.mem_cons, List.not_mem_nil, or_false] at z; omega) (by simp; omega) (by simp; omega) f (c4 i hi)
  · have hi : i ≤ A.1 := hi
    show yEn (P'.2.1 41) (if i = 0 then (V', (A.2.2 0).2) else A.2.2 i)
    rw [e41]
    rcases Nat.eq_zero_or_pos i with z | z
    · subst z
      rw [if_pos rfl]
      intro j c hj hc
      have hj : j < min 60 V'.2.2.2 := hj
      show P.2.1 41 (3 * ((V'.2.2.2 - 1 - j) % 100) + c) = (A.2.2 0).2 j c
      rw [hw] at hj ⊢
      exact c5 0 (Nat.zero_le _) j c hj hc
    · rw [if_neg (by omega)]; exact c5 i hi
theorem yAR_st {P' : zp} {V' : yV} (hA : yAR P A) (f : yF [] [286] P P') (hk : ∀ j, 40 ≤ j → P'.2.1 286 j = P.2.1 286 j) (hR : yR (P'.2.1 286) V') (hw : V'.2.2.2 = (A.2.2 0).1.2.2.2) : yAR P' (ymk A (V', (A.2.2 0).2)) := by
  obtain ⟨r1, ⟨r2, r3, r4⟩, r5⟩ := hA
  refine ⟨(f.1 269 34 (by decide)).trans r1, ?_, fun i hi => ?_⟩
  · show yRg (P'.2.1 286) (V', (A.2.2 0).2)
    refine ⟨hR, ?_, fun j c hj hc => ?_⟩
    · show P'.2.1 286 40 = zi (min 60 V'.2.2.2)
      rw [hk 40 (by decide), hw]; exact r3
    · have hj : j < min 60 V'.2.2.2 := hj
      show P'.2.1 286 (41 + 3 * (min 60 V'.2.2.2 - 1 - j) + c) = (A.2.2 0).2 j c
      rw [hk _ (by omega)]
      rw [hw] at hj ⊢
      exact r4 j c hj hc
  · have hi : i < A.1 := hi
    show yRg (fun j => P'.2.1 289 (221 * (A.1 - 1 - i) + j)) (if i + 1 = 0 then (V', (A.2.2 0).2) else A.2.2 (i + 1))
    rw [if_neg (by omega), f.2.1 289 (by decide)]
    exact r5 i hi
theorem yR_coin {c : Int32} (hR : yR (P.2.1 286) V) : yR ((zp_sA P 286 38 c).2.1 286) (yks V c) := by
  refine ⟨fun k hk => ?_, fun p hp => ?_, zp_a9, (zp_a8 (by decide)).trans hR.2.2.2⟩
  · rw [zp_a8 (by omega), zp_a8 (by omega), zp_a8 (by omega), zp_a8 (by omega)]
    exact hR.1 k hk
  · rw [zp_a8 (by omega)]; exact hR.2.1 p hp
theorem yR_fit {k r q f f' : Nat} (hR : yR (P.2.1 286) V) (hk : k < 8) (hv : V.1 k = some (r, q, f)) : yR ((zp_sA P 286 (4 * k + 2) (zi f')).2.1 286) (ysp V k (some (r, q, f'))) := by
  refine ⟨fun k' hk' => ?_, fun p hp => ?_, (zp_a8 (by omega)).trans hR.2.2.1, (zp_a8 (by omega)).trans hR.2.2.2⟩
  · rw [zp_a8 (show 4 * k' + 3 ≠ 4 * k + 2 by omega), zp_a8 (show 4 * k' + 0 ≠ 4 * k + 2 by omega), zp_a8 (show 4 * k' + 1 ≠ 4 * k + 2 by omega)]
    show match (if k' = k then some (r, q, f') else V.1 k') with | none => _ | some (r, q, f) => _
    by_cases z : k' = k
    · simp only [if_pos z]
      obtain ⟨c1, c2, c3, c4⟩ := yR_p hR hk hv
      rw [z]
      exact ⟨c1, c2, zp_a9, c4⟩
    · simp only [if_neg z]
      rw [zp_a8 (show 4 * k' + 2 ≠ 4 * k + 2 by omega)]
      exact hR.1 k' hk'
  · rw [zp_a8 (by omega)]; exact hR.2.1 p hp
theorem yR_make {k r q f : Nat} (hR : yR (P.2.1 286) V) (hk : k < 8) : yR ((zp_sA (zp_sA (zp_sA (zp_sA P 286 (4 * k + 0) (zi r)) 286 (4 * k + 1) (zi q)) 286 (4 * k + 2) (zi f)) 286 (4 * k + 3) 1).2.1 286) (ysp V k (some (r, q, f))) := by
  have e : ∀ j, (zp_sA (zp_sA (zp_sA (zp_sA P 286 (4 * k + 0) (zi r)) 286 (4 * k + 1) (zi q)) 286 (4 * k + 2) (zi f)) 286 (4 * k + 3) 1).2.1 286 j = if j = 4 * k + 3 then 1 else if j = 4 * k + 2 then zi f else if j = 4 * k + 1 then zi q else if j = 4 * k + 0 then zi r else P.2.1 286 j := by
    intro j
    by_cases z3 : j = 4 * k + 3
    · rw [if_pos z3, z3]; exact zp_a9
    · rw [if_neg z3, zp_a8 z3]
      by_cases z2 : j = 4 * k + 2
      · rw [if_pos z2, z2]; exact zp_a9
      · rw [if_neg z2, zp_a8 z2]
        by_cases z1 : j = 4 * k + 1
        · rw [if_pos z1, z1]; exact zp_a9
        · rw [if_neg z1, zp_a8 z1]
          by_cases z0 : j = 4 * k + 0
          · rw [if_pos z0, z0]; exact zp_a9
          · rw [if_neg z0, zp_a8 z0]
  refine ⟨fun k' hk' => ?_, fun p hp => ?_, ?_, ?_⟩
  · have e0 := e (4 * k' + 0)
    have e1 := e (4 * k' + 1)
    have e2 := e (4 * k' + 2)
    have e3 := e (4 * k' + 3)
    show match (if k' = k then some (r, q, f) else V.1 k') with | none => _ | some (r, q, f) => _
    by_cases z : k' = k
    · simp only [if_pos z]
      rw [if_neg (by omega), if_neg (by omega), if_neg (by omega), if_pos (by omega)] at e0
      rw [if_neg (by omega), if_neg (by omega), if_pos (by omega)] at e1
      rw [if_neg (by omega), if_pos (by omega)] at e2
      rw [if_pos (by omega)] at e3
      exact ⟨e0, e1, e2, e3⟩
    · simp only [if_neg z]
      rw [if_neg (by omega), if_neg (by omega), if_neg (by omega), if_neg (by omega)] at e0 e1 e2 e3
      rw [e0, e1, e2, e3]
      exact hR.1 k' hk'
  · rw [e, if_neg (by omega), if_neg (by omega), if_neg (by omega), if_neg (by omega)]; exact hR.2.1 p hp
  · rw [e, if_neg (by omega), if_neg (by omega), if_neg (by omega), if_neg (by omega)]; exact hR.2.2.1
  · rw [e, if_neg (by omega), if_neg (by omega), if_neg (by omega), if_neg (by omega)]; exact hR.2.2.2
theorem yO_sp {k : Nat} {o : Option (Nat × Nat × Nat)} (hO : yO np V) (ho : ∀ r q f, o = some (r, q, f) → r < np ∧ q < np ∧ r ≠ q ∧ f < 10) : yO np (ysp V k o) := by
  refine ⟨fun k' r q f hk hv => ?_, hO.2⟩
  have hv : (if k' = k then o else V.1 k') = some (r, q, f) := hv
  by_cases z : k' = k
  · rw [if_pos z] at hv; exact ho r q f hv
  · rw [if_neg z] at hv; exact hO.1 k' r q f hk hv
theorem yB_gall {p h : Nat} (hB : yB np V) (hp : p < np) (hh : h ≤ 99) : yB np (ysg' V p (zi h)) := by
  refine ⟨fun p' hp' => ?_, fun p' h1 h2 => ?_, hB.2.2⟩
  · show ¬ (if p' = p then zi h else V.2.1 p') < 0 ∧ ¬ 99 < (if p' = p then zi h else V.2.1 p')
    by_cases z : p' = p
    · rw [if_pos z]; exact ⟨zi_n (by omega), fun w => absurd ((zi_l (i := 99) (by decide) (by omega)).mp w) (by omega)⟩
    · rw [if_neg z]; exact hB.1 p' hp'
  · show (if p' = p then zi h else V.2.1 p') = 0
    rw [if_neg (by omega)]; exact hB.2.1 p' h1 h2
/-- an act done by both sides: kept, then the stand and the row changed -/
theorem yOK_act {c r : Nat} {as : List Value} {nl : Nat} {L : Nat → Nat × Nat × Nat} {c0 : Int32} {v : Int32} {V' : yV} (h0 : 300 ≤ n.1) (hP : yP P n.1 T V nl L c0) (hO' : yO T.1 V') (hB' : yB T.1 V') (hw : V'.2.2.2 = V.2.2.2)
    (h1 : ∀ P1 : zp, yJ P1 n.1 T nl L c0 → yC P1 35 V → zk_sm (d + 19) m_Past_keep [.ref 40, .ref 35] (zp_M P, n) = some (none, (zp_M P1, n)) → ∃ P2, zk_sm (d + 20) c (.ref 12 :: as) (zp_M P, n) = some (some (.int v), (zp_M P2, n)) ∧ yC P2 35 V' ∧ yF (ybj 35) (ybk 35) P1 P2)
    (h2 : ∀ P2 P3 : zp, yJ P2 n.1 T nl L c0 → yR (P2.2.1 286) V → yTR P3 T → yR (P3.2.1 286) V → zk_sm (d + 19) m_R_keep [.ref 269] (zp_M P2, n) = some (none, (zp_M P3, n)) → ∃ P4, zk_sm (d + 20) r (.ref 269 :: as) (zp_M P2, n) = some (some (.int v), (zp_M P4, n)) ∧ yR (P4.2.1 286) V' ∧ yF [] [286] P3 P4 ∧ ∀ j, 40 ≤ j → P4.2.1 286 j = P3.2.1 286 j) : yOK (d + 20) P n c r as := by
  obtain ⟨A, a0, aC, aR, aS⟩ := yA_o hP.2.1
  obtain ⟨P1, e1, c1, f1⟩ := zs_keep (d := d + 15) (n := n) aC aS.1 aS.2.1
  obtain ⟨P2, e2, y2, f2⟩ := h1 P1 (yJ_A f1 hP.1) (by rw [← a0]; exact c1.2.2.2.1) e1
  have c2 := yAC_st c1 f2 y2 (by rw [hw, ← a0]; rfl)
  have f12 : yF yfA ykA P P2 := yF_t f1 (yF_35 f2)
  have hJ2 := yJ_A f12 hP.1
  have aR2 := yAR_A f12 aR
  obtain ⟨P3, e3, r3, f3⟩ := zs_Rkeep (d := d + 19) (n := n) aR2 aS.1
  obtain ⟨P4, e4, y4, f4, k4⟩ := h2 P2 P3 hJ2 (by rw [← a0]; exact aR2.2.1.1) (yTR_F (by decide) f3 hJ2.2.1) (by rw [← a0]; exact r3.2.1.1) e3
  have r4 := yAR_st r3 f4 k4 y4 (by rw [hw, ← a0]; rfl)
  have f34 : yF yfR ykR P2 P4 := yF_t f3 (yF_m f4 (fun _ h => by cases h) (fun k hk => by simp only [List.mem_cons, List.not_mem_nil, or_false] at hk ⊢; omega))
  exact yOK_q e2 e4 (yI_acts h0 hP.1 hP.2.2 f12 c2 f34 r4 (yAS_k aS hO' hB' (by show (A.2.2 0).1.2.2.2 ≤ V'.2.2.2; rw [hw, a0]; exact Nat.le_refl _) (by show V'.2.2.2 ≤ (A.2.2 0).1.2.2.2 + 1; rw [hw, a0]; exact Nat.le_succ _)))
end
