/-! CALLS 25: isFit, by the reference; bits counted -/
section
variable {P : zp} {n : Nat × Nat} {d nl nn : Nat} {T : yT} {L : Nat → Nat × Nat × Nat} {c0 : Int32} {N : yNo}
theorem zs_RisFit (hT : yTR P T) (hp0 : 0 < T.1) (hr : yTr P nl L c0) (hN : yNR P nn N) (hB : yNB T.1 nn N) (hL : ∀ l, l < nl → (L l).1 < T.1 ∧ (L l).2.1 < T.1 ∧ (L l).1 ≠ (L l).2.1 ∧ (L l).2.2 < 10) {i f : Nat} (hi : i < nl) (hf : f < 10) : ∃ P', zk_sm (d + 11) m_R_isFit [.ref 269, .int (zi i), .int (zi f)] (zp_M P, n) = some (some (.int (zp_b (yok (yev T (ytf nl L c0 i f)) nn N))), (zp_M P', n)) ∧ (∀ w p, w ≤ 9 → p < 6 → P'.2.1 296 (6 * w + p) = (yev T (ytf nl L c0 i f) w).2.1 p) ∧ yF [(269, 32)] [278, 279, 288, 290, 296] P P' := by
  obtain ⟨P1, e1, g1, f1⟩ := zs_RlayGalls (n := n) (d := d) hT hp0 hr hL hi hf
  have N1 : yNR P1 nn N := by
    obtain ⟨n1, n2, n3⟩ := hN
    refine ⟨(f1.1 269 46 (by decide)).trans n1, n2, fun j hj => ?_⟩
    rw [f1.2.1 292 (by decide), f1.2.1 293 (by decide), f1.2.1 294 (by decide), f1.2.1 295 (by decide)]
    exact n3 j hj
  refine ⟨P1, ?_, g1, f1⟩
  rw [e_R_isFit, zp_Rv, Option.bind_some, e1, zs_cV, Option.bind_some, zs_RisFit8 (G := fun w p => (yev T (ytf nl L c0 i f) w).2.1 p) hT.2.1 g1 N1 hB]
  rfl
end
