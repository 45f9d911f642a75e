/-! PARSING 23: counties: from the start; the call fault of a county -/
def yD0 : yD := ((2, 20, false), (0, fun _ _ => 0), (0, fun _ => (0, 0, 0)))
theorem zk_kE_F {L : Nat} {xs : Nat → Int32} {P P' : zp} {n n' : Nat × Nat} (h : P'.2.2.2.2 = P.2.2.2.2) (hn : n.1 ≤ n'.1) (hE : zk_kE L xs (zp_M P, n)) : zk_kE L xs (zp_M P', n') := by
  refine ⟨Nat.le_trans hE.1 hn, fun k hk => ?_⟩
  have h1 := hE.2 k hk
  have e : ∀ X : zp, zp_M X k = X.2.2.2.2 k := fun X => if_neg (fun z => absurd z.1 (by omega))
  show zp_M P' k = _
  rw [e, h, ← e P]
  exact h1
theorem yK_B {P : zp} (h : yK P) : ∃ len B, yTp P B len ∧ yTq P B len ∧ len ≤ 240 ∧ ∀ i, i < len → 1 ≤ B i ∧ B i < 256 := by
  obtain ⟨-, -, len, l1, l2, l3, l4⟩ := h
  have hB : ∀ i, i < len → P.2.1 14 i = zi (zn (P.2.1 14 i)) ∧ 1 ≤ zn (P.2.1 14 i) ∧ zn (P.2.1 14 i) < 256 := fun i hi => by
    obtain ⟨-, c, c1, c2, e⟩ := l4 i hi
    have h : zn (P.2.1 14 i) = c := by rw [e]; exact zi_c (by omega)
    rw [h]; exact ⟨e, c1, c2⟩
  refine ⟨len, fun i => zn (P.2.1 14 i), ⟨l2, l1, hB⟩, ⟨l3, l1, fun i hi => ?_⟩, l1, fun i hi => (hB i hi).2⟩
  rw [← (l4 i hi).1]; exact hB i hi
section
variable {n : Nat × Nat} {L len : Nat} {xs : Nat → Int32} {B : Nat → Nat}
theorem yZ_county (hB : ∀ i, i < len → 1 ≤ B i ∧ B i < 256) (h240 : len ≤ 240) : ∃ o : yPd, (o.1 ≤ len ∧ ∀ D', o.2 = some D' → yDv D' ∧ yWh D') ∧ (∀ (P : zp) (e : Nat), 24 ≤ e → yTp P B len → zk_kE L xs (zp_M P, n) → ∃ P', zk_sm e m_CountyReader_firstFault [.ref 15] (zp_M P, n) = some (some (.int (yovd o)), (zp_M P', n)) ∧ yF yfZ ykZ P P' ∧ ∀ D', o.2 = some D' → yDp P' D') ∧ ∀ (Q : zp) (e : Nat), 24 ≤ e → yTq Q B len → ∃ Q', zk_sm e m_R_readCounty [.ref 269] (zp_M Q, n) = some (some (.int (yovd o)), (zp_M Q', n)) ∧ yF yfY ykY Q Q' ∧ ∀ D', o.2 = some D' → yDq Q' D' := by
  obtain ⟨o, o1, oC, oR⟩ := yZ_w (n := n) (L := L) (xs := xs) hB h240 len 0 0 yD0 rfl (Nat.zero_le _) (Nat.le_refl _) ⟨by decide, by decide, by decide, fun l hl => absurd hl (Nat.not_lt_zero l)⟩
  refine ⟨o, o1, fun P e he hT hE => ?_, fun Q e he hT => ?_⟩
  · obtain ⟨e, rfl⟩ : ∃ e', e = e' + 1 := ⟨e - 1, by omega⟩
    obtain ⟨P1, hP1⟩ : ∃ P1, P1 = zp_sF (zp_sF (zp_sF (zp_sF (zp_sF (zp_sF P 16 2 0) 16 3 0) 15 3 0) 16 0 2) 16 1 20) 13 1 0 := ⟨_, rfl⟩
    have f1 : yF yfZ ykZ P P1 := by rw [hP1]; exact yF_t (yF_t (yF_t (yF_t (yF_t (yF_f (by decide)) (yF_f (by decide))) (yF_f (by decide))) (yF_f (by decide))) (yF_f (by decide))) (yF_f (by decide))
    have D1 : yDp P1 yD0 := by
      rw [hP1]
      exact ⟨rfl, rfl, rfl, rfl, rfl, fun p hp => absurd hp (Nat.not_lt_zero p), fun p hp => absurd hp (Nat.not_lt_zero p)⟩
    have E1 : zk_kE L xs (zp_M P1, n) := zk_kE_F (by rw [hP1]; rfl) (Nat.le_refl _) hE
    obtain ⟨P2, e2, F2, X2⟩ := oC P1 e (by omega) (yTp_F (by decide) (by decide) f1 hT) (by rw [hP1]; rfl) E1 D1
    refine ⟨P2, ?_, yF_t f1 F2, X2⟩
    rw [e_CountyReader_firstFault, zp_Z0, Option.bind_some, zz_T2p, Option.bind_some, zp_Z0, Option.bind_some, zz_T3p, Option.bind_some, zz_Z3p, Option.bind_some, zp_Zv, Option.bind_some, zs_keepR, zs_cV, Option.bind_some, zp_Z1, Option.bind_some, zp_P1p, Option.bind_some, ← hP1]
    exact e2
  · obtain ⟨e, rfl⟩ : ∃ e', e = e' + 1 := ⟨e - 1, by omega⟩
    obtain ⟨Q1, hQ1⟩ : ∃ Q1, Q1 = zp_sA (zp_sA (zp_sF (zp_sF (zp_sF (zp_sF Q 269 3 0) 269 4 (-1)) 269 20 0) 269 21 0) 280 0 2) 280 1 20 := ⟨_, rfl⟩
    have f1 : yF yfY ykY Q Q1 := by rw [hQ1]; exact yF_t (yF_t (yF_t (yF_t (yF_t (yF_f (by decide)) (yF_f (by decide))) (yF_f (by decide))) (yF_f (by decide))) (yF_A (by decide))) (yF_A (by decide))
    have D1 : yDq Q1 yD0 := by
      rw [hQ1]
      exact ⟨rfl, rfl, rfl, rfl, fun p hp => absurd hp (Nat.not_lt_zero p), fun p hp => absurd hp (Nat.not_lt_zero p)⟩
    obtain ⟨Q2, e2, F2, X2⟩ := oR Q1 e (.retAddr 0) (by omega) (yTq_F (by decide) (by decide) f1 hT) (by rw [hQ1]; rfl) (by rw [hQ1]; rfl) D1
    refine ⟨Q2, ?_, yF_t f1 F2, X2⟩
    have u0 : ∀ s : zk_S, zk_sm e m_R_usual [.int 115, .int 0] s = some (some (.int 2), s) := fun s => zs_usual (i := 0) (Or.inl ⟨rfl, by decide⟩)
    have u1 : ∀ s : zk_S, zk_sm e m_R_usual [.int 115, .int (0 + 1)] s = some (some (.int 20), s) := fun s => zs_usual (i := 1) (Or.inl ⟨rfl, by decide⟩)
    have t0 : ∀ {X : zp} {x : Int32}, zk_stI (zp_M X, n) 280 0 x = some (zp_M (zp_sA X 280 0 x), n) := zp_sti (i := 0) zz_a280 (by decide) (by decide)
    have t1 : ∀ {X : zp} {x : Int32}, zk_stI (zp_M X, n) 280 (0 + 1) x = some (zp_M (zp_sA X 280 1 x), n) := zp_sti (i := 1) zz_a280 (by decide) (by decide)
    rw [e_R_readCounty, zp_R3p, Option.bind_some, zp_R4p, Option.bind_some, zz_R20p, Option.bind_some, zz_R21p, Option.bind_some, e_R_readCounty_24, if_pos (by decide), zz_R17, Option.bind_some, u0, zs_cI, Option.bind_some, t0, Option.bind_some, e_R_readCounty_24, if_pos (by decide), zz_R17, Option.bind_some, u1, zs_cI, Option.bind_some, t1, Option.bind_some, e_R_readCounty_24, if_neg (by decide), ← hQ1]
    exact e2
end
theorem ySc_Z : ySc yfZ ykZ := ⟨by decide, by decide, by decide, by decide, by decide, by decide⟩
theorem ySc_Y : ySc yfY ykY := ⟨by decide, by decide, by decide, by decide, by decide, by decide⟩
section
variable {n : Nat × Nat} {P : zp}
theorem zz_C1 : zk_gR (zp_M P, n) 12 11 1 = some 15 := zp_gR (by decide +kernel)
theorem zz_C2 : zk_gR (zp_M P, n) 12 11 2 = some 24 := zp_gR (by decide +kernel)
theorem zz_Cv : zk_rv (zp_M P, n) 12 11 = some () := zp_rv (by decide +kernel)
theorem yc_fault0 {L d : Nat} {xs : Nat → Int32} (hI : yI P n.1) (hE : zk_kE L xs (zp_M P, n)) : yOK (d + 90) P n m_SaddlerKnows_fault m_R_fault [.int 0] := by
  obtain ⟨h300, T, V, nl, M, c0, hP⟩ := hI
  obtain ⟨len, B, hT, hQ, h240, hB⟩ := yK_B hP.2.2
  obtain ⟨o, o1, oC, oR⟩ := yZ_county (n := n) (L := L) (xs := xs) hB h240
  obtain ⟨P1, e1, F1, -⟩ := oC P (d + 89) (by omega) hT hE
  obtain ⟨P2, e2, F2, -⟩ := oR P1 (d + 89) (by omega) (yTq_F (by decide) (by decide) F1 hQ)
  refine yOK_q (v := yovd o) (P1 := P1) (P2 := P2) ?_ ?_ ⟨h300, T, V, nl, M, c0, yP_F ySc_Y F2 (yP_F ySc_Z F1 hP)⟩
  · rw [e_SaddlerKnows_fault, if_pos rfl, zz_C1, Option.bind_some, zp_Zv, Option.bind_some, e1, zs_cI, Option.bind_some]
  · rw [e_R_fault, if_pos rfl, zp_Rv, Option.bind_some, e2, zs_cI, Option.bind_some]
end
