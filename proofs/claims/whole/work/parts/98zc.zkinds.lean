/-! PARSING 19: counties: the three kinds of clauses, by both sides -/
def zn (x : Int32) : Nat := x.toNatClampNeg
theorem zn_i {w : Int32} {x b : Nat} (hx : x ≤ b) (hb : b < 10000) (e : w = zi x) : w = zi (zn w) ∧ zn w ≤ b := by
  have h : zn w = x := by rw [e]; exact zi_c (by omega)
  rw [h]; exact ⟨e, hx⟩
theorem zi_3m (i : Nat) : 3 * zi i = zi (3 * i) := by
  show Int32.ofNat 3 * Int32.ofNat i = _
  rw [← Int32.ofNat_mul]
section
variable {n : Nat × Nat} {L len m : Nat} {xs : Nat → Int32} {B : Nat → Nat}
theorem zs_at0 {P : zp} {d r k i : Nat} (h : zp_ad r = (0, k)) (hi : i < k) (hk : k < 2 ^ 31) : zk_sm d m_SaddlerKnows_at [.ref r, .int (zi i)] (zp_M P, n) = some (some (.int (P.2.1 r i)), (zp_M P, n)) := by
  rw [zs_at h hk, zp_gi hi hk]
theorem zs_put0 {P : zp} {d r k i : Nat} {x : Int32} (h : zp_ad r = (0, k)) (hi : i < k) (hk : k < 2 ^ 31) : zk_sm d m_SaddlerKnows_put [.ref r, .int (zi i), .int x] (zp_M P, n) = some (none, (zp_M (zp_sA P r i x), n)) := by
  rw [zs_put h hk, zp_pi hi hk]
set_option maxHeartbeats 1000000 in
theorem yZ_s {D : yD} (hB : ∀ i, i < len → 1 ≤ B i ∧ B i < 256) (h240 : len ≤ 240) (hv : yDv D) (hm : m ≤ len) (hc : yhb B len (ysk B len m) = 115) (ht : D.1.2.2 = false) : ∃ o, yZc n L xs B len D m o := by
  have sg := @ysk_ge B len m
  have hlt : ysk B len m < len := yhb_n (c := 115) (by decide) hc (by decide)
  obtain ⟨o1, ⟨o2, o3⟩, oC, oR⟩ := yR_bi (n := n) (L := L) (xs := xs) (to := 280) (fr := 0) (tm := 2) hB h240 yK_1 (Or.inl ⟨rfl, rfl⟩) zz_a280 (by decide) (by decide) (by decide) hlt
  obtain ⟨v1, v2, v3, v4⟩ := hv
  refine ⟨(o1.1, o1.2.map fun w => ((zn (w 0), w 1, true), D.2)), ⟨o2, fun D' hD' => ?_⟩, fun P e he hT hmk hE hD => ?_, fun Q e v3 he hT hmk hw hD => ?_⟩
  · cases ho : o1.2 with
    | none => rw [ho] at hD'; cases hD'
    | some w =>
      rw [ho] at hD'
      cases hD'
      obtain ⟨a, b, c⟩ := o3 w ho
      obtain ⟨x0, y0, z0⟩ := yZ_v (c := 2) (b := 9) rfl (by decide) rfl (by decide) (c 0 (by decide))
      exact ⟨by show m < o1.1; omega, b, (zn_i y0 (by decide) z0).2, v2, v3, v4⟩
  · obtain ⟨e, rfl⟩ : ∃ e', e = e' + 2 := ⟨e - 2, by omega⟩
    obtain ⟨P1, e1, g1, f1⟩ := zs_sign (d := e + 1) (n := n) hT hmk hm
    have D1 := yDp_F (by decide) (by decide) f1 hD
    obtain ⟨P2, P3, eb, ei, F3, g3, E3, X3⟩ := oC P1 e (by omega) (yTp_F (by decide) (by decide) f1 hT) g1 (zk_sm_k e1 hE)
    have D3 := yDp_F (by decide) (by decide) F3 D1
    have hs := e_CountyReader_readsRules e 15 (zp_M P1, n)
    rw [zp_Zv, Option.bind_some, show zk_sm e m_CountyReader_begin [.ref 15, .int 2, .int 20, .int 0] (zp_M P1, n) = _ from eb, zs_cV, Option.bind_some, zp_Zv, Option.bind_some, ei, zs_cI, Option.bind_some] at hs
    have hr : ∀ {v : Int32} {s : zk_S}, zk_sm (e + 1) m_CountyReader_readsRules [.ref 15] (zp_M P1, n) = some (some (.int v), s) → zk_sm (e + 2) m_CountyReader_readsClause [.ref 15] (zp_M P, n) = if v = 0 then some (some (.int 0), s) else some (some (.int 1), s) := by
      intro v s h
      rw [e_CountyReader_readsClause, zp_Z1, Option.bind_some, zp_Pv', Option.bind_some, e1, zs_cI, Option.bind_some, hc, if_neg (show ¬ (115 : Int32) = 108 by decide), if_neg (show ¬ (115 : Int32) = 112 by decide), if_pos rfl, zz_Z3, Option.bind_some, D1.2.2.1, ht, if_pos (show zp_b false = 0 from rfl), zp_Zv, Option.bind_some, h, zs_cI, Option.bind_some]
    cases ho : o1.2 with
    | none =>
      rw [show yobi o1 = 0 by unfold yobi; rw [ho], if_pos rfl] at hs
      exact ⟨P3, (hr hs).trans (if_pos rfl), yF_t (yF_Z1 f1) (yF_Z2 F3), g3, E3, fun D' hD' => by cases hD'⟩
    | some w =>
      have row := X3 w ho
      rw [show yobi o1 = 1 by unfold yobi; rw [ho], if_neg zi_1n, zp_Z2, Option.bind_some, show zk_sm e m_SaddlerKnows_at [.ref 23, .int 0] (zp_M P3, n) = _ from zs_at0 (i := 0) zp_a23 (by decide) (by decide), zs_cI, Option.bind_some, zp_Z2, Option.bind_some, show zk_sm e m_SaddlerKnows_at [.ref 23, .int 1] (zp_M P3, n) = _ from zs_at0 (i := 1) zp_a23 (by decide) (by decide), zs_cI, Option.bind_some, zp_Zv, Option.bind_some, zs_keepR, zs_cV, Option.bind_some, zz_Z3p, Option.bind_some, row 0 (by decide), row 1 (by decide)] at hs
      have E4 := zk_sm_k (hr hs |>.trans (if_neg zi_1n)) hE
      refine ⟨_, (hr hs).trans (if_neg zi_1n), yF_t (yF_t (yF_Z1 f1) (yF_Z2 F3)) (yF_t (yF_t (yF_f (by decide)) (yF_f (by decide))) (yF_f (by decide))), ?_, E4, fun D' hD' => ?_⟩
      · rw [zp_f8 (by decide), zp_f8 (by decide), zp_f8 (by decide)]; exact g3
      · cases hD'
        obtain ⟨-, -, c⟩ := o3 w ho
        obtain ⟨x0, y0, z0⟩ := yZ_v (c := 2) (b := 9) rfl (by decide) rfl (by decide) (c 0 (by decide))
        obtain ⟨d1, d2, d3, d4, d5, d6, d7⟩ := D3
        refine ⟨?_, ?_, zp_f9, ?_, ?_, d6, d7⟩
        · rw [zp_f8 (by decide), zp_f8 (by decide), zp_f9]; exact (zn_i y0 (by decide) z0).1
        · rw [zp_f8 (by decide), zp_f9]
        · rw [zp_f8 (by decide), zp_f8 (by decide), zp_f8 (by decide)]; exact d4
        · rw [zp_f8 (by decide), zp_f8 (by decide), zp_f8 (by decide)]; exact d5
  · obtain ⟨e, rfl⟩ : ∃ e', e = e' + 1 := ⟨e - 1, by omega⟩
    obtain ⟨Q1, e1, g1, f1⟩ := zs_Rlook (d := e) (n := n) hT hmk (by omega)
    obtain ⟨Q2, hQ2⟩ : ∃ Q2, Q2 = zp_sF Q1 269 3 (zi (ysk B len m + 1)) := ⟨_, rfl⟩
    have f2 : yF [(269, 3)] [] Q Q2 := by rw [hQ2]; exact yF_t f1 (yF_f (by decide))
    obtain ⟨Q3, e3, F3, K3, s3⟩ := oR Q2 (e + 1) (by omega) (yTq_F (by decide) (by decide) f2 hT) (by rw [hQ2]; exact zp_f9) ((f2.1 269 4 (by decide)).trans hw)
    obtain ⟨d1, d2, d3, d4, d5, d6⟩ := yDq_F (by decide) (by decide) f2 hD
    have fin : zk_sf (e + 1 + 1) m_R_readCounty 49 [.ref 269, .int (zp_b D.1.2.2), .int 1, v3] [] (zp_M Q, n) = zk_sf (e + 1 + 1) m_R_readCounty 214 [.ref 269, .int 1, .int 1, .int 115] [] (zp_M Q3, n) := by
      rw [e_R_readCounty_49, if_neg zi_1n, zp_R4', Option.bind_some, hw, if_pos rfl, zp_Rv, Option.bind_some, e1, zs_cI, Option.bind_some, hc, if_pos rfl, ht, if_pos (show zp_b false = 0 from rfl), zp_R3', Option.bind_some, g1, zi_s, zp_R3p, Option.bind_some, ← hQ2, zz_R17, Option.bind_some, zp_Rv, Option.bind_some, show zk_sm (e + 1) m_R_items [.ref 269, .int 115, .ref 280, .int 0, .int 2] (zp_M Q2, n) = _ from e3, zs_cV, Option.bind_some]
    refine ⟨Q3, 115, 1, fin, yF_t (yF_Y1 f2) (yF_Y2 (by decide) F3), ?_⟩
    unfold yqi at s3
    unfold yqd
    cases ho : o1.2 with
    | none => rw [ho] at s3; exact s3
    | some w =>
      rw [ho] at s3
      obtain ⟨a, b, c'⟩ := s3
      obtain ⟨-, -, c⟩ := o3 w ho
      obtain ⟨x0, y0, z0⟩ := yZ_v (c := 2) (b := 9) rfl (by decide) rfl (by decide) (c 0 (by decide))
      refine ⟨a, b, ⟨?_, ?_, ?_, ?_, fun p hp => ?_, fun l hl => ?_⟩, rfl⟩
      · exact (c' 0 (by decide)).trans (zn_i y0 (by decide) z0).1
      · exact c' 1 (by decide)
      · exact (F3.1 269 20 (by decide)).trans d3
      · exact (F3.1 269 21 (by decide)).trans d4
      · rw [F3.2.1 281 (by decide)]; exact d5 p hp
      · rw [F3.2.1 282 (by decide)]; exact d6 l hl
end
