/-! CALLS 27: which fits -/
def yfz (B : Nat → Bool) (k : Int32) : Nat → Nat → Nat → Int32
  | 0, _, c => if k = -1 then zi c else -1
  | j + 1, f, c => if B f = true then (if zi c = k then zi f else yfz B k j (f + 1) (c + 1)) else yfz B k j (f + 1) c
theorem yfz_s {B : Nat → Bool} {k : Int32} {j f c : Nat} : yfz B k (j + 1) f c = if B f = true then (if zi c = k then zi f else yfz B k j (f + 1) (c + 1)) else yfz B k j (f + 1) c := rfl
theorem yfz_0 {B : Nat → Bool} {k : Int32} {f c : Nat} : yfz B k 0 f c = if k = -1 then zi c else -1 := rfl
theorem yfz_1 {B : Nat → Bool} : ∀ (j f c : Nat), c + j < 100 → yfz B (-1) j f c = (List.range' f j).foldl (fun a f => if B f = true then a + 1 else a) (zi c)
  | 0, f, c, h => rfl
  | j + 1, f, c, h => by
    show (if B f = true then (if zi c = -1 then zi f else yfz B (-1) j (f + 1) (c + 1)) else yfz B (-1) j (f + 1) c) = (List.range' (f + 1) j).foldl _ (if B f = true then zi c + 1 else zi c)
    rw [if_neg (zi_n1 (by omega)), zi_s]
    by_cases z : B f = true
    · rw [if_pos z, if_pos z]; exact yfz_1 j (f + 1) (c + 1) (by omega)
    · rw [if_neg z, if_neg z]; exact yfz_1 j (f + 1) c (by omega)
theorem yfz_n {B : Nat → Bool} {k : Int32} (h1 : ¬ k = -1) (h0 : k < 0) : ∀ (j f c : Nat), c + j < 100 → yfz B k j f c = -1
  | 0, f, c, h => if_neg h1
  | j + 1, f, c, h => by
    have hz : ¬ zi c = k := fun z => zi_n (i := c) (by omega) (by rw [z]; exact h0)
    rw [yfz_s, if_neg hz, yfz_n h1 h0 j (f + 1) (c + 1) (by omega), yfz_n h1 h0 j (f + 1) c (by omega)]
    by_cases z : B f = true
    · rw [if_pos z]
    · rw [if_neg z]
section
variable {P : zp} {n : Nat × Nat} {d nl nn : Nat} {T : yT} {L : Nat → Nat × Nat × Nat} {c0 : Int32} {N : yNo}
abbrev yg6 : List Nat := [278, 279, 288, 290, 296]
theorem yTr_g {P' : zp} (f : yF [(269, 32)] yg6 P P') (h : yTr P nl L c0) : yTr P' nl L c0 := by
  obtain ⟨s1, s2, s3, s4⟩ := h
  refine ⟨(f.1 269 26 (by decide)).trans s1, s2, fun l hl => ?_, ?_⟩
  · rw [f.2.1 285 (by decide)]; exact s3 l hl
  · rw [f.2.1 283 (by decide)]; exact s4
theorem yNR_g {P' : zp} (f : yF [(269, 32)] yg6 P P') (h : yNR P nn N) : yNR P' nn N := by
  obtain ⟨n1, n2, n3⟩ := h
  refine ⟨(f.1 269 46 (by decide)).trans n1, n2, fun i hi => ?_⟩
  rw [f.2.1 292 (by decide), f.2.1 293 (by decide), f.2.1 294 (by decide), f.2.1 295 (by decide)]
  exact n3 i hi
theorem zs_Rfits20 (hp0 : 0 < T.1) (hB : yNB T.1 nn N) (hL : ∀ l, l < nl → (L l).1 < T.1 ∧ (L l).2.1 < T.1 ∧ (L l).1 ≠ (L l).2.1 ∧ (L l).2.2 < 10) {i : Nat} (hi : i < nl) {k : Int32} : ∀ (j f c : Nat) (P : zp), f + j = 10 → c ≤ f → yTR P T → yTr P nl L c0 → yNR P nn N → ∃ P', zk_sf (d + 12) m_R_fits 20 [.ref 269, .int (zi i), .int k, .int (zi c), .int (zi f)] [] (zp_M P, n) = some (some (.int (yfz (fun f => yok (yev T (ytf nl L c0 i f)) nn N) k j f c)), (zp_M P', n)) ∧ yF [(269, 32)] yg6 P P'
  | 0, f, c, P, hf, hc, hT, hr, hN => by
    have hf : f = 10 := hf
    subst hf
    refine ⟨P, ?_, yF_r⟩
    rw [e_R_fits_20, if_pos (by decide)]
    rw [yfz_0]
    by_cases z : k = -1
    · rw [if_pos z, if_pos z]
    · rw [if_neg z, if_neg z]
  | j + 1, f, c, P, hf, hc, hT, hr, hN => by
    obtain ⟨P1, e1, -, f1⟩ := zs_RisFit (d := d) (n := n) hT hp0 hr hN hB hL hi (f := f) (by omega)
    have T1 : yTR P1 T := yTR_F (by decide) f1 hT
    have r1 := yTr_g f1 hr
    have N1 := yNR_g f1 hN
    rw [yfz_s]
    rw [e_R_fits_20, if_neg (show ¬ (9 : Int32) < zi f from fun z => absurd ((zi_l (i := 9) (by decide) (by omega)).mp z) (by omega)), zp_Rv, Option.bind_some, e1, zs_cI, Option.bind_some, zp_ib]
    cases hb : yok (yev T (ytf nl L c0 i f)) nn N with
    | false =>
      obtain ⟨P2, e2, f2⟩ := zs_Rfits20 hp0 hB hL hi (k := k) j (f + 1) c P1 (by omega) (by omega) T1 r1 N1
      refine ⟨P2, ?_, yF_t f1 f2⟩
      rw [cond_false, if_neg Bool.false_ne_true, zi_s, e2]
    | true =>
      by_cases z : zi c = k
      · refine ⟨P1, ?_, f1⟩
        rw [cond_true, if_pos z, if_pos rfl, if_pos z]
      · obtain ⟨P2, e2, f2⟩ := zs_Rfits20 hp0 hB hL hi (k := k) j (f + 1) (c + 1) P1 (by omega) (by omega) T1 r1 N1
        refine ⟨P2, ?_, yF_t f1 f2⟩
        rw [cond_true, if_neg z, if_pos rfl, if_neg z, zi_s, zi_s, e2]
theorem zs_fit17 {B : Nat → Bool} {k : Int32} (hk : ¬ k = -1) (hx : ∀ f, f < 10 → yb_t (P.1 249 8) f = B f) : ∀ (j f c : Nat), f + j = 10 → zk_sf (d + 1) m_Seeing_fitting 17 [.ref 249, .int k, .int (zi c), .int (zi f)] [] (zp_M P, n) = some (some (.int (yfz B k j f c)), (zp_M P, n))
  | 0, f, c, hf => by
    have hf : f = 10 := hf
    subst hf
    rw [e_Seeing_fitting_17, if_neg (by decide)]
    rw [yfz_0]
    rw [if_neg hk]
  | j + 1, f, c, hf => by
    rw [yfz_s]
    have i1 := zs_fit17 hk hx j (f + 1) c (by omega)
    have i2 := zs_fit17 hk hx j (f + 1) (c + 1) (by omega)
    have hs := e_Seeing_fitting_17 d 249 k (zi c) (zi f) (zp_M P, n)
    rw [if_pos (show zi f < 10 from zi_10 (by omega)), zp_N8, Option.bind_some, zs_hasBit, zs_cI, Option.bind_some, zp_ib, yb_bit (by omega), hx f (by omega)] at hs
    rw [hs]
    cases B f with
    | false => rw [cond_false, if_neg Bool.false_ne_true, zi_s, i1]
    | true =>
      rw [cond_true, if_pos rfl]
      by_cases z : zi c = k
      · rw [if_pos z, if_pos z]
      · rw [if_neg z, if_neg z, zi_s, zi_s, i2]
end
