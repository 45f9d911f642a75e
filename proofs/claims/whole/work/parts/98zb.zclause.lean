/-! PARSING 18: counties: a clause -/
abbrev yD : Type := (Nat × Int32 × Bool) × (Nat × (Nat → Nat → Int32)) × (Nat × (Nat → Nat × Nat × Nat))
/-- what the class has read of a county -/
def yDp (P : zp) (D : yD) : Prop := P.1 16 0 = zi D.1.1 ∧ P.1 16 1 = D.1.2.1 ∧ P.1 15 3 = zp_b D.1.2.2 ∧ P.1 16 2 = zi D.2.1.1 ∧ P.1 16 3 = zi D.2.2.1 ∧ (∀ p, p < D.2.1.1 → P.2.1 17 p = D.2.1.2 0 p ∧ P.2.1 18 p = D.2.1.2 1 p ∧ P.2.1 19 p = D.2.1.2 2 p) ∧ ∀ l, l < D.2.2.1 → P.2.1 20 l = zi (D.2.2.2 l).1 ∧ P.2.1 21 l = zi (D.2.2.2 l).2.1 ∧ P.2.1 22 l = zi (D.2.2.2 l).2.2
/-- what the reference has read of it -/
def yDq (Q : zp) (D : yD) : Prop := Q.2.1 280 0 = zi D.1.1 ∧ Q.2.1 280 1 = D.1.2.1 ∧ Q.1 269 20 = zi D.2.1.1 ∧ Q.1 269 21 = zi D.2.2.1 ∧ (∀ p, p < D.2.1.1 → Q.2.1 281 (3 * p + 0) = D.2.1.2 0 p ∧ Q.2.1 281 (3 * p + 1) = D.2.1.2 1 p ∧ Q.2.1 281 (3 * p + 2) = D.2.1.2 2 p) ∧ ∀ l, l < D.2.2.1 → Q.2.1 282 (3 * l + 0) = zi (D.2.2.2 l).1 ∧ Q.2.1 282 (3 * l + 1) = zi (D.2.2.2 l).2.1 ∧ Q.2.1 282 (3 * l + 2) = zi (D.2.2.2 l).2.2
def yDv (D : yD) : Prop := D.1.1 ≤ 9 ∧ D.2.1.1 ≤ 6 ∧ D.2.2.1 ≤ 8 ∧ ∀ l, l < D.2.2.1 → (D.2.2.2 l).1 ≤ 5 ∧ (D.2.2.2 l).2.1 ≤ 5 ∧ (D.2.2.2 l).2.2 ≤ 9
def yfZ : List (Nat × Nat) := [(13, 1), (15, 3), (16, 0), (16, 1), (16, 2), (16, 3)]
def ykZ : List Nat := [17, 18, 19, 20, 21, 22, 23]
def yfY : List (Nat × Nat) := [(269, 3), (269, 4), (269, 20), (269, 21)]
def ykY : List Nat := [280, 281, 282]
abbrev yPd : Type := Nat × Option yD
def yobd (o : yPd) : Int32 := match o.2 with | some _ => 1 | none => 0
/-- what a clause comes to, by the reference -/
def yqd (B : Nat → Nat) (len : Nat) (o : yPd) (Q' : zp) (tf : Int32) : Prop := match o.2 with
  | some D' => Q'.1 269 3 = zi o.1 ∧ Q'.1 269 4 = -1 ∧ yDq Q' D' ∧ tf = zp_b D'.1.2.2
  | none => Q'.1 269 4 = zi o.1 ∨ (Q'.1 269 4 = -1 ∧ Q'.1 269 3 = zi o.1 ∧ ysk B len o.1 = o.1 ∧ yhb B len o.1 ≠ -1 ∧ yhb B len o.1 ≠ 59)
/-- a clause, by both sides -/
def yZc (n : Nat × Nat) (L : Nat) (xs : Nat → Int32) (B : Nat → Nat) (len : Nat) (D : yD) (m : Nat) (o : yPd) : Prop := (o.1 ≤ len ∧ ∀ D', o.2 = some D' → m < o.1 ∧ ysk B len o.1 = o.1 ∧ yDv D') ∧
  (∀ (P : zp) (e : Nat), 20 ≤ e → yTp P B len → P.1 13 1 = zi m → zk_kE L xs (zp_M P, n) → yDp P D → ∃ P', zk_sm e m_CountyReader_readsClause [.ref 15] (zp_M P, n) = some (some (.int (yobd o)), (zp_M P', n)) ∧ yF yfZ ykZ P P' ∧ P'.1 13 1 = zi o.1 ∧ zk_kE L xs (zp_M P', n) ∧ ∀ D', o.2 = some D' → yDp P' D') ∧
  ∀ (Q : zp) (e : Nat) (v3 : Value), 20 ≤ e → yTq Q B len → Q.1 269 3 = zi m → Q.1 269 4 = -1 → yDq Q D → ∃ Q' c tf, zk_sf (e + 1) m_R_readCounty 49 [.ref 269, .int (zp_b D.1.2.2), .int 1, v3] [] (zp_M Q, n) = zk_sf (e + 1) m_R_readCounty 214 [.ref 269, .int tf, .int 1, .int c] [] (zp_M Q', n) ∧ yF yfY ykY Q Q' ∧ yqd B len o Q' tf
section
variable {n : Nat × Nat} {P : zp} {x : Int32}
theorem zz_Z3 : zk_gI (zp_M P, n) 15 0 3 = some (P.1 15 3) := zp_gI (by decide +kernel)
theorem zz_Z3p : zk_pf (zp_M P, n) 15 0 3 (.int x) = some (zp_M (zp_sF P 15 3 x), n) := zp_pI (by decide +kernel)
theorem zz_T2 : zk_gI (zp_M P, n) 16 10 2 = some (P.1 16 2) := zp_gI (by decide +kernel)
theorem zz_T3 : zk_gI (zp_M P, n) 16 10 3 = some (P.1 16 3) := zp_gI (by decide +kernel)
theorem zz_T0p : zk_pf (zp_M P, n) 16 10 0 (.int x) = some (zp_M (zp_sF P 16 0 x), n) := zp_pI (by decide +kernel)
theorem zz_T1p : zk_pf (zp_M P, n) 16 10 1 (.int x) = some (zp_M (zp_sF P 16 1 x), n) := zp_pI (by decide +kernel)
theorem zz_T2p : zk_pf (zp_M P, n) 16 10 2 (.int x) = some (zp_M (zp_sF P 16 2 x), n) := zp_pI (by decide +kernel)
theorem zz_T3p : zk_pf (zp_M P, n) 16 10 3 (.int x) = some (zp_M (zp_sF P 16 3 x), n) := zp_pI (by decide +kernel)
theorem zz_T4 : zk_gR (zp_M P, n) 16 10 4 = some 17 := zp_gR (by decide +kernel)
theorem zz_T5 : zk_gR (zp_M P, n) 16 10 5 = some 18 := zp_gR (by decide +kernel)
theorem zz_T6 : zk_gR (zp_M P, n) 16 10 6 = some 19 := zp_gR (by decide +kernel)
theorem zz_T7 : zk_gR (zp_M P, n) 16 10 7 = some 20 := zp_gR (by decide +kernel)
theorem zz_T8 : zk_gR (zp_M P, n) 16 10 8 = some 21 := zp_gR (by decide +kernel)
theorem zz_T9 : zk_gR (zp_M P, n) 16 10 9 = some 22 := zp_gR (by decide +kernel)
theorem zz_Tv : zk_rv (zp_M P, n) 16 10 = some () := zp_rv (by decide +kernel)
theorem zz_a17 : zp_ad 17 = (0, 6) := by decide +kernel
theorem zz_a18 : zp_ad 18 = (0, 6) := by decide +kernel
theorem zz_a19 : zp_ad 19 = (0, 6) := by decide +kernel
theorem zz_a20 : zp_ad 20 = (0, 8) := by decide +kernel
theorem zz_a21 : zp_ad 21 = (0, 8) := by decide +kernel
theorem zz_a22 : zp_ad 22 = (0, 8) := by decide +kernel
theorem zz_a280 : zp_ad 280 = (0, 2) := by decide +kernel
theorem zz_a281 : zp_ad 281 = (0, 18) := by decide +kernel
theorem zz_a282 : zp_ad 282 = (0, 24) := by decide +kernel
theorem zz_R17 : zk_gR (zp_M P, n) 269 12 17 = some 280 := zp_gR (by decide +kernel)
theorem zz_R18 : zk_gR (zp_M P, n) 269 12 18 = some 281 := zp_gR (by decide +kernel)
theorem zz_R19 : zk_gR (zp_M P, n) 269 12 19 = some 282 := zp_gR (by decide +kernel)
theorem zz_R20 : zk_gI (zp_M P, n) 269 12 20 = some (P.1 269 20) := zp_gI (by decide +kernel)
theorem zz_R21 : zk_gI (zp_M P, n) 269 12 21 = some (P.1 269 21) := zp_gI (by decide +kernel)
theorem zz_R20p : zk_pf (zp_M P, n) 269 12 20 (.int x) = some (zp_M (zp_sF P 269 20 x), n) := zp_pI (by decide +kernel)
theorem zz_R21p : zk_pf (zp_M P, n) 269 12 21 (.int x) = some (zp_M (zp_sF P 269 21 x), n) := zp_pI (by decide +kernel)
end
section
variable {n : Nat × Nat} {L len m : Nat} {xs : Nat → Int32} {B : Nat → Nat}
theorem zs_keepR {d : Nat} {P : zp} {x y : Int32} : zk_sm d m_CountyReader_keepRules [.ref 15, .int x, .int y] (zp_M P, n) = some (none, (zp_M (zp_sF (zp_sF P 16 0 x) 16 1 y), n)) := by
  rw [e_CountyReader_keepRules, zp_Z0, Option.bind_some, zz_T0p, Option.bind_some, zp_Z0, Option.bind_some, zz_T1p, Option.bind_some]
theorem yDp_F {D : yD} {P P' : zp} {fs : List (Nat × Nat)} {ks : List Nat} (hf : ∀ x, x ∈ [(15, 3), (16, 0), (16, 1), (16, 2), (16, 3)] → x ∉ fs) (hk : ∀ k, k ∈ [17, 18, 19, 20, 21, 22] → k ∉ ks) (f : yF fs ks P P') (h : yDp P D) : yDp P' D := by
  obtain ⟨a, b, c, d, e, g, i⟩ := h
  refine ⟨(f.1 _ _ (hf _ (by decide))).trans a, (f.1 _ _ (hf _ (by decide))).trans b, (f.1 _ _ (hf _ (by decide))).trans c, (f.1 _ _ (hf _ (by decide))).trans d, (f.1 _ _ (hf _ (by decide))).trans e, fun p hp => ?_, fun l hl => ?_⟩
  · rw [f.2.1 17 (hk _ (by decide)), f.2.1 18 (hk _ (by decide)), f.2.1 19 (hk _ (by decide))]; exact g p hp
  · rw [f.2.1 20 (hk _ (by decide)), f.2.1 21 (hk _ (by decide)), f.2.1 22 (hk _ (by decide))]; exact i l hl
theorem yDq_F {D : yD} {P P' : zp} {fs : List (Nat × Nat)} {ks : List Nat} (hf : ∀ x, x ∈ [(269, 20), (269, 21)] → x ∉ fs) (hk : ∀ k, k ∈ ykY → k ∉ ks) (f : yF fs ks P P') (h : yDq P D) : yDq P' D := by
  obtain ⟨a, b, c, d, g, i⟩ := h
  refine ⟨?_, ?_, (f.1 _ _ (hf _ (by decide))).trans c, (f.1 _ _ (hf _ (by decide))).trans d, fun p hp => ?_, fun l hl => ?_⟩
  · rw [f.2.1 280 (hk _ (by decide))]; exact a
  · rw [f.2.1 280 (hk _ (by decide))]; exact b
  · rw [f.2.1 281 (hk _ (by decide))]; exact g p hp
  · rw [f.2.1 282 (hk _ (by decide))]; exact i l hl
theorem yF_Z1 {P P' : zp} (f : yF [(13, 1)] [] P P') : yF yfZ ykZ P P' := yF_m f (fun x hx => by simp only [List.mem_cons, List.not_mem_nil, or_false] at hx; rw [hx]; decide) (fun _ h => by cases h)
theorem yF_Z2 {P P' : zp} (f : yF [(13, 1)] [23] P P') : yF yfZ ykZ P P' := yF_m f (fun x hx => by simp only [List.mem_cons, List.not_mem_nil, or_false] at hx; rw [hx]; decide) (fun x hx => by simp only [List.mem_cons, List.not_mem_nil, or_false] at hx; rw [hx]; decide)
theorem yF_Y1 {P P' : zp} (f : yF [(269, 3)] [] P P') : yF yfY ykY P P' := yF_m f (fun x hx => by simp only [List.mem_cons, List.not_mem_nil, or_false] at hx; rw [hx]; decide) (fun _ h => by cases h)
theorem yF_Y2 {P P' : zp} {t : Nat} (ht : t ∈ ykY) (f : yF [(269, 3), (269, 4)] [t] P P') : yF yfY ykY P P' := yF_m f (fun x hx => by simp only [List.mem_cons, List.not_mem_nil, or_false] at hx; rcases hx with rfl | rfl <;> decide) (fun x hx => by simp only [List.mem_cons, List.not_mem_nil, or_false] at hx; rw [hx]; exact ht)
/-- a value that an item may have -/
theorem yZ_v {w u hi : Int32} {b c : Nat} (hu : u = zi c) (hc : c ≤ b) (hb : hi = zi b) (hb2 : b < 10000) (h : w = u ∨ (¬ hi < w ∧ ∃ x, x < 10000 ∧ w = zi x)) : ∃ x, x ≤ b ∧ w = zi x := by
  rcases h with h | ⟨h, x, hx, e⟩
  · exact ⟨c, hc, h.trans hu⟩
  · refine ⟨x, ?_, e⟩
    rw [e, hb] at h
    by_cases z : x ≤ b
    · exact z
    · exact absurd ((zi_l (by omega) (by omega)).mpr (by omega)) h
theorem yhb_n {c : Nat} (hc : 1 ≤ c) (h : yhb B len m = zi c) (hc2 : c < 256) : m < len := yhb_lt h (zi_n1 (by omega))
/-- no clause begins so -/
theorem yZ_bad {D : yD} (hm : m ≤ len) (h1 : yhb B len (ysk B len m) = 115 → D.1.2.2 = true) (h2 : yhb B len (ysk B len m) = 112 → D.2.1.1 = 6) (h3 : yhb B len (ysk B len m) = 108 → D.2.2.1 = 8) : yZc n L xs B len D m (ysk B len m, none) := by
  have sl := ysk_le (B := B) hm
  refine ⟨⟨sl, fun D' h => by cases h⟩, fun P e he hT hmk hE hD => ?_, fun Q e v3 he hT hmk hw hD => ?_⟩
  · obtain ⟨e, rfl⟩ : ∃ e', e = e' + 1 := ⟨e - 1, by omega⟩
    obtain ⟨P1, e1, g1, f1⟩ := zs_sign (d := e) (n := n) hT hmk hm
    have D1 := yDp_F (by decide) (by decide) f1 hD
    refine ⟨P1, ?_, yF_Z1 f1, g1, zk_sm_k e1 hE, fun D' h => by cases h⟩
    rw [e_CountyReader_readsClause, zp_Z1, Option.bind_some, zp_Pv', Option.bind_some, e1, zs_cI, Option.bind_some]
    show _ = some (some (Value.int 0), _)
    by_cases z3 : yhb B len (ysk B len m) = 108
    · rw [if_pos z3, zp_Z0, Option.bind_some, zz_T3, Option.bind_some, D1.2.2.2.2.1, h3 z3, if_neg (by decide)]
    · rw [if_neg z3]
      by_cases z2 : yhb B len (ysk B len m) = 112
      · rw [if_pos z2, zp_Z0, Option.bind_some, zz_T2, Option.bind_some, D1.2.2.2.1, h2 z2, if_neg (by decide)]
      · rw [if_neg z2]
        by_cases z1 : yhb B len (ysk B len m) = 115
        · rw [if_pos z1, zz_Z3, Option.bind_some, D1.2.2.1, h1 z1, if_neg (by decide)]
        · rw [if_neg z1]
  · obtain ⟨e, rfl⟩ : ∃ e', e = e' + 1 := ⟨e - 1, by omega⟩
    obtain ⟨Q1, e1, g1, f1⟩ := zs_Rlook (d := e) (n := n) hT hmk (by omega)
    have D1 := yDq_F (by decide) (by decide) f1 hD
    have w1 : Q1.1 269 4 = -1 := (f1.1 269 4 (by decide)).trans hw
    have eb := zs_Rbad (d := e + 1) (n := n) g1 w1
    refine ⟨zp_sF Q1 269 4 (zi (ysk B len m)), yhb B len (ysk B len m), zp_b D.1.2.2, ?_, yF_t (yF_Y1 f1) (yF_f (by decide)), Or.inl zp_f9⟩
    rw [e_R_readCounty_49, if_neg zi_1n, zp_R4', Option.bind_some, hw, if_pos rfl, zp_Rv, Option.bind_some, e1, zs_cI, Option.bind_some]
    by_cases z1 : yhb B len (ysk B len m) = 115
    · rw [if_pos z1, h1 z1, if_neg (show ¬ zp_b true = 0 by decide), if_neg (fun z => absurd (z1.symm.trans z) (by decide)), if_neg (fun z => absurd (z1.symm.trans z) (by decide)), zp_Rv, Option.bind_some, eb, zs_cV, Option.bind_some]
    · rw [if_neg z1]
      by_cases z2 : yhb B len (ysk B len m) = 112
      · rw [if_pos z2, zz_R20, Option.bind_some, D1.2.2.1, h2 z2, if_neg (by decide), if_neg (fun z => absurd (z2.symm.trans z) (by decide)), zp_Rv, Option.bind_some, eb, zs_cV, Option.bind_some]
      · rw [if_neg z2]
        by_cases z3 : yhb B len (ysk B len m) = 108
        · rw [if_pos z3, zz_R21, Option.bind_some, D1.2.2.2.1, h3 z3, if_neg (by decide), zp_Rv, Option.bind_some, eb, zs_cV, Option.bind_some]
        · rw [if_neg z3, zp_Rv, Option.bind_some, eb, zs_cV, Option.bind_some]
end
