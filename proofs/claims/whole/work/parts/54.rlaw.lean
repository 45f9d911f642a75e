/-! SPECS 13: what may change (frames); a law's worth, by the reference -/
/-- only these fields and these cells changed; laws are laws -/
def yF (fs : List (Nat × Nat)) (ks : List Nat) (P P' : zp) : Prop := (∀ k j, (k, j) ∉ fs → P'.1 k j = P.1 k j) ∧ (∀ k, k ∉ ks → P'.2.1 k = P.2.1 k) ∧ (∀ k, P'.2.2.1 k = P.2.2.1 k) ∧ P'.2.2.2.1 = P.2.2.2.1 ∧ yG P.2.2.2.2 P'.2.2.2.2
theorem yF_r {fs : List (Nat × Nat)} {ks : List Nat} {P : zp} : yF fs ks P P := ⟨fun _ _ _ => rfl, fun _ _ => rfl, fun _ => rfl, rfl, yG_r⟩
theorem yF_t {fs : List (Nat × Nat)} {ks : List Nat} {P P' P'' : zp} (h : yF fs ks P P') (h' : yF fs ks P' P'') : yF fs ks P P'' := ⟨fun k j a => (h'.1 k j a).trans (h.1 k j a), fun k a => (h'.2.1 k a).trans (h.2.1 k a), fun k => (h'.2.2.1 k).trans (h.2.2.1 k), h'.2.2.2.1.trans h.2.2.2.1, yG_t h.2.2.2.2 h'.2.2.2.2⟩
theorem yF_m {fs fs' : List (Nat × Nat)} {ks ks' : List Nat} {P P' : zp} (h : yF fs ks P P') (hf : ∀ j, j ∈ fs → j ∈ fs') (hk : ∀ k, k ∈ ks → k ∈ ks') : yF fs' ks' P P' := ⟨fun k j a => h.1 k j (fun z => a (hf _ z)), fun k a => h.2.1 k (fun z => a (hk k z)), h.2.2⟩
theorem yF_A {fs : List (Nat × Nat)} {ks : List Nat} {P : zp} {k i : Nat} {x : Int32} (h : k ∈ ks) : yF fs ks P (zp_sA P k i x) := ⟨fun _ _ _ => rfl, fun k' a => zp_uo (fun z => a (z ▸ h)), fun _ => rfl, rfl, yG_r⟩
theorem yF_f {fs : List (Nat × Nat)} {ks : List Nat} {P : zp} {k j : Nat} {x : Int32} (h : (k, j) ∈ fs) : yF fs ks P (zp_sF P k j x) := by
  refine ⟨fun k' j' a => ?_, fun _ _ => rfl, fun _ => rfl, rfl, yG_r⟩
  show (if k' = k ∧ j' = j then x else P.1 k' j') = P.1 k' j'
  refine if_neg (fun ⟨z1, z2⟩ => ?_)
  subst z1 z2
  exact a h
theorem yF_G {fs : List (Nat × Nat)} {ks : List Nat} {P : zp} {g : zk_M} (h : yG P.2.2.2.2 g) : yF fs ks P (zp_sG P g) := ⟨fun _ _ _ => rfl, fun _ _ => rfl, fun _ => rfl, rfl, h⟩
theorem yF_x {fs : List (Nat × Nat)} {ks ks' : List Nat} {P P' : zp} (h : yF fs ks P P') (hk : ∀ k, k ∈ ks → k ∉ ks' → P'.2.1 k = P.2.1 k) : yF fs ks' P P' := ⟨h.1, fun k a => by
    by_cases q : k ∈ ks
    · exact hk k q a
    · exact h.2.1 k q, h.2.2⟩
/-- a law of the reference -/
def yLR (A : Nat → Nat → Int32) (i : Nat) (X : yL) : Prop := i < 5 ∧ X.length ≤ 140 ∧ A 274 i = zi X.length ∧ ∀ q c, X[q]? = some c → ∃ a, A 275 (140 * i + q) = zi a ∧ A 276 (140 * i + q) = zi (a + c.1.length) ∧ A 277 (140 * i + q) = zi (a + c.1.length + c.2.length) ∧ a + c.1.length + c.2.length ≤ 520 ∧ ∀ j o, (c.1 ++ c.2)[j]? = some o → A 271 (520 * i + a + j) = zi o.1 ∧ A 272 (520 * i + a + j) = zi o.2
theorem yst_A {A : Nat → Nat → Int32} {x : Int32} {i : Nat} : ∀ {S : List Int32}, S.length ≤ i → yst (A 279) S → yst (zp_u A 279 i x 279) S
  | [], _, _ => trivial
  | a :: S, hi, h => ⟨by
      have : S.length ≠ i := fun z => by rw [List.length_cons] at hi; omega
      show (if 279 = 279 ∧ S.length = i then x else A 279 S.length) = a
      rw [if_neg (fun z => this z.2)]
      exact h.1, yst_A (by rw [List.length_cons] at hi; omega) h.2⟩
section
variable {P : zp} {n : Nat × Nat} {d : Nat}
theorem zp_a279 : zp_ad 279 = (0, 80) := by decide +kernel
theorem zp_a271 : zp_ad 271 = (0, 2600) := by decide +kernel
theorem zp_a272 : zp_ad 272 = (0, 2600) := by decide +kernel
theorem zp_a274 : zp_ad 274 = (0, 5) := by decide +kernel
theorem zp_a275 : zp_ad 275 = (0, 700) := by decide +kernel
theorem zp_a276 : zp_ad 276 = (0, 700) := by decide +kernel
theorem zp_a277 : zp_ad 277 = (0, 700) := by decide +kernel
theorem zp_a278 : zp_ad 278 = (0, 6) := by decide +kernel
theorem zp_lit {k m i : Nat} {y : Int32} (h : zp_ad k = (0, m)) (hy : y = zi i) (hi : i < m) (hm : m < 2 ^ 31) : zk_ldI (zp_M P, n) k y = some (P.2.1 k i) := by rw [hy]; exact zp_ldi h hi hm
theorem zp_sit {k m i : Nat} {y x : Int32} (h : zp_ad k = (0, m)) (hy : y = zi i) (hi : i < m) (hm : m < 2 ^ 31) : zk_stI (zp_M P, n) k y x = some (zp_M (zp_sA P k i x), n) := by rw [hy]; exact zp_sti h hi hm
theorem zp_u9 {A : Nat → Nat → Int32} {k i : Nat} {x : Int32} : zp_u A k i x k i = x := by unfold zp_u; rw [if_pos ⟨rfl, rfl⟩]
theorem zp_u8 {A : Nat → Nat → Int32} {k i j : Nat} {x : Int32} (h : j ≠ i) : zp_u A k i x k j = A k j := by unfold zp_u; rw [if_neg (fun z => h z.2)]
theorem zp_f9 {k j : Nat} {x : Int32} : (zp_sF P k j x).1 k j = x := if_pos ⟨rfl, rfl⟩
theorem zp_f8 {k j k' j' : Nat} {x : Int32} (h : ¬ (k' = k ∧ j' = j)) : (zp_sF P k j x).1 k' j' = P.1 k' j' := if_neg h
theorem zp_R6 : zk_gR (zp_M P, n) 269 12 6 = some 271 := zp_gR (by decide +kernel)
theorem zp_R7 : zk_gR (zp_M P, n) 269 12 7 = some 272 := zp_gR (by decide +kernel)
theorem zp_R9 : zk_gR (zp_M P, n) 269 12 9 = some 274 := zp_gR (by decide +kernel)
theorem zp_R10 : zk_gR (zp_M P, n) 269 12 10 = some 275 := zp_gR (by decide +kernel)
theorem zp_R11 : zk_gR (zp_M P, n) 269 12 11 = some 276 := zp_gR (by decide +kernel)
theorem zp_R12 : zk_gR (zp_M P, n) 269 12 12 = some 277 := zp_gR (by decide +kernel)
theorem zp_R15 : zk_gR (zp_M P, n) 269 12 15 = some 278 := zp_gR (by decide +kernel)
theorem zp_R16 : zk_gR (zp_M P, n) 269 12 16 = some 279 := zp_gR (by decide +kernel)
theorem zp_R29 : zk_gI (zp_M P, n) 269 12 29 = some (P.1 269 29) := zp_gI (by decide +kernel)
theorem zi_mn {i : Nat} (h : 0 < i) : zi i + (-1) = zi (i - 1) := by
  rw [← zi_d h]; exact (Int32.sub_eq_add_neg ..).symm
theorem zi_eq {a b : Nat} (ha : a < 2 ^ 31) (hb : b < 2 ^ 31) : zi a = zi b ↔ a = b := ⟨fun z => by rw [← zi_c ha, ← zi_c hb, z], fun z => by rw [z]⟩
/-- 'a' at 't': i = 520 i1 + from + j -/
theorem zs_Rwstep {l : Nat → Int32} {i1 i2 i3 : Int32} {i c v e : Nat} {S : List Int32} {ts ts' : List Bool} (hl : ∀ j, j < 6 → P.2.1 278 j = l j) (hi : i < e) (he : e ≤ 2600) (h3 : 520 * i1 + i3 = zi e) (h1 : P.2.1 271 i = zi c) (h2 : P.2.1 272 i = zi v) (hS : yst (P.2.1 279) S) (hmt : ymt S ts) (hcap : ts.length ≤ 60) (hty : yty1 c v ts = some ts') :
    ∃ P', zk_sf (d + 3) m_R_workOut 12 [.ref 269, .int i1, .int i2, .int i3, .int (zi S.length), .int (zi i)] [] (zp_M P, n) = zk_sf (d + 3) m_R_workOut 12 [.ref 269, .int i1, .int i2, .int i3, .int (zi (ystp l c v S).length), .int (zi (i + 1))] [] (zp_M P', n) ∧ yF [] [279] P P' ∧ yst (P'.2.1 279) (ystp l c v S) := by
  have hlen := ymt_l hmt
  have L1 : zk_ldI (zp_M P, n) 271 (zi i) = some (zi c) := (zp_ldi zp_a271 (show i < 2600 by omega) (by decide)).trans (by rw [h1])
  have L2 : zk_ldI (zp_M P, n) 272 (zi i) = some (zi v) := (zp_ldi zp_a272 (show i < 2600 by omega) (by decide)).trans (by rw [h2])
  rw [e_R_workOut_12, h3, if_pos ((zi_l (by omega) (by omega)).mpr hi), zp_R6, Option.bind_some, L1, Option.bind_some]
  unfold yty1 at hty
  unfold ystp
  by_cases h0 : c = 0
  · subst h0
    rw [if_pos rfl] at hty
    rw [if_pos (show zi 0 = 0 by decide), zp_R16, Option.bind_some, Option.bind_some, L1, Option.bind_some, if_pos (show zi 0 = 0 by decide), zp_R7, Option.bind_some, L2, Option.bind_some]
    by_cases q : v < 10000 ∧ ts.length < 60
    · rw [zp_sti zp_a279 (show S.length < 80 by omega) (by decide), Option.bind_some, zi_s, zi_s]
      refine ⟨zp_sA P 279 S.length (zi v), rfl, yF_A (by decide), ?_⟩
      exact ⟨zp_u9, yst_A (Nat.le_refl _) hS⟩
    · rw [if_neg q] at hty; cases hty
  rw [if_neg h0] at hty
  rw [if_neg (show ¬ zi c = 0 from fun z => by
    by_cases hc : c < 2 ^ 31
    · exact h0 ((zi_eq (b := 0) hc (by decide)).mp z)
    · rw [if_neg (by omega), if_neg (by omega), if_neg (by omega), if_neg (by omega), if_neg (by omega)] at hty; cases hty), Option.bind_some, L1, Option.bind_some]
  by_cases h1' : c = 1
  · subst h1'
    rw [if_pos rfl] at hty
    rw [if_pos (show zi 1 = 1 by decide), zp_R16, Option.bind_some, Option.bind_some, L1, Option.bind_some, if_neg (show ¬ zi 1 = 0 by decide), zp_R15, Option.bind_some, zp_R7, Option.bind_some, L2, Option.bind_some]
    by_cases q : v < 6 ∧ ts.length < 60
    · rw [zp_ldi zp_a278 q.1 (by decide), Option.bind_some, hl v q.1, zp_sti zp_a279 (show S.length < 80 by omega) (by decide), Option.bind_some, zi_s, zi_s]
      refine ⟨zp_sA P 279 S.length (l v), rfl, yF_A (by decide), ?_⟩
      exact ⟨zp_u9, yst_A (Nat.le_refl _) hS⟩
    · rw [if_neg q] at hty; cases hty
  rw [if_neg h1'] at hty
  rw [if_neg (show ¬ zi c = 1 from fun z => by
    by_cases hc : c < 2 ^ 31
    · exact h1' ((zi_eq (b := 1) hc (by decide)).mp z)
    · rw [if_neg (by omega), if_neg (by omega), if_neg (by omega), if_neg (by omega)] at hty; cases hty), Option.bind_some, L1, Option.bind_some, if_neg h0, if_neg h1']
  by_cases h9 : c = 9
  · subst h9
    rw [if_pos rfl] at hty
    rw [if_pos rfl]
    match ts, S, hmt, hty, hS, hlen, hcap with
    | true :: ts, a :: S, hmt, hty, hS, hlen, hcap =>
      rw [List.length_cons] at hlen hcap
      rw [List.length_cons] at hlen
      have hd : zi (S.length + 1) - 1 = zi S.length := zi_d (by omega)
      have hS1 : P.2.1 279 S.length = a := hS.1
      rw [if_pos (show zi 9 = 9 by decide), zp_R16, Option.bind_some, Option.bind_some, List.length_cons, hd, zp_ldi zp_a279 (show S.length < 80 by omega) (by decide), Option.bind_some, hS1, zp_sti zp_a279 (show S.length < 80 by omega) (by decide), Option.bind_some, zi_s]
      refine ⟨zp_sA P 279 S.length (1 - a), rfl, yF_A (by decide), ?_⟩
      exact ⟨zp_u9, yst_A (Nat.le_refl _) hS.2⟩
  rw [if_neg h9] at hty
  rw [if_neg h9]
  have hc : c < 12 := by
    by_cases z : c < 12
    · exact z
    · rw [if_neg (by omega), if_neg (by omega), if_neg (by omega)] at hty; cases hty
  have hst : ∃ b a S', S = b :: a :: S' := by
    by_cases h6 : c < 6
    · rw [if_pos h6] at hty
      match ts, S, hmt, hty with
      | false :: false :: ts, b :: a :: S, hmt, hty => exact ⟨b, a, S, rfl⟩
    rw [if_neg h6] at hty
    by_cases h8 : c < 9
    · rw [if_pos h8] at hty
      match ts, S, hmt, hty with
      | false :: false :: ts, b :: a :: S, hmt, hty => exact ⟨b, a, S, rfl⟩
    rw [if_neg h8, if_pos hc] at hty
    match ts, S, hmt, hty with
    | true :: true :: ts, b :: a :: S, hmt, hty => exact ⟨b, a, S, rfl⟩
  obtain ⟨b', a', S', rfl⟩ := hst
  rw [List.length_cons, List.length_cons] at hlen
  have hd1 : zi (S'.length + 1 + 1) + (-1) = zi (S'.length + 1) := zi_mn (by omega)
  have hd : zi (S'.length + 1) - 1 = zi S'.length := zi_d (by omega)
  have hS1 : P.2.1 279 (S'.length + 1) = b' := hS.1
  have hS2 : P.2.1 279 S'.length = a' := hS.2.1
  have M1 : zk_ldI (zp_M P, n) 279 (zi S'.length) = some a' := (zp_ldi zp_a279 (show S'.length < 80 by omega) (by decide)).trans (by rw [hS2])
  have M2 : zk_ldI (zp_M P, n) 279 (zi (S'.length + 1)) = some b' := (zp_ldi zp_a279 (show S'.length + 1 < 80 by omega) (by decide)).trans (by rw [hS1])
  rw [if_neg (show ¬ zi c = 9 from fun z => h9 ((zi_eq (b := 9) (by omega) (by decide)).mp z)), zp_R16, Option.bind_some, Option.bind_some, L1, Option.bind_some, Option.bind_some, List.length_cons, List.length_cons, hd1, hd, M1, Option.bind_some, Option.bind_some, M2, Option.bind_some, zs_Rworked (by omega) hc h9, zs_cI, Option.bind_some, zp_sti zp_a279 (show S'.length < 80 by omega) (by decide), Option.bind_some, zi_s]
  refine ⟨zp_sA P 279 S'.length (ybin c a' b'), rfl, yF_A (by decide), ?_⟩
  exact ⟨zp_u9, yst_A (Nat.le_refl _) hS.2.2⟩
theorem yty_cap {c v : Nat} {t t' : List Bool} (h : yty1 c v t = some t') (hc : t.length ≤ 60) : t'.length ≤ 60 := by
  unfold yty1 at h
  by_cases h0 : c = 0
  · rw [if_pos h0] at h
    by_cases q : v < 10000 ∧ t.length < 60
    · rw [if_pos q] at h; cases h; rw [List.length_cons]; omega
    · rw [if_neg q] at h; cases h
  rw [if_neg h0] at h
  by_cases h1 : c = 1
  · rw [if_pos h1] at h
    by_cases q : v < 6 ∧ t.length < 60
    · rw [if_pos q] at h; cases h; rw [List.length_cons]; omega
    · rw [if_neg q] at h; cases h
  rw [if_neg h1] at h
  by_cases h9 : c = 9
  · rw [if_pos h9] at h
    match t, h, hc with
    | true :: t, h, hc => cases h; exact hc
  rw [if_neg h9] at h
  by_cases h6 : c < 6
  · rw [if_pos h6] at h
    match t, h, hc with
    | false :: false :: t, h, hc => cases h; rw [List.length_cons] at hc ⊢; rw [List.length_cons] at hc; omega
  rw [if_neg h6] at h
  by_cases h8 : c < 9
  · rw [if_pos h8] at h
    match t, h, hc with
    | false :: false :: t, h, hc => cases h; rw [List.length_cons] at hc ⊢; rw [List.length_cons] at hc; omega
  rw [if_neg h8] at h
  by_cases h12 : c < 12
  · rw [if_pos h12] at h
    match t, h, hc with
    | true :: true :: t, h, hc => cases h; rw [List.length_cons] at hc ⊢; rw [List.length_cons] at hc; omega
  rw [if_neg h12] at h
  cases h
theorem zs_Rwrun {l : Nat → Int32} {i1 i2 i3 : Int32} {e : Nat} (he : e ≤ 2600) (h3 : 520 * i1 + i3 = zi e) :
    ∀ (ops : List (Nat × Nat)) (i : Nat) (S : List Int32) (ts ts' : List Bool) (P : zp), (∀ j, j < 6 → P.2.1 278 j = l j) → (∀ j o, ops[j]? = some o → P.2.1 271 (i + j) = zi o.1 ∧ P.2.1 272 (i + j) = zi o.2) → i + ops.length = e → yst (P.2.1 279) S → ymt S ts → ts.length ≤ 60 → yty ops ts = some ts' →
    ∃ P', zk_sf (d + 3) m_R_workOut 12 [.ref 269, .int i1, .int i2, .int i3, .int (zi S.length), .int (zi i)] [] (zp_M P, n) = some (some (Value.int (P'.2.1 279 0)), (zp_M P', n)) ∧ yF [] [279] P P' ∧ yst (P'.2.1 279) (yrn l ops S) ∧ ymt (yrn l ops S) ts'
  | [], i, S, ts, ts', P, _, _, hi, hS, hmt, _, hty => by
    cases hty
    have hi' : i = e := hi
    refine ⟨P, ?_, yF_r, hS, hmt⟩
    rw [e_R_workOut_12, h3, if_neg (fun z => absurd ((zi_l (by omega) (by omega)).mp z) (by omega)), zp_R16, Option.bind_some, zp_lit (i := 0) (y := 0) zp_a279 rfl (by decide) (by decide), Option.bind_some]
  | o :: ops, i, S, ts, ts', P, hl, ho, hi, hS, hmt, hcap, hty => by
    obtain ⟨t1, a1, a2⟩ := Option.bind_eq_some_iff.mp hty
    rw [List.length_cons] at hi
    obtain ⟨b1, b2⟩ := ho 0 o rfl
    obtain ⟨P1, e1, f1, s1⟩ := zs_Rwstep (d := d) (n := n) (i2 := i2) hl (i := i) (by omega) he h3 b1 b2 hS hmt hcap a1
    have hl1 : ∀ j, j < 6 → P1.2.1 278 j = l j := fun j hj => by rw [f1.2.1 278 (by decide)]; exact hl j hj
    obtain ⟨P2, e2, f2, s2, m2⟩ := zs_Rwrun he h3 ops (i + 1) _ t1 ts' P1 hl1 (fun j o' hj => by
      rw [f1.2.1 271 (by decide), f1.2.1 272 (by decide), show i + 1 + j = i + (j + 1) by omega]
      exact ho (j + 1) o' hj) (by omega) s1 (ymt_s hmt a1) (yty_cap a1 hcap) a2
    exact ⟨P2, e1.trans e2, yF_t f1 f2, s2, m2⟩
/-- a sum or a test worked out -/
theorem zs_RworkOut {l : Nat → Int32} {i a m : Nat} {ops : List (Nat × Nat)} {b : Bool} (hl : ∀ j, j < 6 → P.2.1 278 j = l j) (hi : i < 5) (hm : m = a + ops.length) (hm2 : m ≤ 520) (ho : ∀ j o, ops[j]? = some o → P.2.1 271 (520 * i + a + j) = zi o.1 ∧ P.2.1 272 (520 * i + a + j) = zi o.2) (hty : yty ops [] = some [b]) :
    ∃ P', zk_sm (d + 3) m_R_workOut [.ref 269, .int (zi i), .int (zi a), .int (zi m)] (zp_M P, n) = some (some (Value.int ((yrn l ops []).headD 0)), (zp_M P', n)) ∧ yF [] [279] P P' := by
  have hz : ∀ j, 520 * zi i + zi j = zi (520 * i + j) := fun j => by
    show Int32.ofNat 520 * Int32.ofNat i + Int32.ofNat j = Int32.ofNat (520 * i + j)
    rw [← Int32.ofNat_mul, ← Int32.ofNat_add]
  obtain ⟨P', e, f, s, mt⟩ := zs_Rwrun (d := d) (n := n) (i1 := zi i) (i2 := zi a) (i3 := zi m) (e := 520 * i + m) (by omega) (hz m) ops (520 * i + a) [] [] [b] P hl ho (by omega) trivial trivial (by decide) hty
  refine ⟨P', ?_, f⟩
  rw [e_R_workOut, hz]
  refine (show zk_sf (d + 3) m_R_workOut 12 _ [] (zp_M P, n) = _ from e).trans ?_
  obtain ⟨x, hx⟩ := ymt_1 mt
  rw [hx] at s ⊢
  have s1 : P'.2.1 279 0 = x := s.1
  rw [s1]
  rfl
end
