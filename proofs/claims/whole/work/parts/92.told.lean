/-! SPECS 30: the stand and the row as told -/
def ytd (nl : Nat) (L : Nat → Nat × Nat × Nat) (c0 : Int32) : yV := (fun k => if k < nl then some (L k) else none, fun _ => 0, c0, 0)
def ytm (o : Option (Nat × Nat × Nat)) (x y z : Int32) : Prop := match o with | none => x = -1 | some (r, q, f) => x = zi r ∧ y = zi q ∧ z = zi f
/-- the told saddles, as the class and as the reference keeps them -/
def yTs (P : zp) (nl : Nat) (L : Nat → Nat × Nat × Nat) (c0 : Int32) : Prop := P.1 26 3 = zi nl ∧ nl ≤ 8 ∧ (∀ l, l < nl → P.2.1 30 l = zi (L l).1 ∧ P.2.1 31 l = zi (L l).2.1 ∧ P.2.1 32 l = zi (L l).2.2) ∧ P.1 26 1 = c0
def yTr (P : zp) (nl : Nat) (L : Nat → Nat × Nat × Nat) (c0 : Int32) : Prop := P.1 269 26 = zi nl ∧ nl ≤ 8 ∧ (∀ l, l < nl → P.2.1 285 (3 * l + 0) = zi (L l).1 ∧ P.2.1 285 (3 * l + 1) = zi (L l).2.1 ∧ P.2.1 285 (3 * l + 2) = zi (L l).2.2) ∧ P.2.1 283 1 = c0
theorem yX_s {P : zp} {np nl : Nat} {L : Nat → Nat × Nat × Nat} {c0 : Int32} (h : yX P np nl L c0) : yTs P nl L c0 ∧ yTr P nl L c0 := by
  obtain ⟨x1, x2, ⟨x3, -⟩, x4, x5, x6, x7, -⟩ := h
  exact ⟨⟨x1, x3, fun l hl => (x4 l hl).1, x6⟩, ⟨x2, x3, fun l hl => (x4 l hl).2, x7⟩⟩
section
variable {P : zp} {n : Nat × Nat} {b d nl : Nat} {L : Nat → Nat × Nat × Nat} {c0 : Int32}
theorem zp_sb_n (h : zp_sb b) : 35 ≤ b := by
  rcases h with h | ⟨k, hk, h⟩ <;> omega
theorem zq_girth_t {a : zp} {i : Nat} {x y z : Int32} (hi : i < 8) : zq_girth a b (zi i) x y z = zp_sA (zp_sA (zp_sA a (b + 1) i x) (b + 2) i y) (b + 3) i z := by
  unfold zq_girth
  rw [zp_pi hi (by decide), zp_pi hi (by decide), zp_pi hi (by decide)]
theorem zq_girth_1 {a : zp} {i k : Nat} {x y z : Int32} (hi : i < 8) : (zq_girth a b (zi i) x y z).2.1 (b + 1) k = (if k = i then x else a.2.1 (b + 1) k) ∧ (zq_girth a b (zi i) x y z).2.1 (b + 2) k = (if k = i then y else a.2.1 (b + 2) k) ∧ (zq_girth a b (zi i) x y z).2.1 (b + 3) k = (if k = i then z else a.2.1 (b + 3) k) := by
  rw [zq_girth_t hi, zp_a7 (show b + 1 ≠ b + 3 by omega), zp_a7 (show b + 1 ≠ b + 2 by omega), zp_a7 (show b + 2 ≠ b + 3 by omega)]
  by_cases q : k = i
  · rw [if_pos q, if_pos q, if_pos q, q]; exact ⟨zp_a9, zp_a9, zp_a9⟩
  · rw [if_neg q, if_neg q, if_neg q]
    refine ⟨zp_a8 q, (zp_a8 q).trans ?_, (zp_a8 q).trans ?_⟩
    · rw [zp_a7 (show b + 2 ≠ b + 1 by omega)]
    · rw [zp_a7 (show b + 3 ≠ b + 2 by omega), zp_a7 (show b + 3 ≠ b + 1 by omega)]
theorem yF_girth {a : zp} {i : Nat} {x y z : Int32} (hi : i < 8) : yF [] (ybk b) a (zq_girth a b (zi i) x y z) := by
  rw [zq_girth_t hi]
  exact yF_t (yF_A (by simp)) (yF_t (yF_A (by simp)) (yF_A (by simp)))
theorem yC_begin (h : zp_sb b) (hs : yTs P nl L c0) : yC (zq_begin P b) b (ytd nl L c0) ∧ yF (ybj b) (ybk b) P (zq_begin P b) := by
  obtain ⟨s1, s2, s3, s4⟩ := hs
  have hb := zp_sb_n h
  have keyS : ∀ m, m ≤ 8 → yF [] (ybk b) P ((List.range m).foldl (fun P i => if zi i < P.1 26 3 then zq_girth P b (zi i) (P.2.1 30 i) (P.2.1 31 i) (P.2.1 32 i) else zq_girth P b (zi i) (-1) (-1) 0) P) ∧ ∀ k, k < m → ytm ((ytd nl L c0).1 k) (((List.range m).foldl (fun P i => if zi i < P.1 26 3 then zq_girth P b (zi i) (P.2.1 30 i) (P.2.1 31 i) (P.2.1 32 i) else zq_girth P b (zi i) (-1) (-1) 0) P).2.1 (b + 1) k) (((List.range m).foldl (fun P i => if zi i < P.1 26 3 then zq_girth P b (zi i) (P.2.1 30 i) (P.2.1 31 i) (P.2.1 32 i) else zq_girth P b (zi i) (-1) (-1) 0) P).2.1 (b + 2) k) (((List.range m).foldl (fun P i => if zi i < P.1 26 3 then zq_girth P b (zi i) (P.2.1 30 i) (P.2.1 31 i) (P.2.1 32 i) else zq_girth P b (zi i) (-1) (-1) 0) P).2.1 (b + 3) k) := by
    intro m
    induction m with
    | zero => exact fun _ => ⟨yF_r, fun k hk => absurd hk (Nat.not_lt_zero k)⟩
    | succ i ih =>
      intro hm
      obtain ⟨fa, ha⟩ := ih (by omega)
      rw [zl_rs]
      generalize (List.range i).foldl (fun P i => if zi i < P.1 26 3 then zq_girth P b (zi i) (P.2.1 30 i) (P.2.1 31 i) (P.2.1 32 i) else zq_girth P b (zi i) (-1) (-1) 0) P = a at fa ha
      have e3 : a.1 26 3 = zi nl := (fa.1 26 3 (fun z => by cases z)).trans s1
      have eA : ∀ k, k < 36 → a.2.1 k = P.2.1 k := fun k hk => fa.2.1 k (fun z => by simp only [List.mem_cons, List.not_mem_nil, or_false] at z; omega)
      have hi : i < 8 := by omega
      have step : ∀ x y z : Int32, ytm ((ytd nl L c0).1 i) x y z → yF [] (ybk b) P (zq_girth a b (zi i) x y z) ∧ ∀ k, k < i + 1 → ytm ((ytd nl L c0).1 k) ((zq_girth a b (zi i) x y z).2.1 (b + 1) k) ((zq_girth a b (zi i) x y z).2.1 (b + 2) k) ((zq_girth a b (zi i) x y z).2.1 (b + 3) k) := by
        intro x y z hx
        refine ⟨yF_t fa (yF_girth hi), fun k hk => ?_⟩
        obtain ⟨g1, g2, g3⟩ := @zq_girth_1 b a i k x y z hi
        rw [g1, g2, g3]
        by_cases w : k = i
        · subst w
          rw [if_pos rfl, if_pos rfl, if_pos rfl]; exact hx
        · rw [if_neg w, if_neg w, if_neg w]; exact ha k (by omega)
      rw [e3, eA 30 (by decide), eA 31 (by decide), eA 32 (by decide)]
      by_cases q : i < nl
      · rw [if_pos ((zi_l (by omega) (by omega)).mpr q)]
        refine step _ _ _ ?_
        show ytm (if i < nl then some (L i) else none) _ _ _
        rw [if_pos q]
        exact s3 i q
      · rw [if_neg (fun z => q ((zi_l (by omega) (by omega)).mp z))]
        refine step _ _ _ ?_
        show ytm (if i < nl then some (L i) else none) _ _ _
        rw [if_neg q]
        rfl
  have keyG : ∀ (Q : zp) (m : Nat), m ≤ 6 → yF [] (ybk b) Q ((List.range m).foldl (fun P i => zp_sA P (b + 4) i 0) Q) ∧ (∀ k, k ≠ b + 4 → ((List.range m).foldl (fun P i => zp_sA P (b + 4) i 0) Q).2.1 k = Q.2.1 k) ∧ ∀ p, p < m → ((List.range m).foldl (fun P i => zp_sA P (b + 4) i 0) Q).2.1 (b + 4) p = 0 := by
    intro Q m
    induction m with
    | zero => exact fun _ => ⟨yF_r, fun _ _ => rfl, fun p hp => absurd hp (Nat.not_lt_zero p)⟩
    | succ i ih =>
      intro hm
      obtain ⟨fa, ka, ha⟩ := ih (by omega)
      rw [zl_rs]
      generalize (List.range i).foldl (fun P i => zp_sA P (b + 4) i 0) Q = a at fa ka ha
      refine ⟨yF_t fa (yF_A (by simp)), fun k hk => (zp_a7 hk).trans (ka k hk), fun p hp => ?_⟩
      by_cases w : p = i
      · rw [w]; exact zp_a9
      · exact (zp_a8 w).trans (ha p (by omega))
  obtain ⟨fS, hS⟩ := keyS 8 (Nat.le_refl _)
  obtain ⟨fG, kG, hG⟩ := keyG (zq_begS P b) 6 (Nat.le_refl _)
  have eS : zq_begS P b = (List.range 8).foldl (fun P i => if zi i < P.1 26 3 then zq_girth P b (zi i) (P.2.1 30 i) (P.2.1 31 i) (P.2.1 32 i) else zq_girth P b (zi i) (-1) (-1) 0) P := by unfold zq_begS; rfl
  have eG : zq_begG (zq_begS P b) b = (List.range 6).foldl (fun P i => zp_sA P (b + 4) i 0) (zq_begS P b) := by unfold zq_begG; rfl
  rw [← eS] at fS hS
  rw [← eG] at fG kG hG
  have e1 : (zq_begG (zq_begS P b) b).1 26 1 = c0 := (fG.1 26 1 (fun z => by cases z)).trans ((fS.1 26 1 (fun z => by cases z)).trans s4)
  refine ⟨⟨fun k hk => ?_, fun p hp => hG p hp, ?_, zp_f9⟩, yF_t (yF_m (yF_t fS fG) (fun _ h => by cases h) (fun _ h => h)) (yF_t (yF_f (by simp)) (yF_f (by simp)))⟩
  · show match (ytd nl L c0).1 k with | none => (zq_begG (zq_begS P b) b).2.1 (b + 1) k = -1 | some (r, q, f) => (zq_begG (zq_begS P b) b).2.1 (b + 1) k = zi r ∧ (zq_begG (zq_begS P b) b).2.1 (b + 2) k = zi q ∧ (zq_begG (zq_begS P b) b).2.1 (b + 3) k = zi f
    rw [kG (b + 1) (by omega), kG (b + 2) (by omega), kG (b + 3) (by omega)]
    have hS := hS k hk
    unfold ytm at hS
    cases hv : (ytd nl L c0).1 k with
    | none => rw [hv] at hS; exact hS
    | some y => obtain ⟨r, q, f⟩ := y; rw [hv] at hS; exact hS
  · exact (zp_f8 (by simp)).trans (zp_f9.trans e1)
end
