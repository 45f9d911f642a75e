/-! ACTS: the standing things of both sides, each by itself -/
/-- a stand and its log, the latest first -/
abbrev yS_ : Type := yV × (Nat → Nat → Int32)
/-- how many acts can be undone, where the class goes on in its round, the states: 0 is now -/
abbrev yAA : Type := Nat × Nat × (Nat → yS_)
def yEn (ent : Nat → Int32) (S : yS_) : Prop := ∀ j c, j < min 60 S.1.2.2.2 → c < 3 → ent (3 * ((S.1.2.2.2 - 1 - j) % 100) + c) = S.2 j c
def yRg (row : Nat → Int32) (S : yS_) : Prop := yR row S.1 ∧ row 40 = zi (min 60 S.1.2.2.2) ∧ ∀ j c, j < min 60 S.1.2.2.2 → c < 3 → row (41 + 3 * (min 60 S.1.2.2.2 - 1 - j) + c) = S.2 j c
def yAC (P : zp) (A : yAA) : Prop := (∀ s, s < 40 → P.2.2.2.1 48 s = some (49 + 5 * s)) ∧ P.1 40 6 = zi A.1 ∧ P.1 40 5 = zi A.2.1 ∧ yC P 35 (A.2.2 0).1 ∧ (∀ i, i < A.1 → yC P (49 + 5 * ((A.2.1 + 39 - i) % 40)) (A.2.2 (i + 1)).1) ∧ ∀ i, i ≤ A.1 → yEn (P.2.1 41) (A.2.2 i)
def yAR (P : zp) (A : yAA) : Prop := P.1 269 34 = zi A.1 ∧ yRg (P.2.1 286) (A.2.2 0) ∧ ∀ i, i < A.1 → yRg (fun j => P.2.1 289 (221 * (A.1 - 1 - i) + j)) (A.2.2 (i + 1))
def yAS (np : Nat) (A : yAA) : Prop := A.1 ≤ 40 ∧ A.2.1 < 40 ∧ (∀ i, i ≤ A.1 → yO np (A.2.2 i).1 ∧ yB np (A.2.2 i).1) ∧ ∀ i, i < A.1 → (A.2.2 (i + 1)).1.2.2.2 ≤ (A.2.2 i).1.2.2.2 ∧ (A.2.2 i).1.2.2.2 ≤ (A.2.2 (i + 1)).1.2.2.2 + 1
theorem yA_o {P : zp} {np : Nat} {V : yV} (h : yA P np V) : ∃ A : yAA, (A.2.2 0).1 = V ∧ yAC P A ∧ yAR P A ∧ yAS np A := by
  obtain ⟨a1, a2, a3, a4, ⟨g1, g2⟩, ur, na, nx, U, u0, u1, u2, u3, u4, u5, u6⟩ := h
  refine ⟨(na, nx, fun i => (U i, fun j c => P.2.1 41 (3 * (((U i).2.2.2 - 1 - j) % 100) + c))), u0, ⟨ur, u1, u4, ?_, fun i hi => (u6 i hi).1, fun i _ j c _ _ => rfl⟩, ⟨u2, ⟨?_, ?_, fun j c hj hc => ?_⟩, fun i hi => ?_⟩, u3, u5, fun i hi => ?_, fun i hi => (u6 i hi).2.2.2.2.2⟩
  · show yC P 35 (U 0); rw [u0]; exact a1
  · show yR (P.2.1 286) (U 0); rw [u0]; exact a2
  · show P.2.1 286 40 = zi (min 60 (U 0).2.2.2); rw [u0]; exact g1
  · have hj : j < min 60 (U 0).2.2.2 := hj
    show P.2.1 286 (41 + 3 * (min 60 (U 0).2.2.2 - 1 - j) + c) = P.2.1 41 (3 * (((U 0).2.2.2 - 1 - j) % 100) + c)
    rw [u0] at hj ⊢
    exact g2 j c hj hc
  · obtain ⟨b1, b2, b3, b4, ⟨b5, b6⟩, b7⟩ := u6 i hi
    exact ⟨b2, b5, fun j c hj hc => b6 j c hj hc⟩
  · rcases Nat.eq_zero_or_pos i with z | z
    · subst z
      show yO np (U 0) ∧ yB np (U 0)
      rw [u0]; exact ⟨a3, a4⟩
    · obtain ⟨k, rfl⟩ : ∃ k, i = k + 1 := ⟨i - 1, by omega⟩
      have hi : k + 1 ≤ na := hi
      have := u6 k (by omega)
      exact ⟨this.2.2.1, this.2.2.2.1⟩
theorem yA_i {P : zp} {np : Nat} {A : yAA} (hC : yAC P A) (hR : yAR P A) (hS : yAS np A) : yA P np (A.2.2 0).1 := by
  obtain ⟨c0, c1, c2, c3, c4, c5⟩ := hC
  obtain ⟨r1, ⟨r2, r3, r4⟩, r5⟩ := hR
  obtain ⟨s1, s2, s3, s4⟩ := hS
  have e0 := c5 0 (Nat.zero_le _)
  refine ⟨c3, r2, (s3 0 (Nat.zero_le _)).1, (s3 0 (Nat.zero_le _)).2, ⟨r3, fun j c hj hc => (r4 j c hj hc).trans (e0 j c hj hc).symm⟩, c0, A.1, A.2.1, fun i => (A.2.2 i).1, rfl, c1, r1, s1, c2, s2, fun i hi => ?_⟩
  obtain ⟨q1, q2, q3⟩ := r5 i hi
  have e1 := c5 (i + 1) hi
  exact ⟨c4 i hi, q1, (s3 (i + 1) hi).1, (s3 (i + 1) hi).2, ⟨q2, fun j c hj hc => (q3 j c hj hc).trans (e1 j c hj hc).symm⟩, s4 i hi⟩
/-- what acts change: of the class, of the reference -/
def ykA : List Nat := [36, 37, 38, 39, 41] ++ List.range' 49 200
def yfA : List (Nat × Nat) := [(35, 4), (35, 5), (40, 5), (40, 6)] ++ (List.range 40).flatMap (fun s => [(49 + 5 * s, 4), (49 + 5 * s, 5)])
abbrev ykR : List Nat := [278, 279, 286, 288, 289]
abbrev yfR : List (Nat × Nat) := [(269, 32), (269, 34)]
theorem ykA_m {k : Nat} : k ∈ ykA ↔ k = 36 ∨ k = 37 ∨ k = 38 ∨ k = 39 ∨ k = 41 ∨ (49 ≤ k ∧ k < 249) := by
  unfold ykA
  rw [List.mem_append, List.mem_range'_1]
  simp only [List.mem_cons, List.not_mem_nil, or_false]
  omega
theorem yfA_m {s j : Nat} (h : s < 40) (hj : j = 4 ∨ j = 5) : (49 + 5 * s, j) ∈ yfA := by
  unfold yfA
  rw [List.mem_append, List.mem_flatMap]
  refine Or.inr ⟨s, List.mem_range.mpr h, ?_⟩
  rcases hj with rfl | rfl <;> simp
theorem yfA_n {x : Nat × Nat} (h : x ∈ yfA) : x = (35, 4) ∨ x = (35, 5) ∨ x = (40, 5) ∨ x = (40, 6) ∨ (49 ≤ x.1 ∧ x.1 < 249) := by
  unfold yfA at h
  rw [List.mem_append, List.mem_flatMap] at h
  rcases h with h | ⟨s, hs, h⟩
  · simp only [List.mem_cons, List.not_mem_nil, or_false] at h
    rcases h with h | h | h | h
    · exact Or.inl h
    · exact Or.inr (Or.inl h)
    · exact Or.inr (Or.inr (Or.inl h))
    · exact Or.inr (Or.inr (Or.inr (Or.inl h)))
  · have hs := List.mem_range.mp hs
    simp only [List.mem_cons, List.not_mem_nil, or_false] at h
    refine Or.inr (Or.inr (Or.inr (Or.inr ?_)))
    rcases h with rfl | rfl
    · show 49 ≤ 49 + 5 * s ∧ 49 + 5 * s < 249; omega
    · show 49 ≤ 49 + 5 * s ∧ 49 + 5 * s < 249; omega
theorem yJ_A {P P' : zp} {n : Nat} {T : yT} {nl : Nat} {L : Nat → Nat × Nat × Nat} {c0 : Int32} (h : yF yfA ykA P P') (hJ : yJ P n T nl L c0) : yJ P' n T nl L c0 := by
  refine yJ_F (fun k hk z => ?_) (fun x hx z => ?_) h hJ
  · have h1 := ykA_m.mp z
    have h2 := (by decide : ∀ k, k ∈ yNJ → k ≠ 36 ∧ k ≠ 37 ∧ k ≠ 38 ∧ k ≠ 39 ∧ k ≠ 41 ∧ (k < 49 ∨ 249 ≤ k)) k hk
    omega
  · have h1 := yfA_n z
    have h2 := (by decide : ∀ x, x ∈ yNF → x ≠ (35, 4) ∧ x ≠ (35, 5) ∧ x ≠ (40, 5) ∧ x ≠ (40, 6) ∧ (x.1 < 49 ∨ 249 ≤ x.1)) x hx
    rcases h1 with h1 | h1 | h1 | h1 | h1
    · exact h2.1 h1
    · exact h2.2.1 h1
    · exact h2.2.2.1 h1
    · exact h2.2.2.2.1 h1
    · omega
theorem yK_A {P P' : zp} (h : yF yfA ykA P P') (hK : yK P) : yK P' := by
  refine yK_F (fun k hk z => ?_) (fun x hx z => ?_) h hK
  · have h1 := ykA_m.mp z
    have h2 := (by decide : ∀ k, k ∈ yNK → k ≠ 36 ∧ k ≠ 37 ∧ k ≠ 38 ∧ k ≠ 39 ∧ k ≠ 41 ∧ (k < 49 ∨ 249 ≤ k)) k hk
    omega
  · have h1 := yfA_n z
    have h2 := (by decide : ∀ x, x ∈ yNG → x ≠ (35, 4) ∧ x ≠ (35, 5) ∧ x ≠ (40, 5) ∧ x ≠ (40, 6) ∧ (x.1 < 49 ∨ 249 ≤ x.1)) x hx
    rcases h1 with h1 | h1 | h1 | h1 | h1
    · exact h2.1 h1
    · exact h2.2.1 h1
    · exact h2.2.2.1 h1
    · exact h2.2.2.2.1 h1
    · omega
theorem yAR_A {P P' : zp} {A : yAA} (h : yF yfA ykA P P') (hR : yAR P A) : yAR P' A := by
  have e1 : P'.2.1 286 = P.2.1 286 := h.2.1 286 (fun z => by have := ykA_m.mp z; omega)
  have e2 : P'.2.1 289 = P.2.1 289 := h.2.1 289 (fun z => by have := ykA_m.mp z; omega)
  have e3 : P'.1 269 34 = P.1 269 34 := h.1 269 34 (fun z => by
    rcases yfA_n z with z | z | z | z | z
    · cases z
    · cases z
    · cases z
    · cases z
    · have : (49 ≤ 269 ∧ 269 < 249) := z; omega)
  unfold yAR
  rw [e1, e2, e3]
  exact hR
theorem yAC_R {fs : List (Nat × Nat)} {ks : List Nat} {P P' : zp} {A : yAA} (hk : ∀ k, k ∈ ks → k < 35 ∨ k = 42 ∨ 249 ≤ k) (hf : ∀ x, x ∈ fs → x.1 < 35 ∨ 249 ≤ x.1) (h : yF fs ks P P') (hC : yAC P A) : yAC P' A := by
  obtain ⟨c0, c1, c2, c3, c4, c5⟩ := hC
  have e41 : P'.2.1 41 = P.2.1 41 := h.2.1 41 (fun z => by have := hk _ z; omega)
  have cc : ∀ b V, 35 ≤ b → b < 245 → (b ≠ 38 ∧ b ≠ 39 ∧ b ≠ 40 ∧ b ≠ 41) → yC P b V → yC P' b V := fun b V h1 h2 h3 hc => yC_F (fun j j0 j5 z => by have := hk _ z; omega) (fun z => by have := hf _ z; omega) (fun z => by have := hf _ z; omega) h hc
  refine ⟨by rw [h.2.2.2.1]; exact c0, ?_, ?_, cc 35 _ (by decide) (by decide) (by decide) c3, fun i hi => ?_, by rw [e41]; exact c5⟩
  · rw [h.1 40 6 (fun z => by have := hf _ z; omega)]; exact c1
  · rw [h.1 40 5 (fun z => by have := hf _ z; omega)]; exact c2
  · have : (A.2.1 + 39 - i) % 40 < 40 := Nat.mod_lt _ (by decide)
    exact cc _ _ (by omega) (by omega) (by omega) (c4 i hi)
theorem yJ_R {P P' : zp} {n : Nat} {T : yT} {nl : Nat} {L : Nat → Nat × Nat × Nat} {c0 : Int32} (h : yF yfR ykR P P') (hJ : yJ P n T nl L c0) : yJ P' n T nl L c0 := yJ_F (by decide) (by decide) h hJ
theorem yK_R {P P' : zp} (h : yF yfR ykR P P') (hK : yK P) : yK P' := yK_F (by decide) (by decide) h hK
