/-! SPECS 22: both sides beside each other -/
/-- the log: the reference's row, the class's ring, the week -/
def yLg (row ent : Nat → Int32) (w : Nat) : Prop := row 40 = zi (min 60 w) ∧ ∀ i c, i < min 60 w → c < 3 → row (41 + 3 * (min 60 w - 1 - i) + c) = ent (3 * ((w - 1 - i) % 100) + c)
def yB (np : Nat) (V : yV) : Prop := (∀ p, p < 6 → ¬ V.2.1 p < 0 ∧ ¬ 99 < V.2.1 p) ∧ (∀ p, np ≤ p → p < 6 → V.2.1 p = 0) ∧ V.2.2.2 ≤ 999
/-- the told saddles, the told coins -/
def yX (P : zp) (np nl : Nat) (L : Nat → Nat × Nat × Nat) (c0 : Int32) : Prop := P.1 26 3 = zi nl ∧ P.1 269 26 = zi nl ∧ (nl ≤ 8 ∧ (np = 0 ∨ 2 ≤ np)) ∧ (∀ l, l < nl → (P.2.1 30 l = zi (L l).1 ∧ P.2.1 31 l = zi (L l).2.1 ∧ P.2.1 32 l = zi (L l).2.2) ∧ P.2.1 285 (3 * l + 0) = zi (L l).1 ∧ P.2.1 285 (3 * l + 1) = zi (L l).2.1 ∧ P.2.1 285 (3 * l + 2) = zi (L l).2.2) ∧ (∀ l, l < nl → (L l).1 < np ∧ (L l).2.1 < np ∧ (L l).1 ≠ (L l).2.1 ∧ (L l).2.2 < 10) ∧ P.1 26 1 = c0 ∧ P.2.1 283 1 = c0 ∧ ∃ h, h ≤ 9 ∧ P.1 26 0 = zi h
/-- the image -/
def yM (P : zp) (np : Nat) : Prop := (P.1 40 4 = 0 ∧ P.1 269 50 = 0) ∨ (P.1 40 4 = 1 ∧ P.1 269 50 = 1 ∧ 0 < np ∧ ∃ I : yV, yC P 43 I ∧ yR (P.2.1 298) I ∧ yO np I ∧ yB np I ∧ yLg (P.2.1 298) (P.2.1 42) I.2.2.2)
/-- what was seen -/
def yN (P : zp) (np : Nat) : Prop := ∃ nn, nn ≤ 10 ∧ P.1 249 9 = zi nn ∧ P.1 269 46 = zi nn ∧ ∀ i, i < nn → (P.2.1 255 i = P.2.1 292 i ∧ P.2.1 256 i = P.2.1 293 i ∧ P.2.1 257 i = P.2.1 294 i ∧ P.2.1 258 i = P.2.1 295 i) ∧ (∃ p, p < np ∧ P.2.1 255 i = zi p) ∧ (∃ w, 1 ≤ w ∧ w ≤ 9 ∧ P.2.1 256 i = zi w) ∧ (P.2.1 258 i = 0 ∨ P.2.1 258 i = 1)
/-- the laws -/
def yQ (P : zp) (n : Nat) : Prop := ∃ nw, nw ≤ 4 ∧ P.1 33 2 = zi nw ∧ P.1 269 13 = zi nw ∧ (∀ i, i < nw → ∃ la X, P.2.2.2.1 34 i = some la ∧ la + 2 < n ∧ yLC P.2.2.2.2 la X ∧ yLR P.2.1 i X ∧ ywf X) ∧ P.1 33 3 = P.1 269 29 ∧ (P.1 33 3 = -1 ∨ ∃ i, i < nw ∧ P.1 33 3 = zi i)
/-- refusals, rest, the tape -/
def yK (P : zp) : Prop := (∀ j, j < 5 → P.2.1 268 j = P.2.1 287 j) ∧ P.1 12 11 = P.1 269 30 ∧ ∃ len, len ≤ 240 ∧ P.1 13 0 = zi len ∧ P.1 269 2 = zi len ∧ ∀ i, i < len → P.2.1 14 i = P.2.1 270 i ∧ ∃ c, 1 ≤ c ∧ c < 256 ∧ P.2.1 14 i = zi c
/-- the acts that can be undone: U 0 is now, U (i + 1) ahead of the latest act but i -/
def yU (P : zp) (np : Nat) (V : yV) : Prop := (∀ s, s < 40 → P.2.2.2.1 48 s = some (49 + 5 * s)) ∧ ∃ (na nx : Nat) (U : Nat → yV), U 0 = V ∧ P.1 40 6 = zi na ∧ P.1 269 34 = zi na ∧ na ≤ 40 ∧ P.1 40 5 = zi nx ∧ nx < 40 ∧ ∀ i, i < na → yC P (49 + 5 * ((nx + 39 - i) % 40)) (U (i + 1)) ∧ yR (fun j => P.2.1 289 (221 * (na - 1 - i) + j)) (U (i + 1)) ∧ yO np (U (i + 1)) ∧ yB np (U (i + 1)) ∧ yLg (fun j => P.2.1 289 (221 * (na - 1 - i) + j)) (P.2.1 41) (U (i + 1)).2.2.2 ∧ (U (i + 1)).2.2.2 ≤ (U i).2.2.2 ∧ (U i).2.2.2 ≤ (U (i + 1)).2.2.2 + 1
def yJ (P : zp) (n : Nat) (T : yT) (nl : Nat) (L : Nat → Nat × Nat × Nat) (c0 : Int32) : Prop := yTC P T ∧ yTR P T ∧ yX P T.1 nl L c0 ∧ yM P T.1 ∧ yN P T.1 ∧ yQ P n
def yA (P : zp) (np : Nat) (V : yV) : Prop := yC P 35 V ∧ yR (P.2.1 286) V ∧ yO np V ∧ yB np V ∧ yLg (P.2.1 286) (P.2.1 41) V.2.2.2 ∧ yU P np V
def yI (P : zp) (n : Nat) : Prop := 300 ≤ n ∧ ∃ T V nl L c0, yJ P n T nl L c0 ∧ yA P T.1 V ∧ yK P
/-- the cells and fields that the static part needs -/
def yNJ : List Nat := [27, 28, 29, 30, 31, 32, 42, 44, 45, 46, 47, 255, 256, 257, 258, 271, 272, 274, 275, 276, 277, 283, 284, 285, 292, 293, 294, 295, 298]
def yNF : List (Nat × Nat) := [(26, 0), (26, 1), (26, 2), (26, 3), (33, 2), (33, 3), (40, 4), (43, 4), (43, 5), (249, 9), (269, 13), (269, 25), (269, 26), (269, 29), (269, 46), (269, 50)]
set_option maxHeartbeats 1000000 in
theorem yJ_F {fs : List (Nat × Nat)} {ks : List Nat} {P P' : zp} {n : Nat} {T : yT} {nl : Nat} {L : Nat → Nat × Nat × Nat} {c0 : Int32} (hk : ∀ k, k ∈ yNJ → k ∉ ks) (hf : ∀ x, x ∈ yNF → x ∉ fs) (h : yF fs ks P P') (hJ : yJ P n T nl L c0) : yJ P' n T nl L c0 := by
  obtain ⟨j1, j2, ⟨x1, x2, x3, x4, x5, x6, x7⟩, j4, ⟨nn, n1, n2, n3, n4⟩, ⟨nw, q1, q2, q3, q4, q5, q6⟩⟩ := hJ
  have hA := fun k (z : k ∈ yNJ) => h.2.1 k (hk k z)
  have hF := fun k j (w : (k, j) ∈ yNF) => h.1 k j (hf _ w)
  refine ⟨?_, ?_, ⟨?_, ?_, x3, fun l hl => ?_, x5, ?_, ?_⟩, ?_, ⟨nn, n1, ?_, ?_, fun i hi => ?_⟩, ⟨nw, q1, ?_, ?_, fun i hi => ?_, ?_, ?_⟩⟩
  · refine yTC_F (fun k hk' => hk k ?_) (fun x hx => hf x ?_) h j1
    · exact (by decide : ∀ k, k ∈ [27, 28, 29] → k ∈ yNJ) k hk'
    · exact (by decide : ∀ x, x ∈ [(26, 2), (26, 0), (33, 3)] → x ∈ yNF) x hx
  · refine yTR_F ⟨fun j hj => hf _ ?_, fun k hk' => hk k ?_⟩ h j2
    · exact (by decide : ∀ j, j ∈ [25, 29] → (269, j) ∈ yNF) j hj
    · exact (by decide : ∀ k, k ∈ [271, 272, 274, 275, 276, 277, 283, 284] → k ∈ yNJ) k hk'
  · rw [hF 26 3 (by decide)]; exact x1
  · rw [hF 269 26 (by decide)]; exact x2
  · rw [hA 30 (by decide), hA 31 (by decide), hA 32 (by decide), hA 285 (by decide)]; exact x4 l hl
  · rw [hF 26 1 (by decide)]; exact x6
  · rw [hA 283 (by decide), hF 26 0 (by decide)]; exact x7
  · rcases j4 with ⟨m1, m2⟩ | ⟨m1, m2, m3, I, m4, m5, m6, m7, m8⟩
    · exact Or.inl ⟨(hF 40 4 (by decide)).trans m1, (hF 269 50 (by decide)).trans m2⟩
    · refine Or.inr ⟨(hF 40 4 (by decide)).trans m1, (hF 269 50 (by decide)).trans m2, m3, I, yC_F (fun j h0 hj => hk _ ?_) (hf _ (by decide)) (hf _ (by decide)) h m4, ?_, m6, m7, ?_⟩
      · exact (by decide : ∀ j, j < 5 → 0 < j → 43 + j ∈ yNJ) j hj h0
      · rw [hA 298 (by decide)]; exact m5
      · rw [hA 298 (by decide), hA 42 (by decide)]; exact m8
  · rw [hF 249 9 (by decide)]; exact n2
  · rw [hF 269 46 (by decide)]; exact n3
  · rw [hA 255 (by decide), hA 256 (by decide), hA 257 (by decide), hA 258 (by decide), hA 292 (by decide), hA 293 (by decide), hA 294 (by decide), hA 295 (by decide)]; exact n4 i hi
  · rw [hF 33 2 (by decide)]; exact q2
  · rw [hF 269 13 (by decide)]; exact q3
  · obtain ⟨la, X, a1, a2, a3, a4, a5⟩ := q4 i hi
    refine ⟨la, X, by rw [h.2.2.2.1]; exact a1, a2, h.2.2.2.2 _ _ a3, yLR_e (fun k hk' => hA k ?_) a4, a5⟩
    exact (by decide : ∀ k, k ∈ [271, 272, 274, 275, 276, 277] → k ∈ yNJ) k hk'
  · rw [hF 33 3 (by decide), hF 269 29 (by decide)]; exact q5
  · rw [hF 33 3 (by decide)]; exact q6
/-- .. and that the refusals, rest and tape need -/
def yNK : List Nat := [14, 268, 270, 287]
def yNG : List (Nat × Nat) := [(12, 11), (13, 0), (269, 2), (269, 30)]
theorem yK_F {fs : List (Nat × Nat)} {ks : List Nat} {P P' : zp} (hk : ∀ k, k ∈ yNK → k ∉ ks) (hf : ∀ x, x ∈ yNG → x ∉ fs) (h : yF fs ks P P') (hK : yK P) : yK P' := by
  obtain ⟨k1, k2, ⟨len, l1, l2, l3, l4⟩⟩ := hK
  have hA := fun k (z : k ∈ yNK) => h.2.1 k (hk k z)
  have hF := fun k j (w : (k, j) ∈ yNG) => h.1 k j (hf _ w)
  refine ⟨fun j hj => ?_, ?_, len, l1, ?_, ?_, fun i hi => ?_⟩
  · rw [hA 268 (by decide), hA 287 (by decide)]; exact k1 j hj
  · rw [hF 12 11 (by decide), hF 269 30 (by decide)]; exact k2
  · rw [hF 13 0 (by decide)]; exact l2
  · rw [hF 269 2 (by decide)]; exact l3
  · rw [hA 14 (by decide), hA 270 (by decide)]; exact l4 i hi
theorem yU_F {fs : List (Nat × Nat)} {ks : List Nat} {P P' : zp} {np : Nat} {V : yV} (hk : ∀ k, k ∈ ks → (k < 41 ∨ 42 ≤ k ∧ k < 49 ∨ 249 ≤ k) ∧ k ≠ 289) (hf : ∀ x, x ∈ fs → x ≠ (40, 5) ∧ x ≠ (40, 6) ∧ x ≠ (269, 34) ∧ (x.1 < 49 ∨ 249 ≤ x.1)) (h : yF fs ks P P') (hU : yU P np V) : yU P' np V := by
  obtain ⟨ur, na, nx, U, u0, u1, u2, u3, u4, u5, u6⟩ := hU
  refine ⟨by rw [h.2.2.2.1]; exact ur, na, nx, U, u0, ?_, ?_, u3, ?_, u5, fun i hi => ?_⟩
  · rw [h.1 40 6 (fun z => (hf _ z).2.1 rfl)]; exact u1
  · rw [h.1 269 34 (fun z => (hf _ z).2.2.1 rfl)]; exact u2
  · rw [h.1 40 5 (fun z => (hf _ z).1 rfl)]; exact u4
  · obtain ⟨a1, a2, a3, a4, a5, a6⟩ := u6 i hi
    have hs : (nx + 39 - i) % 40 < 40 := Nat.mod_lt _ (by decide)
    refine ⟨yC_F (fun j _ hj z => ?_) (fun z => ?_) (fun z => ?_) h a1, ?_, a3, a4, ?_, a6⟩
    · have := hk _ z; omega
    · have := (hf _ z).2.2.2; omega
    · have := (hf _ z).2.2.2; omega
    · rw [h.2.1 289 (fun z => (hk _ z).2 rfl)]; exact a2
    · rw [h.2.1 289 (fun z => (hk _ z).2 rfl), h.2.1 41 (fun z => by have := hk _ z; omega)]; exact a5
theorem yA_F {fs : List (Nat × Nat)} {ks : List Nat} {P P' : zp} {np : Nat} {V : yV} (hk : ∀ k, k ∈ ks → (k < 36 ∨ k = 40 ∨ 42 ≤ k ∧ k < 49 ∨ 249 ≤ k) ∧ k ≠ 289 ∧ k ≠ 286) (hf : ∀ x, x ∈ fs → x ≠ (35, 4) ∧ x ≠ (35, 5) ∧ x ≠ (40, 5) ∧ x ≠ (40, 6) ∧ x ≠ (269, 34) ∧ (x.1 < 49 ∨ 249 ≤ x.1)) (h : yF fs ks P P') (hA : yA P np V) : yA P' np V := by
  obtain ⟨a1, a2, a3, a4, a5, a6⟩ := hA
  have e286 : P'.2.1 286 = P.2.1 286 := h.2.1 286 (fun z => (hk _ z).2.2 rfl)
  refine ⟨yC_F (fun j h0 hj z => by have := hk _ z; omega) (fun z => (hf _ z).1 rfl) (fun z => (hf _ z).2.1 rfl) h a1, by rw [e286]; exact a2, a3, a4, ?_, yU_F (fun k hk' => ?_) (fun x hx => (hf x hx).2.2) h a6⟩
  · rw [e286, h.2.1 41 (fun z => by have := hk _ z; omega)]; exact a5
  · have := hk k hk'; omega
/-- a change of what nobody needs -/
def ySc (fs : List (Nat × Nat)) (ks : List Nat) : Prop := (∀ k, k ∈ yNJ → k ∉ ks) ∧ (∀ x, x ∈ yNF → x ∉ fs) ∧ (∀ k, k ∈ yNK → k ∉ ks) ∧ (∀ x, x ∈ yNG → x ∉ fs) ∧ (∀ k, k ∈ ks → (k < 36 ∨ k = 40 ∨ 42 ≤ k ∧ k < 49 ∨ 249 ≤ k) ∧ k ≠ 289 ∧ k ≠ 286) ∧ (∀ x, x ∈ fs → x ≠ (35, 4) ∧ x ≠ (35, 5) ∧ x ≠ (40, 5) ∧ x ≠ (40, 6) ∧ x ≠ (269, 34) ∧ (x.1 < 49 ∨ 249 ≤ x.1))
/-- all of it, opened -/
def yP (P : zp) (n : Nat) (T : yT) (V : yV) (nl : Nat) (L : Nat → Nat × Nat × Nat) (c0 : Int32) : Prop := yJ P n T nl L c0 ∧ yA P T.1 V ∧ yK P
theorem yP_F {fs : List (Nat × Nat)} {ks : List Nat} {P P' : zp} {n : Nat} {T : yT} {V : yV} {nl : Nat} {L : Nat → Nat × Nat × Nat} {c0 : Int32} (hc : ySc fs ks) (h : yF fs ks P P') (hP : yP P n T V nl L c0) : yP P' n T V nl L c0 :=
  ⟨yJ_F hc.1 hc.2.1 h hP.1, yA_F hc.2.2.2.2.1 hc.2.2.2.2.2 h hP.2.1, yK_F hc.2.2.1 hc.2.2.2.1 h hP.2.2⟩
theorem ySc_0 : ySc [] [] := ⟨fun _ _ z => (by cases z), fun _ _ z => (by cases z), fun _ _ z => (by cases z), fun _ _ z => (by cases z), fun _ z => (by cases z), fun _ z => by cases z⟩
theorem ySc_r : ySc [] [278, 279] := ⟨by decide, by decide, by decide, by decide, by decide, by decide⟩
theorem ySc_t : ySc [(269, 32)] [278, 279, 288, 290] := ⟨by decide, by decide, by decide, by decide, by decide, by decide⟩
