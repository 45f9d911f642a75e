/-! SPECS 14: worth and pinch, by the reference -/
/-- a clause of the reference in its cells -/
def yLc (A : Nat → Nat → Int32) (i q : Nat) (c : List (Nat × Nat) × List (Nat × Nat)) : Prop := ∃ a, A 275 (140 * i + q) = zi a ∧ A 276 (140 * i + q) = zi (a + c.1.length) ∧ A 277 (140 * i + q) = zi (a + c.1.length + c.2.length) ∧ a + c.1.length + c.2.length ≤ 520 ∧ ∀ j o, (c.1 ++ c.2)[j]? = some o → A 271 (520 * i + a + j) = zi o.1 ∧ A 272 (520 * i + a + j) = zi o.2
theorem yLc_e {A A' : Nat → Nat → Int32} {i q : Nat} {c : List (Nat × Nat) × List (Nat × Nat)} (h1 : A' 271 = A 271) (h2 : A' 272 = A 272) (h5 : A' 275 = A 275) (h6 : A' 276 = A 276) (h7 : A' 277 = A 277) (h : yLc A i q c) : yLc A' i q c := by
  unfold yLc at h ⊢
  rw [h1, h2, h5, h6, h7]; exact h
section
variable {P : zp} {n : Nat × Nat} {d : Nat}
theorem zi_140 (i q : Nat) : 140 * zi i + zi q = zi (140 * i + q) := by
  show Int32.ofNat 140 * Int32.ofNat i + Int32.ofNat q = Int32.ofNat (140 * i + q)
  rw [← Int32.ofNat_mul, ← Int32.ofNat_add]
theorem zi_140' (i : Nat) : 140 * zi i = zi (140 * i) := by
  show Int32.ofNat 140 * Int32.ofNat i = Int32.ofNat (140 * i)
  rw [← Int32.ofNat_mul]
set_option maxHeartbeats 2000000 in
theorem zs_Rwloop {l : Nat → Int32} {i m : Nat} (hi : i < 5) (hm : m ≤ 140) : ∀ (Y : yL) (q : Nat) (P : zp), (∀ j, j < 6 → P.2.1 278 j = l j) → P.2.1 274 i = zi m → (∀ j c, Y[j]? = some c → yLc P.2.1 i (q + j) c) → q + Y.length = m → ywf Y →
    ∃ P', zk_sf (d + 4) m_R_worthOf 6 [.ref 269, .int (zi i), .int (zi (140 * i + q))] [] (zp_M P, n) = some (some (Value.int (yWl l Y)), (zp_M P', n)) ∧ yF [] [279] P P'
  | [], q, P, hl, h4, hc, hq, hw => by
    have hq' : q = m := hq
    refine ⟨P, ?_, yF_r⟩
    rw [e_R_worthOf_6, zp_R9, Option.bind_some, zp_ldi zp_a274 hi (by decide), Option.bind_some, h4, zi_140, if_neg (fun z => absurd ((zi_l (by omega) (by omega)).mp z) (by omega))]
    rfl
  | (t, s) :: Y, q, P, hl, h4, hc, hq, hw => by
    rw [List.length_cons] at hq
    obtain ⟨a, c5, c6, c7, c520, ho⟩ := hc 0 (t, s) rfl
    obtain ⟨w1, w2⟩ := hw (t, s) (List.mem_cons_self ..)
    have c520 : a + t.length + s.length ≤ 520 := c520
    have hb : 140 * i + (q + 0) < 700 := by omega
    rw [Nat.add_zero] at c5 c6 c7 hb
    have e275 := zp_ldi (P := P) (n := n) zp_a275 hb (by decide)
    have e276 := zp_ldi (P := P) (n := n) zp_a276 hb (by decide)
    have e277 := zp_ldi (P := P) (n := n) zp_a277 hb (by decide)
    rw [c5] at e275
    rw [c6] at e276
    rw [c7] at e277
    have hs : ∀ (P' : zp), yF [] [279] P P' → ∃ P'', zk_sm (d + 3) m_R_workOut [.ref 269, .int (zi i), .int (zi (a + t.length)), .int (zi (a + t.length + s.length))] (zp_M P', n) = some (some (Value.int ((yrn l s []).headD 0)), (zp_M P'', n)) ∧ yF [] [279] P' P'' := fun P' f =>
      zs_RworkOut (d := d) (n := n) (fun j hj => by rw [f.2.1 278 (by decide)]; exact hl j hj) hi rfl (by omega) (fun j o hj => by
        rw [f.2.1 271 (by decide), f.2.1 272 (by decide), show 520 * i + (a + t.length) + j = 520 * i + a + (t.length + j) by omega]
        exact ho (t.length + j) o (by show (t ++ s)[t.length + j]? = _; rw [List.getElem?_append_right (by omega), Nat.add_sub_cancel_left]; exact hj)) w2
    rw [e_R_worthOf_6, zp_R9, Option.bind_some, zp_ldi zp_a274 hi (by decide), Option.bind_some, h4, zi_140, if_pos ((zi_l (by omega) (by omega)).mpr (by omega)), zp_R10, Option.bind_some, e275, Option.bind_some, zp_R11, Option.bind_some, e276, Option.bind_some]
    by_cases ht : t = []
    · subst ht
      rw [if_pos (show zi a = zi (a + ([] : List (Nat × Nat)).length) from rfl), Option.bind_some, e276, Option.bind_some, zp_R12, Option.bind_some, e277, Option.bind_some, zp_Rv, Option.bind_some]
      obtain ⟨P1, e1, f1⟩ := hs P yF_r
      refine ⟨P1, ?_, f1⟩
      rw [e1, zs_cI, Option.bind_some]
      show _ = some (some (Value.int (if ([] : List (Nat × Nat)) = [] then (yrn l s []).headD 0 else _)), (zp_M P1, n))
      rw [if_pos rfl]
    · have hn : ¬ zi a = zi (a + t.length) := fun z => by
        have := (zi_eq (by omega) (by omega)).mp z
        exact ht (List.eq_nil_of_length_eq_zero (by omega))
      obtain ⟨P1, e1, f1⟩ := zs_RworkOut (d := d) (n := n) (P := P) (a := a) hl hi rfl (by omega) (fun j o hj => by
        exact ho j o (by show (t ++ s)[j]? = _; rw [List.getElem?_append_left (List.getElem?_eq_some_iff.mp hj).1]; exact hj)) (w1.resolve_left ht)
      rw [if_neg hn, Option.bind_some, e275, Option.bind_some, Option.bind_some, e276, Option.bind_some, zp_Rv, Option.bind_some, e1, zs_cI, Option.bind_some]
      have hv : yWl l ((t, s) :: Y) = if (yrn l t []).headD 0 = 0 then yWl l Y else (yrn l s []).headD 0 := by
        show (if t = [] then _ else _) = _
        rw [if_neg ht]
      rw [hv]
      by_cases qa : (yrn l t []).headD 0 = 0
      · rw [if_pos qa, if_pos qa, show zi (140 * i + q) + 1 = zi (140 * i + (q + 1)) from zi_s _]
        have hl1 : ∀ j, j < 6 → P1.2.1 278 j = l j := fun j hj => by rw [f1.2.1 278 (by decide)]; exact hl j hj
        obtain ⟨P2, e2, f2⟩ := zs_Rwloop hi hm Y (q + 1) P1 hl1 (by rw [f1.2.1 274 (by decide)]; exact h4) (fun j c hj => yLc_e (f1.2.1 271 (by decide)) (f1.2.1 272 (by decide)) (f1.2.1 275 (by decide)) (f1.2.1 276 (by decide)) (f1.2.1 277 (by decide)) (by rw [show q + 1 + j = q + (j + 1) by omega]; exact hc (j + 1) c hj)) (by omega) (fun c hc' => hw c (List.mem_cons_of_mem _ hc'))
        exact ⟨P2, e2, yF_t f1 f2⟩
      · rw [if_neg qa, if_neg qa]
        obtain ⟨P2, e2, f2⟩ := hs P1 f1
        have e276' := zp_ldi (P := P1) (n := n) zp_a276 hb (by decide)
        have e277' := zp_ldi (P := P1) (n := n) zp_a277 hb (by decide)
        rw [f1.2.1 276 (by decide), c6] at e276'
        rw [f1.2.1 277 (by decide), c7] at e277'
        refine ⟨P2, ?_, yF_t f1 f2⟩
        rw [zp_R11, Option.bind_some, e276', Option.bind_some, zp_R12, Option.bind_some, e277', Option.bind_some, zp_Rv, Option.bind_some, e2, zs_cI, Option.bind_some]
theorem zs_RworthOf {l : Nat → Int32} {i : Nat} {X : yL} (hl : ∀ j, j < 6 → P.2.1 278 j = l j) (hX : yLR P.2.1 i X) (hw : ywf X) :
    ∃ P', zk_sm (d + 5) m_R_worthOf [.ref 269, .int (zi i)] (zp_M P, n) = some (some (Value.int (yWl l X)), (zp_M P', n)) ∧ yF [] [279] P P' := by
  obtain ⟨hi, hm, h4, hc⟩ := hX
  obtain ⟨P', e, f⟩ := zs_Rwloop (d := d + 1) (n := n) hi hm X 0 P hl h4 (fun j c hj => by rw [Nat.zero_add]; exact hc j c hj) (Nat.zero_add _) hw
  refine ⟨P', ?_, f⟩
  rw [e_R_worthOf, zi_140']
  exact e
end
/-! what is told, and how it stands: numbers of both sides -/
abbrev yV : Type := (Nat → Option (Nat × Nat × Nat)) × (Nat → Int32) × Int32 × Nat
abbrev yT : Type := Nat × (Nat → Int32) × (Nat → Int32) × (Nat → Int32) × Int32 × (Int32 → Int32 → Int32 → Int32 → Int32 → Int32 → Int32)
def yW0 (s b f _t _g _w : Int32) : Int32 := zq_abs (f - b) + s / 3
def yWR (P : zp) (W : Int32 → Int32 → Int32 → Int32 → Int32 → Int32 → Int32) : Prop := (P.1 269 29 = -1 ∧ W = yW0) ∨ ∃ i X, i < 4 ∧ P.1 269 29 = zi i ∧ yLR P.2.1 i X ∧ ywf X ∧ W = yW X
def yTR (P : zp) (T : yT) : Prop := P.1 269 25 = zi T.1 ∧ T.1 ≤ 6 ∧ (∀ p, p < T.1 → P.2.1 284 (3 * p + 0) = T.2.1 p ∧ P.2.1 284 (3 * p + 1) = T.2.2.1 p ∧ P.2.1 284 (3 * p + 2) = T.2.2.2.1 p) ∧ P.2.1 283 0 = T.2.2.2.2.1 ∧ yWR P T.2.2.2.2.2
def yWC (P : zp) (W : Int32 → Int32 → Int32 → Int32 → Int32 → Int32 → Int32) : Prop := (P.1 33 3 = -1 ∧ W = yW0) ∨ ∃ i la X, i < 4 ∧ P.1 33 3 = zi i ∧ P.2.2.2.1 34 i = some la ∧ yLC P.2.2.2.2 la X ∧ ywf X ∧ W = yW X
def yTC (P : zp) (T : yT) : Prop := P.1 26 2 = zi T.1 ∧ T.1 ≤ 6 ∧ (∀ p, p < T.1 → P.2.1 27 p = T.2.1 p ∧ P.2.1 28 p = T.2.2.1 p ∧ P.2.1 29 p = T.2.2.2.1 p) ∧ P.1 26 0 = T.2.2.2.2.1 ∧ yWC P T.2.2.2.2.2
theorem yLR_e {A A' : Nat → Nat → Int32} {i : Nat} {X : yL} (h : ∀ k, k ∈ [271, 272, 274, 275, 276, 277] → A' k = A k) (hX : yLR A i X) : yLR A' i X := by
  obtain ⟨hi, hm, h4, hc⟩ := hX
  refine ⟨hi, hm, by rw [h 274 (by decide)]; exact h4, fun q c hq => ?_⟩
  exact yLc_e (h 271 (by decide)) (h 272 (by decide)) (h 275 (by decide)) (h 276 (by decide)) (h 277 (by decide)) (hc q c hq)
theorem yTR_F {fs : List (Nat × Nat)} {ks : List Nat} {P P' : zp} {T : yT} (hc : (∀ j, j ∈ [25, 29] → (269, j) ∉ fs) ∧ ∀ k, k ∈ [271, 272, 274, 275, 276, 277, 283, 284] → k ∉ ks) (h : yF fs ks P P') (hT : yTR P T) : yTR P' T := by
  obtain ⟨a1, a2, a3, a4, a5⟩ := hT
  have hk := fun k hk' => h.2.1 k (hc.2 k hk')
  have hf := fun j hj => h.1 269 j (hc.1 j hj)
  refine ⟨(hf 25 (by decide)).trans a1, a2, fun p hp => by rw [hk 284 (by decide)]; exact a3 p hp, by rw [hk 283 (by decide)]; exact a4, ?_⟩
  rcases a5 with ⟨b1, b2⟩ | ⟨i, X, b1, b2, b3, b4, b5⟩
  · exact Or.inl ⟨(hf 29 (by decide)).trans b1, b2⟩
  · refine Or.inr ⟨i, X, b1, (hf 29 (by decide)).trans b2, yLR_e (fun k hk' => hk k ?_) b3, b4, b5⟩
    have : k ∈ [271, 272, 274, 275, 276, 277] := hk'
    revert this
    simp only [List.mem_cons, List.not_mem_nil, or_false]
    omega
theorem yTC_F {fs : List (Nat × Nat)} {ks : List Nat} {P P' : zp} {T : yT} (hc : ∀ k, k ∈ [27, 28, 29] → k ∉ ks) (hf : ∀ x, x ∈ [(26, 2), (26, 0), (33, 3)] → x ∉ fs) (h : yF fs ks P P') (hT : yTC P T) : yTC P' T := by
  obtain ⟨a1, a2, a3, a4, a5⟩ := hT
  have hk := fun k hk' => h.2.1 k (hc k hk')
  refine ⟨(h.1 26 2 (hf _ (by decide))).trans a1, a2, fun p hp => by rw [hk 27 (by decide), hk 28 (by decide), hk 29 (by decide)]; exact a3 p hp, (h.1 26 0 (hf _ (by decide))).trans a4, ?_⟩
  rcases a5 with ⟨b1, b2⟩ | ⟨i, la, X, b1, b2, b3, b4, b5, b6⟩
  · exact Or.inl ⟨(h.1 33 3 (hf _ (by decide))).trans b1, b2⟩
  · exact Or.inr ⟨i, la, X, b1, (h.1 33 3 (hf _ (by decide))).trans b2, by rw [h.2.2.2.1]; exact b3, h.2.2.2.2 _ _ b4, b5, b6⟩
