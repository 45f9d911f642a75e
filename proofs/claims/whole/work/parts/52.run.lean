/-! SPECS 11: pieces worked out over a stack; the class's law at work -/
def ystp (l : Nat → Int32) (c v : Nat) (S : List Int32) : List Int32 :=
  if c = 0 then zi v :: S else if c = 1 then l v :: S
  else if c = 9 then (match S with | a :: S => (1 - a) :: S | [] => [])
  else match S with | b :: a :: S => ybin c a b :: S | _ => []
def yrn (l : Nat → Int32) : List (Nat × Nat) → List Int32 → List Int32
  | [], S => S
  | o :: os, S => yrn l os (ystp l o.1 o.2 S)
def yty1 (c v : Nat) (t : List Bool) : Option (List Bool) :=
  if c = 0 then (if v < 10000 ∧ t.length < 60 then some (false :: t) else none)
  else if c = 1 then (if v < 6 ∧ t.length < 60 then some (false :: t) else none)
  else if c = 9 then (match t with | true :: t => some (true :: t) | _ => none)
  else if c < 6 then (match t with | false :: false :: t => some (false :: t) | _ => none)
  else if c < 9 then (match t with | false :: false :: t => some (true :: t) | _ => none)
  else if c < 12 then (match t with | true :: true :: t => some (true :: t) | _ => none)
  else none
def yty : List (Nat × Nat) → List Bool → Option (List Bool)
  | [], t => some t
  | o :: os, t => (yty1 o.1 o.2 t).bind (yty os)
/-- a stack of these kinds: truths are 0 or 1 -/
def ymt : List Int32 → List Bool → Prop
  | [], [] => True
  | a :: S, t :: ts => (t = true → a = 0 ∨ a = 1) ∧ ymt S ts
  | _, _ => False
theorem ymt_l : ∀ {S : List Int32} {t : List Bool}, ymt S t → S.length = t.length
  | [], [], _ => rfl
  | _ :: S, _ :: t, h => congrArg (· + 1) (ymt_l h.2)
  | [], _ :: _, h => h.elim
  | _ :: _, [], h => h.elim
theorem ybin_t {c : Nat} {a b : Int32} (h : 6 ≤ c) (h' : c < 12) : ybin c a b = 0 ∨ ybin c a b = 1 := by
  have hi : ∀ {p : Prop} [Decidable p], (if p then (1 : Int32) else 0) = 0 ∨ (if p then (1 : Int32) else 0) = 1 := by
    intro p _
    by_cases q : p
    · rw [if_pos q]; exact Or.inr rfl
    · rw [if_neg q]; exact Or.inl rfl
  have h10 : ∀ {p : Prop} [Decidable p], (if p then (0 : Int32) else 1) = 0 ∨ (if p then (0 : Int32) else 1) = 1 := by
    intro p _
    by_cases q : p
    · rw [if_pos q]; exact Or.inl rfl
    · rw [if_neg q]; exact Or.inr rfl
  have hd : (if a.toInt64 = 0 then (if b.toInt64 = 0 then (0 : Int32) else 1) else 1) = 0 ∨ (if a.toInt64 = 0 then (if b.toInt64 = 0 then (0 : Int32) else 1) else 1) = 1 := by
    by_cases q : a.toInt64 = 0
    · rw [if_pos q]; exact h10
    · rw [if_neg q]; exact Or.inr rfl
  have hh : c = 6 ∨ c = 7 ∨ c = 8 ∨ c = 9 ∨ c = 10 ∨ c = 11 := by omega
  rcases hh with rfl | rfl | rfl | rfl | rfl | rfl
  · exact hi
  · exact hi
  · exact hi
  · exact hd
  · show (if a.toInt64 = 0 then (0 : Int32) else if b.toInt64 = 0 then 0 else 1) = 0 ∨ (if a.toInt64 = 0 then (0 : Int32) else if b.toInt64 = 0 then 0 else 1) = 1
    by_cases q : a.toInt64 = 0
    · rw [if_pos q]; exact Or.inl rfl
    · rw [if_neg q]; exact h10
  · exact hd
theorem ymt_s {l : Nat → Int32} {c v : Nat} {S : List Int32} {t t' : List Bool} (hm : ymt S t) (ht : yty1 c v t = some t') : ymt (ystp l c v S) t' := by
  unfold yty1 at ht
  unfold ystp
  by_cases h0 : c = 0
  · rw [if_pos h0] at ht ⊢
    by_cases q : v < 10000 ∧ t.length < 60
    · rw [if_pos q] at ht; cases ht; exact ⟨fun z => (by cases z), hm⟩
    · rw [if_neg q] at ht; cases ht
  rw [if_neg h0] at ht ⊢
  by_cases h1 : c = 1
  · rw [if_pos h1] at ht ⊢
    by_cases q : v < 6 ∧ t.length < 60
    · rw [if_pos q] at ht; cases ht; exact ⟨fun z => (by cases z), hm⟩
    · rw [if_neg q] at ht; cases ht
  rw [if_neg h1] at ht ⊢
  by_cases h9 : c = 9
  · rw [if_pos h9] at ht ⊢
    match t, S, hm, ht with
    | true :: t, a :: S, hm, ht =>
      cases ht
      refine ⟨fun _ => ?_, hm.2⟩
      rcases hm.1 rfl with rfl | rfl
      · exact Or.inr rfl
      · exact Or.inl rfl
  rw [if_neg h9] at ht ⊢
  by_cases h6 : c < 6
  · rw [if_pos h6] at ht
    match t, S, hm, ht with
    | false :: false :: t, b :: a :: S, hm, ht => cases ht; exact ⟨fun z => (by cases z), hm.2.2⟩
  rw [if_neg h6] at ht
  by_cases h8 : c < 9
  · rw [if_pos h8] at ht
    match t, S, hm, ht with
    | false :: false :: t, b :: a :: S, hm, ht => cases ht; exact ⟨fun _ => ybin_t (by omega) (by omega), hm.2.2⟩
  rw [if_neg h8] at ht
  by_cases h12 : c < 12
  · rw [if_pos h12] at ht
    match t, S, hm, ht with
    | true :: true :: t, b :: a :: S, hm, ht => cases ht; exact ⟨fun _ => ybin_t (by omega) (by omega), hm.2.2⟩
  rw [if_neg h12] at ht
  cases ht
/-- a piece as the class has it -/
def yec (o : Nat × Nat) : Int32 := if o.1 = 0 then zi o.2 else if o.1 = 1 then -(ylt o.2) else -(ysg o.1)
theorem zi_ne {v : Nat} (hv : v < 2 ^ 31) {k : Int32} (hk : (-k).toInt < 0) : ¬ -(zi v) = k := by
  intro z
  have z2 : zi v = -k := by rw [← z, Int32.neg_neg]
  have z3 : (zi v).toInt = (v : Int) := Int32.toInt_ofNat_small hv
  rw [z2] at z3
  omega
section
variable {P : zp} {n : Nat × Nat} {la d : Nat}
theorem zs_cLw {g : zk_M} {S : List Int32} (h : yS g P la S) : zk_gR (zp_M P, n) la 1 0 = some (la + 2) ∧ zk_rv (zp_M P, n) la 1 = some () := by
  obtain ⟨hl, -, ⟨f, e, -, -⟩, -⟩ := h
  exact ⟨by unfold zk_gR; rw [yl_gf hl e]; rfl, yl_rv hl e⟩
set_option maxHeartbeats 4000000 in
theorem zs_lstep {g : zk_M} {l : Nat → Int32} {s b f t gg w : Int32} {m i k c v : Nat} {fc : Nat → Int32} {S : List Int32} {ts ts' : List Bool} {v9 v10 : Value} (hl : l 0 = s ∧ l 1 = b ∧ l 2 = f ∧ l 3 = t ∧ l 4 = gg ∧ l 5 = w) (hg : g (la + 2) = zk_ia 0 m fc) (hm : m < 1000) (hi : i < m) (hk : k ≤ i) (he : fc i = yec (c, v)) (hS : yS g P la S) (hmt : ymt S ts) (hty : yty1 c v ts = some ts') :
    ∃ g' v9' v10', zk_sf (d + 4) m_Law_worth 11 [.ref la, .int s, .int b, .int f, .int t, .int gg, .int w, .int (zi i), .int (zi k), v9, v10] [] (zp_M P, n) = zk_sf (d + 4) m_Law_worth 11 [.ref la, .int s, .int b, .int f, .int t, .int gg, .int w, .int (zi (i + 1)), .int (zi (k + 1)), v9', v10'] [] (zp_M (zp_sG P g'), n) ∧ yS g (zp_sG P g') la (ystp l c v S) := by
  obtain ⟨hR, hV⟩ := zs_cLw (n := n) hS
  have h300 := hS.1
  have hgm : P.2.2.2.2 (la + 2) = zk_ia 0 m fc := (hS.2.2.2 (la + 2) (by omega) (by omega)).trans hg
  have hal := yl_al (n := n) (P := P) (by omega) hgm
  have hld := yl_ld (n := n) (P := P) (by omega) hgm hi (by omega)
  have hlen := ymt_l hmt
  rw [e_Law_worth_11, hR, Option.bind_some, hal, Option.bind_some, if_pos ((zi_nI (by omega) (by omega)).mpr (by omega)), if_neg (zi_n (by omega)), Option.bind_some, hal, Option.bind_some, if_pos ((zi_nI (by omega) (by omega)).mpr hi), Option.bind_some, hld, Option.bind_some, he, zi_s, zi_s, hV]
  unfold yty1 at hty
  unfold ystp yec
  by_cases h0 : c = 0
  · simp only [if_pos h0] at hty ⊢
    by_cases q : v < 10000 ∧ ts.length < 60
    · have hv : v < 2 ^ 31 := by omega
      obtain ⟨g', e1, e2⟩ := zs_push (n := n) (d := d + 3) (a := zi v) hS (by omega)
      rw [if_neg (zi_ne hv (by decide)), if_neg (zi_ne hv (by decide)), if_neg (zi_ne hv (by decide)), if_neg (zi_ne hv (by decide)), if_neg (zi_ne hv (by decide)), if_neg (zi_ne hv (by decide)), if_neg (zi_ne hv (by decide)), if_neg (zi_ne hv (by decide)), if_neg (zi_ne hv (by decide)), if_neg (zi_n hv), Option.bind_some, e1, zs_cV, Option.bind_some]
      exact ⟨g', _, _, rfl, e2⟩
    · rw [if_neg q] at hty; cases hty
  simp only [if_neg h0] at hty ⊢
  by_cases h1 : c = 1
  · simp only [if_pos h1] at hty ⊢
    by_cases q : v < 6 ∧ ts.length < 60
    · obtain ⟨g', e1, e2⟩ := zs_push (n := n) (d := d + 3) (a := l v) hS (by omega)
      obtain ⟨l0, l1, l2, l3, l4, l5⟩ := hl
      have hv : v = 0 ∨ v = 1 ∨ v = 2 ∨ v = 3 ∨ v = 4 ∨ v = 5 := by omega
      rcases hv with rfl | rfl | rfl | rfl | rfl | rfl
      · rw [l0] at e1
        repeat rw [if_neg (by decide)]
        rw [if_pos (by decide), Option.bind_some, e1, zs_cV, Option.bind_some]
        exact ⟨g', _, _, rfl, e2⟩
      · rw [l1] at e1
        repeat rw [if_neg (by decide)]
        rw [if_pos (by decide), Option.bind_some, e1, zs_cV, Option.bind_some]
        exact ⟨g', _, _, rfl, e2⟩
      · rw [l2] at e1
        repeat rw [if_neg (by decide)]
        rw [if_pos (by decide), Option.bind_some, e1, zs_cV, Option.bind_some]
        exact ⟨g', _, _, rfl, e2⟩
      · rw [l3] at e1
        repeat rw [if_neg (by decide)]
        rw [if_pos (by decide), Option.bind_some, e1, zs_cV, Option.bind_some]
        exact ⟨g', _, _, rfl, e2⟩
      · rw [l4] at e1
        repeat rw [if_neg (by decide)]
        rw [if_pos (by decide), Option.bind_some, e1, zs_cV, Option.bind_some]
        exact ⟨g', _, _, rfl, e2⟩
      · rw [l5] at e1
        repeat rw [if_neg (by decide)]
        rw [if_pos (by decide), Option.bind_some, e1, zs_cV, Option.bind_some]
        exact ⟨g', _, _, rfl, e2⟩
    · rw [if_neg q] at hty; cases hty
  simp only [if_neg h1] at hty ⊢
  by_cases h9 : c = 9
  · subst h9
    simp only [if_pos rfl] at hty ⊢
    match ts, S, hmt, hty, hS, hlen with
    | true :: ts, a :: S, hmt, hty, hS, hlen =>
      obtain ⟨g', e1, e2⟩ := zs_pop (n := n) (d := d + 3) hS
      have hV' := (zs_cLw (n := n) e2).2
      rw [if_pos (by decide), Option.bind_some, e1, zs_cI, Option.bind_some, hV']
      have hlen2 : S.length < 64 := by have := hS.2.1; rw [List.length_cons] at this; omega
      rcases hmt.1 rfl with rfl | rfl
      · obtain ⟨g2, e3, e4⟩ := zs_push (n := n) (d := d + 3) (a := 1) e2 hlen2
        rw [if_pos rfl, Option.bind_some, e3, zs_cV, Option.bind_some]
        exact ⟨g2, _, _, rfl, e4⟩
      · obtain ⟨g2, e3, e4⟩ := zs_push (n := n) (d := d + 3) (a := 0) e2 hlen2
        rw [if_neg (show ¬ (1 : Int32) = 0 by decide), Option.bind_some, e3, zs_cV, Option.bind_some]
        exact ⟨g2, _, _, rfl, e4⟩
  simp only [if_neg h9] at hty ⊢
  have hc : c < 12 := by
    by_cases z : c < 12
    · exact z
    · rw [if_neg (by omega), if_neg (by omega), if_neg (by omega)] at hty; cases hty
  have hneg : (-(ysg c) < 0) ∧ (¬ ysg c = 33 ∧ ¬ ysg c = 59 ∧ ¬ ysg c = 63 ∧ ¬ ysg c = 98 ∧ ¬ ysg c = 102 ∧ ¬ ysg c = 103 ∧ ¬ ysg c = 115 ∧ ¬ ysg c = 116 ∧ ¬ ysg c = 119) := by
    have hh : c = 2 ∨ c = 3 ∨ c = 4 ∨ c = 5 ∨ c = 6 ∨ c = 7 ∨ c = 8 ∨ c = 10 ∨ c = 11 := by omega
    rcases hh with rfl | rfl | rfl | rfl | rfl | rfl | rfl | rfl | rfl <;> decide
  obtain ⟨hn, n1, n2, n3, n4, n5, n6, n7, n8, n9⟩ := hneg
  have hst : ∃ b a S', S = b :: a :: S' ∧ (10 ≤ c → (a = 0 ∨ a = 1) ∧ (b = 0 ∨ b = 1)) := by
    by_cases h6 : c < 6
    · rw [if_pos h6] at hty
      match ts, S, hmt, hty with
      | false :: false :: ts, b :: a :: S, hmt, hty => exact ⟨b, a, S, rfl, fun z => by omega⟩
    rw [if_neg h6] at hty
    by_cases h8 : c < 9
    · rw [if_pos h8] at hty
      match ts, S, hmt, hty with
      | false :: false :: ts, b :: a :: S, hmt, hty => exact ⟨b, a, S, rfl, fun z => by omega⟩
    rw [if_neg h8, if_pos hc] at hty
    match ts, S, hmt, hty with
    | true :: true :: ts, b :: a :: S, hmt, hty => exact ⟨b, a, S, rfl, fun _ => ⟨hmt.2.1 rfl, hmt.1 rfl⟩⟩
  obtain ⟨b', a', S', rfl, h01⟩ := hst
  obtain ⟨g1, e1, e2⟩ := zs_pop (n := n) (d := d + 3) hS
  obtain ⟨g2, e3, e4⟩ := zs_pop (n := n) (d := d + 3) e2
  have hlen2 : S'.length < 64 := by have := hS.2.1; rw [List.length_cons, List.length_cons] at this; omega
  obtain ⟨g3, e5, e6⟩ := zs_push (n := n) (d := d + 3) (a := ybin c a' b') e4 hlen2
  rw [Int32.neg_neg, if_neg n1, if_neg n2, if_neg n3, if_neg n4, if_neg n5, if_neg n6, if_neg n7, if_neg n8, if_neg n9, if_pos hn, Option.bind_some, e1, zs_cI, Option.bind_some, (zs_cLw (n := n) e2).2, Option.bind_some, e3, zs_cI, Option.bind_some, zs_joined (d := d + 1) (by omega) hc h9 h01, zs_cI, Option.bind_some, (zs_cLw (n := n) e4).2, Option.bind_some, e5, zs_cV, Option.bind_some]
  exact ⟨g3, _, _, rfl, e6⟩
end
