/-! CALLS 32: bears: fits changed, the searches by themselves -/
def yfo (V : yV) (k : Nat) : Nat := match V.1 k with | some (_, _, f) => f | none => 0
def ysf (V : yV) (k f : Nat) : yV := (fun k' => if k' = k then (V.1 k).map (fun x => (x.1, x.2.1, f)) else V.1 k', V.2)
def ydi (a b : Nat) : Nat := if a < b then b - a else a - b
def ycd1 (V : yV) (p : Nat) (a k : Nat) : Nat := if yon V k p = true then 10 * a + yfo V k else a
def ycd (V : yV) (p : Nat) : Nat := (List.range 8).foldl (ycd1 V p) 0
noncomputable def yok2 (T : yT) (p w : Nat) (V : yV) : Bool := decide (yfi (yfr T V p w) = -1)
section
variable {V : yV} {k k' f f' p np : Nat}
theorem ysf_s (h : k' = k) : (ysf V k f).1 k' = (V.1 k).map (fun x => (x.1, x.2.1, f)) := if_pos h
theorem ysf_n (h : k' ≠ k) : (ysf V k f).1 k' = V.1 k' := if_neg h
theorem ysf_e {r q g : Nat} (h : V.1 k = some (r, q, g)) : ysf V k f = ysp V k (some (r, q, f)) := by
  refine Prod.ext (funext fun k' => ?_) rfl
  show (if k' = k then (V.1 k).map (fun x => (x.1, x.2.1, f)) else V.1 k') = if k' = k then some (r, q, f) else V.1 k'
  rw [h]; rfl
theorem yon_sf : yon (ysf V k f) k' p = yon V k' p := by
  unfold yon
  by_cases z : k' = k
  · rw [ysf_s z, z]
    cases V.1 k <;> rfl
  · rw [ysf_n z]
theorem yfo_n (h : k' ≠ k) : yfo (ysf V k f) k' = yfo V k' := by
  unfold yfo
  rw [ysf_n h]
theorem yon_t (h : yon V k p = true) : ∃ r, V.1 k = some (r, p, yfo V k) := by
  unfold yon at h
  unfold yfo
  cases hv : V.1 k with
  | none => rw [hv] at h; cases h
  | some x =>
    obtain ⟨r, q, g⟩ := x
    rw [hv] at h
    have h : q = p := of_decide_eq_true h
    exact ⟨r, by rw [h]⟩
theorem ysf_o : ysf V k (yfo V k) = V := by
  refine Prod.ext (funext fun k' => ?_) rfl
  by_cases z : k' = k
  · rw [ysf_s z, z]
    unfold yfo
    cases hv : V.1 k with
    | none => rfl
    | some x => rfl
  · rw [ysf_n z]
theorem ysf_2 : ysf (ysf V k f) k f' = ysf V k f' := by
  refine Prod.ext (funext fun k' => ?_) rfl
  by_cases z : k' = k
  · rw [ysf_s z, ysf_s rfl, ysf_s z]
    cases V.1 k <;> rfl
  · rw [ysf_n z, ysf_n z, ysf_n z]
theorem ysf_O (hO : yO np V) (hf : f < 10) : yO np (ysf V k f) := by
  refine ⟨fun k' r q g hk hv => ?_, hO.2⟩
  by_cases z : k' = k
  · rw [ysf_s z] at hv
    cases h : V.1 k with
    | none => rw [h] at hv; cases hv
    | some x =>
      obtain ⟨r', q', g'⟩ := x
      rw [h] at hv
      have hv := Option.some.inj hv
      have h1 : r' = r := congrArg Prod.fst hv
      have h2 : q' = q := congrArg (fun x => x.2.1) hv
      have h3 : f = g := congrArg (fun x => x.2.2) hv
      obtain ⟨a, b, c, -⟩ := hO.1 k r' q' g' (z ▸ hk) h
      subst h1; subst h2; subst h3
      exact ⟨a, b, c, hf⟩
  · rw [ysf_n z] at hv
    exact hO.1 k' r q g hk hv
theorem yfo_b (hO : yO np V) (hk : k < 8) : yfo V k < 10 := by
  unfold yfo
  cases h : V.1 k with
  | none => exact (by decide : (0 : Nat) < 10)
  | some x =>
    obtain ⟨r, q, g⟩ := x
    exact (hO.1 k r q g hk h).2.2.2
theorem ycd_m (hO : yO np V) : ∀ m, m ≤ 8 → (List.range m).foldl (ycd1 V p) 0 < 10 ^ m
  | 0, _ => (by decide : (0 : Nat) < 1)
  | m + 1, h => by
    have i := ycd_m hO m (by omega)
    have b := yfo_b hO (k := m) (by omega)
    rw [zl_rs, Nat.pow_succ]
    show (if yon V m p = true then 10 * (List.range m).foldl (ycd1 V p) 0 + yfo V m else (List.range m).foldl (ycd1 V p) 0) < _
    by_cases z : yon V m p = true
    · rw [if_pos z]; omega
    · rw [if_neg z]; omega
theorem ycd_b (hO : yO np V) : ycd V p < 100000000 := ycd_m hO 8 (Nat.le_refl 8)
end
/-- the least key of those that are right -/
def ylo (o : Option Nat) (c : Nat) : Bool := match o with | none => true | some c' => decide (c < c')
def ymn {α : Type} (ok : α → Bool) (key : α → Nat) (o : Option Nat) (x : α) : Option Nat := bif ylo o (key x) && ok x then some (key x) else o
section
variable {α β : Type} {ok : α → Bool} {key : α → Nat}
theorem ymn_g : ∀ (l : List α) (o : Option Nat), (l.foldl (ymn ok key) o = none ↔ o = none ∧ ∀ x, x ∈ l → ok x = false) ∧ ∀ c, l.foldl (ymn ok key) o = some c → (o = some c ∨ ∃ x, x ∈ l ∧ ok x = true ∧ key x = c) ∧ (∀ c', o = some c' → c ≤ c') ∧ ∀ x, x ∈ l → ok x = true → c ≤ key x
  | [], o => ⟨⟨fun h => ⟨h, fun _ z => (by cases z)⟩, fun h => h.1⟩, fun c h => ⟨Or.inl h, fun c' z => by rw [show o = some c from h] at z; cases z; exact Nat.le_refl _, fun _ z => (by cases z)⟩⟩
  | a :: l, o => by
    obtain ⟨i1, i2⟩ := ymn_g l (ymn ok key o a)
    have hn : ymn ok key o a = none ↔ o = none ∧ ok a = false := by
      unfold ymn ylo
      cases o with
      | none => cases h : ok a <;> simp
      | some c' =>
        cases h : ok a with
        | false => simp
        | true =>
          by_cases z : key a < c'
          · simp [z]
          · simp [z]
    have hs : ∀ c, ymn ok key o a = some c → (o = some c ∨ (ok a = true ∧ key a = c)) ∧ (∀ c', o = some c' → c ≤ c') ∧ (ok a = true → c ≤ key a) := by
      intro c h
      unfold ymn ylo at h
      cases o with
      | none =>
        cases ha : ok a with
        | false => rw [ha] at h; cases h
        | true =>
          rw [ha] at h
          have h : key a = c := Option.some.inj h
          exact ⟨Or.inr ⟨rfl, h⟩, fun _ z => (by cases z), fun _ => by omega⟩
      | some c' =>
        cases ha : ok a with
        | false =>
          rw [ha, Bool.and_false] at h
          have h : c' = c := Option.some.inj h
          exact ⟨Or.inl (by rw [h]), fun c'' z => by cases z; omega, fun z => by cases z⟩
        | true =>
          rw [ha, Bool.and_true] at h
          by_cases z : key a < c'
          · simp only [decide_eq_true z, cond_true] at h
            have h : key a = c := Option.some.inj h
            exact ⟨Or.inr ⟨rfl, h⟩, fun c'' y => by cases y; omega, fun _ => by omega⟩
          · simp only [decide_eq_false z, cond_false] at h
            have h : c' = c := Option.some.inj h
            exact ⟨Or.inl (by rw [h]), fun c'' y => by cases y; omega, fun _ => by omega⟩
    refine ⟨?_, fun c h => ?_⟩
    · show l.foldl (ymn ok key) (ymn ok key o a) = none ↔ _
      rw [i1, hn]
      constructor
      · rintro ⟨⟨a1, a2⟩, a3⟩
        exact ⟨a1, fun x hx => by rcases List.mem_cons.mp hx with z | z; rw [z]; exact a2; exact a3 x z⟩
      · rintro ⟨a1, a2⟩
        exact ⟨⟨a1, a2 a List.mem_cons_self⟩, fun x hx => a2 x (List.mem_cons_of_mem a hx)⟩
    · obtain ⟨j1, j2, j3⟩ := i2 c h
      refine ⟨?_, fun c' hc' => ?_, fun x hx hox => ?_⟩
      · rcases j1 with z | ⟨x, x1, x2, x3⟩
        · rcases (hs c z).1 with y | ⟨y1, y2⟩
          · exact Or.inl y
          · exact Or.inr ⟨a, List.mem_cons_self, y1, y2⟩
        · exact Or.inr ⟨x, List.mem_cons_of_mem a x1, x2, x3⟩
      · cases hy : ymn ok key o a with
        | none => rw [(hn.mp hy).1] at hc'; cases hc'
        | some c1 => exact Nat.le_trans (j2 c1 hy) ((hs c1 hy).2.1 c' hc')
      · rcases List.mem_cons.mp hx with z | z
        · rw [z] at hox ⊢
          cases hy : ymn ok key o a with
          | none => rw [(hn.mp hy).2] at hox; cases hox
          | some c1 => exact Nat.le_trans (j2 c1 hy) ((hs c1 hy).2.2 hox)
        · exact j3 x z hox
theorem zl_ff (f : β → List α) (g : Option Nat → α → Option Nat) : ∀ (l : List β) (o : Option Nat), (l.flatMap f).foldl g o = l.foldl (fun o x => (f x).foldl g o) o
  | [], o => rfl
  | a :: l, o => by
    rw [List.flatMap_cons, List.foldl_append]
    exact zl_ff f g l _
end
/-- the class's: all fits spent on, exactly so many coins -/
def ycl (p : Nat) : Nat → yV → Nat → Nat → List yV
  | 0, U, _, l => if l = 0 then [U] else []
  | m + 1, U, pl, l => if l = 0 then [U] else (List.range' pl (8 - pl)).flatMap (fun k => if yon U k p = true then (List.range 10).flatMap (fun f => if 0 < ydi f (yfo U k) ∧ ydi f (yfo U k) ≤ l then ycl p m (ysf U k f) (k + 1) (l - ydi f (yfo U k)) else []) else [])
noncomputable def yfc (T : yT) (V : yV) (p w c : Nat) : Option Nat := (ycl p 2 V 0 c).foldl (ymn (yok2 T p w) (fun U => ycd U p)) none
noncomputable def ysr (T : yT) (V : yV) (p w : Nat) : Nat → Nat → Option (Nat × Nat)
  | 0, _ => none
  | j + 1, c => match yfc T V p w c with
    | some r => some (c, r)
    | none => ysr T V p w j (c + 1)
/-- the reference's: of two places, or one twice named, any two fits -/
def yca (V : yV) (a b x y : Nat) : Nat × yV := (ydi x (yfo V a) + (if a = b then 0 else ydi y (yfo V b)), ysf (ysf V a x) b y)
def yca2 (V : yV) (a b i : Nat) : List (Nat × yV) := if a ≠ b ∨ i / 10 = i % 10 then [yca V a b (i / 10) (i % 10)] else []
def yca3 (V : yV) (p k : Nat) : List (Nat × yV) := if (yon V (k / 8) p = true ∧ yon V (k % 8) p = true) ∧ k / 8 ≤ k % 8 then (List.range 100).flatMap (yca2 V (k / 8) (k % 8)) else []
def ycr (V : yV) (p : Nat) : List (Nat × yV) := (List.range 64).flatMap (yca3 V p)
noncomputable def ybrr (T : yT) (V : yV) (p w : Nat) : Option Nat := (ycr V p).foldl (ymn (fun x => yok2 T p w x.2) (fun x => 100000000 * x.1 + ycd x.2 p)) none
section
variable {T : yT} {V : yV} {p w np : Nat}
theorem ycr_m {x : Nat × yV} : x ∈ ycr V p ↔ ∃ a b f g, a < 8 ∧ b < 8 ∧ f < 10 ∧ g < 10 ∧ yon V a p = true ∧ yon V b p = true ∧ a ≤ b ∧ (a ≠ b ∨ f = g) ∧ x = yca V a b f g := by
  unfold ycr
  rw [List.mem_flatMap]
  constructor
  · rintro ⟨k, hk, hx⟩
    have hk := List.mem_range.mp hk
    unfold yca3 at hx
    by_cases z : (yon V (k / 8) p = true ∧ yon V (k % 8) p = true) ∧ k / 8 ≤ k % 8
    · rw [if_pos z, List.mem_flatMap] at hx
      obtain ⟨i, hi, hx⟩ := hx
      have hi := List.mem_range.mp hi
      unfold yca2 at hx
      by_cases y : k / 8 ≠ k % 8 ∨ i / 10 = i % 10
      · rw [if_pos y] at hx
        exact ⟨k / 8, k % 8, i / 10, i % 10, by omega, by omega, by omega, by omega, z.1.1, z.1.2, z.2, y, List.mem_singleton.mp hx⟩
      · rw [if_neg y] at hx; cases hx
    · rw [if_neg z] at hx; cases hx
  · rintro ⟨a, b, f, g, ha, hb, hf, hg, oa, ob, hab, hfg, rfl⟩
    refine ⟨8 * a + b, List.mem_range.mpr (by omega), ?_⟩
    have e1 : (8 * a + b) / 8 = a := by omega
    have e2 : (8 * a + b) % 8 = b := by omega
    unfold yca3
    rw [e1, e2, if_pos ⟨⟨oa, ob⟩, hab⟩, List.mem_flatMap]
    refine ⟨10 * f + g, List.mem_range.mpr (by omega), ?_⟩
    unfold yca2
    have e3 : (10 * f + g) / 10 = f := by omega
    have e4 : (10 * f + g) % 10 = g := by omega
    rw [e3, e4, if_pos hfg]
    exact List.mem_singleton.mpr rfl
theorem ydi_0 {a b : Nat} : ydi a b = 0 ↔ a = b := by
  unfold ydi
  by_cases z : a < b
  · rw [if_pos z]; omega
  · rw [if_neg z]; omega
theorem ydi_9 {a b : Nat} (ha : a < 10) (hb : b < 10) : ydi a b ≤ 9 := by
  unfold ydi
  by_cases z : a < b
  · rw [if_pos z]; omega
  · rw [if_neg z]; omega
theorem ycl_1 {m : Nat} {U : yV} {pl l : Nat} {X : yV} (hl : l ≠ 0) : X ∈ ycl p (m + 1) U pl l ↔ ∃ k f, pl ≤ k ∧ k < 8 ∧ yon U k p = true ∧ f < 10 ∧ 0 < ydi f (yfo U k) ∧ ydi f (yfo U k) ≤ l ∧ X ∈ ycl p m (ysf U k f) (k + 1) (l - ydi f (yfo U k)) := by
  show X ∈ (if l = 0 then [U] else _) ↔ _
  rw [if_neg hl, List.mem_flatMap]
  constructor
  · rintro ⟨k, hk, hx⟩
    have hk := List.mem_range'_1.mp hk
    by_cases z : yon U k p = true
    · rw [if_pos z, List.mem_flatMap] at hx
      obtain ⟨f, hf, hx⟩ := hx
      by_cases y : 0 < ydi f (yfo U k) ∧ ydi f (yfo U k) ≤ l
      · rw [if_pos y] at hx
        exact ⟨k, f, hk.1, by omega, z, List.mem_range.mp hf, y.1, y.2, hx⟩
      · rw [if_neg y] at hx; cases hx
    · rw [if_neg z] at hx; cases hx
  · rintro ⟨k, f, h1, h2, z, hf, y1, y2, hx⟩
    refine ⟨k, List.mem_range'_1.mpr ⟨h1, by omega⟩, ?_⟩
    rw [if_pos z, List.mem_flatMap]
    exact ⟨f, List.mem_range.mpr hf, by rw [if_pos ⟨y1, y2⟩]; exact hx⟩
theorem ycl_0 {m : Nat} {U : yV} {pl : Nat} {X : yV} : X ∈ ycl p m U pl 0 ↔ X = U := by
  cases m with
  | zero => exact List.mem_singleton
  | succ m => exact List.mem_singleton
theorem ycl_n {U : yV} {pl l : Nat} {X : yV} (hl : l ≠ 0) : ¬ X ∈ ycl p 0 U pl l := by
  show ¬ X ∈ (if l = 0 then [U] else [])
  rw [if_neg hl]
  exact fun z => by cases z
theorem ycr_c (hO : yO np V) {c : Nat} {U : yV} (h : (c, U) ∈ ycr V p) : c ≤ 18 ∧ U ∈ ycl p 2 V 0 c ∧ yO np U := by
  obtain ⟨a, b, f, g, ha, hb, hf, hg, oa, ob, hab, hfg, e⟩ := ycr_m.mp h
  have e1 : c = ydi f (yfo V a) + (if a = b then 0 else ydi g (yfo V b)) := congrArg Prod.fst e
  have e2 : U = ysf (ysf V a f) b g := congrArg Prod.snd e
  have ba := yfo_b hO ha
  have bb := yfo_b hO hb
  have d1 := ydi_9 hf ba
  have d2 := ydi_9 hg bb
  refine ⟨?_, ?_, by rw [e2]; exact ysf_O (ysf_O hO hf) hg⟩
  · by_cases z : a = b
    · rw [if_pos z] at e1; omega
    · rw [if_neg z] at e1; omega
  · by_cases z : a = b
    · rw [if_pos z, Nat.add_zero] at e1
      have hfg' : f = g := hfg.resolve_left (fun y => y z)
      subst z; subst hfg'
      rw [ysf_2] at e2
      by_cases y : ydi f (yfo V a) = 0
      · rw [y] at e1
        rw [e1, ycl_0, e2, ydi_0.mp y, ysf_o]
      · rw [ycl_1 (by omega)]
        refine ⟨a, f, Nat.zero_le _, ha, oa, hf, by omega, by omega, ?_⟩
        rw [e1, Nat.sub_self, ycl_0]; exact e2
    · rw [if_neg z] at e1
      have hb' : yfo (ysf V a f) b = yfo V b := yfo_n (fun y => z y.symm)
      have ob' : yon (ysf V a f) b p = true := yon_sf.trans ob
      by_cases y1 : ydi f (yfo V a) = 0
      · rw [y1, Nat.zero_add] at e1
        rw [ydi_0.mp y1, ysf_o] at e2
        by_cases y2 : ydi g (yfo V b) = 0
        · rw [y2] at e1
          rw [e1, ycl_0, e2, ydi_0.mp y2, ysf_o]
        · rw [ycl_1 (by omega)]
          refine ⟨b, g, Nat.zero_le _, hb, ob, hg, by omega, by omega, ?_⟩
          rw [e1, Nat.sub_self, ycl_0]; exact e2
      · rw [ycl_1 (by omega)]
        refine ⟨a, f, Nat.zero_le _, ha, oa, hf, by omega, by omega, ?_⟩
        by_cases y2 : ydi g (yfo V b) = 0
        · rw [show c - ydi f (yfo V a) = 0 by omega, ycl_0, e2, ydi_0.mp y2, ← hb', ysf_o]
        · rw [ycl_1 (by omega)]
          refine ⟨b, g, by omega, hb, ob', hg, by rw [hb']; omega, by rw [hb']; omega, ?_⟩
          rw [hb', show c - ydi f (yfo V a) - ydi g (yfo V b) = 0 by omega, ycl_0]; exact e2
theorem ycr_i (hO : yO np V) (hb : ∃ a, a < 8 ∧ yon V a p = true) {c : Nat} {U : yV} (h : U ∈ ycl p 2 V 0 c) : (c, U) ∈ ycr V p := by
  rw [ycr_m]
  by_cases c0 : c = 0
  · rw [c0, ycl_0] at h
    obtain ⟨a, ha, oa⟩ := hb
    refine ⟨a, a, yfo V a, yfo V a, ha, ha, yfo_b hO ha, yfo_b hO ha, oa, oa, Nat.le_refl _, Or.inr rfl, ?_⟩
    unfold yca
    rw [if_pos rfl, ydi_0.mpr rfl, ysf_o, ysf_o, h, c0]
  · rw [ycl_1 c0] at h
    obtain ⟨k, f, -, hk, ok, hf, d1, d2, hx⟩ := h
    by_cases c1 : c - ydi f (yfo V k) = 0
    · rw [c1, ycl_0] at hx
      refine ⟨k, k, f, f, hk, hk, hf, hf, ok, ok, Nat.le_refl _, Or.inr rfl, ?_⟩
      unfold yca
      rw [if_pos rfl, ysf_2, hx, Nat.add_zero, show c = ydi f (yfo V k) by omega]
    · rw [ycl_1 c1] at hx
      obtain ⟨k2, f2, h1, hk2, ok2, hf2, d3, d4, hx⟩ := hx
      have hne : k2 ≠ k := by omega
      rw [yfo_n hne] at d3 d4 hx
      rw [yon_sf] at ok2
      by_cases c2 : c - ydi f (yfo V k) - ydi f2 (yfo V k2) = 0
      · rw [c2, ycl_0] at hx
        refine ⟨k, k2, f, f2, hk, hk2, hf, hf2, ok, ok2, by omega, Or.inl (fun z => hne z.symm), ?_⟩
        unfold yca
        rw [if_neg (fun z => hne z.symm), hx, show c = ydi f (yfo V k) + ydi f2 (yfo V k2) by omega]
      · exact absurd hx (ycl_n c2)
theorem ysr_n : ∀ (j c : Nat), (∀ c', c ≤ c' → c' < c + j → yfc T V p w c' = none) → ysr T V p w j c = none
  | 0, _, _ => rfl
  | j + 1, c, h => by
    show (match yfc T V p w c with | some r => some (c, r) | none => ysr T V p w j (c + 1)) = none
    rw [h c (Nat.le_refl c) (by omega)]
    exact ysr_n j (c + 1) (fun c' h1 h2 => h c' (by omega) (by omega))
theorem ysr_s {r c1 : Nat} (h1 : yfc T V p w c1 = some r) : ∀ (j c : Nat), c ≤ c1 → c1 < c + j → (∀ c', c ≤ c' → c' < c1 → yfc T V p w c' = none) → ysr T V p w j c = some (c1, r)
  | 0, c, a, b, _ => by omega
  | j + 1, c, a, b, h => by
    show (match yfc T V p w c with | some r => some (c, r) | none => ysr T V p w j (c + 1)) = _
    by_cases z : c = c1
    · rw [z, h1]
    · rw [h c (Nat.le_refl c) (by omega)]
      exact ysr_s h1 j (c + 1) (by omega) (by omega) (fun c' h1 h2 => h c' (by omega) h2)
theorem ybe (hO : yO np V) (hb : ∃ a, a < 8 ∧ yon V a p = true) : ysr T V p w 19 0 = (ybrr T V p w).map (fun K => (K / 100000000, K % 100000000)) := by
  obtain ⟨r1, r2⟩ := ymn_g (ok := fun x : Nat × yV => yok2 T p w x.2) (key := fun x => 100000000 * x.1 + ycd x.2 p) (ycr V p) none
  have cn := fun c => (ymn_g (ok := yok2 T p w) (key := fun U => ycd U p) (ycl p 2 V 0 c) none).1
  have cs := fun c => (ymn_g (ok := yok2 T p w) (key := fun U => ycd U p) (ycl p 2 V 0 c) none).2
  cases hr : ybrr T V p w with
  | none =>
    have hall := (r1.mp hr).2
    exact ysr_n 19 0 (fun c _ _ => (cn c).mpr ⟨rfl, fun U hU => hall (c, U) (ycr_i hO hb hU)⟩)
  | some K =>
    obtain ⟨k1, -, k3⟩ := r2 K hr
    rcases k1 with k1 | ⟨⟨c1, U1⟩, k1, k2, k4⟩
    · cases k1
    · have k2 : yok2 T p w U1 = true := k2
      have k4 : 100000000 * c1 + ycd U1 p = K := k4
      obtain ⟨b1, b2, b3⟩ := ycr_c hO k1
      have b4 := ycd_b (p := p) b3
      have low : ∀ c', 0 ≤ c' → c' < c1 → yfc T V p w c' = none := fun c' _ hc => (cn c').mpr ⟨rfl, fun U hU => by
        cases ho : yok2 T p w U with
        | false => rfl
        | true =>
          have hm := ycr_i hO hb hU
          have h5 : K ≤ 100000000 * c' + ycd U p := k3 (c', U) hm ho
          have h6 := ycd_b (p := p) (ycr_c hO hm).2.2
          omega⟩
      cases hf : yfc T V p w c1 with
      | none =>
        have := ((cn c1).mp hf).2 U1 b2
        rw [this] at k2; cases k2
      | some r =>
        obtain ⟨f1, -, f3⟩ := cs c1 r hf
        have f4 : r ≤ ycd U1 p := f3 U1 b2 k2
        rcases f1 with f1 | ⟨U2, g1, g2, g3⟩
        · cases f1
        · have g3 : ycd U2 p = r := g3
          have g4 : K ≤ 100000000 * c1 + ycd U2 p := k3 (c1, U2) (ycr_i hO hb g1) g2
          rw [ysr_s hf 19 0 (Nat.zero_le _) (by omega) low]
          show some (c1, r) = some (K / 100000000, K % 100000000)
          rw [show K / 100000000 = c1 by omega, show K % 100000000 = r by omega]
end
