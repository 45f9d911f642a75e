/-! SPECS 16: loads, the best fit, the first throw, of the class; pinch and load of the reference -/
theorem yC_p {P : zp} {b k r q f : Nat} {V : yV} (hC : yC P b V) (hk : k < 8) (hv : V.1 k = some (r, q, f)) : P.2.1 (b + 1) k = zi r ∧ P.2.1 (b + 2) k = zi q ∧ P.2.1 (b + 3) k = zi f := by
  have h := hC.1 k hk
  rw [hv] at h; exact h
theorem yR_p {A : Nat → Int32} {k r q f : Nat} {V : yV} (hC : yR A V) (hk : k < 8) (hv : V.1 k = some (r, q, f)) : A (4 * k + 0) = zi r ∧ A (4 * k + 1) = zi q ∧ A (4 * k + 2) = zi f ∧ A (4 * k + 3) = 1 := by
  have h := hC.1 k hk
  rw [hv] at h; exact h
theorem yTC_0 {P P' : zp} {T : yT} (h : yF [] [] P P') (hT : yTC P T) : yTC P' T := yTC_F (by decide) (by decide) h hT
theorem yC_0 {P P' : zp} {b : Nat} {V : yV} (h : yF [] [] P P') (_hb : zp_sb b) (hC : yC P b V) : yC P' b V := yC_F (fun _ _ _ z => by cases z) (fun z => by cases z) (fun z => by cases z) h hC
/-- the limit -/
def ylm (T : yT) (p : Nat) : Int32 := 30 - 2 * T.2.2.2.1 p
section
variable {P : zp} {n : Nat × Nat} {b d : Nat} {V : yV} {T : yT}
theorem ylm_C (hT : yTC P T) {p : Nat} (hp : p < T.1) : zk_sm (d + 1) m_Told_limitOf [.ref 26, .int (zi p)] (zp_M P, n) = some (some (Value.int (ylm T p)), (zp_M P, n)) := by
  rw [zs_limitOf, (zp_gi (show p < 6 by have := hT.2.1; omega) (by decide)).trans (hT.2.2.1 p hp).2.2]
  rfl
set_option maxHeartbeats 1000000 in
theorem zs_loadAt (h : zp_sb b) (hT : yTC P T) (hC : yC P b V) (hO : yO T.1 V) {p w : Nat} {g : Int32} (hp : p < T.1) (hw : w < 2 ^ 31) : ∃ P', zk_sm (d + 6) m_Pinches_loadAt [.ref 33, .ref b, .int (zi p), .int g, .int (zi w)] (zp_M P, n) = some (some (Value.int (yld T V p g w)), (zp_M P', n)) ∧ yF [] [] P P' := by
  have h6 := hT.2.1
  rw [e_Pinches_loadAt]
  refine zl_ind (m := 8) (L := fun i (a : Int32 × zp) => zk_sf (d + 6) m_Pinches_loadAt 6 [.ref 33, .ref b, .int (zi p), .int g, .int (zi w), .int a.1, .int (zi i)] [] (zp_M a.2, n)) (I := fun i a => yF [] [] P a.2 ∧ a.1 = (List.range i).foldl (yld1 T V p g w) 0) (Q := fun r => ∃ P', r = some (some (Value.int (yld T V p g w)), (zp_M P', n)) ∧ yF [] [] P P') (fun i a hi hI => Or.inr ?_) (fun a hI => ?_) (a := (0, P)) ⟨yF_r, rfl⟩
  · obtain ⟨x, P1⟩ := a
    obtain ⟨f1, hx⟩ := hI
    have f1 : yF [] [] P P1 := f1
    have hx : x = _ := hx
    have hC1 := yC_0 f1 h hC
    show ∃ a', zk_sf (d + 6) m_Pinches_loadAt 6 [.ref 33, .ref b, .int (zi p), .int g, .int (zi w), .int x, .int (zi i)] [] (zp_M P1, n) = _ ∧ _
    rw [e_Pinches_loadAt_6, if_pos (zi_8 hi), zp_sv h, Option.bind_some, zs_isOn h, zs_cI, Option.bind_some, zp_ib, yb_on hC1 hO h6 hi (by omega), zi_s]
    cases hv : V.1 i with
    | none =>
      refine ⟨(x, P1), ?_, f1, ?_⟩
      · rw [show yon V i p = false by unfold yon; rw [hv]]; rfl
      · rw [zl_rs, ← hx]; unfold yld1; rw [hv]
    | some y =>
      obtain ⟨r, q, f⟩ := y
      obtain ⟨o1, o2, o3, o4⟩ := hO.1 i r q f hi hv
      obtain ⟨c1, c2, c3⟩ := yC_p hC1 hi hv
      by_cases hq : q = p
      · obtain ⟨P2, e2, f2⟩ := zs_pinchAt (d := d) (n := n) (f := f) (g := g) (yTC_0 f1 hT) o1 hp hw
        refine ⟨(x + yp T r p f g w, P2), ?_, yF_t f1 f2, ?_⟩
        · rw [show yon V i p = true by unfold yon; rw [hv]; exact decide_eq_true hq, cond_true, zp_s0 h, Option.bind_some, zs_at (zp_sb_t h).2.1 (by decide), zs_cI, Option.bind_some, zp_s2 h, Option.bind_some, zs_at (zp_sb_t h).2.2.2.1 (by decide), zs_cI, Option.bind_some, zp_gi hi (by decide), zp_gi hi (by decide), c1, c3, zp_Lv, Option.bind_some, e2, zs_cI, Option.bind_some]
        · show x + yp T r p f g w = _
          rw [zl_rs, ← hx]; unfold yld1; rw [hv]
          exact (if_pos hq).symm
      · refine ⟨(x, P1), ?_, f1, ?_⟩
        · rw [show yon V i p = false by unfold yon; rw [hv]; exact decide_eq_false hq]; rfl
        · rw [zl_rs, ← hx]; unfold yld1; rw [hv]
          exact (if_neg hq).symm
  · obtain ⟨x, P1⟩ := a
    obtain ⟨f1, hx⟩ := hI
    refine ⟨P1, ?_, f1⟩
    show zk_sf (d + 6) m_Pinches_loadAt 6 [.ref 33, .ref b, .int (zi p), .int g, .int (zi w), .int x, .int (zi 8)] [] (zp_M P1, n) = _
    rw [e_Pinches_loadAt_6, if_neg zi_8n, show x = _ from hx]
    rfl
theorem yC_g (hC : yC P b V) {p : Nat} (hp : p < 6) : zp_gt P (b + 4) 6 (zi p) = V.2.1 p := (zp_gi hp (by decide)).trans (hC.2.1 p hp)
theorem zs_loadNow (h : zp_sb b) (hT : yTC P T) (hC : yC P b V) (hO : yO T.1 V) {p : Nat} (hp : p < T.1) : ∃ P', zk_sm (d + 7) m_Pinches_loadNow [.ref 33, .ref b, .int (zi p)] (zp_M P, n) = some (some (Value.int (yld T V p (V.2.1 p) V.2.2.2)), (zp_M P', n)) ∧ yF [] [] P P' := by
  have h6 := hT.2.1
  obtain ⟨P', e, f⟩ := zs_loadAt (d := d) (n := n) (g := V.2.1 p) h hT hC hO hp (w := V.2.2.2) (by have := hO.2; omega)
  refine ⟨P', ?_, f⟩
  rw [e_Pinches_loadNow, zp_s3 h, Option.bind_some, zs_at (zp_sb_t h).2.2.2.2 (by decide), zs_cI, Option.bind_some, zp_s5 h, Option.bind_some, zp_Lv, Option.bind_some, yC_g hC (by omega), hC.2.2.2, e, zs_cI, Option.bind_some]
theorem zs_galledBy (h : zp_sb b) (hT : yTC P T) (hC : yC P b V) (hO : yO T.1 V) {p w : Nat} {g : Int32} (hp : p < T.1) (hw : w < 2 ^ 31) : ∃ P', zk_sm (d + 7) m_Pinches_galledBy [.ref 33, .ref b, .int (zi p), .int g, .int (zi w)] (zp_M P, n) = some (some (Value.int (zq_min 99 (g + yld T V p g w))), (zp_M P', n)) ∧ yF [] [] P P' := by
  obtain ⟨P', e, f⟩ := zs_loadAt (d := d) (n := n) (g := g) h hT hC hO hp hw
  refine ⟨P', ?_, f⟩
  rw [e_Pinches_galledBy, zp_Lv, Option.bind_some, e, zs_cI, Option.bind_some, zs_min, zs_cI, Option.bind_some]
theorem zs_wereIt (h : zp_sb b) (hT : yTC P T) (hC : yC P b V) (hO : yO T.1 V) {r q f : Nat} (hr : r < T.1) (hq : q < T.1) : ∃ P', zk_sm (d + 6) m_Pinches_wereIt [.ref 33, .ref b, .int (zi r), .int (zi q), .int (zi f)] (zp_M P, n) = some (some (Value.int (yp T r q f (V.2.1 q) V.2.2.2)), (zp_M P', n)) ∧ yF [] [] P P' := by
  have h6 := hT.2.1
  obtain ⟨P', e, f'⟩ := zs_pinchAt (d := d) (n := n) (f := f) (g := V.2.1 q) hT hr hq (k := V.2.2.2) (by have := hO.2; omega)
  refine ⟨P', ?_, f'⟩
  rw [e_Pinches_wereIt, zp_s3 h, Option.bind_some, zs_at (zp_sb_t h).2.2.2.2 (by decide), zs_cI, Option.bind_some, zp_s5 h, Option.bind_some, zp_Lv, Option.bind_some, yC_g hC (by omega), hC.2.2.2, e, zs_cI, Option.bind_some]
theorem zs_inPlace (h : zp_sb b) (hT : yTC P T) (hC : yC P b V) (hO : yO T.1 V) {k r q f : Nat} (hk : k < 8) (hv : V.1 k = some (r, q, f)) : ∃ P', zk_sm (d + 7) m_Pinches_inPlace [.ref 33, .ref b, .int (zi k)] (zp_M P, n) = some (some (Value.int (yp T r q f (V.2.1 q) V.2.2.2)), (zp_M P', n)) ∧ yF [] [] P P' := by
  obtain ⟨o1, o2, -, -⟩ := hO.1 k r q f hk hv
  obtain ⟨c1, c2, c3⟩ := yC_p hC hk hv
  obtain ⟨P', e, f'⟩ := zs_wereIt (d := d) (n := n) (f := f) h hT hC hO o1 o2
  refine ⟨P', ?_, f'⟩
  rw [e_Pinches_inPlace, zp_s0 h, Option.bind_some, zs_at (zp_sb_t h).2.1 (by decide), zs_cI, Option.bind_some, zp_s1 h, Option.bind_some, zs_at (zp_sb_t h).2.2.1 (by decide), zs_cI, Option.bind_some, zp_s2 h, Option.bind_some, zs_at (zp_sb_t h).2.2.2.1 (by decide), zs_cI, Option.bind_some, zp_gi hk (by decide), zp_gi hk (by decide), zp_gi hk (by decide), c1, c2, c3, zp_Lv, Option.bind_some, e, zs_cI, Option.bind_some]
/-- the fit by which it pinches least -/
def ybf (T : yT) (V : yV) (r q : Nat) : Nat := (List.range 9).foldl (fun a i => if yp T r q (i + 1) (V.2.1 q) V.2.2.2 < yp T r q a (V.2.1 q) V.2.2.2 then i + 1 else a) 0
theorem zi_10 {i : Nat} (h : i < 10) : zi i < 10 := (zi_l (m := 10) (by omega) (by decide)).mpr h
theorem zi_10n : ¬ zi 10 < 10 := by decide
set_option maxHeartbeats 1000000 in
theorem zs_bestFit (h : zp_sb b) (hT : yTC P T) (hC : yC P b V) (hO : yO T.1 V) {r q : Nat} (hr : r < T.1) (hq : q < T.1) : ∃ P', zk_sm (d + 7) m_Pinches_bestFit [.ref 33, .ref b, .int (zi r), .int (zi q)] (zp_M P, n) = some (some (Value.int (zi (ybf T V r q))), (zp_M P', n)) ∧ yF [] [] P P' := by
  rw [e_Pinches_bestFit]
  refine zl_ind (m := 9) (L := fun i (a : Nat × zp) => zk_sf (d + 7) m_Pinches_bestFit 6 [.ref 33, .ref b, .int (zi r), .int (zi q), .int (zi a.1), .int (zi (i + 1))] [] (zp_M a.2, n)) (I := fun i a => yF [] [] P a.2 ∧ a.1 = (List.range i).foldl (fun a i => if yp T r q (i + 1) (V.2.1 q) V.2.2.2 < yp T r q a (V.2.1 q) V.2.2.2 then i + 1 else a) 0) (Q := fun x => ∃ P', x = some (some (Value.int (zi (ybf T V r q))), (zp_M P', n)) ∧ yF [] [] P P') (fun i a hi hI => Or.inr ?_) (fun a hI => ?_) (a := (0, P)) ⟨yF_r, rfl⟩
  · obtain ⟨x, P1⟩ := a
    obtain ⟨f1, hx⟩ := hI
    have f1 : yF [] [] P P1 := f1
    have hx : x = _ := hx
    obtain ⟨P2, e2, f2⟩ := zs_wereIt (d := d) (n := n) (f := i + 1) h (yTC_0 f1 hT) (yC_0 f1 h hC) hO hr hq
    have f12 := yF_t f1 f2
    obtain ⟨P3, e3, f3⟩ := zs_wereIt (d := d) (n := n) (f := x) h (yTC_0 f12 hT) (yC_0 f12 h hC) hO hr hq
    have f13 := yF_t f12 f3
    show ∃ a', zk_sf (d + 7) m_Pinches_bestFit 6 [.ref 33, .ref b, .int (zi r), .int (zi q), .int (zi x), .int (zi (i + 1))] [] (zp_M P1, n) = _ ∧ _
    rw [e_Pinches_bestFit_6, if_pos (zi_10 (by omega)), zp_Lv, Option.bind_some, e2, zs_cI, Option.bind_some, zp_Lv, Option.bind_some, e3, zs_cI, Option.bind_some, zi_s]
    by_cases q' : yp T r q (i + 1) (V.2.1 q) V.2.2.2 < yp T r q x (V.2.1 q) V.2.2.2
    · rw [if_pos q']
      refine ⟨(i + 1, P3), rfl, f13, ?_⟩
      rw [zl_rs, ← hx, if_pos q']
    · rw [if_neg q']
      refine ⟨(x, P3), rfl, f13, ?_⟩
      rw [zl_rs, ← hx, if_neg q']
  · obtain ⟨x, P1⟩ := a
    obtain ⟨f1, hx⟩ := hI
    refine ⟨P1, ?_, f1⟩
    show zk_sf (d + 7) m_Pinches_bestFit 6 [.ref 33, .ref b, .int (zi r), .int (zi q), .int (zi x), .int (zi (9 + 1))] [] (zp_M P1, n) = _
    rw [e_Pinches_bestFit_6, if_neg zi_10n, show x = _ from hx]
    rfl
/-- gall of a person behind k weeks as long as he bears what he bears: what it would be, and whether he throws first then -/
def ygl (T : yT) (V : yV) (p : Nat) (g : Int32) (w : Nat) : Int32 := zq_min 99 (g + yld T V p g w)
def yft (T : yT) (V : yV) (p : Nat) : Nat → Int32 → Nat → Option Nat
  | 0, _, _ => none
  | m + 1, g, k => if ygl T V p g (V.2.2.2 + k) < ylm T p then yft T V p m (ygl T V p g (V.2.2.2 + k)) (k + 1) else some (k + 1)
def yfi : Option Nat → Int32
  | some k => zi k
  | none => -1
def ybr (V : yV) (p : Nat) : Bool := (List.range 8).any (fun k => yon V k p)
theorem zl_anyc {f g : Nat → Bool} {m : Nat} (h : ∀ i, i < m → f i = g i) : (List.range m).any f = (List.range m).any g := by
  rw [Bool.eq_iff_iff, List.any_eq_true, List.any_eq_true]
  exact ⟨fun ⟨i, hi, z⟩ => ⟨i, hi, (h i (List.mem_range.mp hi)) ▸ z⟩, fun ⟨i, hi, z⟩ => ⟨i, hi, (h i (List.mem_range.mp hi)).symm ▸ z⟩⟩
theorem zs_bears (h : zp_sb b) {np : Nat} (hC : yC P b V) (hO : yO np V) (h6 : np ≤ 6) {p : Nat} (hp : p < 6) : zk_sm (d + 3) m_Stand_bearsAny [.ref b, .int (zi p)] (zp_M P, n) = some (some (Value.int (zp_b (ybr V p))), (zp_M P, n)) := by
  rw [zs_bearsAny h, zl_anyc (g := fun k => yon V k p) (fun i hi => yb_on hC hO h6 hi hp)]
  show _ = some (some (Value.int (zp_b (ybr V p))), _)
  unfold ybr
  cases (List.range 8).any (fun k => yon V k p) <;> rfl
set_option maxHeartbeats 1000000 in
theorem zs_ftloop (h : zp_sb b) (hO : yO T.1 V) {p m : Nat} (hp : p < T.1) (hm : m < 1000) : ∀ (j k : Nat) (g : Int32) (P : zp), k + j = m → yTC P T → yC P b V →
    ∃ P', zk_sf (d + 7) m_Pinches_firstThrow 23 [.ref 33, .ref b, .int (zi p), .int (zi m), .int g, .int (zi k)] [] (zp_M P, n) = some (some (Value.int (yfi (yft T V p j g k))), (zp_M P', n)) ∧ yF [] [] P P'
  | 0, k, g, P, hk, hT, hC => by
    refine ⟨P, ?_, yF_r⟩
    rw [e_Pinches_firstThrow_23, if_neg (fun z => absurd ((zi_l (by omega) (by omega)).mp z) (by omega))]
    rfl
  | j + 1, k, g, P, hk, hT, hC => by
    have hw := hO.2
    obtain ⟨P1, e1, f1⟩ := zs_loadAt (d := d) (n := n) (g := g) h hT hC hO hp (w := V.2.2.2 + k) (by omega)
    have e0 : zi V.2.2.2 + zi k = zi (V.2.2.2 + k) := (Int32.ofNat_add _ _).symm
    rw [e_Pinches_firstThrow_23, if_pos ((zi_l (by omega) (by omega)).mpr (by omega)), zp_s5 h, Option.bind_some, zp_Lv, Option.bind_some, hC.2.2.2, e0, e1, zs_cI, Option.bind_some, zs_min, zs_cI, Option.bind_some, zp_L0, Option.bind_some, zp_Tv, Option.bind_some, ylm_C (yTC_0 f1 hT) hp, zs_cI, Option.bind_some, zi_s]
    show ∃ P', (if ygl T V p g (V.2.2.2 + k) < ylm T p then _ else _) = some (some (Value.int (yfi (if ygl T V p g (V.2.2.2 + k) < ylm T p then yft T V p j (ygl T V p g (V.2.2.2 + k)) (k + 1) else some (k + 1)))), _) ∧ _
    by_cases q : ygl T V p g (V.2.2.2 + k) < ylm T p
    · rw [if_pos q, if_pos q]
      obtain ⟨P2, e2, f2⟩ := zs_ftloop h hO hp hm j (k + 1) (ygl T V p g (V.2.2.2 + k)) P1 (by omega) (yTC_0 f1 hT) (yC_0 f1 h hC)
      exact ⟨P2, e2, yF_t f1 f2⟩
    · rw [if_neg q, if_neg q]
      exact ⟨P1, rfl, f1⟩
/-- the first throw within m weeks -/
def yfr (T : yT) (V : yV) (p m : Nat) : Option Nat := bif ybr V p then yft T V p m (V.2.1 p) 0 else none
theorem zs_firstThrow (h : zp_sb b) (hT : yTC P T) (hC : yC P b V) (hO : yO T.1 V) {p m : Nat} (hp : p < T.1) (hm : m < 1000) : ∃ P', zk_sm (d + 7) m_Pinches_firstThrow [.ref 33, .ref b, .int (zi p), .int (zi m)] (zp_M P, n) = some (some (Value.int (yfi (yfr T V p m))), (zp_M P', n)) ∧ yF [] [] P P' := by
  have h6 := hT.2.1
  rw [e_Pinches_firstThrow, zp_sv h, Option.bind_some, zs_bears h hC hO h6 (by omega), zs_cI, Option.bind_some, zp_ib]
  unfold yfr
  cases ybr V p with
  | false => exact ⟨P, rfl, yF_r⟩
  | true =>
    rw [cond_true, cond_true, zp_s3 h, Option.bind_some, zs_at (zp_sb_t h).2.2.2.2 (by decide), zs_cI, Option.bind_some, yC_g hC (by omega)]
    exact zs_ftloop h hO hp hm m 0 (V.2.1 p) P (Nat.zero_add _) hT hC
end
