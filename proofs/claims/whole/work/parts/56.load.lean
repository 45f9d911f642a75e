/-! SPECS 15: stands as both sides have them; pinch and load -/
theorem zi_sub {a b : Nat} (h : b ≤ a) : zi a - zi b = zi (a - b) := by
  have e : zi a = zi (a - b) + zi b := by rw [← Int32.ofNat_add, Nat.sub_add_cancel h]
  rw [e]; exact Int32.add_sub_cancel _ _
theorem zi_mod {k : Nat} (h : k < 2 ^ 31) : zi k - zi k / 100 * 100 = zi (k % 100) := by
  have e1 : zi k / 100 = zi (k / 100) := (Int32.ofNat_div h (by decide : 100 < 2 ^ 31)).symm
  have e2 : zi (k / 100) * 100 = zi (k / 100 * 100) := (Int32.ofNat_mul (k / 100) 100).symm
  rw [e1, e2, zi_sub (by omega)]
  congr 1
  omega
theorem zi_n1 {r : Nat} (h : r < 2 ^ 31) : zi r ≠ -1 := by
  intro z
  have z3 : (zi r).toInt = (r : Int) := Int32.toInt_ofNat_small h
  rw [z] at z3
  have : (-1 : Int32).toInt = -1 := by decide
  omega
/-- a loop with an invariant, that may end early -/
theorem zl_ind {α ρ : Type} {m : Nat} {L : Nat → α → Option ρ} {I : Nat → α → Prop} {Q : Option ρ → Prop} (hs : ∀ i a, i < m → I i a → Q (L i a) ∨ ∃ a', L i a = L (i + 1) a' ∧ I (i + 1) a') (hf : ∀ a, I m a → Q (L m a)) {a : α} (h0 : I 0 a) : Q (L 0 a) := by
  have key : ∀ (j i : Nat) (a : α), i + j = m → I i a → Q (L i a) := by
    intro j
    induction j with
    | zero => intro i a h hI; rw [show i = m by omega] at hI ⊢; exact hf a hI
    | succ j ih =>
      intro i a h hI
      rcases hs i a (by omega) hI with q | ⟨a', e, hI'⟩
      · exact q
      · rw [e]; exact ih (i + 1) a' (by omega) hI'
  exact key m 0 a (by omega) h0
theorem zl_rs {α : Type} {g : α → Nat → α} {a : α} {i : Nat} : (List.range (i + 1)).foldl g a = g ((List.range i).foldl g a) i := by
  rw [List.range_succ, List.foldl_append]; rfl
/-- all is in bounds -/
def yO (np : Nat) (V : yV) : Prop := (∀ k r q f, k < 8 → V.1 k = some (r, q, f) → r < np ∧ q < np ∧ r ≠ q ∧ f < 10) ∧ V.2.2.2 ≤ 2000
/-- a stand of the class -/
def yC (P : zp) (b : Nat) (V : yV) : Prop := (∀ k, k < 8 → match V.1 k with | none => P.2.1 (b + 1) k = -1 | some (r, q, f) => P.2.1 (b + 1) k = zi r ∧ P.2.1 (b + 2) k = zi q ∧ P.2.1 (b + 3) k = zi f) ∧ (∀ p, p < 6 → P.2.1 (b + 4) p = V.2.1 p) ∧ P.1 b 4 = V.2.2.1 ∧ P.1 b 5 = zi V.2.2.2
/-- .. of the reference, in a row -/
def yR (A : Nat → Int32) (V : yV) : Prop := (∀ k, k < 8 → match V.1 k with | none => A (4 * k + 3) = 0 | some (r, q, f) => A (4 * k + 0) = zi r ∧ A (4 * k + 1) = zi q ∧ A (4 * k + 2) = zi f ∧ A (4 * k + 3) = 1) ∧ (∀ p, p < 6 → A (32 + p) = V.2.1 p) ∧ A 38 = V.2.2.1 ∧ A 39 = zi V.2.2.2
theorem yC_F {fs : List (Nat × Nat)} {ks : List Nat} {P P' : zp} {b : Nat} {V : yV} (hk : ∀ j, 0 < j → j < 5 → b + j ∉ ks) (h4' : (b, 4) ∉ fs) (h5' : (b, 5) ∉ fs) (h : yF fs ks P P') (hC : yC P b V) : yC P' b V := by
  obtain ⟨h1, h2, h3, h4⟩ := hC
  refine ⟨fun k hk8 => ?_, fun p hp => ?_, ?_, ?_⟩
  · rw [h.2.1 _ (hk 1 (by decide) (by decide)), h.2.1 _ (hk 2 (by decide) (by decide)), h.2.1 _ (hk 3 (by decide) (by decide))]
    exact h1 k hk8
  · rw [h.2.1 _ (hk 4 (by decide) (by decide))]; exact h2 p hp
  · rw [h.1 b 4 h4']; exact h3
  · rw [h.1 b 5 h5']; exact h4
def yon (V : yV) (k p : Nat) : Bool := match V.1 k with | some (_, q, _) => decide (q = p) | none => false
def yth (V : yV) (k : Nat) : Bool := (V.1 k).isSome
def yp (T : yT) (r q f : Nat) (g : Int32) (k : Nat) : Int32 := zq_max 0 (zq_min 30 (T.2.2.2.2.2 (T.2.1 r) (T.2.2.1 q) (zi f) (T.2.2.2.1 q) g (zi (k % 100))))
def yld1 (T : yT) (V : yV) (p : Nat) (g : Int32) (w : Nat) (a : Int32) (i : Nat) : Int32 := match V.1 i with | some (r, q, f) => if q = p then a + yp T r p f g w else a | none => a
/-- the load of a person, were his gall g and the week w -/
def yld (T : yT) (V : yV) (p : Nat) (g : Int32) (w : Nat) : Int32 := (List.range 8).foldl (yld1 T V p g w) 0
section
variable {P : zp} {n : Nat × Nat} {b d np : Nat} {V : yV} {T : yT}
theorem yb_sad (hC : yC P b V) (hO : yO np V) (h6 : np ≤ 6) {k : Nat} (hk : k < 8) : zq_sad P b (zi k) = yth V k := by
  rw [zq_sad_i hk]
  have h := hC.1 k hk
  unfold yth
  cases hv : V.1 k with
  | none => rw [hv] at h; rw [show P.2.1 (b + 1) k = -1 from h]; rfl
  | some x =>
    obtain ⟨r, q, f⟩ := x
    rw [hv] at h
    have := (hO.1 k r q f hk hv).1
    rw [h.1, decide_eq_false (zi_n1 (by omega))]; rfl
theorem yb_on (hC : yC P b V) (hO : yO np V) (h6 : np ≤ 6) {k p : Nat} (hk : k < 8) (hp : p < 6) : zq_on P b (zi k) (zi p) = yon V k p := by
  rw [zq_on_i hk]
  have h := hC.1 k hk
  unfold yon
  cases hv : V.1 k with
  | none => rw [hv] at h; rw [show P.2.1 (b + 1) k = -1 from h]; rfl
  | some x =>
    obtain ⟨r, q, f⟩ := x
    rw [hv] at h
    obtain ⟨o1, o2, -, -⟩ := hO.1 k r q f hk hv
    rw [h.1, h.2.1, decide_eq_false (zi_n1 (by omega))]
    show (true && decide (zi q = zi p)) = decide (q = p)
    rw [Bool.true_and]
    exact decide_eq_decide.mpr (zi_eq (by omega) (by omega))
theorem yb_rth (hR : yR (P.2.1 286) V) {k : Nat} (hk : k < 8) : zr_th P k = yth V k := by
  have h := hR.1 k hk
  unfold zr_th yth
  cases hv : V.1 k with
  | none => rw [hv] at h; rw [show P.2.1 286 (4 * k + 3) = 0 from h]; rfl
  | some x => obtain ⟨r, q, f⟩ := x; rw [hv] at h; rw [h.2.2.2]; rfl
theorem yb_ron (hR : yR (P.2.1 286) V) (hO : yO np V) (h6 : np ≤ 6) {k p : Nat} (hk : k < 8) (hp : p < 6) : zr_on P k (zi p) = yon V k p := by
  unfold zr_on
  rw [yb_rth hR hk]
  have h := hR.1 k hk
  unfold yon yth
  cases hv : V.1 k with
  | none => rfl
  | some x =>
    obtain ⟨r, q, f⟩ := x
    rw [hv] at h
    obtain ⟨o1, o2, -, -⟩ := hO.1 k r q f hk hv
    rw [h.2.1]
    show (true && decide (zi q = zi p)) = decide (q = p)
    rw [Bool.true_and]
    exact decide_eq_decide.mpr (zi_eq (by omega) (by omega))
theorem zp_ldRi {k m c i : Nat} (h : zp_ad k = (10 + c, m)) (hi : i < m) (hm : m < 2 ^ 31) : zk_ldR (zp_M P, n) k (zi i) = some (P.2.2.2.1 k i) := by
  rw [zp_ldR h, zi_c (by omega), if_neg (fun z => z.elim (zi_n (by omega)) (fun z => by omega))]
theorem zp_L0 : zk_gR (zp_M P, n) 33 4 0 = some 26 := zp_gR (by decide +kernel)
theorem zp_L1 : zk_gR (zp_M P, n) 33 4 1 = some 34 := zp_gR (by decide +kernel)
theorem zp_L3 : zk_gI (zp_M P, n) 33 4 3 = some (P.1 33 3) := zp_gI (by decide +kernel)
theorem zp_Lv : zk_rv (zp_M P, n) 33 4 = some () := zp_rv (by decide +kernel)
theorem zp_a34 : zp_ad 34 = (10 + 1, 4) := by decide +kernel
theorem zp_T4 : zk_gR (zp_M P, n) 26 10 4 = some 27 := zp_gR (by decide +kernel)
theorem zp_T5 : zk_gR (zp_M P, n) 26 10 5 = some 28 := zp_gR (by decide +kernel)
theorem zp_T6 : zk_gR (zp_M P, n) 26 10 6 = some 29 := zp_gR (by decide +kernel)
theorem zp_Tv : zk_rv (zp_M P, n) 26 10 = some () := zp_rv (by decide +kernel)
set_option maxHeartbeats 2000000 in
theorem zs_pinchAt (hT : yTC P T) {r q f k : Nat} {g : Int32} (hr : r < T.1) (hq : q < T.1) (hk : k < 2 ^ 31) : ∃ P', zk_sm (d + 5) m_Pinches_pinchAt [.ref 33, .int (zi r), .int (zi q), .int (zi f), .int g, .int (zi k)] (zp_M P, n) = some (some (Value.int (yp T r q f g k)), (zp_M P', n)) ∧ yF [] [] P P' := by
  obtain ⟨-, h6, ha, -, hW⟩ := hT
  have hs : zp_gt P 27 6 (zi r) = T.2.1 r := (zp_gi (by omega) (by decide)).trans (ha r hr).1
  have hb : zp_gt P 28 6 (zi q) = T.2.2.1 q := (zp_gi (by omega) (by decide)).trans (ha q hq).2.1
  have ht : zp_gt P 29 6 (zi q) = T.2.2.2.1 q := (zp_gi (by omega) (by decide)).trans (ha q hq).2.2
  rw [e_Pinches_pinchAt, zp_L3, Option.bind_some]
  rcases hW with ⟨w1, w2⟩ | ⟨i, la, X, w1, w2, w3, w4, w5, w6⟩
  · rw [w1, if_pos (by decide), zp_L0, Option.bind_some, zp_T5, Option.bind_some, zs_at zp_a28 (by decide), zs_cI, Option.bind_some, zp_L0, Option.bind_some, zp_T4, Option.bind_some, zs_at zp_a27 (by decide), zs_cI, Option.bind_some, zs_abs, zs_cI, Option.bind_some, zs_min, zs_cI, Option.bind_some, zs_max, zs_cI, Option.bind_some, hs, hb]
    refine ⟨P, ?_, yF_r⟩
    unfold yp
    rw [w2]
    rfl
  · obtain ⟨g', e1, g1⟩ := zs_worth (d := d) (n := n) (s := T.2.1 r) (b := T.2.2.1 q) (f := zi f) (t := T.2.2.2.1 q) (gg := g) (w := zi (k % 100)) w4 w5
    have hv : zk_rv (zp_M P, n) la 1 = some () := by
      obtain ⟨z1, -, h', st, fc, z4, -⟩ := w4
      exact yl_rv z1 z4
    refine ⟨zp_sG P g', ?_, yF_G g1⟩
    rw [w2, if_neg (zi_n (by omega)), Option.bind_some, zp_L1, Option.bind_some, zp_al zp_a34 (by decide), Option.bind_some, if_pos ((zi_nI (by omega) (by decide)).mpr w1), Option.bind_some, Option.bind_some, zp_ldRi zp_a34 w1 (by decide), Option.bind_some, w3]
    show ((zk_gR (zp_M P, n) 33 4 0).bind fun b18 => _) = _
    rw [zp_L0, Option.bind_some, zp_T5, Option.bind_some, zs_at zp_a28 (by decide), zs_cI, Option.bind_some, zp_L0, Option.bind_some, zp_T4, Option.bind_some, zs_at zp_a27 (by decide), zs_cI, Option.bind_some, zp_L0, Option.bind_some, zp_T6, Option.bind_some, zs_at zp_a29 (by decide), zs_cI, Option.bind_some, hs, hb, ht, hv, Option.bind_some, zi_mod hk, e1, zs_cI, Option.bind_some, zs_min, zs_cI, Option.bind_some, zs_max, zs_cI, Option.bind_some]
    unfold yp
    rw [w6]
end
