/-! WAYS by the reference: above whom; how many saddles away -/
def ycb (s : Int32) (p : Nat) : Nat := bif yb_t s p then 1 else 0
def ycn (s : Int32) : Nat := ycb s 0 + ycb s 1 + ycb s 2 + ycb s 3 + ycb s 4 + ycb s 5
theorem ycb_1 {s : Int32} {p : Nat} : ycb s p ≤ 1 := by unfold ycb; cases yb_t s p <;> decide
theorem ycn_6 {s : Int32} : ycn s ≤ 6 := by
  have h0 := @ycb_1 s 0
  have h1 := @ycb_1 s 1
  have h2 := @ycb_1 s 2
  have h3 := @ycb_1 s 3
  have h4 := @ycb_1 s 4
  have h5 := @ycb_1 s 5
  unfold ycn
  omega
theorem ycn_l {s t : Int32} (h : ∀ p, p < 6 → yb_t s p = true → yb_t t p = true) {x : Nat} (hx : x < 6) (h1 : yb_t s x = false) (h2 : yb_t t x = true) : ycn s < ycn t := by
  have hm : ∀ p, p < 6 → ycb s p ≤ ycb t p := by
    intro p hp
    have := h p hp
    unfold ycb
    cases hs : yb_t s p with
    | false => exact Nat.zero_le _
    | true => rw [this hs]; exact Nat.le_refl _
  have hs : ycb s x < ycb t x := by unfold ycb; rw [h1, h2]; decide
  have m0 := hm 0 (by decide)
  have m1 := hm 1 (by decide)
  have m2 := hm 2 (by decide)
  have m3 := hm 3 (by decide)
  have m4 := hm 4 (by decide)
  have m5 := hm 5 (by decide)
  unfold ycn
  have hx : x = 0 ∨ x = 1 ∨ x = 2 ∨ x = 3 ∨ x = 4 ∨ x = 5 := by omega
  rcases hx with rfl | rfl | rfl | rfl | rfl | rfl <;> omega
/-- a way from p of at least one saddle -/
def yrc (V : yV) (p x : Nat) : Prop := ∃ j, 1 ≤ j ∧ yWk V j p x
theorem yrc_e {V : yV} {p r x : Nat} (h : r = p ∨ yrc V p r) (he : yEd V r x) : yrc V p x := by
  rcases h with rfl | ⟨j, hj, hw⟩
  · exact ⟨1, Nat.le_refl _, yWk_s.mpr ⟨r, yWk_0.mpr rfl, he⟩⟩
  · exact ⟨j + 1, by omega, yWk_s.mpr ⟨r, hw, he⟩⟩
section
variable {P : zp} {n : Nat × Nat} {d np : Nat} {V : yV} {T : yT}
theorem yg_RofR (hR : yR (P.2.1 286) V) {k r q f : Nat} (hk : k < 8) (hv : V.1 k = some (r, q, f)) : zk_sm d m_R_of [.ref 269, .int (zi k), .int 0] (zp_M P, n) = some (some (.int (zi r)), (zp_M P, n)) ∧ zk_sm d m_R_of [.ref 269, .int (zi k), .int 1] (zp_M P, n) = some (some (.int (zi q)), (zp_M P, n)) := by
  obtain ⟨c1, c2, c3, c4⟩ := yR_p hR hk hv
  exact ⟨by rw [zs_Rof (x := 0) (k := 0) (by omega) rfl, c1], by rw [zs_Rof (x := 1) (k := 1) (by omega) rfl, c2]⟩
/-- what one round of the reference does to a set -/
def yrl_ (V : yV) (p : Nat) (s : Int32) (i : Nat) (a : Int32 × Int32) : Prop := (∀ x, x < 6 → yb_t s x = true → yb_t a.1 x = true) ∧ (∀ x, x < 32 → yb_t a.1 x = true → x < 6 ∧ yrc V p x) ∧ ((a.2 = 0 ∧ a.1 = s ∧ ∀ k r q f, k < i → V.1 k = some (r, q, f) → (r = p ∨ yb_t s r = true) → yb_t s q = true) ∨ (a.2 = 1 ∧ ∃ x, x < 6 ∧ yb_t s x = false ∧ yb_t a.1 x = true))
set_option maxHeartbeats 2000000 in
theorem zs_Ratwo (hT : yTR P T) (hR : yR (P.2.1 286) V) (hO : yO T.1 V) {p : Nat} (hp : p < 6) {s : Int32} (hs : ∀ x, x < 32 → yb_t s x = true → x < 6 ∧ yrc V p x) : ∃ a : Int32 × Int32, yrl_ V p s 8 a ∧ ∃ v4, zk_sf (d + 4) m_R_aboveOf 13 [.ref 269, .int (zi p), .int s, .int 0, .int 0] [] (zp_M P, n) = zk_sf (d + 4) m_R_aboveOf 4 [.ref 269, .int (zi p), .int a.1, .int a.2, v4] [] (zp_M P, n) := by
  have h6 := hT.2.1
  refine zl_ind (m := 8) (L := fun i (a : Int32 × Int32) => zk_sf (d + 4) m_R_aboveOf 13 [.ref 269, .int (zi p), .int a.1, .int a.2, .int (zi i)] [] (zp_M P, n)) (I := fun i a => yrl_ V p s i a) (Q := fun x => ∃ a : Int32 × Int32, yrl_ V p s 8 a ∧ ∃ v4, x = zk_sf (d + 4) m_R_aboveOf 4 [.ref 269, .int (zi p), .int a.1, .int a.2, v4] [] (zp_M P, n)) (fun i a hi hI => Or.inr ?_) (fun a hI => ?_) (a := (s, 0)) ⟨fun _ _ h => h, hs, Or.inl ⟨rfl, rfl, fun k r q f hk => absurd hk (Nat.not_lt_zero k)⟩⟩
  · obtain ⟨S, mo⟩ := a
    obtain ⟨i1, i2, i3⟩ := hI
    have i1 : ∀ x, x < 6 → yb_t s x = true → yb_t S x = true := i1
    have i2 : ∀ x, x < 32 → yb_t S x = true → x < 6 ∧ yrc V p x := i2
    have i3 : (mo = 0 ∧ S = s ∧ ∀ k r q f, k < i → V.1 k = some (r, q, f) → (r = p ∨ yb_t s r = true) → yb_t s q = true) ∨ (mo = 1 ∧ ∃ x, x < 6 ∧ yb_t s x = false ∧ yb_t S x = true) := i3
    show ∃ a', zk_sf (d + 4) m_R_aboveOf 13 [.ref 269, .int (zi p), .int S, .int mo, .int (zi i)] [] (zp_M P, n) = _ ∧ _
    rw [e_R_aboveOf_13, if_pos (zi_8 hi), zp_Rv, Option.bind_some, yg_Rthere hT hR hO, yis_k hi, zs_cI, Option.bind_some, zp_ib, zi_s]
    cases hv : V.1 i with
    | none =>
      refine ⟨(S, mo), ?_, i1, i2, ?_⟩
      · rw [show yth V i = false by unfold yth; rw [hv]; rfl]; rfl
      · rcases i3 with ⟨a1, a2, a3⟩ | h
        · refine Or.inl ⟨a1, a2, fun k r q f hk hv' => ?_⟩
          have : k ≠ i := fun z => by rw [z, hv] at hv'; cases hv'
          exact a3 k r q f (by omega) hv'
        · exact Or.inr h
    | some y =>
      obtain ⟨r, q, f⟩ := y
      obtain ⟨o1, o2, -, -⟩ := hO.1 i r q f hi hv
      have he : yEd V r q := ⟨i, f, hi, hv⟩
      have eR : zk_sm (d + 3) m_R_of [.ref 269, .int (zi i), .int 0] (zp_M P, n) = _ := (yg_RofR (d := d + 3) (n := n) hR hi hv).1
      have eQ : zk_sm (d + 3) m_R_of [.ref 269, .int (zi i), .int 1] (zp_M P, n) = _ := (yg_RofR (d := d + 3) (n := n) hR hi hv).2
      -- not taken: the set stays
      have stay : ¬ ((r = p ∨ yb_t S r = true) ∧ yb_t S q = false) → yrl_ V p s (i + 1) (S, mo) := by
        intro hno
        refine ⟨i1, i2, ?_⟩
        rcases i3 with ⟨a1, a2, a3⟩ | h
        · refine Or.inl ⟨a1, a2, fun k r' q' f' hk hv' hr => ?_⟩
          by_cases z : k = i
          · rw [z, hv] at hv'
            cases hv'
            cases hq : yb_t s q with
            | true => rfl
            | false => exact absurd ⟨by rw [a2]; exact hr, by rw [a2]; exact hq⟩ hno
          · exact a3 k r' q' f' (by omega) hv' hr
        · exact Or.inr h
      -- taken: one more
      have take : (r = p ∨ yb_t S r = true) → yb_t S q = false → yrl_ V p s (i + 1) (S ||| (1 <<< (zi q &&& 31)), 1) := by
        intro hr hq
        have eb : ∀ x, x < 32 → yb_t (S ||| (1 <<< (zi q &&& 31))) x = (yb_t S x || decide (x = q)) := fun x hx => by rw [yb_or, yb_1s q (by omega) x hx]
        refine ⟨fun x hx h => ?_, fun x hx h => ?_, Or.inr ⟨rfl, q, by omega, ?_, ?_⟩⟩
        · show yb_t (S ||| (1 <<< (zi q &&& 31))) x = true
          rw [eb x (by omega), i1 x hx h]; rfl
        · have h : yb_t (S ||| (1 <<< (zi q &&& 31))) x = true := h
          rw [eb x hx, Bool.or_eq_true] at h
          rcases h with h | h
          · exact i2 x hx h
          · have := of_decide_eq_true h
            subst this
            exact ⟨by omega, yrc_e (hr.elim Or.inl (fun z => Or.inr (i2 r (by omega) z).2)) he⟩
        · cases hsq : yb_t s q with
          | false => rfl
          | true => rw [i1 q (by omega) hsq] at hq; cases hq
        · show yb_t (S ||| (1 <<< (zi q &&& 31))) q = true
          rw [eb q (by omega), decide_eq_true rfl, Bool.or_true]
      rw [show yth V i = true by unfold yth; rw [hv]; rfl, cond_true, zp_Rv, Option.bind_some, eR, zs_cI, Option.bind_some]
      by_cases qp : r = p
      · rw [if_pos (show zi r = zi p by rw [qp]), zp_Rv, Option.bind_some, eQ, zs_cI, Option.bind_some, zs_Rhas, zs_cI, Option.bind_some, zp_ib, yb_has (show q < 32 by omega)]
        cases hq : yb_t S q with
        | true => exact ⟨(S, mo), rfl, stay (fun z => by rw [hq] at z; cases z.2)⟩
        | false =>
          rw [cond_false, zp_Rv, Option.bind_some, eQ, zs_cI, Option.bind_some]
          exact ⟨(S ||| (1 <<< (zi q &&& 31)), 1), rfl, take (Or.inl qp) hq⟩
      · rw [if_neg (show ¬ zi r = zi p from fun z => qp ((zi_eq (by omega) (by omega)).mp z)), zp_Rv, Option.bind_some, eR, zs_cI, Option.bind_some, zs_Rhas, zs_cI, Option.bind_some, zp_ib, yb_has (show r < 32 by omega)]
        cases hr : yb_t S r with
        | false => exact ⟨(S, mo), rfl, stay (fun z => by rw [hr] at z; rcases z.1 with z | z; exact qp z; cases z)⟩
        | true =>
          rw [cond_true, zp_Rv, Option.bind_some, eQ, zs_cI, Option.bind_some, zs_Rhas, zs_cI, Option.bind_some, zp_ib, yb_has (show q < 32 by omega)]
          cases hq : yb_t S q with
          | true => exact ⟨(S, mo), rfl, stay (fun z => by rw [hq] at z; cases z.2)⟩
          | false =>
            rw [cond_false, zp_Rv, Option.bind_some, eQ, zs_cI, Option.bind_some]
            exact ⟨(S ||| (1 <<< (zi q &&& 31)), 1), rfl, take (Or.inr hr) hq⟩
  · obtain ⟨S, mo⟩ := a
    refine ⟨(S, mo), hI, .int (zi 8), ?_⟩
    show zk_sf (d + 4) m_R_aboveOf 13 [.ref 269, .int (zi p), .int S, .int mo, .int (zi 8)] [] (zp_M P, n) = _
    rw [e_R_aboveOf_13, if_neg zi_8n]
theorem zs_Rabove (hT : yTR P T) (hR : yR (P.2.1 286) V) (hO : yO T.1 V) {p : Nat} (hp : p < 6) : zk_sm (d + 4) m_R_aboveOf [.ref 269, .int (zi p)] (zp_M P, n) = some (some (.int (yab V p 6).2), (zp_M P, n)) := by
  have h6 := hT.2.1
  have key : ∀ (N : Nat) (s : Int32) (v4 : Value), ycn s + N ≥ 7 → (∀ x, x < 32 → yb_t s x = true → x < 6 ∧ yrc V p x) → zk_sf (d + 4) m_R_aboveOf 4 [.ref 269, .int (zi p), .int s, .int 1, v4] [] (zp_M P, n) = some (some (.int (yab V p 6).2), (zp_M P, n)) := by
    intro N
    induction N with
    | zero => intro s v4 h; have := @ycn_6 s; omega
    | succ N ih =>
      intro s v4 h hs
      obtain ⟨⟨S, mo⟩, ⟨i1, i2, i3⟩, v4', e⟩ := zs_Ratwo (d := d) (n := n) hT hR hO hp hs
      rw [e_R_aboveOf_4, if_neg (by decide), e]
      rcases i3 with ⟨a1, a2, a3⟩ | ⟨a1, x, x1, x2, x3⟩
      · have a1 : mo = 0 := a1
        have a2 : S = s := a2
        rw [e_R_aboveOf_4, if_pos a1]
        have hcl : ∀ j x, yWk V (j + 1) p x → yb_t s x = true := by
          intro j
          induction j with
          | zero =>
            intro x hw
            obtain ⟨c, hw, i, f, hi, hv⟩ := yWk_s.mp hw
            exact a3 i c x f hi hv (Or.inl (yWk_0.mp hw).symm)
          | succ j ihj =>
            intro x hw
            obtain ⟨c, hw, i, f, hi, hv⟩ := yWk_s.mp hw
            exact a3 i c x f hi hv (Or.inr (ihj c hw))
        have : S = (yab V p 6).2 := by
          rw [a2]
          refine yb_ext (fun x hx => ?_)
          rw [Bool.eq_iff_iff, (yab_t hO h6 (by omega) 6 x hx).2]
          constructor
          · intro hb
            obtain ⟨-, j, hj, hw⟩ := hs x hx hb
            exact yWk_6 hO h6 j j (Nat.le_refl _) hj hw
          · rintro ⟨j, h1, -, hw⟩
            exact hcl (j - 1) x (by rw [Nat.sub_add_cancel h1]; exact hw)
        rw [this]
      · have a1 : mo = 1 := a1
        rw [a1]
        exact ih S v4' (by have := ycn_l (s := s) (t := S) i1 x1 x2 x3; omega) i2
  rw [e_R_aboveOf]
  exact key 7 0 (.retAddr 0) (by omega) (fun x hx h => by rw [yb_0] at h; cases h)
end
