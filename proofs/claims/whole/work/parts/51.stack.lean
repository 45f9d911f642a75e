/-! SPECS 10: the class's signs; a law's stack -/
set_option maxHeartbeats 4000000 in
theorem zs_joined {d c : Nat} {a b : Int32} {s : zk_S} (hc : 2 ≤ c) (hc2 : c < 12) (hc9 : c ≠ 9) (hab : 10 ≤ c → (a = 0 ∨ a = 1) ∧ (b = 0 ∨ b = 1)) : zk_sm (d + 2) m_Law_joined [.int (ysg c), .long a.toInt64, .long b.toInt64] s = some (some (Value.int (ybin c a b)), s) := by
  have hB : ∀ x : Int64, ((zk_cL (zk_sm (d + 1) m_Math_min_JJ [.long 1000000, .long x] s)).bind fun p1 => (zk_cL (zk_sm (d + 1) m_Math_max_JJ [.long (-1000000), .long p1.1] p1.2)).bind fun p2 => (some (some (Value.int (Int64.toInt32 p2.1)), p2.2) : Option zk_R)) = some (some (Value.int (ybd x)), s) := by
    intro x
    rw [zs_minJ, zs_cL, Option.bind_some, zs_maxJ, zs_cL, Option.bind_some]
    rfl
  have h1 : ybd 1 = 1 := by decide
  have h0 : ybd 0 = 0 := by decide
  rw [e_Law_joined]
  have hh : c = 2 ∨ c = 3 ∨ c = 4 ∨ c = 5 ∨ c = 6 ∨ c = 7 ∨ c = 8 ∨ c = 10 ∨ c = 11 := by omega
  rcases hh with rfl | rfl | rfl | rfl | rfl | rfl | rfl | rfl | rfl
  · repeat rw [if_neg (by decide)]
    rw [if_pos (by decide), hB]; rfl
  · repeat rw [if_neg (by decide)]
    rw [if_pos (by decide), hB]; rfl
  · repeat rw [if_neg (by decide)]
    rw [if_pos (by decide), hB]; rfl
  · repeat rw [if_neg (by decide)]
    rw [if_pos (by decide)]
    show _ = some (some (Value.int (if b.toInt64 = 0 then 0 else ybd (a.toInt64 / b.toInt64))), s)
    by_cases z : b.toInt64 = 0
    · rw [if_pos ((lg_0 _ _).mpr z), hB, if_pos z, h0]
    · rw [if_neg (fun w => z ((lg_0 _ _).mp w)), if_neg z, hB, if_neg z]
  · repeat rw [if_neg (by decide)]
    rw [if_pos (by decide)]
    show _ = some (some (Value.int (if a.toInt64 = b.toInt64 then 1 else 0)), s)
    by_cases z : a.toInt64 = b.toInt64
    · rw [if_pos ((lg_0 _ _).mpr z), hB, if_pos z, h1]
    · rw [if_neg (fun w => z ((lg_0 _ _).mp w)), hB, if_neg z, h0]
  · repeat rw [if_neg (by decide)]
    rw [if_pos (by decide)]
    show _ = some (some (Value.int (if a.toInt64 < b.toInt64 then 1 else 0)), s)
    by_cases z : a.toInt64 < b.toInt64
    · rw [if_pos ((lg_l _ _).mpr z), hB, if_pos z, h1]
    · rw [if_neg (fun w => z ((lg_l _ _).mp w)), hB, if_neg z, h0]
  · repeat rw [if_neg (by decide)]
    rw [if_pos (by decide)]
    show _ = some (some (Value.int (if b.toInt64 < a.toInt64 then 1 else 0)), s)
    by_cases z : b.toInt64 < a.toInt64
    · rw [if_pos ((lg_g _ _).mpr z), hB, if_pos z, h1]
    · rw [if_neg (fun w => z ((lg_g _ _).mp w)), hB, if_neg z, h0]
  · rw [if_pos (by decide), hB]
    rcases hab (by omega) with ⟨rfl | rfl, rfl | rfl⟩ <;> rfl
  · repeat rw [if_neg (by decide)]
    rw [hB]
    rcases hab (by omega) with ⟨rfl | rfl, rfl | rfl⟩ <;> rfl
/-- cells behind the objects -/
theorem yl_up {P : zp} {k : Nat} {x : zk_AC} (h : 300 ≤ k) : zk_up (zp_M P) k x = zp_M (zp_sG P (zk_up P.2.2.2.2 k x)) := by
  have := zp_nw (P := P) (n := k) (u := 0) (w := 0) (x := x) h
  exact congrArg (fun s : zk_S => s.1) this
section
variable {P : zp} {n : Nat × Nat} {la d : Nat}
theorem yl_gf {c : Nat} {fs : List Value} (hl : 300 ≤ la) (e : P.2.2.2.2 la = zk_ob c fs) (j : Nat) : zk_gf (zp_M P, n) la c j = fs[j]? := by
  unfold zk_gf
  show (match zp_M P la with | .inl (c', fs') => if c' = c then fs'[j]? else none | .inr _ => none) = _
  rw [zp_hi hl, e]
  exact if_pos rfl
theorem yl_rv {c : Nat} {fs : List Value} (hl : 300 ≤ la) (e : P.2.2.2.2 la = zk_ob c fs) : zk_rv (zp_M P, n) la c = some () := by
  unfold zk_rv
  show (match zp_M P la with | .inl (c', _) => if c' = c then some () else none | .inr _ => none) = _
  rw [zp_hi hl, e]
  exact if_pos rfl
theorem yl_pf {c : Nat} {fs : List Value} (hl : 300 ≤ la) (e : P.2.2.2.2 la = zk_ob c fs) {j : Nat} (hj : j < fs.length) (v : Value) : zk_pf (zp_M P, n) la c j v = some (zp_M (zp_sG P (zk_up P.2.2.2.2 la (zk_ob c (fs.set j v)))), n) := by
  unfold zk_pf
  show (match zp_M P la with | .inl (c', fs') => if c' = c ∧ j < fs'.length then some (zk_up (zp_M P) la (.inl (c', fs'.set j v)), n) else none | .inr _ => none) = _
  rw [zp_hi hl, e]
  show (if c = c ∧ j < fs.length then some (zk_up (zp_M P) la (.inl (c, fs.set j v)), n) else none) = _
  rw [if_pos ⟨rfl, hj⟩, yl_up hl]
theorem yl_al {t m : Nat} {f : Nat → Int32} (hl : 300 ≤ la) (e : P.2.2.2.2 la = zk_ia t m f) : zk_al (zp_M P, n) la = some (nI m) := by
  unfold zk_al
  show (match zp_M P la with | .inl _ => none | .inr (.inl (_, n, _)) => some (nI n) | .inr (.inr (.inl (n, _))) => some (nI n) | .inr (.inr (.inr (_, n, _))) => some (nI n)) = _
  rw [zp_hi hl, e]
theorem yl_ld {m i : Nat} {f : Nat → Int32} (hl : 300 ≤ la) (e : P.2.2.2.2 la = zk_ia 0 m f) (hi : i < m) (hm : m < 2 ^ 31) : zk_ldI (zp_M P, n) la (zi i) = some (f i) := by
  unfold zk_ldI
  show (match zp_M P la with | .inr (.inl (t, n, f)) => if (t = 0 ∨ t = 5) ∧ ¬ (zi i < 0 ∨ n ≤ (zi i).toNatClampNeg) then some (f (zi i).toNatClampNeg) else none | _ => none) = _
  rw [zp_hi hl, e]
  show (if (0 = 0 ∨ 0 = 5) ∧ ¬ (zi i < 0 ∨ m ≤ (zi i).toNatClampNeg) then some (f (zi i).toNatClampNeg) else none) = _
  rw [zi_c (by omega), if_pos ⟨Or.inl rfl, fun z => z.elim (zi_n (by omega)) (fun z => by omega)⟩]
theorem yl_stn {m i : Nat} {f : Nat → Int32} {x : Int32} (hl : 300 ≤ la) (e : P.2.2.2.2 la = zk_ia 0 m f) (hi : i < m) (hm : m < 2 ^ 31) : zk_stI (zp_M P, n) la (zi i) x = some (zp_M (zp_sG P (zk_up P.2.2.2.2 la (zk_ia 0 m (upd f i x)))), n) := by
  unfold zk_stI
  show (match zp_M P la with | .inr (.inl (t, n', f)) => if t = 0 ∧ ¬ (zi i < 0 ∨ n' ≤ (zi i).toNatClampNeg) then some (zk_up (zp_M P) la (zk_ia t n' (upd f (zi i).toNatClampNeg x)), n) else none | _ => none) = _
  rw [zp_hi hl, e]
  show (if 0 = 0 ∧ ¬ (zi i < 0 ∨ m ≤ (zi i).toNatClampNeg) then some (zk_up (zp_M P) la (zk_ia 0 m (upd f (zi i).toNatClampNeg x)), n) else none) = _
  rw [zi_c (by omega), if_pos ⟨rfl, fun z => z.elim (zi_n (by omega)) (fun z => by omega)⟩, yl_up hl]
/-- a stack's cells -/
def yst (f : Nat → Int32) : List Int32 → Prop
  | [] => True
  | a :: S => f S.length = a ∧ yst f S
theorem yst_u {f : Nat → Int32} {i : Nat} {x : Int32} : ∀ {S : List Int32}, S.length ≤ i → yst f S → yst (upd f i x) S
  | [], _, _ => trivial
  | a :: S, hi, h => ⟨by
      have : S.length ≠ i := fun z => by rw [List.length_cons] at hi; omega
      rw [zp_upd]
      show (if S.length = i then x else f S.length) = a
      rw [if_neg this]
      exact h.1, yst_u (by rw [List.length_cons] at hi; omega) h.2⟩
/-- a law's stack stands in its cells, and all else as in g -/
def yS (g : zk_M) (P : zp) (la : Nat) (S : List Int32) : Prop := 300 ≤ la ∧ S.length ≤ 64 ∧ (∃ f, P.2.2.2.2 la = zk_ob 1 [.ref (la + 2), .ref (la + 1), .int (zi S.length)] ∧ P.2.2.2.2 (la + 1) = zk_ia 0 64 f ∧ yst f S) ∧ ∀ j, j ≠ la → j ≠ la + 1 → P.2.2.2.2 j = g j
theorem zi_d {i : Nat} (h : 0 < i) : zi i - 1 = zi (i - 1) := by
  obtain ⟨k, rfl⟩ : ∃ k, i = k + 1 := ⟨i - 1, by omega⟩
  rw [← zi_s k, Nat.add_sub_cancel]
  exact Int32.add_sub_cancel _ _
theorem zi_0 {i : Nat} (h : i < 2 ^ 31) : (0 : Int32) < zi i ↔ 0 < i := zi_l (i := 0) (by decide) h
set_option maxHeartbeats 1000000 in
theorem zs_pop {g : zk_M} {a : Int32} {S : List Int32} (h : yS g P la (a :: S)) : ∃ g', zk_sm d m_Law_pop [.ref la] (zp_M P, n) = some (some (Value.int a), (zp_M (zp_sG P g'), n)) ∧ yS g (zp_sG P g') la S := by
  obtain ⟨hl, hn, ⟨f, e, e1, hf⟩, ho⟩ := h
  have hn' : S.length + 1 ≤ 64 := hn
  have e : P.2.2.2.2 la = zk_ob 1 [.ref (la + 2), .ref (la + 1), .int (zi (S.length + 1))] := e
  have hH : zk_gI (zp_M P, n) la 1 2 = some (zi (S.length + 1)) := by unfold zk_gI; rw [yl_gf hl e]; rfl
  have hR : zk_gR (zp_M P, n) la 1 1 = some (la + 1) := by unfold zk_gR; rw [yl_gf hl e]; rfl
  rw [e_Law_pop, hH, Option.bind_some, if_pos ((zi_0 (by omega)).mpr (by omega)), Option.bind_some, hR, Option.bind_some, yl_al (by omega) e1, Option.bind_some, if_neg (fun z : nI 64 < zi (S.length + 1) => absurd ((zi_l (i := 64) (m := S.length + 1) (by decide) (by omega)).mp z) (by omega)), Option.bind_some, yl_pf hl e (by show 2 < 3; decide), Option.bind_some, zi_d (by omega)]
  have e' : (zp_sG P (zk_up P.2.2.2.2 la (zk_ob 1 ([Value.ref (la + 2), .ref (la + 1), .int (zi (S.length + 1))].set 2 (.int (zi (S.length + 1 - 1))))))).2.2.2.2 la = zk_ob 1 [.ref (la + 2), .ref (la + 1), .int (zi S.length)] := by
    show zk_up P.2.2.2.2 la _ la = _
    rw [zk_up_s]; rfl
  have e1' : (zp_sG P (zk_up P.2.2.2.2 la (zk_ob 1 ([Value.ref (la + 2), .ref (la + 1), .int (zi (S.length + 1))].set 2 (.int (zi (S.length + 1 - 1))))))).2.2.2.2 (la + 1) = zk_ia 0 64 f := by
    show zk_up P.2.2.2.2 la _ (la + 1) = _
    rw [zk_up_n (by omega)]; exact e1
  refine ⟨_, ?_, hl, by omega, ⟨f, e', e1', hf.2⟩, fun j h1 h2 => ?_⟩
  · rw [show zk_gR _ la 1 1 = some (la + 1) by unfold zk_gR; rw [yl_gf hl e']; rfl, Option.bind_some, show zk_gI _ la 1 2 = some (zi S.length) by unfold zk_gI; rw [yl_gf hl e']; rfl, Option.bind_some, yl_ld (by omega) e1' (by omega) (by decide), Option.bind_some, hf.1]
  · show zk_up P.2.2.2.2 la _ j = _
    rw [zk_up_n h1]
    exact ho j h1 h2
set_option maxHeartbeats 1000000 in
theorem zs_push {g : zk_M} {a : Int32} {S : List Int32} (h : yS g P la S) (hS : S.length < 64) : ∃ g', zk_sm d m_Law_push [.ref la, .int a] (zp_M P, n) = some (none, (zp_M (zp_sG P g'), n)) ∧ yS g (zp_sG P g') la (a :: S) := by
  obtain ⟨hl, hn, ⟨f, e, e1, hf⟩, ho⟩ := h
  have hH : zk_gI (zp_M P, n) la 1 2 = some (zi S.length) := by unfold zk_gI; rw [yl_gf hl e]; rfl
  have hR : zk_gR (zp_M P, n) la 1 1 = some (la + 1) := by unfold zk_gR; rw [yl_gf hl e]; rfl
  rw [e_Law_push, hH, Option.bind_some, if_neg (zi_n (by omega)), Option.bind_some, hR, Option.bind_some, yl_al (by omega) e1, Option.bind_some, if_pos ((zi_nI (i := S.length) (m := 64) (by omega) (by decide)).mpr hS), Option.bind_some, Option.bind_some, yl_stn (by omega) e1 hS (by decide), Option.bind_some]
  have e' : (zp_sG P (zk_up P.2.2.2.2 (la + 1) (zk_ia 0 64 (upd f S.length a)))).2.2.2.2 la = zk_ob 1 [.ref (la + 2), .ref (la + 1), .int (zi S.length)] := by
    show zk_up P.2.2.2.2 (la + 1) _ la = _
    rw [zk_up_n (by omega)]; exact e
  rw [show zk_gI _ la 1 2 = some (zi S.length) by unfold zk_gI; rw [yl_gf hl e']; rfl, Option.bind_some, yl_pf hl e' (by show 2 < 3; decide), Option.bind_some, zi_s]
  refine ⟨_, rfl, hl, by rw [List.length_cons]; omega, ⟨upd f S.length a, ?_, ?_, ?_, yst_u (Nat.le_refl _) hf⟩, fun j h1 h2 => ?_⟩
  · show zk_up _ la _ la = _
    rw [zk_up_s]; rfl
  · show zk_up _ la _ (la + 1) = _
    rw [zk_up_n (by omega)]
    show zk_up _ (la + 1) _ (la + 1) = _
    rw [zk_up_s]
  · rw [zp_upd]; exact if_pos rfl
  · show zk_up _ la _ j = _
    rw [zk_up_n h1]
    show zk_up _ (la + 1) _ j = _
    rw [zk_up_n h2]
    exact ho j h1 h2
end
