/-! SPECS 1: loops; rows and stands of the class, over the picture -/
abbrev zi (i : Nat) : Int32 := Int32.ofNat i
theorem zi_s (i : Nat) : zi i + 1 = zi (i + 1) := (Int32.ofNat_add i 1).symm
theorem zi_n {i : Nat} (h : i < 2 ^ 31) : ¬ zi i < 0 := Int32.ofNat_not_neg h
theorem zi_l {i m : Nat} (h : i < 2 ^ 31) (hm : m < 2 ^ 31) : zi i < zi m ↔ i < m := Int32.ofNat_lt_ofNat h hm
theorem zi_c {i : Nat} (h : i < 2 ^ 31) : (zi i).toNatClampNeg = i := Int32.toNatClampNeg_ofNat_of_lt h
theorem zi_8 {i : Nat} (h : i < 8) : zi i < 8 := (zi_l (m := 8) (by omega) (by decide)).mpr h
theorem zi_8n : ¬ zi 8 < 8 := by decide
theorem zi_6 {i : Nat} (h : i < 6) : zi i < 6 := (zi_l (m := 6) (by omega) (by decide)).mpr h
theorem zi_6n : ¬ zi 6 < 6 := by decide
/-- a loop that folds -/
theorem zl_fold {α ρ : Type} {m : Nat} {L : Nat → α → Option ρ} {g : Nat → α → α} {fin : α → ρ} (hs : ∀ i a, i < m → L i a = L (i + 1) (g i a)) (hf : ∀ a, L m a = some (fin a)) (a : α) : L 0 a = some (fin ((List.range m).foldl (fun a i => g i a) a)) := by
  have key : ∀ (j i : Nat) (a : α), i + j = m → L i a = some (fin ((List.range' i j).foldl (fun a i => g i a) a)) := by
    intro j
    induction j with
    | zero => intro i a h; rw [show i = m by omega]; exact hf a
    | succ j ih =>
      intro i a h
      rw [hs i a (by omega), ih (i + 1) (g i a) (by omega)]
      rfl
  rw [List.range_eq_range']
  exact key m 0 a (by omega)
/-- a loop that ends where something is found -/
theorem zl_find {ρ : Type} {m : Nat} {L : Nat → Option ρ} {f : Nat → Bool} {r : Nat → ρ} {r0 : ρ} (hs : ∀ i, i < m → L i = bif f i then some (r i) else L (i + 1)) (hf : L m = some r0) : L 0 = some (match (List.range m).find? f with | some i => r i | none => r0) := by
  have key : ∀ (j i : Nat), i + j = m → L i = some (match (List.range' i j).find? f with | some i => r i | none => r0) := by
    intro j
    induction j with
    | zero => intro i h; rw [show i = m by omega]; exact hf
    | succ j ih =>
      intro i h
      rw [hs i (by omega)]
      show _ = some (match (i :: List.range' (i + 1) j).find? f with | some i => r i | none => r0)
      rw [List.find?_cons]
      cases hfi : f i with
      | true => rfl
      | false => exact ih (i + 1) (by omega)
  rw [List.range_eq_range']
  exact key m 0 (by omega)
/-- .. whatever is found -/
theorem zl_any {ρ : Type} {m : Nat} {L : Nat → Option ρ} {f : Nat → Bool} {r1 r0 : ρ} (hs : ∀ i, i < m → L i = bif f i then some r1 else L (i + 1)) (hf : L m = some r0) : L 0 = some (bif (List.range m).any f then r1 else r0) := by
  have key : ∀ (j i : Nat), i + j = m → L i = some (bif (List.range' i j).any f then r1 else r0) := by
    intro j
    induction j with
    | zero => intro i h; rw [show i = m by omega]; exact hf
    | succ j ih =>
      intro i h
      rw [hs i (by omega)]
      show _ = some (bif (i :: List.range' (i + 1) j).any f then r1 else r0)
      rw [List.any_cons]
      cases hfi : f i with
      | true => rfl
      | false => rw [Bool.false_or]; exact ih (i + 1) (by omega)
  rw [List.range_eq_range']
  exact key m 0 (by omega)
/-- a row read and written as the class does: 0 and nothing outside -/
def zp_gt (P : zp) (r m : Nat) (i : Int32) : Int32 := if i < 0 ∨ m ≤ i.toNatClampNeg then 0 else P.2.1 r i.toNatClampNeg
def zp_pt (P : zp) (r m : Nat) (i x : Int32) : zp := if i < 0 ∨ m ≤ i.toNatClampNeg then P else zp_sA P r i.toNatClampNeg x
theorem zp_gi {P : zp} {r m i : Nat} (h : i < m) (hm : m < 2 ^ 31) : zp_gt P r m (zi i) = P.2.1 r i := by
  unfold zp_gt
  rw [zi_c (by omega), if_neg (fun z => z.elim (zi_n (by omega)) (fun z => by omega))]
theorem zp_pi {P : zp} {r m i : Nat} {x : Int32} (h : i < m) (hm : m < 2 ^ 31) : zp_pt P r m (zi i) x = zp_sA P r i x := by
  unfold zp_pt
  rw [zi_c (by omega), if_neg (fun z => z.elim (zi_n (by omega)) (fun z => by omega))]
def zp_b (x : Bool) : Int32 := bif x then 1 else 0
theorem zp_b0 (x : Bool) : (zp_b x = 0) = (x = false) := by cases x <;> simp [zp_b]
theorem zp_ib {α : Type} (x : Bool) (a c : α) : (if zp_b x = 0 then a else c) = bif x then c else a := by cases x <;> rfl
theorem zp_nI {m : Nat} {i : Int32} (hm : m < 2 ^ 31) (hi : ¬ i < 0) : i < nI m ↔ i.toNatClampNeg < m := by
  have h0 : ¬ i.toInt < 0 := fun z => hi (Int32.lt_iff_toInt_lt.mpr z)
  have h3 : (i.toNatClampNeg : Int) = i.toInt := Int.toNat_of_nonneg (by omega)
  have h1 : (nI m).toInt = (m : Int) := Int32.toInt_ofNat_small hm
  rw [Int32.lt_iff_toInt_lt, h1]
  omega
theorem zs_at {P : zp} {n : Nat × Nat} {d r m : Nat} {i : Int32} (h : zp_ad r = (0, m)) (hm : m < 2 ^ 31) : zk_sm d m_SaddlerKnows_at [.ref r, .int i] (zp_M P, n) = some (some (.int (zp_gt P r m i)), (zp_M P, n)) := by
  rw [e_SaddlerKnows_at, zp_al h (by decide), Option.bind_some, zp_ldI h]
  unfold zp_gt
  by_cases h1 : i < 0
  · rw [if_pos h1, if_pos (Or.inl h1)]
  · rw [if_neg h1]
    by_cases h2 : i.toNatClampNeg < m
    · rw [if_pos ((zp_nI hm h1).mpr h2), if_neg (fun z => z.elim h1 (fun z => by omega)), if_neg (fun z => z.elim h1 (fun z => by omega))]
      rfl
    · rw [if_neg (fun z => h2 ((zp_nI hm h1).mp z)), if_pos (Or.inr (by omega))]
theorem zs_put {P : zp} {n : Nat × Nat} {d r m : Nat} {i x : Int32} (h : zp_ad r = (0, m)) (hm : m < 2 ^ 31) : zk_sm d m_SaddlerKnows_put [.ref r, .int i, .int x] (zp_M P, n) = some (none, (zp_M (zp_pt P r m i x), n)) := by
  rw [e_SaddlerKnows_put, zp_al h (by decide), Option.bind_some, zp_stI h]
  unfold zp_pt
  by_cases h1 : i < 0
  · rw [if_pos h1, if_pos (Or.inl h1)]
  · rw [if_neg h1]
    by_cases h2 : i.toNatClampNeg < m
    · rw [if_pos ((zp_nI hm h1).mpr h2), if_neg (fun z => z.elim h1 (fun z => by omega)), if_neg (fun z => z.elim h1 (fun z => by omega))]
      rfl
    · rw [if_neg (fun z => h2 ((zp_nI hm h1).mp z)), if_pos (Or.inr (by omega))]
theorem zs_cI {x : Int32} {s : zk_S} : zk_cI (some (some (.int x), s)) = some (x, s) := rfl
theorem zs_cV {s : zk_S} : zk_cV (some (none, s)) = some s := rfl
section
variable {P : zp} {n : Nat × Nat} {b d : Nat}
def zq_sad (P : zp) (b : Nat) (i : Int32) : Bool := !decide (i < 0) && (decide (i < 8) && !decide (zp_gt P (b + 1) 8 i = -1))
def zq_on (P : zp) (b : Nat) (i p : Int32) : Bool := zq_sad P b i && decide (zp_gt P (b + 2) 8 i = p)
theorem zs_isSaddle (h : zp_sb b) {i : Int32} : zk_sm (d + 1) m_Stand_isSaddle [.ref b, .int i] (zp_M P, n) = some (some (.int (zp_b (zq_sad P b i))), (zp_M P, n)) := by
  rw [e_Stand_isSaddle, zp_s0 h, Option.bind_some, zs_at (zp_sb_t h).2.1 (by decide), zs_cI, Option.bind_some]
  unfold zq_sad
  by_cases h1 : i < 0
  · rw [if_pos h1, decide_eq_true h1]; rfl
  · rw [if_neg h1, decide_eq_false h1]
    by_cases h2 : i < 8
    · rw [if_pos h2, decide_eq_true h2]
      by_cases h3 : zp_gt P (b + 1) 8 i = -1
      · rw [if_pos h3, decide_eq_true h3]; rfl
      · rw [if_neg h3, decide_eq_false h3]; rfl
    · rw [if_neg h2, decide_eq_false h2]; rfl
theorem zs_isOn (h : zp_sb b) {i p : Int32} : zk_sm (d + 2) m_Stand_isOn [.ref b, .int i, .int p] (zp_M P, n) = some (some (.int (zp_b (zq_on P b i p))), (zp_M P, n)) := by
  rw [e_Stand_isOn, zp_sv h, Option.bind_some, zs_isSaddle h, zs_cI, Option.bind_some, zp_ib, zp_s1 h, Option.bind_some, zs_at (zp_sb_t h).2.2.1 (by decide), zs_cI, Option.bind_some]
  unfold zq_on
  cases zq_sad P b i with
  | false => rfl
  | true =>
    by_cases h3 : zp_gt P (b + 2) 8 i = p
    · rw [if_pos h3, decide_eq_true h3]; rfl
    · rw [if_neg h3, decide_eq_false h3]; rfl
theorem zs_bearsAny (h : zp_sb b) {p : Int32} : zk_sm (d + 3) m_Stand_bearsAny [.ref b, .int p] (zp_M P, n) = some (bif (List.range 8).any (fun k => zq_on P b (zi k) p) then (some (.int 1), (zp_M P, n)) else (some (.int 0), (zp_M P, n))) := by
  rw [e_Stand_bearsAny]
  refine zl_any (L := fun i => zk_sf (d + 3) m_Stand_bearsAny 2 [.ref b, .int p, .int (zi i)] [] (zp_M P, n)) (fun i hi => ?_) ?_
  · show zk_sf (d + 3) m_Stand_bearsAny 2 [.ref b, .int p, .int (zi i)] [] (zp_M P, n) = _
    rw [e_Stand_bearsAny_2, if_pos (zi_8 hi), zp_sv h, Option.bind_some, zs_isOn h, zs_cI, Option.bind_some, zp_ib, zi_s]
  · show zk_sf (d + 3) m_Stand_bearsAny 2 [.ref b, .int p, .int (zi 8)] [] (zp_M P, n) = _
    rw [e_Stand_bearsAny_2, if_neg zi_8n]
end
