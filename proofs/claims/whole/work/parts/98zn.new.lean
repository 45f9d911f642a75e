/-! START 1: the constructors -/
section
variable {L : Nat} {xs : Nat → Int32}
/-- the memory at the start with so many cells behind the first twelve -/
def zx (L : Nat) (xs : Nat → Int32) (l : List zk_AC) : zk_M := fun k => if k < 12 then zk_E L xs k else l.getD (k - 12) zk_no
abbrev zz0 : Nat → Int32 := fun _ => 0
theorem zx_0 : zk_M0 L xs = zx L xs [] := by
  funext k
  rfl
theorem zx_at {l r : List zk_AC} {c : zk_AC} {a : Nat} (ha : a = 12 + l.length) : zx L xs (l ++ c :: r) a = c := by
  unfold zx
  rw [if_neg (by omega), show a - 12 = l.length by omega, List.getD_eq_getElem?_getD, List.getElem?_append_right (Nat.le_refl _), Nat.sub_self]
  rfl
theorem zx_up {l r : List zk_AC} {c c' : zk_AC} {a : Nat} (ha : a = 12 + l.length) : zk_up (zx L xs (l ++ c :: r)) a c' = zx L xs (l ++ c' :: r) := by
  funext k
  by_cases h : k = a
  · rw [h, zk_up_s, zx_at ha]
  · rw [zk_up_n h]
    unfold zx
    by_cases h12 : k < 12
    · rw [if_pos h12, if_pos h12]
    · rw [if_neg h12, if_neg h12, List.getD_eq_getElem?_getD, List.getD_eq_getElem?_getD]
      congr 1
      rcases Nat.lt_or_ge (k - 12) l.length with z | z
      · rw [List.getElem?_append_left z, List.getElem?_append_left z]
      · rw [List.getElem?_append_right z, List.getElem?_append_right z]
        obtain ⟨j, hj⟩ : ∃ j, k - 12 - l.length = j + 1 := ⟨k - 12 - l.length - 1, by omega⟩
        rw [hj]
        rfl
theorem zx_nw {l r : List zk_AC} {c : zk_AC} {a k u w : Nat} (ha : a = 12 + l.length) (hr : r.length = k) : zk_nw (zx L xs (l ++ r), a + k, u) c w = (zx L xs (l ++ (r ++ [c])), a + (k + 1), u + w) := by
  unfold zk_nw
  show (zk_up (zx L xs (l ++ r)) (a + k) c, a + k + 1, u + w) = _
  congr 1
  funext j
  by_cases h : j = a + k
  · rw [h, zk_up_s, ← List.append_assoc, zx_at (by rw [List.length_append]; omega)]
  · rw [zk_up_n h]
    unfold zx
    by_cases h12 : j < 12
    · rw [if_pos h12, if_pos h12]
    · rw [if_neg h12, if_neg h12, List.getD_eq_getElem?_getD, List.getD_eq_getElem?_getD]
      congr 1
      rw [← List.append_assoc]
      rcases Nat.lt_or_ge (j - 12) (l ++ r).length with z | z
      · rw [List.getElem?_append_left z]
      · rw [List.getElem?_append_right z, List.getElem?_eq_none z]
        rw [List.length_append] at z ⊢
        obtain ⟨i, hi⟩ : ∃ i, j - 12 - (l.length + r.length) = i + 1 := ⟨j - 12 - (l.length + r.length) - 1, by omega⟩
        rw [hi]
        rfl
theorem zx_pf {l r : List zk_AC} {a c j : Nat} {fs : List Value} {n : Nat × Nat} {v : Value} (ha : a = 12 + l.length) (hj : j < fs.length) : zk_pf (zx L xs (l ++ zk_ob c fs :: r), n) a c j v = some (zx L xs (l ++ zk_ob c (fs.set j v) :: r), n) := by
  unfold zk_pf
  show (match zx L xs (l ++ zk_ob c fs :: r) a with | .inl (c', fs) => if c' = c ∧ j < fs.length then some (zk_up (zx L xs (l ++ zk_ob c _ :: r)) a (.inl (c', fs.set j v)), n) else none | .inr _ => none) = _
  rw [zx_at ha]
  show (if c = c ∧ j < fs.length then some (zk_up (zx L xs (l ++ zk_ob c fs :: r)) a (.inl (c, fs.set j v)), n) else none) = _
  rw [if_pos ⟨rfl, hj⟩, zx_up ha]
theorem zx_gR {l r : List zk_AC} {a c j q : Nat} {fs : List Value} {n : Nat × Nat} (ha : a = 12 + l.length) (hj : fs[j]? = some (.ref q)) : zk_gR (zx L xs (l ++ zk_ob c fs :: r), n) a c j = some q := by
  unfold zk_gR zk_gf
  show (match (match zx L xs (l ++ zk_ob c fs :: r) a with | .inl (c', fs) => if c' = c then fs[j]? else none | .inr _ => none) with | some (.ref x) => some x | _ => none) = _
  rw [zx_at ha]
  show (match (if c = c then fs[j]? else none) with | some (.ref x) => some x | _ => none) = _
  rw [if_pos rfl, hj]
theorem zx_al {l r : List zk_AC} {a t m : Nat} {f : Nat → Int32} {n : Nat × Nat} (ha : a = 12 + l.length) : zk_al (zx L xs (l ++ zk_ia t m f :: r), n) a = some (nI m) := by
  unfold zk_al
  show (match zx L xs (l ++ zk_ia t m f :: r) a with | .inl _ => none | .inr (.inl (_, n, _)) => some (nI n) | .inr (.inr (.inl (n, _))) => some (nI n) | .inr (.inr (.inr (_, n, _))) => some (nI n)) = _
  rw [zx_at ha]
theorem zx_alr {l r : List zk_AC} {a t m : Nat} {f : Nat → Option Nat} {n : Nat × Nat} (ha : a = 12 + l.length) : zk_al (zx L xs (l ++ zk_ra t m f :: r), n) a = some (nI m) := by
  unfold zk_al
  show (match zx L xs (l ++ zk_ra t m f :: r) a with | .inl _ => none | .inr (.inl (_, n, _)) => some (nI n) | .inr (.inr (.inl (n, _))) => some (nI n) | .inr (.inr (.inr (_, n, _))) => some (nI n)) = _
  rw [zx_at ha]
theorem zx_stI {l r : List zk_AC} {a m i : Nat} {f : Nat → Int32} {n : Nat × Nat} {x : Int32} (ha : a = 12 + l.length) (hi : i < m) (hm : m < 2 ^ 31) : zk_stI (zx L xs (l ++ zk_ia 0 m f :: r), n) a (zi i) x = some (zx L xs (l ++ zk_ia 0 m (upd f i x) :: r), n) := by
  unfold zk_stI
  show (match zx L xs (l ++ zk_ia 0 m f :: r) a with | .inr (.inl (t, n', f)) => if t = 0 ∧ ¬ (zi i < 0 ∨ n' ≤ (zi i).toNatClampNeg) then some (zk_up (zx L xs (l ++ zk_ia 0 m _ :: r)) a (zk_ia t n' (upd f (zi i).toNatClampNeg x)), n) else none | _ => none) = _
  rw [zx_at ha]
  show (if 0 = 0 ∧ ¬ (zi i < 0 ∨ m ≤ (zi i).toNatClampNeg) then some (zk_up (zx L xs (l ++ zk_ia 0 m f :: r)) a (zk_ia 0 m (upd f (zi i).toNatClampNeg x)), n) else none) = _
  rw [zi_c (by omega), if_pos ⟨rfl, fun z => z.elim (zi_n (by omega)) (fun z => by omega)⟩, zx_up ha]
theorem zx_stR {l r : List zk_AC} {a m i v ci : Nat} {f : Nat → Option Nat} {n : Nat × Nat} {fs : List Value} (ha : a = 12 + l.length) (hi : i < m) (hm : m < 2 ^ 31) (hv : zx L xs (l ++ zk_ra ci m f :: r) v = zk_ob ci fs) : zk_stR (zx L xs (l ++ zk_ra ci m f :: r), n) a (zi i) v = some (zx L xs (l ++ zk_ra ci m (va_up f i (some v)) :: r), n) := by
  unfold zk_stR
  show (match zx L xs (l ++ zk_ra ci m f :: r) a with | .inr (.inr (.inr (ci', n', f'))) => (match zx L xs (l ++ zk_ra ci m f :: r) v with | .inl (c, _) => if c = ci' ∧ ¬ (zi i < 0 ∨ n' ≤ (zi i).toNatClampNeg) then some (zk_up (zx L xs (l ++ zk_ra ci m f :: r)) a (zk_ra ci' n' (va_up f' (zi i).toNatClampNeg (some v))), n) else none | .inr _ => none) | _ => none) = _
  rw [hv, zx_at ha]
  show (if ci = ci ∧ ¬ (zi i < 0 ∨ m ≤ (zi i).toNatClampNeg) then some (zk_up (zx L xs (l ++ zk_ra ci m f :: r)) a (zk_ra ci m (va_up f (zi i).toNatClampNeg (some v))), n) else none) = _
  rw [zi_c (by omega), if_pos ⟨rfl, fun z => z.elim (zi_n (by omega)) (fun z => by omega)⟩, zx_up ha]
/-- a stand's cells -/
def zxw (i : Nat) : Nat → Int32 := fun j => if j < i then -1 else 0
def zbS (a : Nat) : List zk_AC := [zk_ob 7 [.ref (a + 1), .ref (a + 2), .ref (a + 3), .ref (a + 4), .int 0, .int 0], zk_ia 0 8 (zxw 8), zk_ia 0 8 zz0, zk_ia 0 8 zz0, zk_ia 0 6 zz0]
def zbT (a : Nat) : List zk_AC := [zk_ob 10 [.int 0, .int 0, .int 0, .int 0, .ref (a + 1), .ref (a + 2), .ref (a + 3), .ref (a + 4), .ref (a + 5), .ref (a + 6)], zk_ia 0 6 zz0, zk_ia 0 6 zz0, zk_ia 0 6 zz0, zk_ia 0 8 zz0, zk_ia 0 8 zz0, zk_ia 0 8 zz0]
theorem zxw_s (i : Nat) : upd (zxw i) i (-1) = zxw (i + 1) := by
  rw [zp_upd]
  funext j
  unfold zxw
  by_cases z : j = i
  · rw [if_pos z, if_pos (by omega)]
  · rw [if_neg z]
    by_cases y : j < i
    · rw [if_pos y, if_pos (by omega)]
    · rw [if_neg y, if_neg (by omega)]
theorem zx_standl {l : List zk_AC} {a d : Nat} {n : Nat × Nat} (ha : a = 12 + l.length) : ∀ (j i : Nat), i + j = 8 → zk_sf (d + 1) m_Stand_new 38 [.ref a, .int (zi i)] [] (zx L xs (l ++ [zk_ob 7 [.ref (a + 1), .ref (a + 2), .ref (a + 3), .ref (a + 4), .int 0, .int 0], zk_ia 0 8 (zxw i), zk_ia 0 8 zz0, zk_ia 0 8 zz0, zk_ia 0 6 zz0]), n) = some (none, (zx L xs (l ++ zbS a), n))
  | 0, i, h => by
    have h : i = 8 := h
    subst h
    rw [e_Stand_new_38, zx_gR ha rfl, Option.bind_some, List.append_cons, zx_al (by rw [List.length_append, ha]; rfl), Option.bind_some, if_neg (by decide), ← List.append_cons]
    rfl
  | j + 1, i, h => by
    rw [e_Stand_new_38, zx_gR ha rfl, Option.bind_some, List.append_cons, zx_al (by rw [List.length_append, ha]; rfl), Option.bind_some, if_pos ((zi_nI (i := i) (m := 8) (by omega) (by decide)).mpr (by omega)), ← List.append_cons, Option.bind_some, List.append_cons, zx_stI (by rw [List.length_append, ha]; rfl) (by omega) (by decide), Option.bind_some, ← List.append_cons, zxw_s, zi_s]
    exact zx_standl ha j (i + 1) (by omega)
theorem zx_Stand {l : List zk_AC} {a u d : Nat} (ha : a = 12 + l.length) : zk_sm (d + 1) m_Stand_new [.ref a] (zx L xs (l ++ [zk_ob 7 [.null, .null, .null, .null, .int 0, .int 0]]), a + 1, u) = some (none, (zx L xs (l ++ zbS a), a + 5, u + 30)) := by
  have h := e_Stand_new d a (zx L xs (l ++ [zk_ob 7 [.null, .null, .null, .null, .int 0, .int 0]]), a + 1, u)
  rw [zx_nw ha, List.cons_append, List.nil_append, zx_pf ha (show 0 < 6 by decide), Option.bind_some, zx_nw ha, List.cons_append, List.cons_append, List.nil_append, zx_pf ha (show 1 < 6 by decide), Option.bind_some, zx_nw ha, List.cons_append, List.cons_append, List.cons_append, List.nil_append, zx_pf ha (show 2 < 6 by decide), Option.bind_some, zx_nw ha, List.cons_append, List.cons_append, List.cons_append, List.cons_append, List.nil_append, zx_pf ha (show 3 < 6 by decide), Option.bind_some] at h
  · exact h.trans (zx_standl (i := 0) ha 8 rfl)
  all_goals rfl
theorem zx_Told {l : List zk_AC} {a u d : Nat} (ha : a = 12 + l.length) : zk_sm (d + 1) m_Told_new [.ref a] (zx L xs (l ++ [zk_ob 10 [.int 0, .int 0, .int 0, .int 0, .null, .null, .null, .null, .null, .null]]), a + 1, u) = some (none, (zx L xs (l ++ zbT a), a + 7, u + 42)) := by
  have h := e_Told_new d a (zx L xs (l ++ [zk_ob 10 [.int 0, .int 0, .int 0, .int 0, .null, .null, .null, .null, .null, .null]]), a + 1, u)
  rw [zx_nw ha, List.cons_append, List.nil_append, zx_pf ha (show 4 < 10 by decide), Option.bind_some, zx_nw ha, List.cons_append, List.cons_append, List.nil_append, zx_pf ha (show 5 < 10 by decide), Option.bind_some, zx_nw ha, List.cons_append, List.cons_append, List.cons_append, List.nil_append, zx_pf ha (show 6 < 10 by decide), Option.bind_some, zx_nw ha, List.cons_append, List.cons_append, List.cons_append, List.cons_append, List.nil_append, zx_pf ha (show 7 < 10 by decide), Option.bind_some, zx_nw ha, List.cons_append, List.cons_append, List.cons_append, List.cons_append, List.cons_append, List.nil_append, zx_pf ha (show 8 < 10 by decide), Option.bind_some, zx_nw ha, List.cons_append, List.cons_append, List.cons_append, List.cons_append, List.cons_append, List.cons_append, List.nil_append, zx_pf ha (show 9 < 10 by decide), Option.bind_some] at h
  · exact h
  all_goals rfl
end
