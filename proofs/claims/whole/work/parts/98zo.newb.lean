/-! START 2: the class's constructors -/
section
variable {L : Nat} {xs : Nat → Int32}
def zbA (a : Nat) : List zk_AC := [zk_ob 9 [.int 0, .int 0, .ref (a + 1)], zk_ia 0 240 zz0]
def zbC (a t : Nat) : List zk_AC := zk_ob 0 [.ref (a + 1), .ref t, .ref (a + 8), .int 0] :: (zbT (a + 1) ++ [zk_ia 0 3 zz0])
def zbL (a t : Nat) : List zk_AC := [zk_ob 2 [.ref (a + 1), .int 0, .ref t], zk_ia 0 240 zz0]
def zbP (a t : Nat) : List zk_AC := [zk_ob 4 [.ref t, .ref (a + 1), .int 0, .int (-1)], zk_ra 1 4 (fun _ => none)]
def zss (b : Nat) : Nat → List zk_AC
  | 0 => []
  | i + 1 => zss b i ++ zbS (b + 5 * i)
def zxr (b i : Nat) : Nat → Option Nat := fun j => if j < i then some (b + 5 * j) else none
def zbH (a : Nat) : List zk_AC := zk_ob 3 [.ref (a + 1), .ref (a + 2), .ref (a + 3), .ref (a + 8), .int 0, .int 0, .int 0] :: zk_ia 0 300 zz0 :: zk_ia 0 300 zz0 :: (zbS (a + 3) ++ zk_ra 7 40 (zxr (a + 9) 40) :: zss (a + 9) 40)
def zbN (a t p : Nat) : List zk_AC := zk_ob 6 [.ref t, .ref p, .ref (a + 1), .ref (a + 6), .ref (a + 7), .ref (a + 8), .ref (a + 9), .ref (a + 10), .int 0, .int 0] :: (zbS (a + 1) ++ [zk_ia 0 10 zz0, zk_ia 0 10 zz0, zk_ia 0 10 zz0, zk_ia 2 10 zz0, zk_ia 0 10 zz0])
def zbX (a p : Nat) : List zk_AC := zk_ob 8 [.ref p, .ref (a + 1), .int 0, .int 0, .int 0, .int 0] :: zbS (a + 1)
def zbY (a t p : Nat) : List zk_AC := [zk_ob 5 [.ref t, .ref p, .ref (a + 1), .int 0, .int 0], zk_ia 0 36 zz0]
theorem zss_l (b : Nat) : ∀ i, (zss b i).length = 5 * i
  | 0 => rfl
  | i + 1 => by
    show (zss b i ++ zbS (b + 5 * i)).length = _
    rw [List.length_append, zss_l b i]
    rfl
theorem zxr_s (b i : Nat) : va_up (zxr b i) i (some (b + 5 * i)) = zxr b (i + 1) := by
  funext j
  show (if j = i then some (b + 5 * i) else zxr b i j) = zxr b (i + 1) j
  unfold zxr
  by_cases z : j = i
  · rw [if_pos z, if_pos (by omega), z]
  · rw [if_neg z]
    by_cases y : j < i
    · rw [if_pos y, if_pos (by omega)]
    · rw [if_neg y, if_neg (by omega)]
/-- a constructor, further on -/
theorem zx_sub {y d w n : Nat} {args : List Value} {o : zk_AC} {blk : Nat → List zk_AC} (hX : ∀ (l : List zk_AC) (a u : Nat), a = 12 + l.length → zk_sm d y (.ref a :: args) (zx L xs (l ++ [o]), a + 1, u) = some (none, (zx L xs (l ++ blk a), a + n, u + w))) {l r : List zk_AC} {a k u : Nat} (ha : a = 12 + l.length) (hr : r.length = k) : zk_sm d y (.ref (a + k) :: args) (zx L xs (l ++ (r ++ [o])), a + (k + 1), u) = some (none, (zx L xs (l ++ (r ++ blk (a + k))), a + (k + n), u + w)) := by
  have h := hX (l ++ r) (a + k) u (by rw [List.length_append]; omega)
  rw [List.append_assoc, List.append_assoc, Nat.add_assoc, Nat.add_assoc] at h
  exact h
theorem zx_Tape {d : Nat} (l : List zk_AC) (a u : Nat) (ha : a = 12 + l.length) : zk_sm (d + 1) m_Tape_new [.ref a] (zx L xs (l ++ [zk_ob 9 [.int 0, .int 0, .null]]), a + 1, u) = some (none, (zx L xs (l ++ zbA a), a + 2, u + 240)) := by
  have h := e_Tape_new d a (zx L xs (l ++ [zk_ob 9 [.int 0, .int 0, .null]]), a + 1, u)
  rw [zx_nw ha, List.cons_append, List.nil_append, zx_pf ha (show 2 < 3 by decide), Option.bind_some] at h
  · exact h
  all_goals rfl
theorem zx_County {d t : Nat} (l : List zk_AC) (a u : Nat) (ha : a = 12 + l.length) : zk_sm (d + 2) m_CountyReader_new [.ref a, .ref t] (zx L xs (l ++ [zk_ob 0 [.null, .null, .null, .int 0]]), a + 1, u) = some (none, (zx L xs (l ++ zbC a t), a + 9, u + 55)) := by
  have h := e_CountyReader_new (d + 1) a t (zx L xs (l ++ [zk_ob 0 [.null, .null, .null, .int 0]]), a + 1, u)
  rw [zx_nw ha] at h
  · have e := zx_sub (L := L) (xs := xs) (fun l a u ha => zx_Told (d := d) (u := u) ha) (r := [zk_ob 0 [.null, .null, .null, .int 0]]) (k := 1) (u := u + 10) ha rfl
    rw [show zk_sm (d + 1) m_Told_new [.ref (zx L xs (l ++ [zk_ob 0 [.null, .null, .null, .int 0]]), a + 1, u).2.1] _ = _ from e, zs_cV, Option.bind_some, List.cons_append, List.nil_append, zx_pf ha (show 0 < 4 by decide), Option.bind_some, zx_nw ha, List.cons_append, zx_pf ha (show 2 < 4 by decide), Option.bind_some, zx_pf ha (show 1 < 4 by decide), Option.bind_some] at h
    · exact h
    all_goals rfl
  all_goals rfl
theorem zx_LawR {d t : Nat} (l : List zk_AC) (a u : Nat) (ha : a = 12 + l.length) : zk_sm (d + 1) m_LawReader_new [.ref a, .ref t] (zx L xs (l ++ [zk_ob 2 [.null, .int 0, .null]]), a + 1, u) = some (none, (zx L xs (l ++ zbL a t), a + 2, u + 240)) := by
  have h := e_LawReader_new d a t (zx L xs (l ++ [zk_ob 2 [.null, .int 0, .null]]), a + 1, u)
  rw [zx_nw ha, List.cons_append, List.nil_append, zx_pf ha (show 0 < 3 by decide), Option.bind_some, zx_pf ha (show 2 < 3 by decide), Option.bind_some] at h
  · exact h
  all_goals rfl
theorem zx_Pinches {d t : Nat} (l : List zk_AC) (a u : Nat) (ha : a = 12 + l.length) : zk_sm (d + 1) m_Pinches_new [.ref a, .ref t] (zx L xs (l ++ [zk_ob 4 [.null, .null, .int 0, .int 0]]), a + 1, u) = some (none, (zx L xs (l ++ zbP a t), a + 2, u + 4)) := by
  have h := e_Pinches_new d a t (zx L xs (l ++ [zk_ob 4 [.null, .null, .int 0, .int 0]]), a + 1, u)
  rw [zx_nw ha, List.cons_append, List.nil_append, zx_pf ha (show 1 < 4 by decide), Option.bind_some, zx_pf ha (show 3 < 4 by decide), Option.bind_some, zx_pf ha (show 0 < 4 by decide), Option.bind_some] at h
  · exact h
  all_goals rfl
theorem zx_Seat {d t p : Nat} (l : List zk_AC) (a u : Nat) (ha : a = 12 + l.length) : zk_sm (d + 1) m_Seating_new [.ref a, .ref t, .ref p] (zx L xs (l ++ [zk_ob 5 [.null, .null, .null, .int 0, .int 0]]), a + 1, u) = some (none, (zx L xs (l ++ zbY a t p), a + 2, u + 36)) := by
  have h := e_Seating_new d a t p (zx L xs (l ++ [zk_ob 5 [.null, .null, .null, .int 0, .int 0]]), a + 1, u)
  rw [zx_nw ha, List.cons_append, List.nil_append, zx_pf ha (show 2 < 5 by decide), Option.bind_some, zx_pf ha (show 0 < 5 by decide), Option.bind_some, zx_pf ha (show 1 < 5 by decide), Option.bind_some] at h
  · exact h
  all_goals rfl
theorem zx_Stitch {d p : Nat} (l : List zk_AC) (a u : Nat) (ha : a = 12 + l.length) : zk_sm (d + 2) m_Stitching_new [.ref a, .ref p] (zx L xs (l ++ [zk_ob 8 [.null, .null, .int 0, .int 0, .int 0, .int 0]]), a + 1, u) = some (none, (zx L xs (l ++ zbX a p), a + 6, u + 36)) := by
  have h := e_Stitching_new (d + 1) a p (zx L xs (l ++ [zk_ob 8 [.null, .null, .int 0, .int 0, .int 0, .int 0]]), a + 1, u)
  rw [zx_nw ha] at h
  · have e := zx_sub (L := L) (xs := xs) (fun l a u ha => zx_Stand (d := d) (u := u) ha) (r := [zk_ob 8 [.null, .null, .int 0, .int 0, .int 0, .int 0]]) (k := 1) (u := u + 6) ha rfl
    rw [show zk_sm (d + 1) m_Stand_new [.ref (zx L xs (l ++ [zk_ob 8 [.null, .null, .int 0, .int 0, .int 0, .int 0]]), a + 1, u).2.1] _ = _ from e, zs_cV, Option.bind_some, List.cons_append, List.nil_append, zx_pf ha (show 1 < 6 by decide), Option.bind_some, zx_pf ha (show 0 < 6 by decide), Option.bind_some] at h
    exact h
  all_goals rfl
theorem zx_Seeing {d t p : Nat} (l : List zk_AC) (a u : Nat) (ha : a = 12 + l.length) : zk_sm (d + 2) m_Seeing_new [.ref a, .ref t, .ref p] (zx L xs (l ++ [zk_ob 6 [.null, .null, .null, .null, .null, .null, .null, .null, .int 0, .int 0]]), a + 1, u) = some (none, (zx L xs (l ++ zbN a t p), a + 11, u + 86)) := by
  have h := e_Seeing_new (d + 1) a t p (zx L xs (l ++ [zk_ob 6 [.null, .null, .null, .null, .null, .null, .null, .null, .int 0, .int 0]]), a + 1, u)
  rw [zx_nw ha] at h
  · have e := zx_sub (L := L) (xs := xs) (fun l a u ha => zx_Stand (d := d) (u := u) ha) (r := [zk_ob 6 [.null, .null, .null, .null, .null, .null, .null, .null, .int 0, .int 0]]) (k := 1) (u := u + 6) ha rfl
    rw [show zk_sm (d + 1) m_Stand_new [.ref (zx L xs (l ++ [zk_ob 6 [.null, .null, .null, .null, .null, .null, .null, .null, .int 0, .int 0]]), a + 1, u).2.1] _ = _ from e, zs_cV, Option.bind_some, List.cons_append, List.nil_append, zx_pf ha (show 2 < 10 by decide), Option.bind_some, zx_nw ha, List.cons_append, zx_pf ha (show 3 < 10 by decide), Option.bind_some, zx_nw ha, List.cons_append, zx_pf ha (show 4 < 10 by decide), Option.bind_some, zx_nw ha, List.cons_append, zx_pf ha (show 5 < 10 by decide), Option.bind_some, zx_nw ha, List.cons_append, zx_pf ha (show 6 < 10 by decide), Option.bind_some, zx_nw ha, List.cons_append, zx_pf ha (show 7 < 10 by decide), Option.bind_some, zx_pf ha (show 0 < 10 by decide), Option.bind_some, zx_pf ha (show 1 < 10 by decide), Option.bind_some] at h
    · exact h
    all_goals rfl
  all_goals rfl
theorem zx_pastl {d a b : Nat} {l : List zk_AC} (hb : b = 12 + l.length) (hg : ∀ (X : List zk_AC) (n : Nat × Nat), zk_gR (zx L xs (l ++ X), n) a 3 3 = some b) : ∀ (j i u : Nat), i + j = 40 → zk_sf (d + 2) m_Past_new 44 [.ref a, .int (zi i)] [] (zx L xs (l ++ zk_ra 7 40 (zxr (b + 1) i) :: zss (b + 1) i), b + (1 + 5 * i), u) = some (none, (zx L xs (l ++ zk_ra 7 40 (zxr (b + 1) 40) :: zss (b + 1) 40), b + 201, u + 36 * j))
  | 0, i, u, h => by
    have h : i = 40 := h
    subst h
    rw [e_Past_new_44, hg, Option.bind_some, zx_alr hb, Option.bind_some, if_neg (by decide)]
    rfl
  | j + 1, i, u, h => by
    have hl : (zk_ra 7 40 (zxr (b + 1) i) :: zss (b + 1) i).length = 1 + 5 * i := by rw [List.length_cons, zss_l]; omega
    have e := zx_sub (L := L) (xs := xs) (fun l a u ha => zx_Stand (d := d) (u := u) ha) (r := zk_ra 7 40 (zxr (b + 1) i) :: zss (b + 1) i) (k := 1 + 5 * i) (u := u + 6) hb hl
    have hc : b + (1 + 5 * i) = b + 1 + 5 * i := by omega
    have ev : zx L xs (l ++ zk_ra 7 40 (zxr (b + 1) i) :: (zss (b + 1) i ++ zbS (b + 1 + 5 * i))) (b + 1 + 5 * i) = zk_ob 7 [.ref (b + 1 + 5 * i + 1), .ref (b + 1 + 5 * i + 2), .ref (b + 1 + 5 * i + 3), .ref (b + 1 + 5 * i + 4), .int 0, .int 0] := by
      rw [← List.cons_append, ← List.append_assoc]
      exact zx_at (by rw [List.length_append, hl]; omega)
    rw [e_Past_new_44, hg, Option.bind_some, zx_alr hb, Option.bind_some, if_pos ((zi_nI (i := i) (m := 40) (by omega) (by decide)).mpr (by omega)), Option.bind_some, zx_nw hb hl, show zk_sm (d + 1) m_Stand_new [.ref (zx L xs (l ++ zk_ra 7 40 (zxr (b + 1) i) :: zss (b + 1) i), b + (1 + 5 * i), u).2.1] _ = _ from e, zs_cV, Option.bind_some, hc, List.cons_append, show zk_stR (zx L xs (l ++ zk_ra 7 40 (zxr (b + 1) i) :: (zss (b + 1) i ++ zbS (b + 1 + 5 * i))), b + (1 + 5 * i + 5), u + 6 + 30) b (zi i) (zx L xs (l ++ zk_ra 7 40 (zxr (b + 1) i) :: zss (b + 1) i), b + 1 + 5 * i, u).2.1 = _ from zx_stR hb (show i < 40 by omega) (by decide) ev, Option.bind_some, zxr_s, zi_s, show b + (1 + 5 * i + 5) = b + (1 + 5 * (i + 1)) by omega]
    refine (zx_pastl hb hg j (i + 1) (u + 6 + 30) (by omega)).trans ?_
    rw [show u + 6 + 30 + 36 * j = u + 36 * (j + 1) by omega]
theorem zx_Past {d : Nat} (l : List zk_AC) (a u : Nat) (ha : a = 12 + l.length) : zk_sm (d + 2) m_Past_new [.ref a] (zx L xs (l ++ [zk_ob 3 [.null, .null, .null, .null, .int 0, .int 0, .int 0]]), a + 1, u) = some (none, (zx L xs (l ++ zbH a), a + 209, u + 2116)) := by
  have h := e_Past_new (d + 1) a (zx L xs (l ++ [zk_ob 3 [.null, .null, .null, .null, .int 0, .int 0, .int 0]]), a + 1, u)
  rw [zx_nw ha, List.cons_append, List.nil_append, zx_pf ha (show 0 < 7 by decide), Option.bind_some, zx_nw ha, List.cons_append, List.cons_append, List.nil_append, zx_pf ha (show 1 < 7 by decide), Option.bind_some, zx_nw ha] at h
  · have e := zx_sub (L := L) (xs := xs) (fun l a u ha => zx_Stand (d := d) (u := u) ha) (r := [zk_ob 3 [.ref (a + 1), .ref (a + 2), .null, .null, .int 0, .int 0, .int 0], zk_ia 0 300 zz0, zk_ia 0 300 zz0]) (k := 3) (u := u + 300 + 300 + 6) ha rfl
    replace h : zk_sm (d + 2) m_Past_new [.ref a] (zx L xs (l ++ [zk_ob 3 [.null, .null, .null, .null, .int 0, .int 0, .int 0]]), a + 1, u) = ((zk_cV (zk_sm (d + 1) m_Stand_new [.ref (a + 3)] (zx L xs (l ++ ([zk_ob 3 [.ref (a + 1), .ref (a + 2), .null, .null, .int 0, .int 0, .int 0], zk_ia 0 300 zz0, zk_ia 0 300 zz0] ++ [zk_ob 7 [.null, .null, .null, .null, .int 0, .int 0]])), a + (3 + 1), u + 300 + 300 + 6))).bind fun t6 => (zk_pf t6 a 3 2 (.ref (a + 3))).bind fun t7 => (zk_pf (zk_nw t7 (zk_ra 7 40 (fun _ => none)) 40) a 3 3 (.ref t7.2.1)).bind fun t9 => zk_sf (d + 2) m_Past_new 44 [.ref a, .int 0] [] t9) := h
    rw [e, zs_cV, Option.bind_some, List.cons_append, zx_pf ha (show 2 < 7 by decide), Option.bind_some, zx_nw ha, List.cons_append, zx_pf ha (show 3 < 7 by decide), Option.bind_some] at h
    · refine h.trans ?_
      have hb : a + 8 = 12 + (l ++ (zk_ob 3 [.ref (a + 1), .ref (a + 2), .ref (a + 3), .ref (a + 8), .int 0, .int 0, .int 0] :: zk_ia 0 300 zz0 :: zk_ia 0 300 zz0 :: zbS (a + 3))).length := by
        rw [List.length_append, ha]; rfl
      have e2 := zx_pastl (L := L) (xs := xs) (d := d) (a := a) hb (fun X n => by rw [List.append_assoc, List.cons_append]; exact zx_gR ha rfl) 40 0 (u + 300 + 300 + 6 + 30 + 40) rfl
      rw [List.append_assoc, List.append_assoc] at e2
      exact e2
    all_goals rfl
  all_goals rfl
end
