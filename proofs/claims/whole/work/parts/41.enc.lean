/-! THE PICTURE (printed by wip/whole/gen/enc.py): what the cells 12..299 hold, by numbers -/
/-- a cell: an object (class; fields by kind: 0 int, 1 long, 2 a reference, where), an array (0 int, 2 boolean, 3 long, 10 + class: references; how long) -/
abbrev zp_K : Type := (Nat × List (Nat × Nat)) ⊕ (Nat × Nat)
def zp_l1 : List zp_K := [
  .inl (11, [(2, 13), (2, 15), (2, 24), (2, 26), (2, 33), (2, 35), (2, 40), (2, 249), (2, 260), (2, 266), (2, 268), (0, 0), (1, 0)]),
  .inl (9, [(0, 0), (0, 0), (2, 14)]),
  .inr (0, 240),
  .inl (0, [(2, 16), (2, 13), (2, 23), (0, 0)]),
  .inl (10, [(0, 0), (0, 0), (0, 0), (0, 0), (2, 17), (2, 18), (2, 19), (2, 20), (2, 21), (2, 22)]),
  .inr (0, 6),
  .inr (0, 6),
  .inr (0, 6),
  .inr (0, 8),
  .inr (0, 8),
  .inr (0, 8),
  .inr (0, 3),
  .inl (2, [(2, 25), (0, 0), (2, 13)]),
  .inr (0, 240),
  .inl (10, [(0, 0), (0, 0), (0, 0), (0, 0), (2, 27), (2, 28), (2, 29), (2, 30), (2, 31), (2, 32)]),
  .inr (0, 6),
  .inr (0, 6),
  .inr (0, 6),
  .inr (0, 8),
  .inr (0, 8),
  .inr (0, 8),
  .inl (4, [(2, 26), (2, 34), (0, 0), (0, 0)]),
  .inr (11, 4),
  .inl (7, [(2, 36), (2, 37), (2, 38), (2, 39), (0, 0), (0, 0)]),
  .inr (0, 8),
  .inr (0, 8),
  .inr (0, 8),
  .inr (0, 6),
  .inl (3, [(2, 41), (2, 42), (2, 43), (2, 48), (0, 0), (0, 0), (0, 0)]),
  .inr (0, 300),
  .inr (0, 300),
  .inl (7, [(2, 44), (2, 45), (2, 46), (2, 47), (0, 0), (0, 0)]),
  .inr (0, 8),
  .inr (0, 8),
  .inr (0, 8),
  .inr (0, 6),
  .inr (17, 40)]
def zp_l2 : List zp_K := [
  .inl (6, [(2, 26), (2, 33), (2, 250), (2, 255), (2, 256), (2, 257), (2, 258), (2, 259), (0, 0), (0, 0)]),
  .inl (7, [(2, 251), (2, 252), (2, 253), (2, 254), (0, 0), (0, 0)]),
  .inr (0, 8),
  .inr (0, 8),
  .inr (0, 8),
  .inr (0, 6),
  .inr (0, 10),
  .inr (0, 10),
  .inr (0, 10),
  .inr (2, 10),
  .inr (0, 10),
  .inl (8, [(2, 33), (2, 261), (0, 0), (0, 0), (0, 0), (0, 0)]),
  .inl (7, [(2, 262), (2, 263), (2, 264), (2, 265), (0, 0), (0, 0)]),
  .inr (0, 8),
  .inr (0, 8),
  .inr (0, 8),
  .inr (0, 6),
  .inl (5, [(2, 26), (2, 33), (2, 267), (0, 0), (0, 0)]),
  .inr (0, 36),
  .inr (0, 5),
  .inl (12, [(0, 0), (2, 270), (0, 0), (0, 0), (0, 0), (0, 0), (2, 271), (2, 272), (2, 273), (2, 274), (2, 275), (2, 276), (2, 277), (0, 0), (0, 0), (2, 278), (2, 279), (2, 280), (2, 281), (2, 282), (0, 0), (0, 0), (2, 283), (2, 284), (2, 285), (0, 0), (0, 0), (2, 286), (2, 287), (0, 0), (0, 0), (2, 288), (0, 0), (2, 289), (0, 0), (1, 0), (2, 290), (0, 0), (0, 0), (2, 291), (0, 0), (0, 0), (2, 292), (2, 293), (2, 294), (2, 295), (0, 0), (2, 296), (2, 297), (2, 298), (0, 0)]),
  .inr (0, 240),
  .inr (0, 2600),
  .inr (0, 2600),
  .inr (0, 5),
  .inr (0, 5),
  .inr (0, 700),
  .inr (0, 700),
  .inr (0, 700),
  .inr (0, 6),
  .inr (0, 80),
  .inr (0, 2),
  .inr (0, 18),
  .inr (0, 24),
  .inr (0, 2),
  .inr (0, 18),
  .inr (0, 24),
  .inr (0, 221),
  .inr (0, 5),
  .inr (0, 6),
  .inr (0, 8840),
  .inr (0, 320),
  .inr (0, 6),
  .inr (0, 10),
  .inr (0, 10),
  .inr (0, 10),
  .inr (2, 10),
  .inr (0, 60),
  .inr (0, 10),
  .inr (0, 221),
  .inr (3, 1)]
def zp_td (k : Nat) : zp_K := if k < 49 then zp_l1.getD (k - 12) (.inr (9, 0)) else if k < 249 then (if (k - 49) % 5 = 0 then .inl (7, [(2, k + 1), (2, k + 2), (2, k + 3), (2, k + 4), (0, 0), (0, 0)]) else if (k - 49) % 5 = 4 then .inr (0, 6) else .inr (0, 8)) else zp_l2.getD (k - 249) (.inr (9, 0))
/-- int fields, arrays of ints, longs, arrays of references; the other cells -/
abbrev zp : Type := (Nat → Nat → Int32) × (Nat → Nat → Int32) × (Nat → Nat → Int64) × (Nat → Nat → Option Nat) × zk_M
def zp_fv (F : Nat → Int32) (J : Nat → Int64) (j : Nat) (d : Nat × Nat) : Value := match d.1 with
  | 0 => .int (F j)
  | 1 => .long (J j)
  | _ => .ref d.2
def zp_fs (F : Nat → Int32) (J : Nat → Int64) : Nat → List (Nat × Nat) → List Value
  | _, [] => []
  | j, d :: r => zp_fv F J j d :: zp_fs F J (j + 1) r
def zp_c (P : zp) (k : Nat) : zk_AC := match zp_td k with
  | .inl (c, ds) => zk_ob c (zp_fs (P.1 k) (P.2.2.1 k) 0 ds)
  | .inr (t, n) => match t with
    | 0 => zk_ia 0 n (P.2.1 k)
    | 2 => zk_ia 2 n (P.2.1 k)
    | 3 => zk_la n (P.2.2.1 k)
    | t => zk_ra (t - 10) n (P.2.2.2.1 k)
def zp_M (P : zp) : zk_M := fun k => if 12 ≤ k ∧ k < 300 then zp_c P k else P.2.2.2.2 k
def zp_u {α : Type} (f : Nat → Nat → α) (k j : Nat) (x : α) : Nat → Nat → α := fun k' j' => if k' = k ∧ j' = j then x else f k' j'
def zp_sF (P : zp) (k j : Nat) (x : Int32) : zp := (zp_u P.1 k j x, P.2)
def zp_sA (P : zp) (k j : Nat) (x : Int32) : zp := (P.1, zp_u P.2.1 k j x, P.2.2)
def zp_sJ (P : zp) (k j : Nat) (x : Int64) : zp := (P.1, P.2.1, zp_u P.2.2.1 k j x, P.2.2.2)
def zp_sR (P : zp) (k j : Nat) (x : Option Nat) : zp := (P.1, P.2.1, P.2.2.1, zp_u P.2.2.2.1 k j x, P.2.2.2.2)
def zp_sG (P : zp) (g : zk_M) : zp := (P.1, P.2.1, P.2.2.1, P.2.2.2.1, g)
def zp_fd (k c j : Nat) : Nat × Nat := if 12 ≤ k ∧ k < 300 then (match zp_td k with | .inl (c', ds) => if c' = c then ds.getD j (9, 0) else (9, 0) | .inr _ => (9, 0)) else (9, 0)
def zp_ad (k : Nat) : Nat × Nat := if 12 ≤ k ∧ k < 300 then (match zp_td k with | .inl _ => (9, 0) | .inr q => q) else (9, 0)
theorem zp_fs_i (F : Nat → Int32) (J : Nat → Int64) : ∀ (ds : List (Nat × Nat)) (j i : Nat), (zp_fs F J j ds)[i]? = (ds[i]?).map (zp_fv F J (j + i))
  | [], _, _ => rfl
  | d :: r, j, 0 => rfl
  | d :: r, j, i + 1 => by
    show (zp_fs F J (j + 1) r)[i]? = (r[i]?).map _
    rw [zp_fs_i F J r (j + 1) i, show j + 1 + i = j + (i + 1) by omega]
theorem zp_fs_n (F : Nat → Int32) (J : Nat → Int64) : ∀ (ds : List (Nat × Nat)) (j : Nat), (zp_fs F J j ds).length = ds.length
  | [], _ => rfl
  | d :: r, j => congrArg (· + 1) (zp_fs_n F J r (j + 1))
theorem zp_fs_e {F F' : Nat → Int32} {J J' : Nat → Int64} : ∀ (ds : List (Nat × Nat)) (j : Nat), (∀ i d, ds[i]? = some d → zp_fv F J (j + i) d = zp_fv F' J' (j + i) d) → zp_fs F J j ds = zp_fs F' J' j ds
  | [], _, _ => rfl
  | d :: r, j, h => by
    have h1 : zp_fv F J j d = zp_fv F' J' j d := h 0 d rfl
    have h2 : zp_fs F J (j + 1) r = zp_fs F' J' (j + 1) r := zp_fs_e r (j + 1) (fun i d' hd => by
      have h3 := h (i + 1) d' hd
      rw [show j + (i + 1) = j + 1 + i by omega] at h3
      exact h3)
    show zp_fv F J j d :: zp_fs F J (j + 1) r = zp_fv F' J' j d :: zp_fs F' J' (j + 1) r
    rw [h1, h2]
theorem zp_fd_i {k c j : Nat} {d : Nat × Nat} (h : zp_fd k c j = d) (hd : d.1 ≠ 9) : (12 ≤ k ∧ k < 300) ∧ ∃ ds, zp_td k = .inl (c, ds) ∧ ds[j]? = some d := by
  unfold zp_fd at h
  by_cases hr : 12 ≤ k ∧ k < 300
  · rw [if_pos hr] at h
    refine ⟨hr, ?_⟩
    cases ht : zp_td k with
    | inr q => rw [ht] at h; subst h; exact absurd rfl hd
    | inl q =>
      obtain ⟨c', ds⟩ := q
      rw [ht] at h
      replace h : (if c' = c then ds.getD j (9, 0) else (9, 0)) = d := h
      by_cases hc : c' = c
      · rw [if_pos hc] at h
        subst hc
        refine ⟨ds, rfl, ?_⟩
        cases hj : ds[j]? with
        | none => simp [List.getD, hj] at h; subst h; exact absurd rfl hd
        | some q => simp [List.getD, hj] at h; rw [h]
      · rw [if_neg hc] at h; subst h; exact absurd rfl hd
  · rw [if_neg hr] at h; subst h; exact absurd rfl hd
theorem zp_ad_i {k t m : Nat} (h : zp_ad k = (t, m)) (hd : t ≠ 9) : (12 ≤ k ∧ k < 300) ∧ zp_td k = .inr (t, m) := by
  unfold zp_ad at h
  by_cases hr : 12 ≤ k ∧ k < 300
  · rw [if_pos hr] at h
    cases ht : zp_td k with
    | inl q => rw [ht] at h; cases h; exact absurd rfl hd
    | inr q => rw [ht] at h; replace h : q = (t, m) := h; exact ⟨hr, by rw [h]⟩
  · rw [if_neg hr] at h; cases h; exact absurd rfl hd
theorem zp_Mo {P : zp} {k c : Nat} {ds : List (Nat × Nat)} (hr : 12 ≤ k ∧ k < 300) (h : zp_td k = .inl (c, ds)) : zp_M P k = zk_ob c (zp_fs (P.1 k) (P.2.2.1 k) 0 ds) := by
  unfold zp_M zp_c
  rw [if_pos hr, h]
theorem zp_gf {P : zp} {n : Nat × Nat} {k c j : Nat} {d : Nat × Nat} (h : zp_fd k c j = d) (hd : d.1 ≠ 9) : zk_gf (zp_M P, n) k c j = some (zp_fv (P.1 k) (P.2.2.1 k) j d) := by
  obtain ⟨hr, ds, ht, hj⟩ := zp_fd_i h hd
  unfold zk_gf
  rw [show (zp_M P, n).1 k = _ from zp_Mo hr ht]
  show (if c = c then (zp_fs (P.1 k) (P.2.2.1 k) 0 ds)[j]? else none) = _
  rw [if_pos rfl, zp_fs_i, hj, Nat.zero_add]
  rfl
theorem zp_gI {P : zp} {n : Nat × Nat} {k c j : Nat} (h : zp_fd k c j = (0, 0)) : zk_gI (zp_M P, n) k c j = some (P.1 k j) := by
  unfold zk_gI
  rw [zp_gf h (by decide)]
  rfl
theorem zp_gL {P : zp} {n : Nat × Nat} {k c j : Nat} (h : zp_fd k c j = (1, 0)) : zk_gL (zp_M P, n) k c j = some (P.2.2.1 k j) := by
  unfold zk_gL
  rw [zp_gf h (by decide)]
  rfl
theorem zp_gR {P : zp} {n : Nat × Nat} {k c j a : Nat} (h : zp_fd k c j = (2, a)) : zk_gR (zp_M P, n) k c j = some a := by
  unfold zk_gR
  rw [zp_gf h (show (2, a).1 ≠ 9 from (by decide : (2 : Nat) ≠ 9))]
  rfl
theorem zp_Mu {P P' : zp} {k : Nat} {x : zk_AC} (h : zp_M P' k = x) (ho : ∀ j, j ≠ k → zp_M P' j = zp_M P j) : zk_up (zp_M P) k x = zp_M P' := by
  funext j
  by_cases e : j = k
  · rw [e, zk_up_s, h]
  · rw [zk_up_n e, ho j e]
theorem zp_set {F : Nat → Int32} {J : Nat → Int64} {v : Value} : ∀ (ds : List (Nat × Nat)) (j i : Nat) (F' : Nat → Int32) (J' : Nat → Int64), (∀ d, ds[i]? = some d → zp_fv F' J' (j + i) d = v) → (∀ i' d, i' ≠ i → ds[i']? = some d → zp_fv F' J' (j + i') d = zp_fv F J (j + i') d) → (zp_fs F J j ds).set i v = zp_fs F' J' j ds
  | [], _, _, _, _, _, _ => rfl
  | d :: r, j, 0, F', J', h1, h2 => by
    have e1 : zp_fv F' J' j d = v := h1 d rfl
    have e2 : zp_fs F J (j + 1) r = zp_fs F' J' (j + 1) r := zp_fs_e r (j + 1) (fun i d' hd => by
      have h3 := h2 (i + 1) d' (by omega) hd
      rw [show j + (i + 1) = j + 1 + i by omega] at h3
      exact h3.symm)
    show v :: zp_fs F J (j + 1) r = zp_fv F' J' j d :: zp_fs F' J' (j + 1) r
    rw [e1, e2]
  | d :: r, j, i + 1, F', J', h1, h2 => by
    have e1 : zp_fv F' J' j d = zp_fv F J j d := h2 0 d (by omega) rfl
    have e2 : (zp_fs F J (j + 1) r).set i v = zp_fs F' J' (j + 1) r := zp_set r (j + 1) i F' J' (fun d' hd => by
      have h3 := h1 d' hd
      rw [show j + (i + 1) = j + 1 + i by omega] at h3
      exact h3) (fun i' d' hi hd => by
      have h3 := h2 (i' + 1) d' (by omega) hd
      rw [show j + (i' + 1) = j + 1 + i' by omega] at h3
      exact h3)
    show zp_fv F J j d :: (zp_fs F J (j + 1) r).set i v = zp_fv F' J' j d :: zp_fs F' J' (j + 1) r
    rw [e1, e2]
theorem zp_uo {α : Type} {f : Nat → Nat → α} {k j k' : Nat} {x : α} (h : k' ≠ k) : zp_u f k j x k' = f k' := by
  funext j'
  exact if_neg (fun z => h z.1)
theorem zp_Me {P P' : zp} {j : Nat} (h1 : P'.1 j = P.1 j) (h2 : P'.2.1 j = P.2.1 j) (h3 : P'.2.2.1 j = P.2.2.1 j) (h4 : P'.2.2.2.1 j = P.2.2.2.1 j) (h5 : P'.2.2.2.2 j = P.2.2.2.2 j) : zp_M P' j = zp_M P j := by
  unfold zp_M zp_c
  rw [h1, h2, h3, h4, h5]
theorem zp_pI {P : zp} {n : Nat × Nat} {k c j : Nat} {x : Int32} (h : zp_fd k c j = (0, 0)) : zk_pf (zp_M P, n) k c j (.int x) = some (zp_M (zp_sF P k j x), n) := by
  obtain ⟨hr, ds, ht, hj⟩ := zp_fd_i h (by decide)
  unfold zk_pf
  rw [show (zp_M P, n).1 k = _ from zp_Mo hr ht]
  show (if c = c ∧ j < (zp_fs (P.1 k) (P.2.2.1 k) 0 ds).length then some (zk_up (zp_M P) k (.inl (c, (zp_fs (P.1 k) (P.2.2.1 k) 0 ds).set j (.int x))), n) else none) = _
  rw [if_pos ⟨rfl, by rw [zp_fs_n]; exact (List.getElem?_eq_some_iff.mp hj).1⟩, zp_Mu (P' := zp_sF P k j x) ?_ (fun i hi => zp_Me (P := P) (P' := zp_sF P k j x) (zp_uo hi) rfl rfl rfl rfl)]
  rw [zp_Mo hr ht]
  refine congrArg (zk_ob c) (zp_set ds 0 j _ _ (fun d hd => ?_) (fun i d hi hd => ?_)).symm
  · cases hj.symm.trans hd
    show Value.int (zp_u P.1 k j x k (0 + j)) = _
    rw [Nat.zero_add]
    exact congrArg Value.int (if_pos ⟨rfl, rfl⟩)
  · obtain ⟨t, a⟩ := d
    match t with
    | 0 =>
      show Value.int (zp_u P.1 k j x k (0 + i)) = Value.int (P.1 k (0 + i))
      rw [Nat.zero_add]
      exact congrArg Value.int (if_neg (fun z => hi z.2))
    | 1 => rfl
    | t + 2 => rfl
theorem zp_pL {P : zp} {n : Nat × Nat} {k c j : Nat} {x : Int64} (h : zp_fd k c j = (1, 0)) : zk_pf (zp_M P, n) k c j (.long x) = some (zp_M (zp_sJ P k j x), n) := by
  obtain ⟨hr, ds, ht, hj⟩ := zp_fd_i h (by decide)
  unfold zk_pf
  rw [show (zp_M P, n).1 k = _ from zp_Mo hr ht]
  show (if c = c ∧ j < (zp_fs (P.1 k) (P.2.2.1 k) 0 ds).length then some (zk_up (zp_M P) k (.inl (c, (zp_fs (P.1 k) (P.2.2.1 k) 0 ds).set j (.long x))), n) else none) = _
  rw [if_pos ⟨rfl, by rw [zp_fs_n]; exact (List.getElem?_eq_some_iff.mp hj).1⟩, zp_Mu (P' := zp_sJ P k j x) ?_ (fun i hi => zp_Me (P := P) (P' := zp_sJ P k j x) rfl rfl (zp_uo hi) rfl rfl)]
  rw [zp_Mo hr ht]
  refine congrArg (zk_ob c) (zp_set ds 0 j _ _ (fun d hd => ?_) (fun i d hi hd => ?_)).symm
  · cases hj.symm.trans hd
    show Value.long (zp_u P.2.2.1 k j x k (0 + j)) = _
    rw [Nat.zero_add]
    exact congrArg Value.long (if_pos ⟨rfl, rfl⟩)
  · obtain ⟨t, a⟩ := d
    match t with
    | 0 => rfl
    | 1 =>
      show Value.long (zp_u P.2.2.1 k j x k (0 + i)) = Value.long (P.2.2.1 k (0 + i))
      rw [Nat.zero_add]
      exact congrArg Value.long (if_neg (fun z => hi z.2))
    | t + 2 => rfl
theorem zp_rv {P : zp} {n : Nat × Nat} {k c : Nat} (h : (zp_fd k c 0).1 ≠ 9) : zk_rv (zp_M P, n) k c = some () := by
  obtain ⟨hr, ds, ht, -⟩ := zp_fd_i rfl h
  unfold zk_rv
  rw [show (zp_M P, n).1 k = _ from zp_Mo hr ht]
  exact if_pos rfl
theorem zp_al {P : zp} {n : Nat × Nat} {k t m : Nat} (h : zp_ad k = (t, m)) (hd : t ≠ 9) : zk_al (zp_M P, n) k = some (nI m) := by
  obtain ⟨hr, ht⟩ := zp_ad_i h hd
  unfold zk_al
  rw [show (zp_M P, n).1 k = zp_c P k from if_pos hr]
  unfold zp_c
  rw [ht]
  match t with
  | 0 => rfl
  | 1 => rfl
  | 2 => rfl
  | 3 => rfl
  | t + 4 => rfl
theorem zp_ldI {P : zp} {n : Nat × Nat} {k m : Nat} {i : Int32} (h : zp_ad k = (0, m)) : zk_ldI (zp_M P, n) k i = if i < 0 ∨ m ≤ i.toNatClampNeg then none else some (P.2.1 k i.toNatClampNeg) := by
  obtain ⟨hr, ht⟩ := zp_ad_i h (by decide)
  unfold zk_ldI
  rw [show (zp_M P, n).1 k = zp_c P k from if_pos hr]
  unfold zp_c
  rw [ht]
  show (if (0 = 0 ∨ 0 = 5) ∧ ¬ (i < 0 ∨ m ≤ i.toNatClampNeg) then some (P.2.1 k i.toNatClampNeg) else none) = _
  by_cases q : i < 0 ∨ m ≤ i.toNatClampNeg
  · rw [if_pos q, if_neg (fun z => z.2 q)]
  · rw [if_neg q, if_pos ⟨Or.inl rfl, q⟩]
theorem zp_ldB {P : zp} {n : Nat × Nat} {k m : Nat} {i : Int32} (h : zp_ad k = (2, m)) : zk_ldB (zp_M P, n) k i = if i < 0 ∨ m ≤ i.toNatClampNeg then none else some (P.2.1 k i.toNatClampNeg) := by
  obtain ⟨hr, ht⟩ := zp_ad_i h (by decide)
  unfold zk_ldB
  rw [show (zp_M P, n).1 k = zp_c P k from if_pos hr]
  unfold zp_c
  rw [ht]
  show (if (2 = 1 ∨ 2 = 2) ∧ ¬ (i < 0 ∨ m ≤ i.toNatClampNeg) then some (P.2.1 k i.toNatClampNeg) else none) = _
  by_cases q : i < 0 ∨ m ≤ i.toNatClampNeg
  · rw [if_pos q, if_neg (fun z => z.2 q)]
  · rw [if_neg q, if_pos ⟨Or.inr rfl, q⟩]
theorem zp_ldR {P : zp} {n : Nat × Nat} {k m c : Nat} {i : Int32} (h : zp_ad k = (10 + c, m)) : zk_ldR (zp_M P, n) k i = if i < 0 ∨ m ≤ i.toNatClampNeg then none else some (P.2.2.2.1 k i.toNatClampNeg) := by
  obtain ⟨hr, ht⟩ := zp_ad_i h (by omega)
  unfold zk_ldR
  rw [show (zp_M P, n).1 k = zp_c P k from if_pos hr]
  unfold zp_c
  rw [ht, show 10 + c = c + 10 by omega]
  show (if ¬ (i < 0 ∨ m ≤ i.toNatClampNeg) then some (P.2.2.2.1 k i.toNatClampNeg) else none) = _
  by_cases q : i < 0 ∨ m ≤ i.toNatClampNeg
  · rw [if_pos q, if_neg (fun z => z q)]
  · rw [if_neg q, if_pos q]
theorem zp_Ms {P : zp} {k m t : Nat} {j : Nat} {x : Int32} (hr : 12 ≤ k ∧ k < 300) (ht : zp_td k = .inr (t, m)) (h0 : t = 0 ∨ t = 2) {f : Nat → Int32} (hf : f = fun j' => if j' = j then x else P.2.1 k j') : zk_up (zp_M P) k (zk_ia t m f) = zp_M (zp_sA P k j x) := by
  refine zp_Mu ?_ (fun i hi => zp_Me (P := P) (P' := zp_sA P k j x) rfl (zp_uo hi) rfl rfl rfl)
  have e : zp_u P.2.1 k j x k = f := by
    rw [hf]
    funext j'
    show (if k = k ∧ j' = j then x else P.2.1 k j') = if j' = j then x else P.2.1 k j'
    by_cases q : j' = j
    · rw [if_pos ⟨rfl, q⟩, if_pos q]
    · rw [if_neg (fun z => q z.2), if_neg q]
  show (if 12 ≤ k ∧ k < 300 then zp_c (zp_sA P k j x) k else _) = _
  rw [if_pos hr]
  unfold zp_c
  rw [ht]
  rcases h0 with rfl | rfl
  · exact congrArg (zk_ia 0 m) e
  · exact congrArg (zk_ia 2 m) e
theorem zp_upd {f : Nat → Int32} {j : Nat} {x : Int32} : upd f j x = fun j' => if j' = j then x else f j' := by
  funext j'
  unfold upd
  by_cases q : j' = j
  · simp [q]
  · simp [q]
theorem zp_stI {P : zp} {n : Nat × Nat} {k m : Nat} {i x : Int32} (h : zp_ad k = (0, m)) : zk_stI (zp_M P, n) k i x = if i < 0 ∨ m ≤ i.toNatClampNeg then none else some (zp_M (zp_sA P k i.toNatClampNeg x), n) := by
  obtain ⟨hr, ht⟩ := zp_ad_i h (by decide)
  unfold zk_stI
  have hc : (zp_M P, n).1 k = zk_ia 0 m (P.2.1 k) := by
    rw [show (zp_M P, n).1 k = zp_c P k from if_pos hr]
    unfold zp_c
    rw [ht]
    rfl
  rw [hc]
  show (if 0 = 0 ∧ ¬ (i < 0 ∨ m ≤ i.toNatClampNeg) then some (zk_up (zp_M P) k (zk_ia 0 m (upd (P.2.1 k) i.toNatClampNeg x)), n) else none) = _
  by_cases q : i < 0 ∨ m ≤ i.toNatClampNeg
  · rw [if_pos q, if_neg (fun z => z.2 q)]
  · rw [if_neg q, if_pos ⟨rfl, q⟩, zp_Ms hr ht (Or.inl rfl) zp_upd]
theorem zp_stZ {P : zp} {n : Nat × Nat} {k m : Nat} {i x : Int32} (h : zp_ad k = (2, m)) : zk_stZ (zp_M P, n) k i x = if i < 0 ∨ m ≤ i.toNatClampNeg then none else some (zp_M (zp_sA P k i.toNatClampNeg (x &&& 1)), n) := by
  obtain ⟨hr, ht⟩ := zp_ad_i h (by decide)
  unfold zk_stZ
  have hc : (zp_M P, n).1 k = zk_ia 2 m (P.2.1 k) := by
    rw [show (zp_M P, n).1 k = zp_c P k from if_pos hr]
    unfold zp_c
    rw [ht]
    rfl
  rw [hc]
  show (if 2 = 2 ∧ ¬ (i < 0 ∨ m ≤ i.toNatClampNeg) then some (zk_up (zp_M P) k (zk_ia 2 m (upd (P.2.1 k) i.toNatClampNeg (x &&& 1))), n) else none) = _
  by_cases q : i < 0 ∨ m ≤ i.toNatClampNeg
  · rw [if_pos q, if_neg (fun z => z.2 q)]
  · rw [if_neg q, if_pos ⟨rfl, q⟩, zp_Ms hr ht (Or.inr rfl) zp_upd]
/-- cells past the picture -/
theorem zp_hi {P : zp} {k : Nat} (h : 300 ≤ k) : zp_M P k = P.2.2.2.2 k := if_neg (by omega)
theorem zp_lo {P : zp} {k : Nat} (h : k < 12) : zp_M P k = P.2.2.2.2 k := if_neg (by omega)
theorem zp_nw {P : zp} {n u w : Nat} {x : zk_AC} (h : 300 ≤ n) : zk_nw (zp_M P, n, u) x w = (zp_M (zp_sG P (zk_up P.2.2.2.2 n x)), n + 1, u + w) := by
  show (zk_up (zp_M P) n x, n + 1, u + w) = _
  rw [zp_Mu (P' := zp_sG P (zk_up P.2.2.2.2 n x)) ?_ (fun i hi => ?_)]
  · rw [zp_hi h]
    exact zk_up_s _ _ _
  · by_cases q : 12 ≤ i ∧ i < 300
    · show (if 12 ≤ i ∧ i < 300 then zp_c _ i else _) = (if 12 ≤ i ∧ i < 300 then zp_c P i else _)
      rw [if_pos q, if_pos q]
      rfl
    · show (if 12 ≤ i ∧ i < 300 then zp_c _ i else zk_up P.2.2.2.2 n x i) = (if 12 ≤ i ∧ i < 300 then zp_c P i else P.2.2.2.2 i)
      rw [if_neg q, if_neg q, zk_up_n hi]
/-- the Stands -/
def zp_sb (b : Nat) : Prop := (b = 35 ∨ b = 43 ∨ b = 250 ∨ b = 261) ∨ ∃ k, k < 40 ∧ b = 49 + 5 * k
theorem zp_sb_t {b : Nat} (h : zp_sb b) : (zp_fd b 7 0 = (2, b + 1) ∧ zp_fd b 7 1 = (2, b + 2) ∧ zp_fd b 7 2 = (2, b + 3) ∧ zp_fd b 7 3 = (2, b + 4) ∧ zp_fd b 7 4 = (0, 0) ∧ zp_fd b 7 5 = (0, 0)) ∧ zp_ad (b + 1) = (0, 8) ∧ zp_ad (b + 2) = (0, 8) ∧ zp_ad (b + 3) = (0, 8) ∧ zp_ad (b + 4) = (0, 6) := by
  rcases h with (rfl | rfl | rfl | rfl) | ⟨k, hk, rfl⟩
  · decide +kernel
  · decide +kernel
  · decide +kernel
  · decide +kernel
  · have := (by decide +kernel : ∀ k, k < 40 → (zp_fd (49 + 5 * k) 7 0 = (2, 49 + 5 * k + 1) ∧ zp_fd (49 + 5 * k) 7 1 = (2, 49 + 5 * k + 2) ∧ zp_fd (49 + 5 * k) 7 2 = (2, 49 + 5 * k + 3) ∧ zp_fd (49 + 5 * k) 7 3 = (2, 49 + 5 * k + 4) ∧ zp_fd (49 + 5 * k) 7 4 = (0, 0) ∧ zp_fd (49 + 5 * k) 7 5 = (0, 0)) ∧ zp_ad (49 + 5 * k + 1) = (0, 8) ∧ zp_ad (49 + 5 * k + 2) = (0, 8) ∧ zp_ad (49 + 5 * k + 3) = (0, 8) ∧ zp_ad (49 + 5 * k + 4) = (0, 6))
    exact this k hk
section
variable {P : zp} {n : Nat × Nat} {b : Nat}
theorem zp_s0 (h : zp_sb b) : zk_gR (zp_M P, n) b 7 0 = some (b + 1) := zp_gR (zp_sb_t h).1.1
theorem zp_s1 (h : zp_sb b) : zk_gR (zp_M P, n) b 7 1 = some (b + 2) := zp_gR (zp_sb_t h).1.2.1
theorem zp_s2 (h : zp_sb b) : zk_gR (zp_M P, n) b 7 2 = some (b + 3) := zp_gR (zp_sb_t h).1.2.2.1
theorem zp_s3 (h : zp_sb b) : zk_gR (zp_M P, n) b 7 3 = some (b + 4) := zp_gR (zp_sb_t h).1.2.2.2.1
theorem zp_s4 (h : zp_sb b) : zk_gI (zp_M P, n) b 7 4 = some (P.1 b 4) := zp_gI (zp_sb_t h).1.2.2.2.2.1
theorem zp_s5 (h : zp_sb b) : zk_gI (zp_M P, n) b 7 5 = some (P.1 b 5) := zp_gI (zp_sb_t h).1.2.2.2.2.2
theorem zp_s4p (h : zp_sb b) {x : Int32} : zk_pf (zp_M P, n) b 7 4 (.int x) = some (zp_M (zp_sF P b 4 x), n) := zp_pI (zp_sb_t h).1.2.2.2.2.1
theorem zp_s5p (h : zp_sb b) {x : Int32} : zk_pf (zp_M P, n) b 7 5 (.int x) = some (zp_M (zp_sF P b 5 x), n) := zp_pI (zp_sb_t h).1.2.2.2.2.2
theorem zp_sv (h : zp_sb b) : zk_rv (zp_M P, n) b 7 = some () := zp_rv (by rw [(zp_sb_t h).1.1]; exact (by decide : (2 : Nat) ≠ 9))
end
theorem zp_o12 (P : zp) (n : Nat × Nat) : zk_gR (zp_M P, n) 12 11 0 = some 13 ∧ zk_gR (zp_M P, n) 12 11 1 = some 15 ∧ zk_gR (zp_M P, n) 12 11 2 = some 24 ∧ zk_gR (zp_M P, n) 12 11 3 = some 26 ∧ zk_gR (zp_M P, n) 12 11 4 = some 33 ∧ zk_gR (zp_M P, n) 12 11 5 = some 35 ∧ zk_gR (zp_M P, n) 12 11 6 = some 40 ∧ zk_gR (zp_M P, n) 12 11 7 = some 249 ∧ zk_gR (zp_M P, n) 12 11 8 = some 260 ∧ zk_gR (zp_M P, n) 12 11 9 = some 266 ∧ zk_gR (zp_M P, n) 12 11 10 = some 268 ∧ zk_gI (zp_M P, n) 12 11 11 = some (P.1 12 11) ∧ (∀ x : Int32, zk_pf (zp_M P, n) 12 11 11 (.int x) = some (zp_M (zp_sF P 12 11 x), n)) ∧ zk_gL (zp_M P, n) 12 11 12 = some (P.2.2.1 12 12) ∧ (∀ x : Int64, zk_pf (zp_M P, n) 12 11 12 (.long x) = some (zp_M (zp_sJ P 12 12 x), n)) ∧ zk_rv (zp_M P, n) 12 11 = some () := ⟨zp_gR (by decide +kernel), zp_gR (by decide +kernel), zp_gR (by decide +kernel), zp_gR (by decide +kernel), zp_gR (by decide +kernel), zp_gR (by decide +kernel), zp_gR (by decide +kernel), zp_gR (by decide +kernel), zp_gR (by decide +kernel), zp_gR (by decide +kernel), zp_gR (by decide +kernel), zp_gI (by decide +kernel), fun _ => zp_pI (by decide +kernel), zp_gL (by decide +kernel), fun _ => zp_pL (by decide +kernel), zp_rv (by decide +kernel)⟩
theorem zp_o13 (P : zp) (n : Nat × Nat) : zk_gI (zp_M P, n) 13 9 0 = some (P.1 13 0) ∧ (∀ x : Int32, zk_pf (zp_M P, n) 13 9 0 (.int x) = some (zp_M (zp_sF P 13 0 x), n)) ∧ zk_gI (zp_M P, n) 13 9 1 = some (P.1 13 1) ∧ (∀ x : Int32, zk_pf (zp_M P, n) 13 9 1 (.int x) = some (zp_M (zp_sF P 13 1 x), n)) ∧ zk_gR (zp_M P, n) 13 9 2 = some 14 ∧ zk_rv (zp_M P, n) 13 9 = some () := ⟨zp_gI (by decide +kernel), fun _ => zp_pI (by decide +kernel), zp_gI (by decide +kernel), fun _ => zp_pI (by decide +kernel), zp_gR (by decide +kernel), zp_rv (by decide +kernel)⟩
theorem zp_o14 (P : zp) (n : Nat × Nat) : zk_al (zp_M P, n) 14 = some 240 ∧ (∀ i : Int32, zk_ldI (zp_M P, n) 14 i = if i < 0 ∨ 240 ≤ i.toNatClampNeg then none else some (P.2.1 14 i.toNatClampNeg)) ∧ (∀ i x : Int32, zk_stI (zp_M P, n) 14 i x = if i < 0 ∨ 240 ≤ i.toNatClampNeg then none else some (zp_M (zp_sA P 14 i.toNatClampNeg x), n)) := ⟨zp_al (t := 0) (by decide +kernel) (by decide), fun _ => zp_ldI (by decide +kernel), fun _ _ => zp_stI (by decide +kernel)⟩
theorem zp_o15 (P : zp) (n : Nat × Nat) : zk_gR (zp_M P, n) 15 0 0 = some 16 ∧ zk_gR (zp_M P, n) 15 0 1 = some 13 ∧ zk_gR (zp_M P, n) 15 0 2 = some 23 ∧ zk_gI (zp_M P, n) 15 0 3 = some (P.1 15 3) ∧ (∀ x : Int32, zk_pf (zp_M P, n) 15 0 3 (.int x) = some (zp_M (zp_sF P 15 3 x), n)) ∧ zk_rv (zp_M P, n) 15 0 = some () := ⟨zp_gR (by decide +kernel), zp_gR (by decide +kernel), zp_gR (by decide +kernel), zp_gI (by decide +kernel), fun _ => zp_pI (by decide +kernel), zp_rv (by decide +kernel)⟩
theorem zp_o16 (P : zp) (n : Nat × Nat) : zk_gI (zp_M P, n) 16 10 0 = some (P.1 16 0) ∧ (∀ x : Int32, zk_pf (zp_M P, n) 16 10 0 (.int x) = some (zp_M (zp_sF P 16 0 x), n)) ∧ zk_gI (zp_M P, n) 16 10 1 = some (P.1 16 1) ∧ (∀ x : Int32, zk_pf (zp_M P, n) 16 10 1 (.int x) = some (zp_M (zp_sF P 16 1 x), n)) ∧ zk_gI (zp_M P, n) 16 10 2 = some (P.1 16 2) ∧ (∀ x : Int32, zk_pf (zp_M P, n) 16 10 2 (.int x) = some (zp_M (zp_sF P 16 2 x), n)) ∧ zk_gI (zp_M P, n) 16 10 3 = some (P.1 16 3) ∧ (∀ x : Int32, zk_pf (zp_M P, n) 16 10 3 (.int x) = some (zp_M (zp_sF P 16 3 x), n)) ∧ zk_gR (zp_M P, n) 16 10 4 = some 17 ∧ zk_gR (zp_M P, n) 16 10 5 = some 18 ∧ zk_gR (zp_M P, n) 16 10 6 = some 19 ∧ zk_gR (zp_M P, n) 16 10 7 = some 20 ∧ zk_gR (zp_M P, n) 16 10 8 = some 21 ∧ zk_gR (zp_M P, n) 16 10 9 = some 22 ∧ zk_rv (zp_M P, n) 16 10 = some () := ⟨zp_gI (by decide +kernel), fun _ => zp_pI (by decide +kernel), zp_gI (by decide +kernel), fun _ => zp_pI (by decide +kernel), zp_gI (by decide +kernel), fun _ => zp_pI (by decide +kernel), zp_gI (by decide +kernel), fun _ => zp_pI (by decide +kernel), zp_gR (by decide +kernel), zp_gR (by decide +kernel), zp_gR (by decide +kernel), zp_gR (by decide +kernel), zp_gR (by decide +kernel), zp_gR (by decide +kernel), zp_rv (by decide +kernel)⟩
theorem zp_o17 (P : zp) (n : Nat × Nat) : zk_al (zp_M P, n) 17 = some 6 ∧ (∀ i : Int32, zk_ldI (zp_M P, n) 17 i = if i < 0 ∨ 6 ≤ i.toNatClampNeg then none else some (P.2.1 17 i.toNatClampNeg)) ∧ (∀ i x : Int32, zk_stI (zp_M P, n) 17 i x = if i < 0 ∨ 6 ≤ i.toNatClampNeg then none else some (zp_M (zp_sA P 17 i.toNatClampNeg x), n)) := ⟨zp_al (t := 0) (by decide +kernel) (by decide), fun _ => zp_ldI (by decide +kernel), fun _ _ => zp_stI (by decide +kernel)⟩
theorem zp_o18 (P : zp) (n : Nat × Nat) : zk_al (zp_M P, n) 18 = some 6 ∧ (∀ i : Int32, zk_ldI (zp_M P, n) 18 i = if i < 0 ∨ 6 ≤ i.toNatClampNeg then none else some (P.2.1 18 i.toNatClampNeg)) ∧ (∀ i x : Int32, zk_stI (zp_M P, n) 18 i x = if i < 0 ∨ 6 ≤ i.toNatClampNeg then none else some (zp_M (zp_sA P 18 i.toNatClampNeg x), n)) := ⟨zp_al (t := 0) (by decide +kernel) (by decide), fun _ => zp_ldI (by decide +kernel), fun _ _ => zp_stI (by decide +kernel)⟩
theorem zp_o19 (P : zp) (n : Nat × Nat) : zk_al (zp_M P, n) 19 = some 6 ∧ (∀ i : Int32, zk_ldI (zp_M P, n) 19 i = if i < 0 ∨ 6 ≤ i.toNatClampNeg then none else some (P.2.1 19 i.toNatClampNeg)) ∧ (∀ i x : Int32, zk_stI (zp_M P, n) 19 i x = if i < 0 ∨ 6 ≤ i.toNatClampNeg then none else some (zp_M (zp_sA P 19 i.toNatClampNeg x), n)) := ⟨zp_al (t := 0) (by decide +kernel) (by decide), fun _ => zp_ldI (by decide +kernel), fun _ _ => zp_stI (by decide +kernel)⟩
theorem zp_o20 (P : zp) (n : Nat × Nat) : zk_al (zp_M P, n) 20 = some 8 ∧ (∀ i : Int32, zk_ldI (zp_M P, n) 20 i = if i < 0 ∨ 8 ≤ i.toNatClampNeg then none else some (P.2.1 20 i.toNatClampNeg)) ∧ (∀ i x : Int32, zk_stI (zp_M P, n) 20 i x = if i < 0 ∨ 8 ≤ i.toNatClampNeg then none else some (zp_M (zp_sA P 20 i.toNatClampNeg x), n)) := ⟨zp_al (t := 0) (by decide +kernel) (by decide), fun _ => zp_ldI (by decide +kernel), fun _ _ => zp_stI (by decide +kernel)⟩
theorem zp_o21 (P : zp) (n : Nat × Nat) : zk_al (zp_M P, n) 21 = some 8 ∧ (∀ i : Int32, zk_ldI (zp_M P, n) 21 i = if i < 0 ∨ 8 ≤ i.toNatClampNeg then none else some (P.2.1 21 i.toNatClampNeg)) ∧ (∀ i x : Int32, zk_stI (zp_M P, n) 21 i x = if i < 0 ∨ 8 ≤ i.toNatClampNeg then none else some (zp_M (zp_sA P 21 i.toNatClampNeg x), n)) := ⟨zp_al (t := 0) (by decide +kernel) (by decide), fun _ => zp_ldI (by decide +kernel), fun _ _ => zp_stI (by decide +kernel)⟩
theorem zp_o22 (P : zp) (n : Nat × Nat) : zk_al (zp_M P, n) 22 = some 8 ∧ (∀ i : Int32, zk_ldI (zp_M P, n) 22 i = if i < 0 ∨ 8 ≤ i.toNatClampNeg then none else some (P.2.1 22 i.toNatClampNeg)) ∧ (∀ i x : Int32, zk_stI (zp_M P, n) 22 i x = if i < 0 ∨ 8 ≤ i.toNatClampNeg then none else some (zp_M (zp_sA P 22 i.toNatClampNeg x), n)) := ⟨zp_al (t := 0) (by decide +kernel) (by decide), fun _ => zp_ldI (by decide +kernel), fun _ _ => zp_stI (by decide +kernel)⟩
theorem zp_o23 (P : zp) (n : Nat × Nat) : zk_al (zp_M P, n) 23 = some 3 ∧ (∀ i : Int32, zk_ldI (zp_M P, n) 23 i = if i < 0 ∨ 3 ≤ i.toNatClampNeg then none else some (P.2.1 23 i.toNatClampNeg)) ∧ (∀ i x : Int32, zk_stI (zp_M P, n) 23 i x = if i < 0 ∨ 3 ≤ i.toNatClampNeg then none else some (zp_M (zp_sA P 23 i.toNatClampNeg x), n)) := ⟨zp_al (t := 0) (by decide +kernel) (by decide), fun _ => zp_ldI (by decide +kernel), fun _ _ => zp_stI (by decide +kernel)⟩
theorem zp_o24 (P : zp) (n : Nat × Nat) : zk_gR (zp_M P, n) 24 2 0 = some 25 ∧ zk_gI (zp_M P, n) 24 2 1 = some (P.1 24 1) ∧ (∀ x : Int32, zk_pf (zp_M P, n) 24 2 1 (.int x) = some (zp_M (zp_sF P 24 1 x), n)) ∧ zk_gR (zp_M P, n) 24 2 2 = some 13 ∧ zk_rv (zp_M P, n) 24 2 = some () := ⟨zp_gR (by decide +kernel), zp_gI (by decide +kernel), fun _ => zp_pI (by decide +kernel), zp_gR (by decide +kernel), zp_rv (by decide +kernel)⟩
theorem zp_o25 (P : zp) (n : Nat × Nat) : zk_al (zp_M P, n) 25 = some 240 ∧ (∀ i : Int32, zk_ldI (zp_M P, n) 25 i = if i < 0 ∨ 240 ≤ i.toNatClampNeg then none else some (P.2.1 25 i.toNatClampNeg)) ∧ (∀ i x : Int32, zk_stI (zp_M P, n) 25 i x = if i < 0 ∨ 240 ≤ i.toNatClampNeg then none else some (zp_M (zp_sA P 25 i.toNatClampNeg x), n)) := ⟨zp_al (t := 0) (by decide +kernel) (by decide), fun _ => zp_ldI (by decide +kernel), fun _ _ => zp_stI (by decide +kernel)⟩
theorem zp_o26 (P : zp) (n : Nat × Nat) : zk_gI (zp_M P, n) 26 10 0 = some (P.1 26 0) ∧ (∀ x : Int32, zk_pf (zp_M P, n) 26 10 0 (.int x) = some (zp_M (zp_sF P 26 0 x), n)) ∧ zk_gI (zp_M P, n) 26 10 1 = some (P.1 26 1) ∧ (∀ x : Int32, zk_pf (zp_M P, n) 26 10 1 (.int x) = some (zp_M (zp_sF P 26 1 x), n)) ∧ zk_gI (zp_M P, n) 26 10 2 = some (P.1 26 2) ∧ (∀ x : Int32, zk_pf (zp_M P, n) 26 10 2 (.int x) = some (zp_M (zp_sF P 26 2 x), n)) ∧ zk_gI (zp_M P, n) 26 10 3 = some (P.1 26 3) ∧ (∀ x : Int32, zk_pf (zp_M P, n) 26 10 3 (.int x) = some (zp_M (zp_sF P 26 3 x), n)) ∧ zk_gR (zp_M P, n) 26 10 4 = some 27 ∧ zk_gR (zp_M P, n) 26 10 5 = some 28 ∧ zk_gR (zp_M P, n) 26 10 6 = some 29 ∧ zk_gR (zp_M P, n) 26 10 7 = some 30 ∧ zk_gR (zp_M P, n) 26 10 8 = some 31 ∧ zk_gR (zp_M P, n) 26 10 9 = some 32 ∧ zk_rv (zp_M P, n) 26 10 = some () := ⟨zp_gI (by decide +kernel), fun _ => zp_pI (by decide +kernel), zp_gI (by decide +kernel), fun _ => zp_pI (by decide +kernel), zp_gI (by decide +kernel), fun _ => zp_pI (by decide +kernel), zp_gI (by decide +kernel), fun _ => zp_pI (by decide +kernel), zp_gR (by decide +kernel), zp_gR (by decide +kernel), zp_gR (by decide +kernel), zp_gR (by decide +kernel), zp_gR (by decide +kernel), zp_gR (by decide +kernel), zp_rv (by decide +kernel)⟩
theorem zp_o27 (P : zp) (n : Nat × Nat) : zk_al (zp_M P, n) 27 = some 6 ∧ (∀ i : Int32, zk_ldI (zp_M P, n) 27 i = if i < 0 ∨ 6 ≤ i.toNatClampNeg then none else some (P.2.1 27 i.toNatClampNeg)) ∧ (∀ i x : Int32, zk_stI (zp_M P, n) 27 i x = if i < 0 ∨ 6 ≤ i.toNatClampNeg then none else some (zp_M (zp_sA P 27 i.toNatClampNeg x), n)) := ⟨zp_al (t := 0) (by decide +kernel) (by decide), fun _ => zp_ldI (by decide +kernel), fun _ _ => zp_stI (by decide +kernel)⟩
theorem zp_o28 (P : zp) (n : Nat × Nat) : zk_al (zp_M P, n) 28 = some 6 ∧ (∀ i : Int32, zk_ldI (zp_M P, n) 28 i = if i < 0 ∨ 6 ≤ i.toNatClampNeg then none else some (P.2.1 28 i.toNatClampNeg)) ∧ (∀ i x : Int32, zk_stI (zp_M P, n) 28 i x = if i < 0 ∨ 6 ≤ i.toNatClampNeg then none else some (zp_M (zp_sA P 28 i.toNatClampNeg x), n)) := ⟨zp_al (t := 0) (by decide +kernel) (by decide), fun _ => zp_ldI (by decide +kernel), fun _ _ => zp_stI (by decide +kernel)⟩
theorem zp_o29 (P : zp) (n : Nat × Nat) : zk_al (zp_M P, n) 29 = some 6 ∧ (∀ i : Int32, zk_ldI (zp_M P, n) 29 i = if i < 0 ∨ 6 ≤ i.toNatClampNeg then none else some (P.2.1 29 i.toNatClampNeg)) ∧ (∀ i x : Int32, zk_stI (zp_M P, n) 29 i x = if i < 0 ∨ 6 ≤ i.toNatClampNeg then none else some (zp_M (zp_sA P 29 i.toNatClampNeg x), n)) := ⟨zp_al (t := 0) (by decide +kernel) (by decide), fun _ => zp_ldI (by decide +kernel), fun _ _ => zp_stI (by decide +kernel)⟩
theorem zp_o30 (P : zp) (n : Nat × Nat) : zk_al (zp_M P, n) 30 = some 8 ∧ (∀ i : Int32, zk_ldI (zp_M P, n) 30 i = if i < 0 ∨ 8 ≤ i.toNatClampNeg then none else some (P.2.1 30 i.toNatClampNeg)) ∧ (∀ i x : Int32, zk_stI (zp_M P, n) 30 i x = if i < 0 ∨ 8 ≤ i.toNatClampNeg then none else some (zp_M (zp_sA P 30 i.toNatClampNeg x), n)) := ⟨zp_al (t := 0) (by decide +kernel) (by decide), fun _ => zp_ldI (by decide +kernel), fun _ _ => zp_stI (by decide +kernel)⟩
theorem zp_o31 (P : zp) (n : Nat × Nat) : zk_al (zp_M P, n) 31 = some 8 ∧ (∀ i : Int32, zk_ldI (zp_M P, n) 31 i = if i < 0 ∨ 8 ≤ i.toNatClampNeg then none else some (P.2.1 31 i.toNatClampNeg)) ∧ (∀ i x : Int32, zk_stI (zp_M P, n) 31 i x = if i < 0 ∨ 8 ≤ i.toNatClampNeg then none else some (zp_M (zp_sA P 31 i.toNatClampNeg x), n)) := ⟨zp_al (t := 0) (by decide +kernel) (by decide), fun _ => zp_ldI (by decide +kernel), fun _ _ => zp_stI (by decide +kernel)⟩
theorem zp_o32 (P : zp) (n : Nat × Nat) : zk_al (zp_M P, n) 32 = some 8 ∧ (∀ i : Int32, zk_ldI (zp_M P, n) 32 i = if i < 0 ∨ 8 ≤ i.toNatClampNeg then none else some (P.2.1 32 i.toNatClampNeg)) ∧ (∀ i x : Int32, zk_stI (zp_M P, n) 32 i x = if i < 0 ∨ 8 ≤ i.toNatClampNeg then none else some (zp_M (zp_sA P 32 i.toNatClampNeg x), n)) := ⟨zp_al (t := 0) (by decide +kernel) (by decide), fun _ => zp_ldI (by decide +kernel), fun _ _ => zp_stI (by decide +kernel)⟩
theorem zp_o33 (P : zp) (n : Nat × Nat) : zk_gR (zp_M P, n) 33 4 0 = some 26 ∧ zk_gR (zp_M P, n) 33 4 1 = some 34 ∧ zk_gI (zp_M P, n) 33 4 2 = some (P.1 33 2) ∧ (∀ x : Int32, zk_pf (zp_M P, n) 33 4 2 (.int x) = some (zp_M (zp_sF P 33 2 x), n)) ∧ zk_gI (zp_M P, n) 33 4 3 = some (P.1 33 3) ∧ (∀ x : Int32, zk_pf (zp_M P, n) 33 4 3 (.int x) = some (zp_M (zp_sF P 33 3 x), n)) ∧ zk_rv (zp_M P, n) 33 4 = some () := ⟨zp_gR (by decide +kernel), zp_gR (by decide +kernel), zp_gI (by decide +kernel), fun _ => zp_pI (by decide +kernel), zp_gI (by decide +kernel), fun _ => zp_pI (by decide +kernel), zp_rv (by decide +kernel)⟩
theorem zp_o34 (P : zp) (n : Nat × Nat) : zk_al (zp_M P, n) 34 = some 4 ∧ (∀ i : Int32, zk_ldR (zp_M P, n) 34 i = if i < 0 ∨ 4 ≤ i.toNatClampNeg then none else some (P.2.2.2.1 34 i.toNatClampNeg)) := ⟨zp_al (t := 11) (by decide +kernel) (by decide), fun _ => zp_ldR (c := 1) (by decide +kernel)⟩
theorem zp_o35 (P : zp) (n : Nat × Nat) : zk_gR (zp_M P, n) 35 7 0 = some 36 ∧ zk_gR (zp_M P, n) 35 7 1 = some 37 ∧ zk_gR (zp_M P, n) 35 7 2 = some 38 ∧ zk_gR (zp_M P, n) 35 7 3 = some 39 ∧ zk_gI (zp_M P, n) 35 7 4 = some (P.1 35 4) ∧ (∀ x : Int32, zk_pf (zp_M P, n) 35 7 4 (.int x) = some (zp_M (zp_sF P 35 4 x), n)) ∧ zk_gI (zp_M P, n) 35 7 5 = some (P.1 35 5) ∧ (∀ x : Int32, zk_pf (zp_M P, n) 35 7 5 (.int x) = some (zp_M (zp_sF P 35 5 x), n)) ∧ zk_rv (zp_M P, n) 35 7 = some () := ⟨zp_gR (by decide +kernel), zp_gR (by decide +kernel), zp_gR (by decide +kernel), zp_gR (by decide +kernel), zp_gI (by decide +kernel), fun _ => zp_pI (by decide +kernel), zp_gI (by decide +kernel), fun _ => zp_pI (by decide +kernel), zp_rv (by decide +kernel)⟩
theorem zp_o36 (P : zp) (n : Nat × Nat) : zk_al (zp_M P, n) 36 = some 8 ∧ (∀ i : Int32, zk_ldI (zp_M P, n) 36 i = if i < 0 ∨ 8 ≤ i.toNatClampNeg then none else some (P.2.1 36 i.toNatClampNeg)) ∧ (∀ i x : Int32, zk_stI (zp_M P, n) 36 i x = if i < 0 ∨ 8 ≤ i.toNatClampNeg then none else some (zp_M (zp_sA P 36 i.toNatClampNeg x), n)) := ⟨zp_al (t := 0) (by decide +kernel) (by decide), fun _ => zp_ldI (by decide +kernel), fun _ _ => zp_stI (by decide +kernel)⟩
theorem zp_o37 (P : zp) (n : Nat × Nat) : zk_al (zp_M P, n) 37 = some 8 ∧ (∀ i : Int32, zk_ldI (zp_M P, n) 37 i = if i < 0 ∨ 8 ≤ i.toNatClampNeg then none else some (P.2.1 37 i.toNatClampNeg)) ∧ (∀ i x : Int32, zk_stI (zp_M P, n) 37 i x = if i < 0 ∨ 8 ≤ i.toNatClampNeg then none else some (zp_M (zp_sA P 37 i.toNatClampNeg x), n)) := ⟨zp_al (t := 0) (by decide +kernel) (by decide), fun _ => zp_ldI (by decide +kernel), fun _ _ => zp_stI (by decide +kernel)⟩
theorem zp_o38 (P : zp) (n : Nat × Nat) : zk_al (zp_M P, n) 38 = some 8 ∧ (∀ i : Int32, zk_ldI (zp_M P, n) 38 i = if i < 0 ∨ 8 ≤ i.toNatClampNeg then none else some (P.2.1 38 i.toNatClampNeg)) ∧ (∀ i x : Int32, zk_stI (zp_M P, n) 38 i x = if i < 0 ∨ 8 ≤ i.toNatClampNeg then none else some (zp_M (zp_sA P 38 i.toNatClampNeg x), n)) := ⟨zp_al (t := 0) (by decide +kernel) (by decide), fun _ => zp_ldI (by decide +kernel), fun _ _ => zp_stI (by decide +kernel)⟩
theorem zp_o39 (P : zp) (n : Nat × Nat) : zk_al (zp_M P, n) 39 = some 6 ∧ (∀ i : Int32, zk_ldI (zp_M P, n) 39 i = if i < 0 ∨ 6 ≤ i.toNatClampNeg then none else some (P.2.1 39 i.toNatClampNeg)) ∧ (∀ i x : Int32, zk_stI (zp_M P, n) 39 i x = if i < 0 ∨ 6 ≤ i.toNatClampNeg then none else some (zp_M (zp_sA P 39 i.toNatClampNeg x), n)) := ⟨zp_al (t := 0) (by decide +kernel) (by decide), fun _ => zp_ldI (by decide +kernel), fun _ _ => zp_stI (by decide +kernel)⟩
theorem zp_o40 (P : zp) (n : Nat × Nat) : zk_gR (zp_M P, n) 40 3 0 = some 41 ∧ zk_gR (zp_M P, n) 40 3 1 = some 42 ∧ zk_gR (zp_M P, n) 40 3 2 = some 43 ∧ zk_gR (zp_M P, n) 40 3 3 = some 48 ∧ zk_gI (zp_M P, n) 40 3 4 = some (P.1 40 4) ∧ (∀ x : Int32, zk_pf (zp_M P, n) 40 3 4 (.int x) = some (zp_M (zp_sF P 40 4 x), n)) ∧ zk_gI (zp_M P, n) 40 3 5 = some (P.1 40 5) ∧ (∀ x : Int32, zk_pf (zp_M P, n) 40 3 5 (.int x) = some (zp_M (zp_sF P 40 5 x), n)) ∧ zk_gI (zp_M P, n) 40 3 6 = some (P.1 40 6) ∧ (∀ x : Int32, zk_pf (zp_M P, n) 40 3 6 (.int x) = some (zp_M (zp_sF P 40 6 x), n)) ∧ zk_rv (zp_M P, n) 40 3 = some () := ⟨zp_gR (by decide +kernel), zp_gR (by decide +kernel), zp_gR (by decide +kernel), zp_gR (by decide +kernel), zp_gI (by decide +kernel), fun _ => zp_pI (by decide +kernel), zp_gI (by decide +kernel), fun _ => zp_pI (by decide +kernel), zp_gI (by decide +kernel), fun _ => zp_pI (by decide +kernel), zp_rv (by decide +kernel)⟩
theorem zp_o41 (P : zp) (n : Nat × Nat) : zk_al (zp_M P, n) 41 = some 300 ∧ (∀ i : Int32, zk_ldI (zp_M P, n) 41 i = if i < 0 ∨ 300 ≤ i.toNatClampNeg then none else some (P.2.1 41 i.toNatClampNeg)) ∧ (∀ i x : Int32, zk_stI (zp_M P, n) 41 i x = if i < 0 ∨ 300 ≤ i.toNatClampNeg then none else some (zp_M (zp_sA P 41 i.toNatClampNeg x), n)) := ⟨zp_al (t := 0) (by decide +kernel) (by decide), fun _ => zp_ldI (by decide +kernel), fun _ _ => zp_stI (by decide +kernel)⟩
theorem zp_o42 (P : zp) (n : Nat × Nat) : zk_al (zp_M P, n) 42 = some 300 ∧ (∀ i : Int32, zk_ldI (zp_M P, n) 42 i = if i < 0 ∨ 300 ≤ i.toNatClampNeg then none else some (P.2.1 42 i.toNatClampNeg)) ∧ (∀ i x : Int32, zk_stI (zp_M P, n) 42 i x = if i < 0 ∨ 300 ≤ i.toNatClampNeg then none else some (zp_M (zp_sA P 42 i.toNatClampNeg x), n)) := ⟨zp_al (t := 0) (by decide +kernel) (by decide), fun _ => zp_ldI (by decide +kernel), fun _ _ => zp_stI (by decide +kernel)⟩
theorem zp_o43 (P : zp) (n : Nat × Nat) : zk_gR (zp_M P, n) 43 7 0 = some 44 ∧ zk_gR (zp_M P, n) 43 7 1 = some 45 ∧ zk_gR (zp_M P, n) 43 7 2 = some 46 ∧ zk_gR (zp_M P, n) 43 7 3 = some 47 ∧ zk_gI (zp_M P, n) 43 7 4 = some (P.1 43 4) ∧ (∀ x : Int32, zk_pf (zp_M P, n) 43 7 4 (.int x) = some (zp_M (zp_sF P 43 4 x), n)) ∧ zk_gI (zp_M P, n) 43 7 5 = some (P.1 43 5) ∧ (∀ x : Int32, zk_pf (zp_M P, n) 43 7 5 (.int x) = some (zp_M (zp_sF P 43 5 x), n)) ∧ zk_rv (zp_M P, n) 43 7 = some () := ⟨zp_gR (by decide +kernel), zp_gR (by decide +kernel), zp_gR (by decide +kernel), zp_gR (by decide +kernel), zp_gI (by decide +kernel), fun _ => zp_pI (by decide +kernel), zp_gI (by decide +kernel), fun _ => zp_pI (by decide +kernel), zp_rv (by decide +kernel)⟩
theorem zp_o44 (P : zp) (n : Nat × Nat) : zk_al (zp_M P, n) 44 = some 8 ∧ (∀ i : Int32, zk_ldI (zp_M P, n) 44 i = if i < 0 ∨ 8 ≤ i.toNatClampNeg then none else some (P.2.1 44 i.toNatClampNeg)) ∧ (∀ i x : Int32, zk_stI (zp_M P, n) 44 i x = if i < 0 ∨ 8 ≤ i.toNatClampNeg then none else some (zp_M (zp_sA P 44 i.toNatClampNeg x), n)) := ⟨zp_al (t := 0) (by decide +kernel) (by decide), fun _ => zp_ldI (by decide +kernel), fun _ _ => zp_stI (by decide +kernel)⟩
theorem zp_o45 (P : zp) (n : Nat × Nat) : zk_al (zp_M P, n) 45 = some 8 ∧ (∀ i : Int32, zk_ldI (zp_M P, n) 45 i = if i < 0 ∨ 8 ≤ i.toNatClampNeg then none else some (P.2.1 45 i.toNatClampNeg)) ∧ (∀ i x : Int32, zk_stI (zp_M P, n) 45 i x = if i < 0 ∨ 8 ≤ i.toNatClampNeg then none else some (zp_M (zp_sA P 45 i.toNatClampNeg x), n)) := ⟨zp_al (t := 0) (by decide +kernel) (by decide), fun _ => zp_ldI (by decide +kernel), fun _ _ => zp_stI (by decide +kernel)⟩
theorem zp_o46 (P : zp) (n : Nat × Nat) : zk_al (zp_M P, n) 46 = some 8 ∧ (∀ i : Int32, zk_ldI (zp_M P, n) 46 i = if i < 0 ∨ 8 ≤ i.toNatClampNeg then none else some (P.2.1 46 i.toNatClampNeg)) ∧ (∀ i x : Int32, zk_stI (zp_M P, n) 46 i x = if i < 0 ∨ 8 ≤ i.toNatClampNeg then none else some (zp_M (zp_sA P 46 i.toNatClampNeg x), n)) := ⟨zp_al (t := 0) (by decide +kernel) (by decide), fun _ => zp_ldI (by decide +kernel), fun _ _ => zp_stI (by decide +kernel)⟩
theorem zp_o47 (P : zp) (n : Nat × Nat) : zk_al (zp_M P, n) 47 = some 6 ∧ (∀ i : Int32, zk_ldI (zp_M P, n) 47 i = if i < 0 ∨ 6 ≤ i.toNatClampNeg then none else some (P.2.1 47 i.toNatClampNeg)) ∧ (∀ i x : Int32, zk_stI (zp_M P, n) 47 i x = if i < 0 ∨ 6 ≤ i.toNatClampNeg then none else some (zp_M (zp_sA P 47 i.toNatClampNeg x), n)) := ⟨zp_al (t := 0) (by decide +kernel) (by decide), fun _ => zp_ldI (by decide +kernel), fun _ _ => zp_stI (by decide +kernel)⟩
theorem zp_o48 (P : zp) (n : Nat × Nat) : zk_al (zp_M P, n) 48 = some 40 ∧ (∀ i : Int32, zk_ldR (zp_M P, n) 48 i = if i < 0 ∨ 40 ≤ i.toNatClampNeg then none else some (P.2.2.2.1 48 i.toNatClampNeg)) := ⟨zp_al (t := 17) (by decide +kernel) (by decide), fun _ => zp_ldR (c := 7) (by decide +kernel)⟩
theorem zp_o249 (P : zp) (n : Nat × Nat) : zk_gR (zp_M P, n) 249 6 0 = some 26 ∧ zk_gR (zp_M P, n) 249 6 1 = some 33 ∧ zk_gR (zp_M P, n) 249 6 2 = some 250 ∧ zk_gR (zp_M P, n) 249 6 3 = some 255 ∧ zk_gR (zp_M P, n) 249 6 4 = some 256 ∧ zk_gR (zp_M P, n) 249 6 5 = some 257 ∧ zk_gR (zp_M P, n) 249 6 6 = some 258 ∧ zk_gR (zp_M P, n) 249 6 7 = some 259 ∧ zk_gI (zp_M P, n) 249 6 8 = some (P.1 249 8) ∧ (∀ x : Int32, zk_pf (zp_M P, n) 249 6 8 (.int x) = some (zp_M (zp_sF P 249 8 x), n)) ∧ zk_gI (zp_M P, n) 249 6 9 = some (P.1 249 9) ∧ (∀ x : Int32, zk_pf (zp_M P, n) 249 6 9 (.int x) = some (zp_M (zp_sF P 249 9 x), n)) ∧ zk_rv (zp_M P, n) 249 6 = some () := ⟨zp_gR (by decide +kernel), zp_gR (by decide +kernel), zp_gR (by decide +kernel), zp_gR (by decide +kernel), zp_gR (by decide +kernel), zp_gR (by decide +kernel), zp_gR (by decide +kernel), zp_gR (by decide +kernel), zp_gI (by decide +kernel), fun _ => zp_pI (by decide +kernel), zp_gI (by decide +kernel), fun _ => zp_pI (by decide +kernel), zp_rv (by decide +kernel)⟩
theorem zp_o250 (P : zp) (n : Nat × Nat) : zk_gR (zp_M P, n) 250 7 0 = some 251 ∧ zk_gR (zp_M P, n) 250 7 1 = some 252 ∧ zk_gR (zp_M P, n) 250 7 2 = some 253 ∧ zk_gR (zp_M P, n) 250 7 3 = some 254 ∧ zk_gI (zp_M P, n) 250 7 4 = some (P.1 250 4) ∧ (∀ x : Int32, zk_pf (zp_M P, n) 250 7 4 (.int x) = some (zp_M (zp_sF P 250 4 x), n)) ∧ zk_gI (zp_M P, n) 250 7 5 = some (P.1 250 5) ∧ (∀ x : Int32, zk_pf (zp_M P, n) 250 7 5 (.int x) = some (zp_M (zp_sF P 250 5 x), n)) ∧ zk_rv (zp_M P, n) 250 7 = some () := ⟨zp_gR (by decide +kernel), zp_gR (by decide +kernel), zp_gR (by decide +kernel), zp_gR (by decide +kernel), zp_gI (by decide +kernel), fun _ => zp_pI (by decide +kernel), zp_gI (by decide +kernel), fun _ => zp_pI (by decide +kernel), zp_rv (by decide +kernel)⟩
theorem zp_o251 (P : zp) (n : Nat × Nat) : zk_al (zp_M P, n) 251 = some 8 ∧ (∀ i : Int32, zk_ldI (zp_M P, n) 251 i = if i < 0 ∨ 8 ≤ i.toNatClampNeg then none else some (P.2.1 251 i.toNatClampNeg)) ∧ (∀ i x : Int32, zk_stI (zp_M P, n) 251 i x = if i < 0 ∨ 8 ≤ i.toNatClampNeg then none else some (zp_M (zp_sA P 251 i.toNatClampNeg x), n)) := ⟨zp_al (t := 0) (by decide +kernel) (by decide), fun _ => zp_ldI (by decide +kernel), fun _ _ => zp_stI (by decide +kernel)⟩
theorem zp_o252 (P : zp) (n : Nat × Nat) : zk_al (zp_M P, n) 252 = some 8 ∧ (∀ i : Int32, zk_ldI (zp_M P, n) 252 i = if i < 0 ∨ 8 ≤ i.toNatClampNeg then none else some (P.2.1 252 i.toNatClampNeg)) ∧ (∀ i x : Int32, zk_stI (zp_M P, n) 252 i x = if i < 0 ∨ 8 ≤ i.toNatClampNeg then none else some (zp_M (zp_sA P 252 i.toNatClampNeg x), n)) := ⟨zp_al (t := 0) (by decide +kernel) (by decide), fun _ => zp_ldI (by decide +kernel), fun _ _ => zp_stI (by decide +kernel)⟩
theorem zp_o253 (P : zp) (n : Nat × Nat) : zk_al (zp_M P, n) 253 = some 8 ∧ (∀ i : Int32, zk_ldI (zp_M P, n) 253 i = if i < 0 ∨ 8 ≤ i.toNatClampNeg then none else some (P.2.1 253 i.toNatClampNeg)) ∧ (∀ i x : Int32, zk_stI (zp_M P, n) 253 i x = if i < 0 ∨ 8 ≤ i.toNatClampNeg then none else some (zp_M (zp_sA P 253 i.toNatClampNeg x), n)) := ⟨zp_al (t := 0) (by decide +kernel) (by decide), fun _ => zp_ldI (by decide +kernel), fun _ _ => zp_stI (by decide +kernel)⟩
theorem zp_o254 (P : zp) (n : Nat × Nat) : zk_al (zp_M P, n) 254 = some 6 ∧ (∀ i : Int32, zk_ldI (zp_M P, n) 254 i = if i < 0 ∨ 6 ≤ i.toNatClampNeg then none else some (P.2.1 254 i.toNatClampNeg)) ∧ (∀ i x : Int32, zk_stI (zp_M P, n) 254 i x = if i < 0 ∨ 6 ≤ i.toNatClampNeg then none else some (zp_M (zp_sA P 254 i.toNatClampNeg x), n)) := ⟨zp_al (t := 0) (by decide +kernel) (by decide), fun _ => zp_ldI (by decide +kernel), fun _ _ => zp_stI (by decide +kernel)⟩
theorem zp_o255 (P : zp) (n : Nat × Nat) : zk_al (zp_M P, n) 255 = some 10 ∧ (∀ i : Int32, zk_ldI (zp_M P, n) 255 i = if i < 0 ∨ 10 ≤ i.toNatClampNeg then none else some (P.2.1 255 i.toNatClampNeg)) ∧ (∀ i x : Int32, zk_stI (zp_M P, n) 255 i x = if i < 0 ∨ 10 ≤ i.toNatClampNeg then none else some (zp_M (zp_sA P 255 i.toNatClampNeg x), n)) := ⟨zp_al (t := 0) (by decide +kernel) (by decide), fun _ => zp_ldI (by decide +kernel), fun _ _ => zp_stI (by decide +kernel)⟩
theorem zp_o256 (P : zp) (n : Nat × Nat) : zk_al (zp_M P, n) 256 = some 10 ∧ (∀ i : Int32, zk_ldI (zp_M P, n) 256 i = if i < 0 ∨ 10 ≤ i.toNatClampNeg then none else some (P.2.1 256 i.toNatClampNeg)) ∧ (∀ i x : Int32, zk_stI (zp_M P, n) 256 i x = if i < 0 ∨ 10 ≤ i.toNatClampNeg then none else some (zp_M (zp_sA P 256 i.toNatClampNeg x), n)) := ⟨zp_al (t := 0) (by decide +kernel) (by decide), fun _ => zp_ldI (by decide +kernel), fun _ _ => zp_stI (by decide +kernel)⟩
theorem zp_o257 (P : zp) (n : Nat × Nat) : zk_al (zp_M P, n) 257 = some 10 ∧ (∀ i : Int32, zk_ldI (zp_M P, n) 257 i = if i < 0 ∨ 10 ≤ i.toNatClampNeg then none else some (P.2.1 257 i.toNatClampNeg)) ∧ (∀ i x : Int32, zk_stI (zp_M P, n) 257 i x = if i < 0 ∨ 10 ≤ i.toNatClampNeg then none else some (zp_M (zp_sA P 257 i.toNatClampNeg x), n)) := ⟨zp_al (t := 0) (by decide +kernel) (by decide), fun _ => zp_ldI (by decide +kernel), fun _ _ => zp_stI (by decide +kernel)⟩
theorem zp_o258 (P : zp) (n : Nat × Nat) : zk_al (zp_M P, n) 258 = some 10 ∧ (∀ i : Int32, zk_ldB (zp_M P, n) 258 i = if i < 0 ∨ 10 ≤ i.toNatClampNeg then none else some (P.2.1 258 i.toNatClampNeg)) ∧ (∀ i x : Int32, zk_stZ (zp_M P, n) 258 i x = if i < 0 ∨ 10 ≤ i.toNatClampNeg then none else some (zp_M (zp_sA P 258 i.toNatClampNeg (x &&& 1)), n)) := ⟨zp_al (t := 2) (by decide +kernel) (by decide), fun _ => zp_ldB (by decide +kernel), fun _ _ => zp_stZ (by decide +kernel)⟩
theorem zp_o259 (P : zp) (n : Nat × Nat) : zk_al (zp_M P, n) 259 = some 10 ∧ (∀ i : Int32, zk_ldI (zp_M P, n) 259 i = if i < 0 ∨ 10 ≤ i.toNatClampNeg then none else some (P.2.1 259 i.toNatClampNeg)) ∧ (∀ i x : Int32, zk_stI (zp_M P, n) 259 i x = if i < 0 ∨ 10 ≤ i.toNatClampNeg then none else some (zp_M (zp_sA P 259 i.toNatClampNeg x), n)) := ⟨zp_al (t := 0) (by decide +kernel) (by decide), fun _ => zp_ldI (by decide +kernel), fun _ _ => zp_stI (by decide +kernel)⟩
theorem zp_o260 (P : zp) (n : Nat × Nat) : zk_gR (zp_M P, n) 260 8 0 = some 33 ∧ zk_gR (zp_M P, n) 260 8 1 = some 261 ∧ zk_gI (zp_M P, n) 260 8 2 = some (P.1 260 2) ∧ (∀ x : Int32, zk_pf (zp_M P, n) 260 8 2 (.int x) = some (zp_M (zp_sF P 260 2 x), n)) ∧ zk_gI (zp_M P, n) 260 8 3 = some (P.1 260 3) ∧ (∀ x : Int32, zk_pf (zp_M P, n) 260 8 3 (.int x) = some (zp_M (zp_sF P 260 3 x), n)) ∧ zk_gI (zp_M P, n) 260 8 4 = some (P.1 260 4) ∧ (∀ x : Int32, zk_pf (zp_M P, n) 260 8 4 (.int x) = some (zp_M (zp_sF P 260 4 x), n)) ∧ zk_gI (zp_M P, n) 260 8 5 = some (P.1 260 5) ∧ (∀ x : Int32, zk_pf (zp_M P, n) 260 8 5 (.int x) = some (zp_M (zp_sF P 260 5 x), n)) ∧ zk_rv (zp_M P, n) 260 8 = some () := ⟨zp_gR (by decide +kernel), zp_gR (by decide +kernel), zp_gI (by decide +kernel), fun _ => zp_pI (by decide +kernel), zp_gI (by decide +kernel), fun _ => zp_pI (by decide +kernel), zp_gI (by decide +kernel), fun _ => zp_pI (by decide +kernel), zp_gI (by decide +kernel), fun _ => zp_pI (by decide +kernel), zp_rv (by decide +kernel)⟩
theorem zp_o261 (P : zp) (n : Nat × Nat) : zk_gR (zp_M P, n) 261 7 0 = some 262 ∧ zk_gR (zp_M P, n) 261 7 1 = some 263 ∧ zk_gR (zp_M P, n) 261 7 2 = some 264 ∧ zk_gR (zp_M P, n) 261 7 3 = some 265 ∧ zk_gI (zp_M P, n) 261 7 4 = some (P.1 261 4) ∧ (∀ x : Int32, zk_pf (zp_M P, n) 261 7 4 (.int x) = some (zp_M (zp_sF P 261 4 x), n)) ∧ zk_gI (zp_M P, n) 261 7 5 = some (P.1 261 5) ∧ (∀ x : Int32, zk_pf (zp_M P, n) 261 7 5 (.int x) = some (zp_M (zp_sF P 261 5 x), n)) ∧ zk_rv (zp_M P, n) 261 7 = some () := ⟨zp_gR (by decide +kernel), zp_gR (by decide +kernel), zp_gR (by decide +kernel), zp_gR (by decide +kernel), zp_gI (by decide +kernel), fun _ => zp_pI (by decide +kernel), zp_gI (by decide +kernel), fun _ => zp_pI (by decide +kernel), zp_rv (by decide +kernel)⟩
theorem zp_o262 (P : zp) (n : Nat × Nat) : zk_al (zp_M P, n) 262 = some 8 ∧ (∀ i : Int32, zk_ldI (zp_M P, n) 262 i = if i < 0 ∨ 8 ≤ i.toNatClampNeg then none else some (P.2.1 262 i.toNatClampNeg)) ∧ (∀ i x : Int32, zk_stI (zp_M P, n) 262 i x = if i < 0 ∨ 8 ≤ i.toNatClampNeg then none else some (zp_M (zp_sA P 262 i.toNatClampNeg x), n)) := ⟨zp_al (t := 0) (by decide +kernel) (by decide), fun _ => zp_ldI (by decide +kernel), fun _ _ => zp_stI (by decide +kernel)⟩
theorem zp_o263 (P : zp) (n : Nat × Nat) : zk_al (zp_M P, n) 263 = some 8 ∧ (∀ i : Int32, zk_ldI (zp_M P, n) 263 i = if i < 0 ∨ 8 ≤ i.toNatClampNeg then none else some (P.2.1 263 i.toNatClampNeg)) ∧ (∀ i x : Int32, zk_stI (zp_M P, n) 263 i x = if i < 0 ∨ 8 ≤ i.toNatClampNeg then none else some (zp_M (zp_sA P 263 i.toNatClampNeg x), n)) := ⟨zp_al (t := 0) (by decide +kernel) (by decide), fun _ => zp_ldI (by decide +kernel), fun _ _ => zp_stI (by decide +kernel)⟩
theorem zp_o264 (P : zp) (n : Nat × Nat) : zk_al (zp_M P, n) 264 = some 8 ∧ (∀ i : Int32, zk_ldI (zp_M P, n) 264 i = if i < 0 ∨ 8 ≤ i.toNatClampNeg then none else some (P.2.1 264 i.toNatClampNeg)) ∧ (∀ i x : Int32, zk_stI (zp_M P, n) 264 i x = if i < 0 ∨ 8 ≤ i.toNatClampNeg then none else some (zp_M (zp_sA P 264 i.toNatClampNeg x), n)) := ⟨zp_al (t := 0) (by decide +kernel) (by decide), fun _ => zp_ldI (by decide +kernel), fun _ _ => zp_stI (by decide +kernel)⟩
theorem zp_o265 (P : zp) (n : Nat × Nat) : zk_al (zp_M P, n) 265 = some 6 ∧ (∀ i : Int32, zk_ldI (zp_M P, n) 265 i = if i < 0 ∨ 6 ≤ i.toNatClampNeg then none else some (P.2.1 265 i.toNatClampNeg)) ∧ (∀ i x : Int32, zk_stI (zp_M P, n) 265 i x = if i < 0 ∨ 6 ≤ i.toNatClampNeg then none else some (zp_M (zp_sA P 265 i.toNatClampNeg x), n)) := ⟨zp_al (t := 0) (by decide +kernel) (by decide), fun _ => zp_ldI (by decide +kernel), fun _ _ => zp_stI (by decide +kernel)⟩
theorem zp_o266 (P : zp) (n : Nat × Nat) : zk_gR (zp_M P, n) 266 5 0 = some 26 ∧ zk_gR (zp_M P, n) 266 5 1 = some 33 ∧ zk_gR (zp_M P, n) 266 5 2 = some 267 ∧ zk_gI (zp_M P, n) 266 5 3 = some (P.1 266 3) ∧ (∀ x : Int32, zk_pf (zp_M P, n) 266 5 3 (.int x) = some (zp_M (zp_sF P 266 3 x), n)) ∧ zk_gI (zp_M P, n) 266 5 4 = some (P.1 266 4) ∧ (∀ x : Int32, zk_pf (zp_M P, n) 266 5 4 (.int x) = some (zp_M (zp_sF P 266 4 x), n)) ∧ zk_rv (zp_M P, n) 266 5 = some () := ⟨zp_gR (by decide +kernel), zp_gR (by decide +kernel), zp_gR (by decide +kernel), zp_gI (by decide +kernel), fun _ => zp_pI (by decide +kernel), zp_gI (by decide +kernel), fun _ => zp_pI (by decide +kernel), zp_rv (by decide +kernel)⟩
theorem zp_o267 (P : zp) (n : Nat × Nat) : zk_al (zp_M P, n) 267 = some 36 ∧ (∀ i : Int32, zk_ldI (zp_M P, n) 267 i = if i < 0 ∨ 36 ≤ i.toNatClampNeg then none else some (P.2.1 267 i.toNatClampNeg)) ∧ (∀ i x : Int32, zk_stI (zp_M P, n) 267 i x = if i < 0 ∨ 36 ≤ i.toNatClampNeg then none else some (zp_M (zp_sA P 267 i.toNatClampNeg x), n)) := ⟨zp_al (t := 0) (by decide +kernel) (by decide), fun _ => zp_ldI (by decide +kernel), fun _ _ => zp_stI (by decide +kernel)⟩
theorem zp_o268 (P : zp) (n : Nat × Nat) : zk_al (zp_M P, n) 268 = some 5 ∧ (∀ i : Int32, zk_ldI (zp_M P, n) 268 i = if i < 0 ∨ 5 ≤ i.toNatClampNeg then none else some (P.2.1 268 i.toNatClampNeg)) ∧ (∀ i x : Int32, zk_stI (zp_M P, n) 268 i x = if i < 0 ∨ 5 ≤ i.toNatClampNeg then none else some (zp_M (zp_sA P 268 i.toNatClampNeg x), n)) := ⟨zp_al (t := 0) (by decide +kernel) (by decide), fun _ => zp_ldI (by decide +kernel), fun _ _ => zp_stI (by decide +kernel)⟩
theorem zp_o269 (P : zp) (n : Nat × Nat) : zk_gI (zp_M P, n) 269 12 0 = some (P.1 269 0) ∧ (∀ x : Int32, zk_pf (zp_M P, n) 269 12 0 (.int x) = some (zp_M (zp_sF P 269 0 x), n)) ∧ zk_gR (zp_M P, n) 269 12 1 = some 270 ∧ zk_gI (zp_M P, n) 269 12 2 = some (P.1 269 2) ∧ (∀ x : Int32, zk_pf (zp_M P, n) 269 12 2 (.int x) = some (zp_M (zp_sF P 269 2 x), n)) ∧ zk_gI (zp_M P, n) 269 12 3 = some (P.1 269 3) ∧ (∀ x : Int32, zk_pf (zp_M P, n) 269 12 3 (.int x) = some (zp_M (zp_sF P 269 3 x), n)) ∧ zk_gI (zp_M P, n) 269 12 4 = some (P.1 269 4) ∧ (∀ x : Int32, zk_pf (zp_M P, n) 269 12 4 (.int x) = some (zp_M (zp_sF P 269 4 x), n)) ∧ zk_gI (zp_M P, n) 269 12 5 = some (P.1 269 5) ∧ (∀ x : Int32, zk_pf (zp_M P, n) 269 12 5 (.int x) = some (zp_M (zp_sF P 269 5 x), n)) ∧ zk_gR (zp_M P, n) 269 12 6 = some 271 ∧ zk_gR (zp_M P, n) 269 12 7 = some 272 ∧ zk_gR (zp_M P, n) 269 12 8 = some 273 ∧ zk_gR (zp_M P, n) 269 12 9 = some 274 ∧ zk_gR (zp_M P, n) 269 12 10 = some 275 ∧ zk_gR (zp_M P, n) 269 12 11 = some 276 ∧ zk_gR (zp_M P, n) 269 12 12 = some 277 ∧ zk_gI (zp_M P, n) 269 12 13 = some (P.1 269 13) ∧ (∀ x : Int32, zk_pf (zp_M P, n) 269 12 13 (.int x) = some (zp_M (zp_sF P 269 13 x), n)) ∧ zk_gI (zp_M P, n) 269 12 14 = some (P.1 269 14) ∧ (∀ x : Int32, zk_pf (zp_M P, n) 269 12 14 (.int x) = some (zp_M (zp_sF P 269 14 x), n)) ∧ zk_gR (zp_M P, n) 269 12 15 = some 278 ∧ zk_gR (zp_M P, n) 269 12 16 = some 279 ∧ zk_gR (zp_M P, n) 269 12 17 = some 280 ∧ zk_gR (zp_M P, n) 269 12 18 = some 281 ∧ zk_gR (zp_M P, n) 269 12 19 = some 282 ∧ zk_gI (zp_M P, n) 269 12 20 = some (P.1 269 20) ∧ (∀ x : Int32, zk_pf (zp_M P, n) 269 12 20 (.int x) = some (zp_M (zp_sF P 269 20 x), n)) ∧ zk_gI (zp_M P, n) 269 12 21 = some (P.1 269 21) ∧ (∀ x : Int32, zk_pf (zp_M P, n) 269 12 21 (.int x) = some (zp_M (zp_sF P 269 21 x), n)) ∧ zk_gR (zp_M P, n) 269 12 22 = some 283 ∧ zk_gR (zp_M P, n) 269 12 23 = some 284 ∧ zk_gR (zp_M P, n) 269 12 24 = some 285 ∧ zk_gI (zp_M P, n) 269 12 25 = some (P.1 269 25) ∧ (∀ x : Int32, zk_pf (zp_M P, n) 269 12 25 (.int x) = some (zp_M (zp_sF P 269 25 x), n)) ∧ zk_gI (zp_M P, n) 269 12 26 = some (P.1 269 26) ∧ (∀ x : Int32, zk_pf (zp_M P, n) 269 12 26 (.int x) = some (zp_M (zp_sF P 269 26 x), n)) ∧ zk_gR (zp_M P, n) 269 12 27 = some 286 ∧ zk_gR (zp_M P, n) 269 12 28 = some 287 ∧ zk_gI (zp_M P, n) 269 12 29 = some (P.1 269 29) ∧ (∀ x : Int32, zk_pf (zp_M P, n) 269 12 29 (.int x) = some (zp_M (zp_sF P 269 29 x), n)) ∧ zk_gI (zp_M P, n) 269 12 30 = some (P.1 269 30) ∧ (∀ x : Int32, zk_pf (zp_M P, n) 269 12 30 (.int x) = some (zp_M (zp_sF P 269 30 x), n)) ∧ zk_gR (zp_M P, n) 269 12 31 = some 288 ∧ zk_gI (zp_M P, n) 269 12 32 = some (P.1 269 32) ∧ (∀ x : Int32, zk_pf (zp_M P, n) 269 12 32 (.int x) = some (zp_M (zp_sF P 269 32 x), n)) ∧ zk_gR (zp_M P, n) 269 12 33 = some 289 ∧ zk_gI (zp_M P, n) 269 12 34 = some (P.1 269 34) ∧ (∀ x : Int32, zk_pf (zp_M P, n) 269 12 34 (.int x) = some (zp_M (zp_sF P 269 34 x), n)) ∧ zk_gL (zp_M P, n) 269 12 35 = some (P.2.2.1 269 35) ∧ (∀ x : Int64, zk_pf (zp_M P, n) 269 12 35 (.long x) = some (zp_M (zp_sJ P 269 35 x), n)) ∧ zk_gR (zp_M P, n) 269 12 36 = some 290 ∧ zk_gI (zp_M P, n) 269 12 37 = some (P.1 269 37) ∧ (∀ x : Int32, zk_pf (zp_M P, n) 269 12 37 (.int x) = some (zp_M (zp_sF P 269 37 x), n)) ∧ zk_gI (zp_M P, n) 269 12 38 = some (P.1 269 38) ∧ (∀ x : Int32, zk_pf (zp_M P, n) 269 12 38 (.int x) = some (zp_M (zp_sF P 269 38 x), n)) ∧ zk_gR (zp_M P, n) 269 12 39 = some 291 ∧ zk_gI (zp_M P, n) 269 12 40 = some (P.1 269 40) ∧ (∀ x : Int32, zk_pf (zp_M P, n) 269 12 40 (.int x) = some (zp_M (zp_sF P 269 40 x), n)) ∧ zk_gI (zp_M P, n) 269 12 41 = some (P.1 269 41) ∧ (∀ x : Int32, zk_pf (zp_M P, n) 269 12 41 (.int x) = some (zp_M (zp_sF P 269 41 x), n)) ∧ zk_gR (zp_M P, n) 269 12 42 = some 292 ∧ zk_gR (zp_M P, n) 269 12 43 = some 293 ∧ zk_gR (zp_M P, n) 269 12 44 = some 294 ∧ zk_gR (zp_M P, n) 269 12 45 = some 295 ∧ zk_gI (zp_M P, n) 269 12 46 = some (P.1 269 46) ∧ (∀ x : Int32, zk_pf (zp_M P, n) 269 12 46 (.int x) = some (zp_M (zp_sF P 269 46 x), n)) ∧ zk_gR (zp_M P, n) 269 12 47 = some 296 ∧ zk_gR (zp_M P, n) 269 12 48 = some 297 ∧ zk_gR (zp_M P, n) 269 12 49 = some 298 ∧ zk_gI (zp_M P, n) 269 12 50 = some (P.1 269 50) ∧ (∀ x : Int32, zk_pf (zp_M P, n) 269 12 50 (.int x) = some (zp_M (zp_sF P 269 50 x), n)) ∧ zk_rv (zp_M P, n) 269 12 = some () := ⟨zp_gI (by decide +kernel), fun _ => zp_pI (by decide +kernel), zp_gR (by decide +kernel), zp_gI (by decide +kernel), fun _ => zp_pI (by decide +kernel), zp_gI (by decide +kernel), fun _ => zp_pI (by decide +kernel), zp_gI (by decide +kernel), fun _ => zp_pI (by decide +kernel), zp_gI (by decide +kernel), fun _ => zp_pI (by decide +kernel), zp_gR (by decide +kernel), zp_gR (by decide +kernel), zp_gR (by decide +kernel), zp_gR (by decide +kernel), zp_gR (by decide +kernel), zp_gR (by decide +kernel), zp_gR (by decide +kernel), zp_gI (by decide +kernel), fun _ => zp_pI (by decide +kernel), zp_gI (by decide +kernel), fun _ => zp_pI (by decide +kernel), zp_gR (by decide +kernel), zp_gR (by decide +kernel), zp_gR (by decide +kernel), zp_gR (by decide +kernel), zp_gR (by decide +kernel), zp_gI (by decide +kernel), fun _ => zp_pI (by decide +kernel), zp_gI (by decide +kernel), fun _ => zp_pI (by decide +kernel), zp_gR (by decide +kernel), zp_gR (by decide +kernel), zp_gR (by decide +kernel), zp_gI (by decide +kernel), fun _ => zp_pI (by decide +kernel), zp_gI (by decide +kernel), fun _ => zp_pI (by decide +kernel), zp_gR (by decide +kernel), zp_gR (by decide +kernel), zp_gI (by decide +kernel), fun _ => zp_pI (by decide +kernel), zp_gI (by decide +kernel), fun _ => zp_pI (by decide +kernel), zp_gR (by decide +kernel), zp_gI (by decide +kernel), fun _ => zp_pI (by decide +kernel), zp_gR (by decide +kernel), zp_gI (by decide +kernel), fun _ => zp_pI (by decide +kernel), zp_gL (by decide +kernel), fun _ => zp_pL (by decide +kernel), zp_gR (by decide +kernel), zp_gI (by decide +kernel), fun _ => zp_pI (by decide +kernel), zp_gI (by decide +kernel), fun _ => zp_pI (by decide +kernel), zp_gR (by decide +kernel), zp_gI (by decide +kernel), fun _ => zp_pI (by decide +kernel), zp_gI (by decide +kernel), fun _ => zp_pI (by decide +kernel), zp_gR (by decide +kernel), zp_gR (by decide +kernel), zp_gR (by decide +kernel), zp_gR (by decide +kernel), zp_gI (by decide +kernel), fun _ => zp_pI (by decide +kernel), zp_gR (by decide +kernel), zp_gR (by decide +kernel), zp_gR (by decide +kernel), zp_gI (by decide +kernel), fun _ => zp_pI (by decide +kernel), zp_rv (by decide +kernel)⟩
theorem zp_o270 (P : zp) (n : Nat × Nat) : zk_al (zp_M P, n) 270 = some 240 ∧ (∀ i : Int32, zk_ldI (zp_M P, n) 270 i = if i < 0 ∨ 240 ≤ i.toNatClampNeg then none else some (P.2.1 270 i.toNatClampNeg)) ∧ (∀ i x : Int32, zk_stI (zp_M P, n) 270 i x = if i < 0 ∨ 240 ≤ i.toNatClampNeg then none else some (zp_M (zp_sA P 270 i.toNatClampNeg x), n)) := ⟨zp_al (t := 0) (by decide +kernel) (by decide), fun _ => zp_ldI (by decide +kernel), fun _ _ => zp_stI (by decide +kernel)⟩
theorem zp_o271 (P : zp) (n : Nat × Nat) : zk_al (zp_M P, n) 271 = some 2600 ∧ (∀ i : Int32, zk_ldI (zp_M P, n) 271 i = if i < 0 ∨ 2600 ≤ i.toNatClampNeg then none else some (P.2.1 271 i.toNatClampNeg)) ∧ (∀ i x : Int32, zk_stI (zp_M P, n) 271 i x = if i < 0 ∨ 2600 ≤ i.toNatClampNeg then none else some (zp_M (zp_sA P 271 i.toNatClampNeg x), n)) := ⟨zp_al (t := 0) (by decide +kernel) (by decide), fun _ => zp_ldI (by decide +kernel), fun _ _ => zp_stI (by decide +kernel)⟩
theorem zp_o272 (P : zp) (n : Nat × Nat) : zk_al (zp_M P, n) 272 = some 2600 ∧ (∀ i : Int32, zk_ldI (zp_M P, n) 272 i = if i < 0 ∨ 2600 ≤ i.toNatClampNeg then none else some (P.2.1 272 i.toNatClampNeg)) ∧ (∀ i x : Int32, zk_stI (zp_M P, n) 272 i x = if i < 0 ∨ 2600 ≤ i.toNatClampNeg then none else some (zp_M (zp_sA P 272 i.toNatClampNeg x), n)) := ⟨zp_al (t := 0) (by decide +kernel) (by decide), fun _ => zp_ldI (by decide +kernel), fun _ _ => zp_stI (by decide +kernel)⟩
theorem zp_o273 (P : zp) (n : Nat × Nat) : zk_al (zp_M P, n) 273 = some 5 ∧ (∀ i : Int32, zk_ldI (zp_M P, n) 273 i = if i < 0 ∨ 5 ≤ i.toNatClampNeg then none else some (P.2.1 273 i.toNatClampNeg)) ∧ (∀ i x : Int32, zk_stI (zp_M P, n) 273 i x = if i < 0 ∨ 5 ≤ i.toNatClampNeg then none else some (zp_M (zp_sA P 273 i.toNatClampNeg x), n)) := ⟨zp_al (t := 0) (by decide +kernel) (by decide), fun _ => zp_ldI (by decide +kernel), fun _ _ => zp_stI (by decide +kernel)⟩
theorem zp_o274 (P : zp) (n : Nat × Nat) : zk_al (zp_M P, n) 274 = some 5 ∧ (∀ i : Int32, zk_ldI (zp_M P, n) 274 i = if i < 0 ∨ 5 ≤ i.toNatClampNeg then none else some (P.2.1 274 i.toNatClampNeg)) ∧ (∀ i x : Int32, zk_stI (zp_M P, n) 274 i x = if i < 0 ∨ 5 ≤ i.toNatClampNeg then none else some (zp_M (zp_sA P 274 i.toNatClampNeg x), n)) := ⟨zp_al (t := 0) (by decide +kernel) (by decide), fun _ => zp_ldI (by decide +kernel), fun _ _ => zp_stI (by decide +kernel)⟩
theorem zp_o275 (P : zp) (n : Nat × Nat) : zk_al (zp_M P, n) 275 = some 700 ∧ (∀ i : Int32, zk_ldI (zp_M P, n) 275 i = if i < 0 ∨ 700 ≤ i.toNatClampNeg then none else some (P.2.1 275 i.toNatClampNeg)) ∧ (∀ i x : Int32, zk_stI (zp_M P, n) 275 i x = if i < 0 ∨ 700 ≤ i.toNatClampNeg then none else some (zp_M (zp_sA P 275 i.toNatClampNeg x), n)) := ⟨zp_al (t := 0) (by decide +kernel) (by decide), fun _ => zp_ldI (by decide +kernel), fun _ _ => zp_stI (by decide +kernel)⟩
theorem zp_o276 (P : zp) (n : Nat × Nat) : zk_al (zp_M P, n) 276 = some 700 ∧ (∀ i : Int32, zk_ldI (zp_M P, n) 276 i = if i < 0 ∨ 700 ≤ i.toNatClampNeg then none else some (P.2.1 276 i.toNatClampNeg)) ∧ (∀ i x : Int32, zk_stI (zp_M P, n) 276 i x = if i < 0 ∨ 700 ≤ i.toNatClampNeg then none else some (zp_M (zp_sA P 276 i.toNatClampNeg x), n)) := ⟨zp_al (t := 0) (by decide +kernel) (by decide), fun _ => zp_ldI (by decide +kernel), fun _ _ => zp_stI (by decide +kernel)⟩
theorem zp_o277 (P : zp) (n : Nat × Nat) : zk_al (zp_M P, n) 277 = some 700 ∧ (∀ i : Int32, zk_ldI (zp_M P, n) 277 i = if i < 0 ∨ 700 ≤ i.toNatClampNeg then none else some (P.2.1 277 i.toNatClampNeg)) ∧ (∀ i x : Int32, zk_stI (zp_M P, n) 277 i x = if i < 0 ∨ 700 ≤ i.toNatClampNeg then none else some (zp_M (zp_sA P 277 i.toNatClampNeg x), n)) := ⟨zp_al (t := 0) (by decide +kernel) (by decide), fun _ => zp_ldI (by decide +kernel), fun _ _ => zp_stI (by decide +kernel)⟩
theorem zp_o278 (P : zp) (n : Nat × Nat) : zk_al (zp_M P, n) 278 = some 6 ∧ (∀ i : Int32, zk_ldI (zp_M P, n) 278 i = if i < 0 ∨ 6 ≤ i.toNatClampNeg then none else some (P.2.1 278 i.toNatClampNeg)) ∧ (∀ i x : Int32, zk_stI (zp_M P, n) 278 i x = if i < 0 ∨ 6 ≤ i.toNatClampNeg then none else some (zp_M (zp_sA P 278 i.toNatClampNeg x), n)) := ⟨zp_al (t := 0) (by decide +kernel) (by decide), fun _ => zp_ldI (by decide +kernel), fun _ _ => zp_stI (by decide +kernel)⟩
theorem zp_o279 (P : zp) (n : Nat × Nat) : zk_al (zp_M P, n) 279 = some 80 ∧ (∀ i : Int32, zk_ldI (zp_M P, n) 279 i = if i < 0 ∨ 80 ≤ i.toNatClampNeg then none else some (P.2.1 279 i.toNatClampNeg)) ∧ (∀ i x : Int32, zk_stI (zp_M P, n) 279 i x = if i < 0 ∨ 80 ≤ i.toNatClampNeg then none else some (zp_M (zp_sA P 279 i.toNatClampNeg x), n)) := ⟨zp_al (t := 0) (by decide +kernel) (by decide), fun _ => zp_ldI (by decide +kernel), fun _ _ => zp_stI (by decide +kernel)⟩
theorem zp_o280 (P : zp) (n : Nat × Nat) : zk_al (zp_M P, n) 280 = some 2 ∧ (∀ i : Int32, zk_ldI (zp_M P, n) 280 i = if i < 0 ∨ 2 ≤ i.toNatClampNeg then none else some (P.2.1 280 i.toNatClampNeg)) ∧ (∀ i x : Int32, zk_stI (zp_M P, n) 280 i x = if i < 0 ∨ 2 ≤ i.toNatClampNeg then none else some (zp_M (zp_sA P 280 i.toNatClampNeg x), n)) := ⟨zp_al (t := 0) (by decide +kernel) (by decide), fun _ => zp_ldI (by decide +kernel), fun _ _ => zp_stI (by decide +kernel)⟩
theorem zp_o281 (P : zp) (n : Nat × Nat) : zk_al (zp_M P, n) 281 = some 18 ∧ (∀ i : Int32, zk_ldI (zp_M P, n) 281 i = if i < 0 ∨ 18 ≤ i.toNatClampNeg then none else some (P.2.1 281 i.toNatClampNeg)) ∧ (∀ i x : Int32, zk_stI (zp_M P, n) 281 i x = if i < 0 ∨ 18 ≤ i.toNatClampNeg then none else some (zp_M (zp_sA P 281 i.toNatClampNeg x), n)) := ⟨zp_al (t := 0) (by decide +kernel) (by decide), fun _ => zp_ldI (by decide +kernel), fun _ _ => zp_stI (by decide +kernel)⟩
theorem zp_o282 (P : zp) (n : Nat × Nat) : zk_al (zp_M P, n) 282 = some 24 ∧ (∀ i : Int32, zk_ldI (zp_M P, n) 282 i = if i < 0 ∨ 24 ≤ i.toNatClampNeg then none else some (P.2.1 282 i.toNatClampNeg)) ∧ (∀ i x : Int32, zk_stI (zp_M P, n) 282 i x = if i < 0 ∨ 24 ≤ i.toNatClampNeg then none else some (zp_M (zp_sA P 282 i.toNatClampNeg x), n)) := ⟨zp_al (t := 0) (by decide +kernel) (by decide), fun _ => zp_ldI (by decide +kernel), fun _ _ => zp_stI (by decide +kernel)⟩
theorem zp_o283 (P : zp) (n : Nat × Nat) : zk_al (zp_M P, n) 283 = some 2 ∧ (∀ i : Int32, zk_ldI (zp_M P, n) 283 i = if i < 0 ∨ 2 ≤ i.toNatClampNeg then none else some (P.2.1 283 i.toNatClampNeg)) ∧ (∀ i x : Int32, zk_stI (zp_M P, n) 283 i x = if i < 0 ∨ 2 ≤ i.toNatClampNeg then none else some (zp_M (zp_sA P 283 i.toNatClampNeg x), n)) := ⟨zp_al (t := 0) (by decide +kernel) (by decide), fun _ => zp_ldI (by decide +kernel), fun _ _ => zp_stI (by decide +kernel)⟩
theorem zp_o284 (P : zp) (n : Nat × Nat) : zk_al (zp_M P, n) 284 = some 18 ∧ (∀ i : Int32, zk_ldI (zp_M P, n) 284 i = if i < 0 ∨ 18 ≤ i.toNatClampNeg then none else some (P.2.1 284 i.toNatClampNeg)) ∧ (∀ i x : Int32, zk_stI (zp_M P, n) 284 i x = if i < 0 ∨ 18 ≤ i.toNatClampNeg then none else some (zp_M (zp_sA P 284 i.toNatClampNeg x), n)) := ⟨zp_al (t := 0) (by decide +kernel) (by decide), fun _ => zp_ldI (by decide +kernel), fun _ _ => zp_stI (by decide +kernel)⟩
theorem zp_o285 (P : zp) (n : Nat × Nat) : zk_al (zp_M P, n) 285 = some 24 ∧ (∀ i : Int32, zk_ldI (zp_M P, n) 285 i = if i < 0 ∨ 24 ≤ i.toNatClampNeg then none else some (P.2.1 285 i.toNatClampNeg)) ∧ (∀ i x : Int32, zk_stI (zp_M P, n) 285 i x = if i < 0 ∨ 24 ≤ i.toNatClampNeg then none else some (zp_M (zp_sA P 285 i.toNatClampNeg x), n)) := ⟨zp_al (t := 0) (by decide +kernel) (by decide), fun _ => zp_ldI (by decide +kernel), fun _ _ => zp_stI (by decide +kernel)⟩
theorem zp_o286 (P : zp) (n : Nat × Nat) : zk_al (zp_M P, n) 286 = some 221 ∧ (∀ i : Int32, zk_ldI (zp_M P, n) 286 i = if i < 0 ∨ 221 ≤ i.toNatClampNeg then none else some (P.2.1 286 i.toNatClampNeg)) ∧ (∀ i x : Int32, zk_stI (zp_M P, n) 286 i x = if i < 0 ∨ 221 ≤ i.toNatClampNeg then none else some (zp_M (zp_sA P 286 i.toNatClampNeg x), n)) := ⟨zp_al (t := 0) (by decide +kernel) (by decide), fun _ => zp_ldI (by decide +kernel), fun _ _ => zp_stI (by decide +kernel)⟩
theorem zp_o287 (P : zp) (n : Nat × Nat) : zk_al (zp_M P, n) 287 = some 5 ∧ (∀ i : Int32, zk_ldI (zp_M P, n) 287 i = if i < 0 ∨ 5 ≤ i.toNatClampNeg then none else some (P.2.1 287 i.toNatClampNeg)) ∧ (∀ i x : Int32, zk_stI (zp_M P, n) 287 i x = if i < 0 ∨ 5 ≤ i.toNatClampNeg then none else some (zp_M (zp_sA P 287 i.toNatClampNeg x), n)) := ⟨zp_al (t := 0) (by decide +kernel) (by decide), fun _ => zp_ldI (by decide +kernel), fun _ _ => zp_stI (by decide +kernel)⟩
theorem zp_o288 (P : zp) (n : Nat × Nat) : zk_al (zp_M P, n) 288 = some 6 ∧ (∀ i : Int32, zk_ldI (zp_M P, n) 288 i = if i < 0 ∨ 6 ≤ i.toNatClampNeg then none else some (P.2.1 288 i.toNatClampNeg)) ∧ (∀ i x : Int32, zk_stI (zp_M P, n) 288 i x = if i < 0 ∨ 6 ≤ i.toNatClampNeg then none else some (zp_M (zp_sA P 288 i.toNatClampNeg x), n)) := ⟨zp_al (t := 0) (by decide +kernel) (by decide), fun _ => zp_ldI (by decide +kernel), fun _ _ => zp_stI (by decide +kernel)⟩
theorem zp_o289 (P : zp) (n : Nat × Nat) : zk_al (zp_M P, n) 289 = some 8840 ∧ (∀ i : Int32, zk_ldI (zp_M P, n) 289 i = if i < 0 ∨ 8840 ≤ i.toNatClampNeg then none else some (P.2.1 289 i.toNatClampNeg)) ∧ (∀ i x : Int32, zk_stI (zp_M P, n) 289 i x = if i < 0 ∨ 8840 ≤ i.toNatClampNeg then none else some (zp_M (zp_sA P 289 i.toNatClampNeg x), n)) := ⟨zp_al (t := 0) (by decide +kernel) (by decide), fun _ => zp_ldI (by decide +kernel), fun _ _ => zp_stI (by decide +kernel)⟩
theorem zp_o290 (P : zp) (n : Nat × Nat) : zk_al (zp_M P, n) 290 = some 320 ∧ (∀ i : Int32, zk_ldI (zp_M P, n) 290 i = if i < 0 ∨ 320 ≤ i.toNatClampNeg then none else some (P.2.1 290 i.toNatClampNeg)) ∧ (∀ i x : Int32, zk_stI (zp_M P, n) 290 i x = if i < 0 ∨ 320 ≤ i.toNatClampNeg then none else some (zp_M (zp_sA P 290 i.toNatClampNeg x), n)) := ⟨zp_al (t := 0) (by decide +kernel) (by decide), fun _ => zp_ldI (by decide +kernel), fun _ _ => zp_stI (by decide +kernel)⟩
theorem zp_o291 (P : zp) (n : Nat × Nat) : zk_al (zp_M P, n) 291 = some 6 ∧ (∀ i : Int32, zk_ldI (zp_M P, n) 291 i = if i < 0 ∨ 6 ≤ i.toNatClampNeg then none else some (P.2.1 291 i.toNatClampNeg)) ∧ (∀ i x : Int32, zk_stI (zp_M P, n) 291 i x = if i < 0 ∨ 6 ≤ i.toNatClampNeg then none else some (zp_M (zp_sA P 291 i.toNatClampNeg x), n)) := ⟨zp_al (t := 0) (by decide +kernel) (by decide), fun _ => zp_ldI (by decide +kernel), fun _ _ => zp_stI (by decide +kernel)⟩
theorem zp_o292 (P : zp) (n : Nat × Nat) : zk_al (zp_M P, n) 292 = some 10 ∧ (∀ i : Int32, zk_ldI (zp_M P, n) 292 i = if i < 0 ∨ 10 ≤ i.toNatClampNeg then none else some (P.2.1 292 i.toNatClampNeg)) ∧ (∀ i x : Int32, zk_stI (zp_M P, n) 292 i x = if i < 0 ∨ 10 ≤ i.toNatClampNeg then none else some (zp_M (zp_sA P 292 i.toNatClampNeg x), n)) := ⟨zp_al (t := 0) (by decide +kernel) (by decide), fun _ => zp_ldI (by decide +kernel), fun _ _ => zp_stI (by decide +kernel)⟩
theorem zp_o293 (P : zp) (n : Nat × Nat) : zk_al (zp_M P, n) 293 = some 10 ∧ (∀ i : Int32, zk_ldI (zp_M P, n) 293 i = if i < 0 ∨ 10 ≤ i.toNatClampNeg then none else some (P.2.1 293 i.toNatClampNeg)) ∧ (∀ i x : Int32, zk_stI (zp_M P, n) 293 i x = if i < 0 ∨ 10 ≤ i.toNatClampNeg then none else some (zp_M (zp_sA P 293 i.toNatClampNeg x), n)) := ⟨zp_al (t := 0) (by decide +kernel) (by decide), fun _ => zp_ldI (by decide +kernel), fun _ _ => zp_stI (by decide +kernel)⟩
theorem zp_o294 (P : zp) (n : Nat × Nat) : zk_al (zp_M P, n) 294 = some 10 ∧ (∀ i : Int32, zk_ldI (zp_M P, n) 294 i = if i < 0 ∨ 10 ≤ i.toNatClampNeg then none else some (P.2.1 294 i.toNatClampNeg)) ∧ (∀ i x : Int32, zk_stI (zp_M P, n) 294 i x = if i < 0 ∨ 10 ≤ i.toNatClampNeg then none else some (zp_M (zp_sA P 294 i.toNatClampNeg x), n)) := ⟨zp_al (t := 0) (by decide +kernel) (by decide), fun _ => zp_ldI (by decide +kernel), fun _ _ => zp_stI (by decide +kernel)⟩
theorem zp_o295 (P : zp) (n : Nat × Nat) : zk_al (zp_M P, n) 295 = some 10 ∧ (∀ i : Int32, zk_ldB (zp_M P, n) 295 i = if i < 0 ∨ 10 ≤ i.toNatClampNeg then none else some (P.2.1 295 i.toNatClampNeg)) ∧ (∀ i x : Int32, zk_stZ (zp_M P, n) 295 i x = if i < 0 ∨ 10 ≤ i.toNatClampNeg then none else some (zp_M (zp_sA P 295 i.toNatClampNeg (x &&& 1)), n)) := ⟨zp_al (t := 2) (by decide +kernel) (by decide), fun _ => zp_ldB (by decide +kernel), fun _ _ => zp_stZ (by decide +kernel)⟩
theorem zp_o296 (P : zp) (n : Nat × Nat) : zk_al (zp_M P, n) 296 = some 60 ∧ (∀ i : Int32, zk_ldI (zp_M P, n) 296 i = if i < 0 ∨ 60 ≤ i.toNatClampNeg then none else some (P.2.1 296 i.toNatClampNeg)) ∧ (∀ i x : Int32, zk_stI (zp_M P, n) 296 i x = if i < 0 ∨ 60 ≤ i.toNatClampNeg then none else some (zp_M (zp_sA P 296 i.toNatClampNeg x), n)) := ⟨zp_al (t := 0) (by decide +kernel) (by decide), fun _ => zp_ldI (by decide +kernel), fun _ _ => zp_stI (by decide +kernel)⟩
theorem zp_o297 (P : zp) (n : Nat × Nat) : zk_al (zp_M P, n) 297 = some 10 ∧ (∀ i : Int32, zk_ldI (zp_M P, n) 297 i = if i < 0 ∨ 10 ≤ i.toNatClampNeg then none else some (P.2.1 297 i.toNatClampNeg)) ∧ (∀ i x : Int32, zk_stI (zp_M P, n) 297 i x = if i < 0 ∨ 10 ≤ i.toNatClampNeg then none else some (zp_M (zp_sA P 297 i.toNatClampNeg x), n)) := ⟨zp_al (t := 0) (by decide +kernel) (by decide), fun _ => zp_ldI (by decide +kernel), fun _ _ => zp_stI (by decide +kernel)⟩
theorem zp_o298 (P : zp) (n : Nat × Nat) : zk_al (zp_M P, n) 298 = some 221 ∧ (∀ i : Int32, zk_ldI (zp_M P, n) 298 i = if i < 0 ∨ 221 ≤ i.toNatClampNeg then none else some (P.2.1 298 i.toNatClampNeg)) ∧ (∀ i x : Int32, zk_stI (zp_M P, n) 298 i x = if i < 0 ∨ 221 ≤ i.toNatClampNeg then none else some (zp_M (zp_sA P 298 i.toNatClampNeg x), n)) := ⟨zp_al (t := 0) (by decide +kernel) (by decide), fun _ => zp_ldI (by decide +kernel), fun _ _ => zp_stI (by decide +kernel)⟩
theorem zp_o299 (P : zp) (n : Nat × Nat) : zk_al (zp_M P, n) 299 = some 1 := zp_al (t := 3) (by decide +kernel) (by decide)
