/-! SPECS 3: rows and stands copied, a stand begun -/
/-- a loop up to its end -/
theorem zl_go {α ρ : Type} {m : Nat} {L : Nat → α → ρ} {g : Nat → α → α} (hs : ∀ i a, i < m → L i a = L (i + 1) (g i a)) (a : α) : L 0 a = L m ((List.range m).foldl (fun a i => g i a) a) := by
  have key : ∀ (j i : Nat) (a : α), i + j = m → L i a = L m ((List.range' i j).foldl (fun a i => g i a) a) := by
    intro j
    induction j with
    | zero => intro i a h; rw [show i = m by omega]; rfl
    | succ j ih =>
      intro i a h
      rw [hs i a (by omega), ih (i + 1) (g i a) (by omega)]
      rfl
  rw [List.range_eq_range']
  exact key m 0 a (by omega)
section
variable {P : zp} {n : Nat × Nat} {b d : Nat}
theorem zp_ldi {k m i : Nat} (h : zp_ad k = (0, m)) (hi : i < m) (hm : m < 2 ^ 31) : zk_ldI (zp_M P, n) k (zi i) = some (P.2.1 k i) := by
  rw [zp_ldI h, zi_c (by omega), if_neg (fun z => z.elim (zi_n (by omega)) (fun z => by omega))]
theorem zp_sti {k m i : Nat} {x : Int32} (h : zp_ad k = (0, m)) (hi : i < m) (hm : m < 2 ^ 31) : zk_stI (zp_M P, n) k (zi i) x = some (zp_M (zp_sA P k i x), n) := by
  rw [zp_stI h, zi_c (by omega), if_neg (fun z => z.elim (zi_n (by omega)) (fun z => by omega))]
theorem zi_nI {i m : Nat} (hi : i < 2 ^ 31) (hm : m < 2 ^ 31) : zi i < nI m ↔ i < m := by
  rw [zp_nI hm (zi_n hi), zi_c hi]
def zq_cp (P : zp) (a c m : Nat) : zp := (List.range m).foldl (fun P i => zp_sA P c i (P.2.1 a i)) P
theorem zs_copyRow {a c m : Nat} (ha : zp_ad a = (0, m)) (hc : zp_ad c = (0, m)) (hm : m < 2 ^ 31) : zk_sm d m_SaddlerKnows_copyRow [.ref a, .ref c] (zp_M P, n) = some (none, (zp_M (zq_cp P a c m), n)) := by
  rw [e_SaddlerKnows_copyRow]
  refine zl_fold (L := fun i P => zk_sf d m_SaddlerKnows_copyRow 2 [.ref a, .ref c, .int (zi i)] [] (zp_M P, n)) (g := fun i P => zp_sA P c i (P.2.1 a i)) (fin := fun P => (none, (zp_M P, n))) (m := m) (fun i P hi => ?_) (fun P => ?_) P
  · show zk_sf d m_SaddlerKnows_copyRow 2 [.ref a, .ref c, .int (zi i)] [] (zp_M P, n) = _
    rw [e_SaddlerKnows_copyRow_2, zp_al hc (by decide), Option.bind_some, if_pos ((zi_nI (by omega) hm).mpr hi), zp_al ha (by decide), Option.bind_some, if_pos ((zi_nI (by omega) hm).mpr hi), zp_ldi ha hi hm, Option.bind_some, zp_sti hc hi hm, Option.bind_some, zi_s]
  · show zk_sf d m_SaddlerKnows_copyRow 2 [.ref a, .ref c, .int (zi m)] [] (zp_M P, n) = _
    rw [e_SaddlerKnows_copyRow_2, zp_al hc (by decide), Option.bind_some, if_neg (fun z => absurd ((zi_nI hm hm).mp z) (by omega))]
def zq_copyA (P : zp) (b c : Nat) : zp := zq_cp (zq_cp (zq_cp (zq_cp P (c + 1) (b + 1) 8) (c + 2) (b + 2) 8) (c + 3) (b + 3) 8) (c + 4) (b + 4) 6
def zq_copyC (P : zp) (b c : Nat) : zp := zp_sF P b 4 (P.1 c 4)
def zq_copyW (P : zp) (b c : Nat) : zp := zp_sF P b 5 (P.1 c 5)
/-- the stand c copied into b -/
def zq_copy (P : zp) (b c : Nat) : zp := zq_copyW (zq_copyC (zq_copyA P b c) b c) b c
theorem zs_copy {c : Nat} (h : zp_sb b) (h' : zp_sb c) : zk_sm (d + 1) m_Stand_copy [.ref b, .ref c] (zp_M P, n) = some (none, (zp_M (zq_copy P b c), n)) := by
  obtain ⟨-, q1, q2, q3, q4⟩ := zp_sb_t h
  obtain ⟨-, p1, p2, p3, p4⟩ := zp_sb_t h'
  rw [e_Stand_copy, zp_s0 h', Option.bind_some, zp_s0 h, Option.bind_some, zs_copyRow p1 q1 (by decide), zs_cV, Option.bind_some, zp_s1 h', Option.bind_some, zp_s1 h, Option.bind_some, zs_copyRow p2 q2 (by decide), zs_cV, Option.bind_some, zp_s2 h', Option.bind_some, zp_s2 h, Option.bind_some, zs_copyRow p3 q3 (by decide), zs_cV, Option.bind_some, zp_s3 h', Option.bind_some, zp_s3 h, Option.bind_some, zs_copyRow p4 q4 (by decide), zs_cV, Option.bind_some, zp_s4 h', Option.bind_some, zp_s4p h, Option.bind_some, zp_s5 h', Option.bind_some, zp_s5p h, Option.bind_some]
  rfl
/-- a stand as told: the saddles, the galls, coins and week -/
def zq_begS (P : zp) (b : Nat) : zp := (List.range 8).foldl (fun P i => if zi i < P.1 26 3 then zq_girth P b (zi i) (P.2.1 30 i) (P.2.1 31 i) (P.2.1 32 i) else zq_girth P b (zi i) (-1) (-1) 0) P
def zq_begG (P : zp) (b : Nat) : zp := (List.range 6).foldl (fun P i => zp_sA P (b + 4) i 0) P
def zq_begC (P : zp) (b : Nat) : zp := zp_sF (zp_sF P b 4 (P.1 26 1)) b 5 0
def zq_begin (P : zp) (b : Nat) : zp := zq_begC (zq_begG (zq_begS P b) b) b
theorem zs_begin (h : zp_sb b) : zk_sm (d + 3) m_Stand_begin [.ref b, .ref 26] (zp_M P, n) = some (none, (zp_M (zq_begin P b), n)) := by
  have a30 : zp_ad 30 = (0, 8) := by decide +kernel
  have a31 : zp_ad 31 = (0, 8) := by decide +kernel
  have a32 : zp_ad 32 = (0, 8) := by decide +kernel
  rw [e_Stand_begin]
  refine (zl_go (L := fun i P => zk_sf (d + 3) m_Stand_begin 2 [.ref b, .ref 26, .int (zi i)] [] (zp_M P, n)) (g := fun i P => if zi i < P.1 26 3 then zq_girth P b (zi i) (P.2.1 30 i) (P.2.1 31 i) (P.2.1 32 i) else zq_girth P b (zi i) (-1) (-1) 0) (m := 8) (fun i P hi => ?_) P).trans ?_
  · show zk_sf (d + 3) m_Stand_begin 2 [.ref b, .ref 26, .int (zi i)] [] (zp_M P, n) = _
    rw [e_Stand_begin_2, if_pos (zi_8 hi), (zp_gI (by decide +kernel) : zk_gI (zp_M P, n) 26 10 3 = some (P.1 26 3)), Option.bind_some]
    by_cases q : zi i < P.1 26 3
    · rw [if_pos q, if_pos q, (zp_gR (by decide +kernel) : zk_gR (zp_M P, n) 26 10 7 = some 30), Option.bind_some, zs_at a30 (by decide), zs_cI, Option.bind_some, (zp_gR (by decide +kernel) : zk_gR (zp_M P, n) 26 10 8 = some 31), Option.bind_some, zs_at a31 (by decide), zs_cI, Option.bind_some, (zp_gR (by decide +kernel) : zk_gR (zp_M P, n) 26 10 9 = some 32), Option.bind_some, zs_at a32 (by decide), zs_cI, Option.bind_some, zp_sv h, Option.bind_some, zs_girth h, zs_cV, Option.bind_some, zi_s, zp_gi hi (by decide), zp_gi hi (by decide), zp_gi hi (by decide)]
    · rw [if_neg q, if_neg q, zp_sv h, Option.bind_some, zs_ungirth h, zs_cV, Option.bind_some, zi_s]
  · show zk_sf (d + 3) m_Stand_begin 2 [.ref b, .ref 26, .int (zi 8)] [] (zp_M (zq_begS P b), n) = _
    rw [e_Stand_begin_2, if_neg zi_8n]
    refine (zl_go (L := fun i P => zk_sf (d + 2 + 1) m_Stand_begin 61 [.ref b, .ref 26, .int (zi i)] [] (zp_M P, n)) (g := fun i P => zp_sA P (b + 4) i 0) (m := 6) (fun i P hi => ?_) (zq_begS P b)).trans ?_
    · show zk_sf (d + 2 + 1) m_Stand_begin 61 [.ref b, .ref 26, .int (zi i)] [] (zp_M P, n) = _
      rw [e_Stand_begin_61, if_pos (zi_6 hi), zp_s3 h, Option.bind_some, zs_put (zp_sb_t h).2.2.2.2 (by decide), zs_cV, Option.bind_some, zi_s, zp_pi hi (by decide)]
    · show zk_sf (d + 2 + 1) m_Stand_begin 61 [.ref b, .ref 26, .int (zi 6)] [] (zp_M (zq_begG (zq_begS P b) b), n) = _
      rw [e_Stand_begin_61, if_neg zi_6n, (zp_gI (by decide +kernel) : zk_gI (zp_M (zq_begG (zq_begS P b) b), n) 26 10 1 = some _), Option.bind_some, zp_s4p h, Option.bind_some, zp_s5p h, Option.bind_some]
      rfl
end
