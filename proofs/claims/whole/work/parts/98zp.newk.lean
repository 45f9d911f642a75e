/-! START 3: the two objects -/
section
variable {L : Nat} {xs : Nat → Int32}
theorem zx_gR2 {l r X : List zk_AC} {a c j q : Nat} {fs : List Value} {n : Nat × Nat} (ha : a = 12 + l.length) (hj : fs[j]? = some (.ref q)) : zk_gR (zx L xs (l ++ (zk_ob c fs :: r ++ X)), n) a c j = some q := by
  rw [List.cons_append]
  exact zx_gR ha hj
def zbK (a : Nat) : List zk_AC := zk_ob 11 [.ref (a + 1), .ref (a + 3), .ref (a + 12), .ref (a + 14), .ref (a + 21), .ref (a + 23), .ref (a + 28), .ref (a + 237), .ref (a + 248), .ref (a + 254), .ref (a + 256), .int 2, .long 0] :: (zbA (a + 1) ++ zbC (a + 3) (a + 1) ++ zbL (a + 12) (a + 1) ++ zbT (a + 14) ++ zbP (a + 21) (a + 14) ++ zbS (a + 23) ++ zbH (a + 28) ++ zbN (a + 237) (a + 14) (a + 21) ++ zbX (a + 248) (a + 21) ++ zbY (a + 254) (a + 14) (a + 21) ++ [zk_ia 0 5 zz0])
theorem zbA_l {a : Nat} : (zbA a).length = 2 := rfl
theorem zbC_l {a t : Nat} : (zbC a t).length = 9 := rfl
theorem zbL_l {a t : Nat} : (zbL a t).length = 2 := rfl
theorem zbT_l {a : Nat} : (zbT a).length = 7 := rfl
theorem zbP_l {a t : Nat} : (zbP a t).length = 2 := rfl
theorem zbS_l {a : Nat} : (zbS a).length = 5 := rfl
theorem zbN_l {a t p : Nat} : (zbN a t p).length = 11 := rfl
theorem zbX_l {a p : Nat} : (zbX a p).length = 6 := rfl
theorem zbY_l {a t p : Nat} : (zbY a t p).length = 2 := rfl
theorem zbH_l {a : Nat} : (zbH a).length = 209 := by
  unfold zbH
  rw [List.length_cons, List.length_cons, List.length_cons, List.length_append, List.length_cons, zss_l, zbS_l]
abbrev zob11 : zk_AC := zk_ob 11 [.null, .null, .null, .null, .null, .null, .null, .null, .null, .null, .null, .int 0, .long 0]
set_option maxHeartbeats 4000000 in
theorem zx_Knows {d : Nat} {l : List zk_AC} {a u : Nat} (ha : a = 12 + l.length) : zk_sm (d + 3) m_SaddlerKnows_new [.ref a] (zx L xs (l ++ [zob11]), a + 1, u) = some (none, (zx L xs (l ++ zbK a), a + 257, u + 2948)) := by
  have h := e_SaddlerKnows_new (d + 2) a (zx L xs (l ++ [zob11]), a + 1, u)
  rw [zx_nw ha] at h
  dsimp only at h
  rw [zx_sub (fun l a u ha => zx_Tape (d := d + 1) l a u ha) ha, zs_cV, Option.bind_some, List.cons_append, List.nil_append, zx_pf ha (show 0 < 13 by decide), Option.bind_some, zx_nw ha, zx_gR2 (q := a + 1) ha rfl, Option.bind_some] at h
  dsimp only at h
  rw [zx_sub (fun l a u ha => zx_County (d := d) l a u ha) ha, zs_cV, Option.bind_some, List.cons_append, zx_pf ha (show 1 < 13 by decide), Option.bind_some, zx_nw ha, zx_gR2 (q := a + 1) ha rfl, Option.bind_some] at h
  dsimp only at h
  rw [zx_sub (fun l a u ha => zx_LawR (d := d + 1) l a u ha) ha, zs_cV, Option.bind_some, List.cons_append, zx_pf ha (show 2 < 13 by decide), Option.bind_some, zx_nw ha] at h
  dsimp only at h
  rw [zx_sub (fun l a u ha => (fun l a u ha => zx_Told (d := d + 1) (u := u) (l := l) (a := a) ha) l a u ha) ha, zs_cV, Option.bind_some, List.cons_append, zx_pf ha (show 3 < 13 by decide), Option.bind_some, zx_nw ha, zx_gR2 (q := a + 14) ha rfl, Option.bind_some] at h
  dsimp only at h
  rw [zx_sub (fun l a u ha => zx_Pinches (d := d + 1) l a u ha) ha, zs_cV, Option.bind_some, List.cons_append, zx_pf ha (show 4 < 13 by decide), Option.bind_some, zx_nw ha] at h
  dsimp only at h
  rw [zx_sub (fun l a u ha => (fun l a u ha => zx_Stand (d := d + 1) (u := u) (l := l) (a := a) ha) l a u ha) ha, zs_cV, Option.bind_some, List.cons_append, zx_pf ha (show 5 < 13 by decide), Option.bind_some, zx_nw ha] at h
  dsimp only at h
  rw [zx_sub (fun l a u ha => zx_Past (d := d) l a u ha) ha, zs_cV, Option.bind_some, List.cons_append, zx_pf ha (show 6 < 13 by decide), Option.bind_some, zx_nw ha, zx_gR2 (q := a + 14) ha rfl, Option.bind_some, zx_gR2 (q := a + 21) ha rfl, Option.bind_some] at h
  dsimp only at h
  rw [zx_sub (fun l a u ha => zx_Seeing (d := d) l a u ha) ha, zs_cV, Option.bind_some, List.cons_append, zx_pf ha (show 7 < 13 by decide), Option.bind_some, zx_nw ha, zx_gR2 (q := a + 21) ha rfl, Option.bind_some] at h
  dsimp only at h
  rw [zx_sub (fun l a u ha => zx_Stitch (d := d) l a u ha) ha, zs_cV, Option.bind_some, List.cons_append, zx_pf ha (show 8 < 13 by decide), Option.bind_some, zx_nw ha, zx_gR2 (q := a + 14) ha rfl, Option.bind_some, zx_gR2 (q := a + 21) ha rfl, Option.bind_some] at h
  dsimp only at h
  rw [zx_sub (fun l a u ha => zx_Seat (d := d + 1) l a u ha) ha, zs_cV, Option.bind_some, List.cons_append, zx_pf ha (show 9 < 13 by decide), Option.bind_some, zx_nw ha, List.cons_append, zx_pf ha (show 10 < 13 by decide), Option.bind_some, zx_pf ha (show 11 < 13 by decide), Option.bind_some] at h
  · exact h
  all_goals simp only [List.length_cons, List.length_append, List.length_nil, zbA_l, zbC_l, zbL_l, zbT_l, zbP_l, zbS_l, zbH_l, zbN_l, zbX_l, zbY_l]
end
