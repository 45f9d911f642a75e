/-! STEPS that read and write memory -/
theorem zk_gf_i {s : zk_S} {a ci j : Nat} {v : Value} (h : zk_gf s a ci j = some v) : ∃ fs, s.1 a = zk_ob ci fs ∧ fs[j]? = some v := by
  unfold zk_gf at h
  split at h
  · rename_i c fs hs
    by_cases hc : c = ci
    · rw [if_pos hc] at h
      exact ⟨fs, by rw [hs, hc], h⟩
    · rw [if_neg hc] at h; cases h
  · cases h
theorem zk_gI_i {s : zk_S} {a ci j : Nat} {v : Int32} (h : zk_gI s a ci j = some v) : zk_gf s a ci j = some (.int v) := by
  unfold zk_gI at h
  split at h
  · rename_i q; cases h; exact q
  · cases h
theorem zk_gL_i {s : zk_S} {a ci j : Nat} {v : Int64} (h : zk_gL s a ci j = some v) : zk_gf s a ci j = some (.long v) := by
  unfold zk_gL at h
  split at h
  · rename_i q; cases h; exact q
  · cases h
theorem zk_gR_i {s : zk_S} {a ci j : Nat} {v : Nat} (h : zk_gR s a ci j = some v) : zk_gf s a ci j = some (.ref v) := by
  unfold zk_gR at h
  split at h
  · rename_i q; cases h; exact q
  · cases h
theorem zk_pf_i {s t : zk_S} {a ci j : Nat} {v : Value} (h : zk_pf s a ci j v = some t) : ∃ fs, s.1 a = zk_ob ci fs ∧ j < fs.length ∧ t = (zk_up s.1 a (zk_ob ci (fs.set j v)), s.2) := by
  unfold zk_pf at h
  split at h
  · rename_i c fs hs
    by_cases hc : c = ci ∧ j < fs.length
    · rw [if_pos hc] at h
      cases h
      obtain ⟨rfl, hj⟩ := hc
      exact ⟨fs, hs, hj, rfl⟩
    · rw [if_neg hc] at h; cases h
  · cases h
theorem zk_F13 : zt_F.all (fun e => Nat.ble e.2.2.1 13) = true := by decide +kernel
section
variable {G : zk_G} {p : Program} {l : Launch} {e : Env} {R : Room} {sM : State} {m : MethodId} {args : Array Value} {below : List Frame} {meth : Method} {c : Code} {H : Heap} {locs : List Loc} {cells slots : Nat} {Q : State → Prop} {cc : ByteArray} {o pc : Nat} {rest : List Value} {s : zk_S} {ls : Array Slot}
theorem zk_below (T : zk_Wd G H s) {a : Nat} (ha : ¬ zk_B G ≤ a) : H[a]? = (zk_H G)[a]? := T.2.2.1 a (by omega)
/-- a field's value -/
theorem zo_getv (hx : p.tables.exec = Jvm.exec) (hb : c.code = cc) (hown : sM.vm.findClass (zk_c o) = some m.cls) (hts : ∀ w ∈ zk_TB, w.before args sM = true) (hTb : zk_Tb G sM) (T : zk_Wd G H s) {i ci j a : Nat} {v : Value} (hF : (o, i, ci, j) ∈ zt_F) (hg : zk_gf s a ci j = some v) (hdec : decode cc pc = .ok (.getfield i, 3)) (kk : W p l e R sM m args below meth c H locs cells slots Q (F0 m (pc + 3) ls (zk_rz G v :: rest))) : W p l e R sM m args below meth c H locs cells slots Q (F0 m pc ls (.ref (zk_ad G a) :: rest)) := by
  obtain ⟨fs, h1, h2⟩ := zk_gf_i hg
  by_cases hc : ci < 13
  · obtain ⟨k12, kn, hlen, hat, ea⟩ := zk_Wd_o T h1 hc
    have hK : va_K (zk_D G) vwCl [] sM := ⟨hTb.1, fun k q h => by simp at h⟩
    have hP : va_P (zk_D G) vwCl [(zk_ad G a, .inr (ci, fs.map (zk_rz G)))] H := by
      intro k q hk
      cases k with
      | zero => cases hk; exact hat
      | succ k => simp at hk
    have hj : j < zk_nf ci := by have := (List.getElem?_eq_some_iff.mp h2).1; omega
    exact va_get (C := zk_c ci) (T := zk_tx ci) (N := zk_nf ci) (ref := (zk_tx ci j).1) hx hb hts (zw_Ly_ok hc) hown hK hP 0 rfl (zk_vw ci hc) j hj (hts _ (zw_F_ok _ hF)) (fun x h => h) (v := zk_rz G v) (by rw [List.getElem?_map, h2]; rfl) hdec kk
  · have h13 : ci = 13 := by
      have := Nat.le_of_ble_eq_true (List.all_eq_true.mp zk_F13 _ hF)
      have h9 : ci ≤ 13 := this
      omega
    subst h13
    have ha : a < 12 := by
      rcases Nat.lt_or_ge a 12 with q | q
      · exact q
      · have := (zk_Wd_a T q h1 (by intro z; cases z)).2.1
        rcases this with z | z
        · cases z
        · exact absurd z.1 hc
    have hE := zk_E_o ((T.2.2.2.1 a ha).symm.trans h1)
    obtain ⟨a4, a8, -, rfl⟩ := hE
    obtain ⟨-, g1, g2⟩ := hTb.2.2.2.2.2.1 a a4 a8
    have ea : zk_ad G a = zk_X G a := if_pos ha
    rw [ea]
    have hlink := hts _ (zw_F_ok _ hF)
    match j, h2 with
    | 0, h2 =>
      cases h2
      obtain ⟨cf, k, fi, f, cell, f1, f2, f3, f4, f5, f6⟩ := g1
      refine W.getf hx hb hown hlink f1 f2 ((zk_below T f6).trans f3) f4 (v := zk_rz G (.ref (a + 4))) ?_ rfl rfl hdec kk
      rw [f5]
      show some (Value.ref (zk_X G (a + 4))) = some (Value.ref (zk_ad G (a + 4)))
      rw [show zk_ad G (a + 4) = zk_X G (a + 4) from if_pos (by omega)]
    | 1, h2 =>
      cases h2
      obtain ⟨cf, k, fi, f, cell, f1, f2, f3, f4, f5, f6⟩ := g2
      exact W.getf hx hb hown hlink f1 f2 ((zk_below T f6).trans f3) f4 (v := .int 0) f5 rfl rfl hdec kk
    | j + 2, h2 => simp at h2
theorem zk_putA {H1 : Heap} {ci j a : Nat} {v : Value} {fs : List Value} {cell : Cell} {N : Nat} (T : zk_Wd G H s) (hc : ci < 13) (h1 : s.1 a = zk_ob ci fs) (hj : j < fs.length)
    (q2 : cell.cls = (zk_D G).1 ci) (q3 : cell.vm = .none) (q4 : ∀ k, k < zk_nf ci → cell.slots[(zk_D G).2 ci k]? = some (vp_V (fs.map (zk_rz G)) k)) (hap : ∀ x y, x < zk_nf ci → y < zk_nf ci → x ≠ y → (zk_D G).2 ci x ≠ (zk_D G).2 ci y) (hj' : j < zk_nf ci)
    (e1 : H1[zk_ad G a]? = some (cell.setSlot ((zk_D G).2 ci j) (zk_rz G v))) (e2 : H1.size = H.size) (e3 : ∀ q, q ≠ zk_ad G a → H1[q]? = H[q]?) : zk_Wd G H1 (zk_up s.1 a (zk_ob ci (fs.set j v)), s.2) := by
  obtain ⟨k12, kn, hlen, hat, ea⟩ := zk_Wd_o T h1 hc
  refine zk_Wd_s T k12 kn (Or.inr ⟨hc, by rw [List.length_set]; exact hlen, ⟨_, zk_vw ci hc, ?_⟩⟩) e2 e3
  rw [List.map_set]
  exact t_OB.to (V := updV (vp_V (fs.map (zk_rz G))) j (zk_rz G v)) ⟨_, e1, q2, q3, t_set q4 hap hj' _⟩ (fun k _ => vp_updV_set (by rw [List.length_map]; exact hj) _ k)
/-- a field written -/
theorem zo_putv (hx : p.tables.exec = Jvm.exec) (hb : c.code = cc) (hown : sM.vm.findClass (zk_c o) = some m.cls) (hts : ∀ w ∈ zk_TB, w.before args sM = true) (hTb : zk_Tb G sM) (T : zk_Wd G H s) (hlo : ∀ q ∈ locs, zk_B G ≤ q.base) {i ci j a : Nat} {v : Value} {fs : List Value} (hF : (o, i, ci, j) ∈ zt_F) (hc : ci < 13) (h1 : s.1 a = zk_ob ci fs) (hj : j < fs.length) (hfin : (zk_tx ci j).2.2.2 = true → meth.name = "<init>" ∧ ci = o) (hn : narrow (zk_ft ci j) (zk_rz G v) = zk_rz G v) (hfit : fits (zk_ft ci j) (zk_rz G v) = true) (hdec : decode cc pc = .ok (.putfield i, 3))
    (kk : ∀ (H1 : Heap) (locs1 : List Loc), zk_Wd G H1 (zk_up s.1 a (zk_ob ci (fs.set j v)), s.2) → (∀ q ∈ locs1, zk_B G ≤ q.base) → W p l e R sM m args below meth c H1 locs1 cells slots Q (F0 m (pc + 3) ls rest)) : W p l e R sM m args below meth c H locs cells slots Q (F0 m pc ls (zk_rz G v :: .ref (zk_ad G a) :: rest)) := by
  obtain ⟨k12, kn, hlen, hat, ea⟩ := zk_Wd_o T h1 hc
  have hj' : j < zk_nf ci := by omega
  have hK : va_K (zk_D G) vwCl [] sM := ⟨hTb.1, fun k q h => by simp at h⟩
  obtain ⟨r, hr1, cell, q1, q2, q3, q4⟩ := hat
  have hr : r = (zk_c ci, zk_tx ci, zk_nf ci) := Option.some.inj (hr1.symm.trans (zk_vw ci hc))
  subst hr
  obtain ⟨hS, hfc, kC, hkC, hkind⟩ := hTb.1 ci _ (zk_vw ci hc)
  obtain ⟨cf, kf, fi, f, hi, hsl⟩ := hS j hj'
  have hap := va_apart (own := "") hts (zw_Ly_ok hc) (zk_ft ci) (fun k hk => zk_ft_ok hc hk) (zk_nm_ok hc) hK (zk_vw ci hc)
  have hlay := hts _ (zw_Ly_ok hc _ (u_in_lay hj'))
  have hlink : (Cond.fieldLink (zk_c o) i (zk_tx ci j).1 (zk_tx ci j).2.1 (zk_tx ci j).2.2.1).before args sM = true := hts _ (zw_F_ok _ hF)
  have hst := (u_facts hfc hkC (u_lays hts (zw_Ly_ok hc) hj') hi).1
  have hq4 : ∀ k, k < zk_nf ci → cell.slots[(zk_D G).2 ci k]? = some (vp_V (fs.map (zk_rz G)) k) := q4
  have hlt : f.slot < cell.slots.size := by rw [hsl]; exact k2_hasslot (q4 j hj')
  have hl' : ∀ q ∈ locs ++ [⟨zk_ad G a, f.slot⟩], zk_B G ≤ q.base := by
    intro q hq
    rcases List.mem_append.mp hq with z | z
    · exact hlo q z
    · rw [List.mem_singleton.mp z]
      show zk_B G ≤ zk_ad G a
      rw [ea]; omega
  cases hf : (zk_tx ci j).2.2.2 with
  | false =>
    unfold u_lay at hlay
    rw [if_neg (by show ¬ (zk_tx ci j).2.2.2 = true; rw [hf]; decide)] at hlay
    have h6 := u_store hfc hkC hkind hlay hi (zk_ft_ok hc hj') hn hfit
    refine W.putK hx hb (f := f) ⟨hown, hlink, ⟨_, _, _, hi⟩, hst⟩ (by rw [q2]; exact h6) q1 q3 hlt rfl rfl hdec fun H' e1 e2 e3 => ?_
    rw [hsl] at e1
    exact kk H' _ (zk_putA (N := 0) T hc h1 hj q2 q3 hq4 hap hj' e1 e2 e3) hl'
  | true =>
    obtain ⟨hin2, hco⟩ := hfin hf
    unfold u_lay at hlay
    rw [if_pos hf] at hlay
    have hcf : m.cls = cf := by
      obtain ⟨_, _, c', _, _, _, -, -, hf', -, -, -, hown2, -⟩ := Cond.laysFinal_spec hlay
      have e1 : c' = cf := by have := hi.symm.trans hf'; simp at this; exact this.1.symm
      rw [zk_dc_ok hc hj', hco] at hown2
      rw [← e1]; exact Option.some.inj (hown.symm.trans hown2)
    have h6 := u_fits hfc hkC hkind (Or.inr hlay) hi (zk_ft_ok hc hj') hn hfit
    refine W.putFinK hx hb hown hlink hi hst hcf hin2 (by rw [q2]; exact h6) q1 q3 hlt rfl rfl hdec fun H' e1 e2 e3 => ?_
    rw [hsl] at e1
    exact kk H' _ (zk_putA (N := 0) T hc h1 hj q2 q3 hq4 hap hj' e1 e2 e3) hl'
end
