/-! STEPS on arrays and new cells -/
theorem zk_E_a {L k t n : Nat} {xs : Nat → Int32} {f : Nat → Int32} (h : zk_E L xs k = zk_ia t n f) : ¬ (4 ≤ k ∧ k < 8) ∧ t = (if k < 4 then 5 else 1) ∧ n = zk_el L k ∧ f = zk_ef xs k := by
  unfold zk_E at h
  by_cases h4 : k < 4
  · rw [if_pos h4] at h
    cases h
    exact ⟨by omega, by rw [if_pos h4], rfl, rfl⟩
  · rw [if_neg h4] at h
    by_cases h8 : k < 8
    · rw [if_pos h8] at h; cases h
    · rw [if_neg h8] at h
      cases h
      exact ⟨by omega, by rw [if_neg h4], rfl, rfl⟩
theorem zk_E_l {L k n : Nat} {xs : Nat → Int32} {f : Nat → Int64} (h : zk_E L xs k = zk_la n f) : False := by
  unfold zk_E at h
  split at h
  · cases h
  · split at h <;> cases h
theorem zk_E_r {L k ci n : Nat} {xs : Nat → Int32} {f : Nat → Option Nat} (h : zk_E L xs k = zk_ra ci n f) : False := by
  unfold zk_E at h
  split at h
  · cases h
  · split at h <;> cases h
def zk_tt (t : Nat) : FieldType := if t = 0 ∨ t = 5 then .int else if t = 1 then .byte else .boolean
theorem zk_ldI_i {s : zk_S} {a : Nat} {i x : Int32} (h : zk_ldI s a i = some x) : ∃ t n f, s.1 a = zk_ia t n f ∧ (t = 0 ∨ t = 5) ∧ vp_in i n ∧ x = f i.toNatClampNeg := by
  unfold zk_ldI at h
  split at h
  · rename_i t n f hs
    by_cases q : (t = 0 ∨ t = 5) ∧ ¬ (i < 0 ∨ n ≤ i.toNatClampNeg)
    · rw [if_pos q] at h; cases h
      exact ⟨t, n, f, hs, q.1, q.2, rfl⟩
    · rw [if_neg q] at h; cases h
  · cases h
theorem zk_ldB_i {s : zk_S} {a : Nat} {i x : Int32} (h : zk_ldB s a i = some x) : ∃ t n f, s.1 a = zk_ia t n f ∧ (t = 1 ∨ t = 2) ∧ vp_in i n ∧ x = f i.toNatClampNeg := by
  unfold zk_ldB at h
  split at h
  · rename_i t n f hs
    by_cases q : (t = 1 ∨ t = 2) ∧ ¬ (i < 0 ∨ n ≤ i.toNatClampNeg)
    · rw [if_pos q] at h; cases h
      exact ⟨t, n, f, hs, q.1, q.2, rfl⟩
    · rw [if_neg q] at h; cases h
  · cases h
theorem zk_ldL_i {s : zk_S} {a : Nat} {i : Int32} {x : Int64} (h : zk_ldL s a i = some x) : ∃ n f, s.1 a = zk_la n f ∧ vp_in i n ∧ x = f i.toNatClampNeg := by
  unfold zk_ldL at h
  split at h
  · rename_i n f hs
    by_cases q : ¬ (i < 0 ∨ n ≤ i.toNatClampNeg)
    · rw [if_pos q] at h; cases h
      exact ⟨n, f, hs, q, rfl⟩
    · rw [if_neg q] at h; cases h
  · cases h
theorem zk_ldR_i {s : zk_S} {a : Nat} {i : Int32} {x : Option Nat} (h : zk_ldR s a i = some x) : ∃ ci n f, s.1 a = zk_ra ci n f ∧ vp_in i n ∧ x = f i.toNatClampNeg := by
  unfold zk_ldR at h
  split at h
  · rename_i ci n f hs
    by_cases q : ¬ (i < 0 ∨ n ≤ i.toNatClampNeg)
    · rw [if_pos q] at h; cases h
      exact ⟨ci, n, f, hs, q, rfl⟩
    · rw [if_neg q] at h; cases h
  · cases h
theorem zk_stI_i {s t : zk_S} {a : Nat} {i x : Int32} (h : zk_stI s a i x = some t) : ∃ n f, s.1 a = zk_ia 0 n f ∧ vp_in i n ∧ t = (zk_up s.1 a (zk_ia 0 n (upd f i.toNatClampNeg x)), s.2) := by
  unfold zk_stI at h
  split at h
  · rename_i t' n f hs
    by_cases q : t' = 0 ∧ ¬ (i < 0 ∨ n ≤ i.toNatClampNeg)
    · rw [if_pos q] at h; cases h
      obtain ⟨rfl, q2⟩ := q
      exact ⟨n, f, hs, q2, rfl⟩
    · rw [if_neg q] at h; cases h
  · cases h
theorem zk_stZ_i {s t : zk_S} {a : Nat} {i x : Int32} (h : zk_stZ s a i x = some t) : ∃ n f, s.1 a = zk_ia 2 n f ∧ vp_in i n ∧ t = (zk_up s.1 a (zk_ia 2 n (upd f i.toNatClampNeg (x &&& 1))), s.2) := by
  unfold zk_stZ at h
  split at h
  · rename_i t' n f hs
    by_cases q : t' = 2 ∧ ¬ (i < 0 ∨ n ≤ i.toNatClampNeg)
    · rw [if_pos q] at h; cases h
      obtain ⟨rfl, q2⟩ := q
      exact ⟨n, f, hs, q2, rfl⟩
    · rw [if_neg q] at h; cases h
  · cases h
theorem zk_stL_i {s t : zk_S} {a : Nat} {i : Int32} {x : Int64} (h : zk_stL s a i x = some t) : ∃ n f, s.1 a = zk_la n f ∧ vp_in i n ∧ t = (zk_up s.1 a (zk_la n (vp_updL f i.toNatClampNeg x)), s.2) := by
  unfold zk_stL at h
  split at h
  · rename_i n f hs
    by_cases q : ¬ (i < 0 ∨ n ≤ i.toNatClampNeg)
    · rw [if_pos q] at h; cases h
      exact ⟨n, f, hs, q, rfl⟩
    · rw [if_neg q] at h; cases h
  · cases h
theorem zk_stR_i {s t : zk_S} {a v : Nat} {i : Int32} (h : zk_stR s a i v = some t) : ∃ ci n f fs, s.1 a = zk_ra ci n f ∧ s.1 v = zk_ob ci fs ∧ vp_in i n ∧ t = (zk_up s.1 a (zk_ra ci n (va_up f i.toNatClampNeg (some v))), s.2) := by
  unfold zk_stR at h
  split at h
  · rename_i ci n f hs
    split at h
    · rename_i c fs hv
      by_cases q : c = ci ∧ ¬ (i < 0 ∨ n ≤ i.toNatClampNeg)
      · rw [if_pos q] at h; cases h
        obtain ⟨rfl, q2⟩ := q
        exact ⟨c, n, f, fs, hs, hv, q2, rfl⟩
      · rw [if_neg q] at h; cases h
    · cases h
  · cases h
section
variable {G : zk_G} {p : Program} {l : Launch} {e : Env} {R : Room} {sM : State} {m : MethodId} {args : Array Value} {below : List Frame} {meth : Method} {c : Code} {H : Heap} {locs : List Loc} {cells slots : Nat} {Q : State → Prop} {cc : ByteArray} {o pc : Nat} {rest : List Value} {s : zk_S} {ls : Array Slot}
theorem zk_ge (T : zk_Wd G H s) {a : Nat} {x : zk_AC} (hx : s.1 a = x) (hn : ∀ k, k < 12 → zk_E (zk_Ln G) (zk_xs G) k ≠ x) : 12 ≤ a := by
  rcases Nat.lt_or_ge a 12 with q | q
  · exact absurd ((T.2.2.2.1 a q).symm.trans hx) (hn a q)
  · exact q
theorem zk_arr (hTb : zk_Tb G sM) (T : zk_Wd G H s) {a t n : Nat} {f : Nat → Int32} (h : s.1 a = zk_ia t n f) : ∃ cell : Cell, H[zk_ad G a]? = some cell ∧ sM.isArrayOf cell (zk_tt t) ∧ cell.vm ≠ .unknown ∧ n ≤ cell.slots.size ∧ cell.slots.size.toInt32 = nI n ∧ ∀ j, j < n → cell.slots[j]? = some (.int (f j)) := by
  rcases Nat.lt_or_ge a 12 with q | q
  · obtain ⟨e1, e2, rfl, rfl⟩ := zk_E_a ((T.2.2.2.1 a q).symm.trans h)
    obtain ⟨cell, c1, c2, c3, c4, c5, c6, c7⟩ := hTb.2.2.2.2.1 a q e1
    rw [show zk_ad G a = zk_X G a from if_pos q]
    refine ⟨cell, (T.2.2.1 _ (by omega)).trans c1, ?_, c3, c4, c5, c6⟩
    rw [e2]
    by_cases h4 : a < 4
    · rw [if_pos h4] at c2 ⊢; exact c2
    · rw [if_neg h4] at c2 ⊢; exact c2
  · obtain ⟨kn, hat, ea⟩ := zk_Wd_a T q h (by intro z; cases z)
    obtain ⟨ht, hc⟩ := hat
    refine ⟨_, hc, ?_, (by intro z; cases z), (by rw [arrV_size]; exact Nat.le_refl _), (by rw [arrV_size]; rfl), fun j hj => arrV_read _ _ hj⟩
    rcases ht with rfl | rfl
    · exact hTb.2.2.2.2.2.2.1.1.1 n (fun j => .int (f j))
    · exact hTb.2.2.2.2.2.2.1.2.1.1 n (fun j => .int (f j))
theorem zo_iald (hx : p.tables.exec = Jvm.exec) (hb : c.code = cc) (hTb : zk_Tb G sM) (T : zk_Wd G H s) {a : Nat} {i x : Int32} (hg : zk_ldI s a i = some x) (hdec : decode cc pc = .ok (.iaload, 1)) (kk : W p l e R sM m args below meth c H locs cells slots Q (F0 m (pc + 1) ls (.int x :: rest))) : W p l e R sM m args below meth c H locs cells slots Q (F0 m pc ls (.int i :: .ref (zk_ad G a) :: rest)) := by
  obtain ⟨t, n, f, h, ht, hin, rfl⟩ := zk_ldI_i hg
  obtain ⟨cell, c1, c2, c3, c4, -, c6⟩ := zk_arr hTb T h
  have hlt : i.toNatClampNeg < n := Nat.not_le.mp fun q => hin (Or.inr q)
  exact W.iald (v := .int (f i.toNatClampNeg)) hx hb c1 (by rw [show zk_tt t = .int from if_pos ht] at c2; exact c2) c3 (fun q => hin (q.imp id (fun z => Nat.le_trans c4 z))) (c6 _ hlt) rfl rfl hdec kk
theorem zo_bald (hx : p.tables.exec = Jvm.exec) (hb : c.code = cc) (hTb : zk_Tb G sM) (T : zk_Wd G H s) {a : Nat} {i x : Int32} (hg : zk_ldB s a i = some x) (hdec : decode cc pc = .ok (.baload, 1)) (kk : W p l e R sM m args below meth c H locs cells slots Q (F0 m (pc + 1) ls (.int x :: rest))) : W p l e R sM m args below meth c H locs cells slots Q (F0 m pc ls (.int i :: .ref (zk_ad G a) :: rest)) := by
  obtain ⟨t, n, f, h, ht, hin, rfl⟩ := zk_ldB_i hg
  obtain ⟨cell, c1, c2, c3, c4, -, c6⟩ := zk_arr hTb T h
  have hlt : i.toNatClampNeg < n := Nat.not_le.mp fun q => hin (Or.inr q)
  rcases ht with rfl | rfl
  · exact W.bald (v := .int (f i.toNatClampNeg)) hx hb c1 c2 c3 (fun q => hin (q.imp id (fun z => Nat.le_trans c4 z))) (c6 _ hlt) rfl rfl hdec kk
  · exact W.zald (v := .int (f i.toNatClampNeg)) hx hb c1 c2 c3 (fun q => hin (q.imp id (fun z => Nat.le_trans c4 z))) (c6 _ hlt) rfl rfl hdec kk
theorem zo_lald (hx : p.tables.exec = Jvm.exec) (hb : c.code = cc) (hTb : zk_Tb G sM) (T : zk_Wd G H s) {a : Nat} {i : Int32} {x : Int64} (hg : zk_ldL s a i = some x) (hdec : decode cc pc = .ok (.laload, 1)) (kk : W p l e R sM m args below meth c H locs cells slots Q (F0 m (pc + 1) ls (.long x :: rest))) : W p l e R sM m args below meth c H locs cells slots Q (F0 m pc ls (.int i :: .ref (zk_ad G a) :: rest)) := by
  obtain ⟨n, f, h, hin, rfl⟩ := zk_ldL_i hg
  have a12 := zk_ge T h (fun k _ z => zk_E_l z)
  obtain ⟨kn, hat, ea⟩ := zk_Wd_a T a12 h (by intro z; cases z)
  have hlt : i.toNatClampNeg < n := Nat.not_le.mp fun q => hin (Or.inr q)
  exact W.lald (v := .long (f i.toNatClampNeg)) hx hb hat (hTb.2.2.2.2.2.2.1.2.2.1 n (fun j => .long (f j))) (by intro z; cases z) (by rw [arrV_size]; exact hin) (arrV_read _ _ hlt) rfl rfl hdec kk
theorem zo_aald (hx : p.tables.exec = Jvm.exec) (hb : c.code = cc) (hTb : zk_Tb G sM) (T : zk_Wd G H s) {a : Nat} {i : Int32} {x : Option Nat} (hg : zk_ldR s a i = some x) (hdec : decode cc pc = .ok (.aaload, 1)) (kk : W p l e R sM m args below meth c H locs cells slots Q (F0 m (pc + 1) ls (va_rf (x.map (zk_ad G)) :: rest))) : W p l e R sM m args below meth c H locs cells slots Q (F0 m pc ls (.int i :: .ref (zk_ad G a) :: rest)) := by
  obtain ⟨ci, n, f, h, hin, rfl⟩ := zk_ldR_i hg
  have a12 := zk_ge T h (fun k _ z => zk_E_r z)
  obtain ⟨kn, ⟨hci, hat⟩, ea⟩ := zk_Wd_a T a12 h (by intro z; cases z)
  have hlt : i.toNatClampNeg < n := Nat.not_le.mp fun q => hin (Or.inr q)
  exact W.aald (v := va_rf ((f i.toNatClampNeg).map (zk_ad G))) (ty := .object (zk_c ci)) hx hb hat ((hTb.2.2.2.2.2.2.2 ci hci).2.1 n (fun j => va_rf ((f j).map (zk_ad G)))) rfl (by intro z; cases z) (by rw [arrV_size]; exact hin) (arrV_read _ _ hlt) rfl rfl hdec kk
theorem zo_alen (hx : p.tables.exec = Jvm.exec) (hb : c.code = cc) (hTb : zk_Tb G sM) (T : zk_Wd G H s) {a : Nat} {x : Int32} (hg : zk_al s a = some x) (hdec : decode cc pc = .ok (.arraylength, 1)) (kk : W p l e R sM m args below meth c H locs cells slots Q (F0 m (pc + 1) ls (.int x :: rest))) : W p l e R sM m args below meth c H locs cells slots Q (F0 m pc ls (.ref (zk_ad G a) :: rest)) := by
  unfold zk_al at hg
  split at hg
  · cases hg
  · rename_i t n f h
    cases hg
    obtain ⟨cell, c1, c2, c3, c4, c5, c6⟩ := zk_arr hTb T h
    exact W.alen hx hb c1 c2 c5 rfl rfl hdec kk
  · rename_i n f h
    cases hg
    have a12 := zk_ge T h (fun k _ z => zk_E_l z)
    obtain ⟨kn, hat, ea⟩ := zk_Wd_a T a12 h (by intro z; cases z)
    exact W.alen hx hb hat (hTb.2.2.2.2.2.2.1.2.2.1 n (fun j => .long (f j))) (by rw [arrV_size]; rfl) rfl rfl hdec kk
  · rename_i ci n f h
    cases hg
    have a12 := zk_ge T h (fun k _ z => zk_E_r z)
    obtain ⟨kn, ⟨hci, hat⟩, ea⟩ := zk_Wd_a T a12 h (by intro z; cases z)
    exact W.alen hx hb hat ((hTb.2.2.2.2.2.2.2 ci hci).2.1 n (fun j => va_rf ((f j).map (zk_ad G)))) (by rw [arrV_size]; rfl) rfl rfl hdec kk
theorem zk_lc (hlo : ∀ q ∈ locs, zk_B G ≤ q.base) {a j : Nat} (a12 : 12 ≤ a) : ∀ q ∈ locs ++ [(⟨zk_ad G a, j⟩ : Loc)], zk_B G ≤ q.base := by
  intro q hq
  rcases List.mem_append.mp hq with z | z
  · exact hlo q z
  · rw [List.mem_singleton.mp z]
    show zk_B G ≤ zk_ad G a
    rw [show zk_ad G a = zk_B G + (a - 12) from if_neg (by omega)]; omega
theorem zo_iast (hx : p.tables.exec = Jvm.exec) (hb : c.code = cc) (hTb : zk_Tb G sM) (T : zk_Wd G H s) (hlo : ∀ q ∈ locs, zk_B G ≤ q.base) {a : Nat} {i x : Int32} {t : zk_S} (hg : zk_stI s a i x = some t) (hdec : decode cc pc = .ok (.iastore, 1)) (kk : ∀ (H1 : Heap) (locs1 : List Loc), zk_Wd G H1 t → (∀ q ∈ locs1, zk_B G ≤ q.base) → W p l e R sM m args below meth c H1 locs1 cells slots Q (F0 m (pc + 1) ls rest)) : W p l e R sM m args below meth c H locs cells slots Q (F0 m pc ls (.int x :: .int i :: .ref (zk_ad G a) :: rest)) := by
  obtain ⟨n, f, h, hin, rfl⟩ := zk_stI_i hg
  have a12 := zk_ge T h (fun k _ z => by have := (zk_E_a z).2.1; split at this <;> cases this)
  obtain ⟨kn, ⟨-, hat⟩, ea⟩ := zk_Wd_a T a12 h (by intro z; cases z)
  refine W.iast hx hb hat (hTb.2.2.2.2.2.2.1.1.1 n (fun j => .int (f j))) (by intro z; cases z) (by rw [arrV_size]; exact hin) rfl rfl hdec fun H1 e1 z1 o1 => ?_
  refine kk H1 _ (zk_Wd_s T a12 kn ⟨Or.inl rfl, ?_⟩ z1 o1) (zk_lc hlo a12)
  rw [e1, arrV_store]
  congr 2
  funext q
  by_cases hq : q = i.toNatClampNeg
  · subst hq
    simp [updV, upd]
  · simp [updV, upd, hq]
theorem zo_zast (hx : p.tables.exec = Jvm.exec) (hb : c.code = cc) (hTb : zk_Tb G sM) (T : zk_Wd G H s) (hlo : ∀ q ∈ locs, zk_B G ≤ q.base) {a : Nat} {i x : Int32} {t : zk_S} (hg : zk_stZ s a i x = some t) (hdec : decode cc pc = .ok (.bastore, 1)) (kk : ∀ (H1 : Heap) (locs1 : List Loc), zk_Wd G H1 t → (∀ q ∈ locs1, zk_B G ≤ q.base) → W p l e R sM m args below meth c H1 locs1 cells slots Q (F0 m (pc + 1) ls rest)) : W p l e R sM m args below meth c H locs cells slots Q (F0 m pc ls (.int x :: .int i :: .ref (zk_ad G a) :: rest)) := by
  obtain ⟨n, f, h, hin, rfl⟩ := zk_stZ_i hg
  have a12 := zk_ge T h (fun k _ z => by have := (zk_E_a z).2.1; split at this <;> cases this)
  obtain ⟨kn, ⟨-, hat⟩, ea⟩ := zk_Wd_a T a12 h (by intro z; cases z)
  refine W.zast hx hb hat (hTb.2.2.2.2.2.2.1.2.1.1 n (fun j => .int (f j))) (by intro z; cases z) (by rw [arrV_size]; exact hin) rfl rfl hdec fun H1 e1 z1 o1 => ?_
  refine kk H1 _ (zk_Wd_s T a12 kn ⟨Or.inr rfl, ?_⟩ z1 o1) (zk_lc hlo a12)
  rw [e1, arrV_store]
  congr 2
  funext q
  by_cases hq : q = i.toNatClampNeg
  · subst hq
    simp [updV, upd, narrow]
  · simp [updV, upd, hq]
theorem zo_last (hx : p.tables.exec = Jvm.exec) (hb : c.code = cc) (hTb : zk_Tb G sM) (T : zk_Wd G H s) (hlo : ∀ q ∈ locs, zk_B G ≤ q.base) {a : Nat} {i : Int32} {x : Int64} {t : zk_S} (hg : zk_stL s a i x = some t) (hdec : decode cc pc = .ok (.lastore, 1)) (kk : ∀ (H1 : Heap) (locs1 : List Loc), zk_Wd G H1 t → (∀ q ∈ locs1, zk_B G ≤ q.base) → W p l e R sM m args below meth c H1 locs1 cells slots Q (F0 m (pc + 1) ls rest)) : W p l e R sM m args below meth c H locs cells slots Q (F0 m pc ls (.long x :: .int i :: .ref (zk_ad G a) :: rest)) := by
  obtain ⟨n, f, h, hin, rfl⟩ := zk_stL_i hg
  have a12 := zk_ge T h (fun k _ z => zk_E_l z)
  obtain ⟨kn, hat, ea⟩ := zk_Wd_a T a12 h (by intro z; cases z)
  refine W.last hx hb hat (hTb.2.2.2.2.2.2.1.2.2.1 n (fun j => .long (f j))) (by intro z; cases z) (by rw [arrV_size]; exact hin) rfl rfl hdec fun H1 e1 z1 o1 => ?_
  refine kk H1 _ (zk_Wd_s T a12 kn ?_ z1 o1) (zk_lc hlo a12)
  show H1[zk_ad G a]? = _
  rw [e1, arrV_store]
  congr 2
  funext q
  by_cases hq : q = i.toNatClampNeg
  · subst hq
    simp [updV, vp_updL]
  · simp [updV, vp_updL, hq]
theorem zo_aast (hx : p.tables.exec = Jvm.exec) (hb : c.code = cc) (hTb : zk_Tb G sM) (T : zk_Wd G H s) (hlo : ∀ q ∈ locs, zk_B G ≤ q.base) {a v : Nat} {i : Int32} {t : zk_S} (hg : zk_stR s a i v = some t) (hdec : decode cc pc = .ok (.aastore, 1)) (kk : ∀ (H1 : Heap) (locs1 : List Loc), zk_Wd G H1 t → (∀ q ∈ locs1, zk_B G ≤ q.base) → W p l e R sM m args below meth c H1 locs1 cells slots Q (F0 m (pc + 1) ls rest)) : W p l e R sM m args below meth c H locs cells slots Q (F0 m pc ls (.ref (zk_ad G v) :: .int i :: .ref (zk_ad G a) :: rest)) := by
  obtain ⟨ci, n, f, fs, h, hv, hin, rfl⟩ := zk_stR_i hg
  have a12 := zk_ge T h (fun k _ z => zk_E_r z)
  obtain ⟨kn, ⟨hci, hat⟩, ea⟩ := zk_Wd_a T a12 h (by intro z; cases z)
  have hlt : i.toNatClampNeg < n := Nat.not_le.mp fun q => hin (Or.inr q)
  have h0 : ¬ i < 0 := fun q => hin (Or.inl q)
  have c13 : ci < 13 := by omega
  obtain ⟨-, -, -, ⟨r', hr', cellV, g1, g2, g3, -⟩, -⟩ := zk_Wd_o T hv c13
  have hcls := (hTb.1 ci _ (zk_vw ci c13)).2
  obtain ⟨kA, comp, k1, k2, k3, -⟩ := (hTb.2.2.2.2.2.2.2 ci hci).2.2
  have hcomp : comp = (zk_D G).1 ci := Option.some.inj (k3.symm.trans hcls.1)
  subst hcomp
  obtain ⟨kC, hkC, -⟩ := id hcls.2
  refine W.aast hx hb hat (fun q h => by cases h) (fun h => by cases h) k1 k2 rfl hkC ⟨h0, by show _ < (arrV _ _ _).slots.size; rw [arrV_size]; exact hlt⟩ g1 (fun q h => by rw [g3] at h; cases h) (by rw [g2]; exact hkC) (by rw [g2]; exact va_assign hcls) rfl rfl hdec fun H1 e1 z1 o1 => ?_
  refine kk H1 _ (zk_Wd_s T a12 kn ⟨hci, ?_⟩ z1 o1) (zk_lc hlo a12)
  rw [e1, arrV_store]
  congr 2
  funext q
  by_cases hq : q = i.toNatClampNeg
  · subst hq
    simp [updV, va_up, va_rf]
  · simp [updV, va_up, hq]
/-! new cells -/
theorem zo_new (hx : p.tables.exec = Jvm.exec) (hb : c.code = cc) (hown : sM.vm.findClass (zk_c o) = some m.cls) (hts : ∀ w ∈ zk_TB, w.before args sM = true) (hTb : zk_Tb G sM) (T : zk_Wd G H s) {i ci : Nat} (hN : (o, i, ci) ∈ zt_N) (hc : ci < 13) (hIn : ci ∈ zt_In) (hCi : ci ∈ zt_Ci) (hcells : cells + 1 ≤ R.cells) (hslots : slots + (zk_df ci).length ≤ R.slots) (hdec : decode cc pc = .ok (.new i, 3))
    (kk : ∀ (H1 : Heap), zk_Wd G H1 (zk_nw s (zk_ob ci (zk_df ci)) (zk_df ci).length) → W p l e R sM m args below meth c H1 locs (cells + 1) (slots + (zk_df ci).length) Q (F0 m (pc + 3) ls (.ref (zk_ad G s.2.1) :: rest))) : W p l e R sM m args below meth c H locs cells slots Q (F0 m pc ls rest) := by
  rw [zk_df_n hc] at hslots kk
  have hKn := hTb.1 ci _ (zk_vw ci hc)
  refine W.newcK hx hb hown (hts _ (zw_W_ok _ hN)) (hts _ (zw_Is_ok _ hIn)) (hts _ (zw_Ci_ok _ hCi)) rfl hdec hcells hslots hKn.2.1 rfl fun H1 kC hkC e1 z1 o1 => ?_
  have hat : zk_at G H1 H.size (zk_ob ci (zk_df ci)) := by
    refine Or.inr ⟨hc, zk_df_n hc, ⟨_, zk_vw ci hc, ?_⟩⟩
    refine (u_born (zk_ft ci) hts (zw_Ly_ok hc) hKn hkC e1 (fun k hk => zk_ft_ok hc hk)).to (fun j hj => ?_)
    rw [zk_df_v hc j hj]
    have hz : ∀ v ∈ zk_df ci, zk_rz G v = v := by
      have h0 : ∀ c, c < 13 → ∀ v ∈ zk_df c, v = .int 0 ∨ v = .long 0 ∨ v = .null := by decide +kernel
      intro v hv
      rcases h0 ci hc v hv with rfl | rfl | rfl <;> rfl
    rw [List.map_congr_left hz, List.map_id']
  obtain ⟨w1, w2⟩ := zk_Wd_p (w := zk_nf ci) T hat z1 o1
  have := kk H1 w1
  rw [w2] at this
  exact this
theorem zk_na' (hTb : zk_Tb G sM) (T : zk_Wd G H s) {H1 : Heap} {cA : ClassId} {n : Nat} {ty : FieldType} (e1 : H1[H.size]? = some (arrV cA n (fun _ => defaultValue ty))) (z1 : H1.size = H.size + 1) (o1 : ∀ q, q < H.size → H1[q]? = H[q]?) (hN : sM.vm.findClass ("[" ++ ty.toString) = some cA) {x : zk_AC}
    (hx : (ty = .int ∧ x = zk_ia 0 n (fun _ => 0)) ∨ (ty = .boolean ∧ x = zk_ia 2 n (fun _ => 0)) ∨ (ty = .long ∧ x = zk_la n (fun _ => 0))) : zk_Wd G H1 (zk_nw s x n) ∧ zk_ad G s.2.1 = H.size := by
  obtain ⟨⟨-, a1⟩, ⟨-, a2⟩, ⟨-, a3⟩⟩ := hTb.2.2.2.2.2.2.1
  refine zk_Wd_p T ?_ z1 o1
  rcases hx with ⟨rfl, rfl⟩ | ⟨rfl, rfl⟩ | ⟨rfl, rfl⟩
  · rw [a1] at hN; cases hN
    exact ⟨Or.inl rfl, e1⟩
  · rw [a2] at hN; cases hN
    exact ⟨Or.inr rfl, e1⟩
  · rw [a3] at hN; cases hN
    exact e1
theorem zo_newa (hx : p.tables.exec = Jvm.exec) (hb : c.code = cc) (hts : ∀ w ∈ zk_TB, w.before args sM = true) (hTb : zk_Tb G sM) (T : zk_Wd G H s) {n : Int32} {at' : ArrayType} {ty : FieldType} {x : zk_AC} (hty : newarray.typeOf at' = ty)
    (hX : (ty = .int ∧ x = zk_ia 0 n.toNatClampNeg (fun _ => 0)) ∨ (ty = .boolean ∧ x = zk_ia 2 n.toNatClampNeg (fun _ => 0)) ∨ (ty = .long ∧ x = zk_la n.toNatClampNeg (fun _ => 0))) (hn : ¬ (n < 0 ∨ 100000 < n)) (hcells : cells + 1 ≤ R.cells) (hslots : slots + n.toNatClampNeg ≤ R.slots) (hdec : decode cc pc = .ok (.newarray at', 2))
    (kk : ∀ (H1 : Heap), zk_Wd G H1 (zk_nw s x n.toNatClampNeg) → W p l e R sM m args below meth c H1 locs (cells + 1) (slots + n.toNatClampNeg) Q (F0 m (pc + 2) ls (.ref (zk_ad G s.2.1) :: rest))) : W p l e R sM m args below meth c H locs cells slots Q (F0 m pc ls (.int n :: rest)) := by
  have hle : n.toNatClampNeg ≤ 100000 := by
    have h1 : n ≤ 100000 := Int32.not_lt.mp (fun q => hn (Or.inr q))
    have h2 : n.toInt ≤ 100000 := by simpa using Int32.le_iff_toInt_le.mp h1
    show n.toInt.toNat ≤ 100000
    omega
  have harr : (Cond.arrayClass (newarray.typeOf at')).before args sM = true := by
    rw [hty]
    rcases hX with ⟨rfl, -⟩ | ⟨rfl, -⟩ | ⟨rfl, -⟩
    · exact hts _ zk_arI
    · exact hts _ zk_arZ
    · exact hts _ zk_arJ
  refine va_newaK hx hb harr rfl hdec rfl (fun q => hn (Or.inl q)) rfl ?_ hcells hslots rfl fun H1 cA e1 z1 o1 _ hN => ?_
  · rw [hty]
    have : componentBytes ty ≤ 8 := by rcases hX with ⟨rfl, -⟩ | ⟨rfl, -⟩ | ⟨rfl, -⟩ <;> decide
    have := Nat.mul_le_mul hle this
    omega
  · rw [hty] at e1 hN
    obtain ⟨w1, w2⟩ := zk_na' hTb T e1 z1 o1 hN hX
    have := kk H1 w1
    rw [w2] at this
    exact this
theorem zo_anew (hx : p.tables.exec = Jvm.exec) (hb : c.code = cc) (hown : sM.vm.findClass (zk_c o) = some m.cls) (hts : ∀ w ∈ zk_TB, w.before args sM = true) (hTb : zk_Tb G sM) (T : zk_Wd G H s) {i ci : Nat} {n : Int32} (hA : (o, i, ci) ∈ zt_A) (hci : ci = 7 ∨ ci = 1) (hn : ¬ (n < 0 ∨ 100000 < n)) (hcells : cells + 1 ≤ R.cells) (hslots : slots + n.toNatClampNeg ≤ R.slots) (hdec : decode cc pc = .ok (.anewarray i, 3))
    (kk : ∀ (H1 : Heap), zk_Wd G H1 (zk_nw s (zk_ra ci n.toNatClampNeg (fun _ => none)) n.toNatClampNeg) → W p l e R sM m args below meth c H1 locs (cells + 1) (slots + n.toNatClampNeg) Q (F0 m (pc + 3) ls (.ref (zk_ad G s.2.1) :: rest))) : W p l e R sM m args below meth c H locs cells slots Q (F0 m pc ls (.int n :: rest)) := by
  have hle : n.toNatClampNeg ≤ 100000 := by
    have h1 : n ≤ 100000 := Int32.not_lt.mp (fun q => hn (Or.inr q))
    have h2 : n.toInt ≤ 100000 := by simpa using Int32.le_iff_toInt_le.mp h1
    show n.toInt.toNat ≤ 100000
    omega
  obtain ⟨hAO, hAr, hRA⟩ := hTb.2.2.2.2.2.2.2 ci hci
  refine W.anew hx hb hown (hts _ (zw_A_ok _ hA)) (va_AO.use hAO) rfl hdec rfl (fun q => hn (Or.inl q)) (by omega) hcells hslots fun cA kA comp f1 f2 f3 f4 => ?_
  generalize hH1 : H.push ({ cls := cA, slots := Array.replicate n.toNatClampNeg .null, vm := .none } : Cell) = H1
  have z1 : H1.size = H.size + 1 := by rw [← hH1, Array.size_push]
  have e1 : H1[H.size]? = some (arrV cA n.toNatClampNeg (fun _ => .null)) := by rw [← hH1, Array.getElem?_push_size, ← arrV_new]
  have o1 : ∀ q : Nat, q < H.size → H1[q]? = H[q]? := fun q hq => by rw [← hH1, Array.getElem?_push, if_neg (Nat.ne_of_lt hq)]
  obtain ⟨kA', comp', r1, r2, r3, r4⟩ := hRA
  have hcA : cA = zk_kR G ci := Option.some.inj (f1.symm.trans r4)
  obtain ⟨w1, w2⟩ := zk_Wd_p (x := zk_ra ci n.toNatClampNeg (fun _ => none)) (w := n.toNatClampNeg) T ⟨hci, by rw [e1, hcA]; rfl⟩ z1 o1
  have := kk H1 w1
  rw [w2] at this
  exact this
end
