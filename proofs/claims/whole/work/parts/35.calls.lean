/-! CALLS: a call of the machine for a call of a run -/
def zk_w (y : Nat) : List Jvm.Cond := .code (zk_y y) (zk_b y) (zk_ml y) (zk_rt y) :: zk_TB
def zk_rm (d mc ms : Nat) : Room := { frames := d, cells := mc, slots := ms, locals := 40 * d }
def zk_Pc (G : zk_G) (as : List Value) (s : zk_S) : Array Value → State → Prop := fun a U => a = (as.map (zk_rz G)).toArray ∧ zk_Wd G U.heap s ∧ zk_Tb G U
def zk_Qc (G : zk_G) (v : Option Value) (s1 : zk_S) : Array Value → State → Outcome → State → Prop := fun _ _ oc t => oc = .returned (v.map (zk_rz G)) ∧ zk_Wd G t.heap s1
theorem zk_Pc_b {G : zk_G} {as : List Value} {s : zk_S} : FrameBlind (zk_Pc G as s) := fun a U g mk h => ⟨h.1, h.2.1, zk_Tb_s (U := U.calling g mk a) rfl h.2.2⟩
/-- a method's contract, for one run of it -/
def zk_CS (G : zk_G) (l : Launch) (d y : Nat) (as : List Value) (s : zk_S) (v : Option Value) (s1 : zk_S) : Prop := Met l (zk_y y) (zk_w y) (zk_rm d (s1.2.1 - s.2.1) (s1.2.2 - s.2.2)) (zk_Pc G as s) (zk_Qc G v s1) (s1.2.1 - s.2.1) (s1.2.2 - s.2.2) (fun q => zk_B G ≤ q)
theorem zk_Yc_a : zt_Yc.all (fun y => zt_Ci.elem (zk_o y) && Nat.ble 1 y && Nat.ble y 303) = true := by decide +kernel
theorem zk_yf {y : Nat} (hy : y ∈ zt_Yc) : (zk_y y).cls = zk_c (zk_o y) ∧ (zk_y y).cls ≠ "java/lang/invoke/MethodHandle" ∧ (zk_y y).cls ≠ "java/lang/invoke/VarHandle" ∧ plainFor (zk_y y) = true ∧ zk_ml y ≤ 20 ∧ zk_o y ∈ zt_Ci := by
  have h1 := List.all_eq_true.mp zk_Yc_a y hy
  simp only [Bool.and_eq_true] at h1
  have h2 := List.all_eq_true.mp zk_ycls_a y (List.mem_range.mpr (by have := Nat.le_of_ble_eq_true h1.2; omega))
  have h3 : Nat.beq y 0 = false := by
    cases hb : Nat.beq y 0 with
    | false => rfl
    | true =>
      have e := Nat.eq_of_beq_eq_true hb
      have := Nat.le_of_ble_eq_true h1.1.2
      omega
  rw [h3, Bool.false_or] at h2
  simp only [Bool.and_eq_true, decide_eq_true_eq] at h2
  exact ⟨h2.1.1.1.1, h2.1.1.1.2, h2.1.1.2, h2.1.2, Nat.le_of_ble_eq_true h2.2, List.elem_iff.mp h1.1.1⟩
theorem zk_npf {y : Nat} {sig : MethodDescriptor} (h : parseMethodDescriptor (zk_y y).desc = some sig) : zk_np y = sig.parameters.length := by
  unfold zk_np
  rw [h]
section
variable {G : zk_G} {p : Program} {l : Launch} {e : Env} {R : Room} {sM : State} {m : MethodId} {args : Array Value} {below : List Frame} {meth : Method} {c : Code} {H : Heap} {locs : List Loc} {cells slots : Nat} {Q : State → Prop} {cc : ByteArray} {o pc nL : Nat} {rest : List Value} {s s1 : zk_S} {ls : Array Slot} {v : Option Value} {as : List Value} {d y i : Nat}
theorem zk_cont {mc ms : Nat} {a : Array Value} {st0 rst : List Value} (hlo : ∀ q ∈ locs, zk_B G ≤ q.base) (hr : va_Run p l e R sM m args below meth c H locs cells slots mc ms (F0 m pc ls st0) rst (zk_Qc G v s1 a) (fun q => zk_B G ≤ q))
    (kk : ∀ (H1 : Heap) (locs1 : List Loc), zk_Wd G H1 s1 → (∀ q ∈ locs1, zk_B G ≤ q.base) → W p l e R sM m args below meth c H1 locs1 (cells + mc) (slots + ms) Q (F0 m (pc + 3) ls ((v.map (zk_rz G)).toList ++ rst))) : W p l e R sM m args below meth c H locs cells slots Q (F0 m pc ls st0) := by
  intro T hT X
  obtain ⟨v', st₀, t, T', L, h0, X', hL, e1, e2, ⟨hv, hw⟩, st⟩ := hr T hT X
  cases hv
  obtain ⟨t2, a1, b1⟩ := kk T'.heap (locs ++ L) (by rw [e1]; exact hw) (fun q hq => by
    rcases List.mem_append.mp hq with z | z
    · exact hlo q z
    · exact hL q z) T' rfl X'
  exact ⟨t2, st t2 a1, b1⟩
theorem zk_wsok (hts : ∀ w ∈ zk_TB, w.before args sM = true) (hy : y ∈ zt_Yc) : ∀ w ∈ zk_w y, ∀ (a' : Array Value) (U : State), sM.WarmedH U.vm → w.before a' U = true := by
  refine pay_in hts (fun w hw => ?_)
  rcases List.mem_cons.mp hw with rfl | hw
  · exact zk_TBg _ (zw_Y_ok _ hy)
  · exact zk_TBg _ hw
theorem zk_PcU (hTb : zk_Tb G sM) (T : zk_Wd G H s) : ∀ U : State, U.heap = H → sM.WarmedH U.vm → zk_Pc G as s (as.map (zk_rz G)).toArray U := fun U hU hW => ⟨rfl, by rw [hU]; exact T, zk_Tb_w hW hTb⟩
theorem zo_static (hx : p.tables.exec = Jvm.exec) (hb : c.code = cc) (hml : c.maxLocals = nL) (hls : ls.size = nL) (hown : sM.vm.findClass (zk_c o) = some m.cls) (hts : ∀ w ∈ zk_TB, w.before args sM = true) (hTb : zk_Tb G sM) (T : zk_Wd G H s) (hlo : ∀ q ∈ locs, zk_B G ≤ q.base)
    (hM : zk_CS G l d y as s v s1) (hR1 : d + 1 ≤ R.frames) (hR2 : 40 * (d + 1) ≤ R.locals) (hc1 : cells + (s1.2.1 - s.2.1) ≤ R.cells) (hc2 : slots + (s1.2.2 - s.2.2) ≤ R.slots) (hl : (o, i, y, 0) ∈ zt_M0 ∨ (o, i, y, 10) ∈ zt_M1) (hy : y ∈ zt_Yc) (hst : y ∈ zt_Yst) (hn : as.length = zk_np y) (hrest : (rest.map fun v => v.category).sum ≤ 8) (hdec : decode cc pc = .ok (.invokestatic i, 3))
    (kk : ∀ (H1 : Heap) (locs1 : List Loc), zk_Wd G H1 s1 → (∀ q ∈ locs1, zk_B G ≤ q.base) → W p l e R sM m args below meth c H1 locs1 (cells + (s1.2.1 - s.2.1)) (slots + (s1.2.2 - s.2.2)) Q (F0 m (pc + 3) ls ((v.map (zk_rz G)).toList ++ rest.map (zk_rz G)))) : W p l e R sM m args below meth c H locs cells slots Q (F0 m pc ls ((as.map (zk_rz G)).reverse ++ rest.map (zk_rz G))) := by
  obtain ⟨f1, f2, f3, f4, f5, f6⟩ := zk_yf hy
  have hini : (Cond.initialized (zk_y y).cls).before args sM = true := by rw [f1]; exact hts _ (zw_Ci_ok _ f6)
  have hlen : (as.map (zk_rz G)).length = zk_np y := by rw [List.length_map]; exact hn
  have hloc : 8 + (zk_ml y + 11) + (zk_rm d (s1.2.1 - s.2.1) (s1.2.2 - s.2.2)).locals ≤ R.locals := by show 8 + (zk_ml y + 11) + 40 * d ≤ R.locals; omega
  have hy0 : y ≠ 0 := by
    have h1 := List.all_eq_true.mp zk_Yc_a y hy
    simp only [Bool.and_eq_true] at h1
    have := Nat.le_of_ble_eq_true h1.1.2
    omega
  have hcode : Cond.code (zk_y y) (zk_b y) (zk_ml y) (zk_rt y) ∈ zk_TB := zw_Y_ok _ hy
  rcases hl with hl | hl
  · have hlk : (Cond.methodLink (zk_c o) i (zk_y y)).before args sM = true := by
      have := hts _ (zw_M_ok _ hl)
      simpa [zw_M, hy0] using this
    exact zk_cont hlo (va_runS (As := as.map (zk_rz G)) (rest := rest.map (zk_rz G)) ⟨hx, hb, hml, hown, hts⟩ hM ⟨⟨rfl, rfl, hR1, hloc, zk_wsok hts hy, List.mem_cons_self, hts _ hcode, hini, ⟨f2, f3⟩, fun sig h => zk_npf h, hlk⟩, hts _ (zw_St_ok _ hst)⟩ ⟨zk_Pc_b, zk_PcU hTb T⟩ rfl hlen hls rfl (lv_room (by rw [zk_rz_s]; exact hrest)) hdec ⟨hc1, hc2⟩) kk
  · have hlk : (Cond.methodLinkNest (zk_c o) i (zk_y y) "SaddlerKnows").before args sM = true := va_Nw.use rfl (hTb.2.1 _ hl)
    exact zk_cont hlo (va_runSN (As := as.map (zk_rz G)) (rest := rest.map (zk_rz G)) ⟨hx, hb, hml, hown, hts⟩ hM ⟨⟨⟨rfl, rfl, hR1, hloc, zk_wsok hts hy, List.mem_cons_self⟩, hts _ hcode, hini, ⟨f2, f3⟩, fun sig h => zk_npf h, hlk⟩, hts _ (zw_St_ok _ hst), trivial⟩ ⟨zk_Pc_b, zk_PcU hTb T⟩ rfl hlen hls rfl (lv_room (by rw [zk_rz_s]; exact hrest)) hdec ⟨hc1, hc2⟩) kk
theorem zk_rvc (hTb : zk_Tb G sM) (T : zk_Wd G H s) {b ci : Nat} (h : zk_rv s b ci = some ()) (hci : ci ≤ 13) : ∃ cellB : Cell, H[zk_ad G b]? = some cellB ∧ cellB.vm.isStatics = false ∧ sM.vm.findClass (zk_c ci) = some cellB.cls := by
  have hs : ∃ fs, s.1 b = zk_ob ci fs := by
    unfold zk_rv at h
    split at h
    · rename_i c' fs hs
      by_cases q : c' = ci
      · exact ⟨fs, by rw [hs, q]⟩
      · rw [if_neg q] at h; cases h
    · cases h
  obtain ⟨fs, hs⟩ := hs
  by_cases hc : ci < 13
  · obtain ⟨-, -, -, ⟨r', hr', cellV, g1, g2, g3, -⟩, -⟩ := zk_Wd_o T hs hc
    have hcls := (hTb.1 ci _ (zk_vw ci hc)).2
    exact ⟨cellV, g1, by rw [g3]; rfl, by rw [g2]; exact hcls.1⟩
  · have h13 : ci = 13 := by omega
    subst h13
    have ha : b < 12 := by
      rcases Nat.lt_or_ge b 12 with q | q
      · exact q
      · rcases (zk_Wd_a T q hs (by intro z; cases z)).2.1 with z | z
        · cases z
        · exact absurd z.1 hc
    obtain ⟨a4, a8, -, -⟩ := zk_E_o ((T.2.2.2.1 b ha).symm.trans hs)
    obtain ⟨⟨cell, c1, c2, c3, c4⟩, -, -⟩ := hTb.2.2.2.2.2.1 b a4 a8
    rw [show zk_ad G b = zk_X G b from if_pos ha]
    exact ⟨cell, (T.2.2.1 _ (by omega)).trans c1, c2, c3⟩
theorem zo_virtual (hx : p.tables.exec = Jvm.exec) (hb : c.code = cc) (hml : c.maxLocals = nL) (hls : ls.size = nL) (hown : sM.vm.findClass (zk_c o) = some m.cls) (hts : ∀ w ∈ zk_TB, w.before args sM = true) (hTb : zk_Tb G sM) (T : zk_Wd G H s) (hlo : ∀ q ∈ locs, zk_B G ≤ q.base) {b : Nat}
    (hM : zk_CS G l d y (.ref b :: as) s v s1) (hrv : zk_rv s b (zk_o y) = some ()) (ho : zk_o y ≤ 13) (hR1 : d + 1 ≤ R.frames) (hR2 : 40 * (d + 1) ≤ R.locals) (hc1 : cells + (s1.2.1 - s.2.1) ≤ R.cells) (hc2 : slots + (s1.2.2 - s.2.2) ≤ R.slots) (hl : (o, i, y, 1) ∈ zt_M0 ∨ (o, i, y, 11) ∈ zt_M1) (hy : y ∈ zt_Yc) (hst : y ∈ zt_Yin) (hse : y ∈ zt_Yse) (hn : as.length = zk_np y) (hrest : (rest.map fun v => v.category).sum ≤ 8) (hdec : decode cc pc = .ok (.invokevirtual i, 3))
    (kk : ∀ (H1 : Heap) (locs1 : List Loc), zk_Wd G H1 s1 → (∀ q ∈ locs1, zk_B G ≤ q.base) → W p l e R sM m args below meth c H1 locs1 (cells + (s1.2.1 - s.2.1)) (slots + (s1.2.2 - s.2.2)) Q (F0 m (pc + 3) ls ((v.map (zk_rz G)).toList ++ rest.map (zk_rz G)))) : W p l e R sM m args below meth c H locs cells slots Q (F0 m pc ls ((as.map (zk_rz G)).reverse ++ .ref (zk_ad G b) :: rest.map (zk_rz G))) := by
  obtain ⟨f1, f2, f3, f4, f5, f6⟩ := zk_yf hy
  have hini : (Cond.initialized (zk_y y).cls).before args sM = true := by rw [f1]; exact hts _ (zw_Ci_ok _ f6)
  have hlen : (as.map (zk_rz G)).length = zk_np y := by rw [List.length_map]; exact hn
  have hloc : 8 + (zk_ml y + 11) + (zk_rm d (s1.2.1 - s.2.1) (s1.2.2 - s.2.2)).locals ≤ R.locals := by show 8 + (zk_ml y + 11) + 40 * d ≤ R.locals; omega
  have hy0 : y ≠ 0 := by
    have h1 := List.all_eq_true.mp zk_Yc_a y hy
    simp only [Bool.and_eq_true] at h1
    have := Nat.le_of_ble_eq_true h1.1.2
    omega
  have hcode : Cond.code (zk_y y) (zk_b y) (zk_ml y) (zk_rt y) ∈ zk_TB := zw_Y_ok _ hy
  have hrc := zk_rvc hTb T hrv ho
  rw [← f1] at hrc
  rcases hl with hl | hl
  · have hlk : (Cond.methodLink (zk_c o) i (zk_y y)).before args sM = true := by
      have := hts _ (zw_M_ok _ hl)
      simpa [zw_M, hy0] using this
    exact zk_cont hlo (va_runV (C := (zk_y y).cls) (As := as.map (zk_rz G)) (rest := rest.map (zk_rz G)) ⟨hx, hb, hml, hown, hts⟩ hM ⟨⟨rfl, rfl, hR1, hloc, zk_wsok hts hy, List.mem_cons_self, hts _ hcode, hini, ⟨f2, f3⟩, fun sig h => zk_npf h, hlk⟩, hts _ (zw_In_ok _ hst), hts _ (zw_Se_ok _ hse)⟩ ⟨zk_Pc_b, hrc, zk_PcU (as := .ref b :: as) hTb T⟩ rfl hlen hls rfl (lv_room (by rw [zk_rz_s]; exact hrest)) hdec ⟨hc1, hc2⟩) kk
  · have hlk : (Cond.methodLinkNest (zk_c o) i (zk_y y) "SaddlerKnows").before args sM = true := va_Nw.use rfl (hTb.2.1 _ hl)
    exact zk_cont hlo (va_runVN (C := (zk_y y).cls) (As := as.map (zk_rz G)) (rest := rest.map (zk_rz G)) ⟨hx, hb, hml, hown, hts⟩ hM ⟨⟨⟨rfl, rfl, hR1, hloc, zk_wsok hts hy, List.mem_cons_self⟩, hts _ hcode, hini, ⟨f2, f3⟩, fun sig h => zk_npf h, hlk⟩, hts _ (zw_In_ok _ hst), hts _ (zw_Se_ok _ hse)⟩ ⟨zk_Pc_b, hrc, zk_PcU (as := .ref b :: as) hTb T⟩ rfl hlen hls rfl (lv_room (by rw [zk_rz_s]; exact hrest)) hdec ⟨hc1, hc2⟩) kk
theorem zk_init_a : (zt_M0 ++ zt_M1).all (fun e => if e.2.2.2 % 10 = 2 then Nat.beq e.2.2.1 0 || (decide ((zk_y e.2.2.1).name = "<init>") && decide (zk_rt e.2.2.1 = none)) else true) = true := by decide +kernel
theorem zo_special (hx : p.tables.exec = Jvm.exec) (hb : c.code = cc) (hml : c.maxLocals = nL) (hls : ls.size = nL) (hown : sM.vm.findClass (zk_c o) = some m.cls) (hts : ∀ w ∈ zk_TB, w.before args sM = true) (hTb : zk_Tb G sM) (T : zk_Wd G H s) (hlo : ∀ q ∈ locs, zk_B G ≤ q.base) {b : Nat}
    (hM : zk_CS G l d y (.ref b :: as) s v s1) (hR1 : d + 1 ≤ R.frames) (hR2 : 40 * (d + 1) ≤ R.locals) (hc1 : cells + (s1.2.1 - s.2.1) ≤ R.cells) (hc2 : slots + (s1.2.2 - s.2.2) ≤ R.slots) (hl : (o, i, y, 2) ∈ zt_M0 ∨ (o, i, y, 12) ∈ zt_M1) (hy : y ∈ zt_Yc) (hst : y ∈ zt_Yin) (hn : as.length = zk_np y) (hrest : (rest.map fun v => v.category).sum ≤ 8) (hdec : decode cc pc = .ok (.invokespecial i, 3))
    (kk : ∀ (H1 : Heap) (locs1 : List Loc), zk_Wd G H1 s1 → (∀ q ∈ locs1, zk_B G ≤ q.base) → W p l e R sM m args below meth c H1 locs1 (cells + (s1.2.1 - s.2.1)) (slots + (s1.2.2 - s.2.2)) Q (F0 m (pc + 3) ls ((v.map (zk_rz G)).toList ++ rest.map (zk_rz G)))) : W p l e R sM m args below meth c H locs cells slots Q (F0 m pc ls ((as.map (zk_rz G)).reverse ++ .ref (zk_ad G b) :: rest.map (zk_rz G))) := by
  obtain ⟨f1, f2, f3, f4, f5, f6⟩ := zk_yf hy
  have hini : (Cond.initialized (zk_y y).cls).before args sM = true := by rw [f1]; exact hts _ (zw_Ci_ok _ f6)
  have hlen : (as.map (zk_rz G)).length = zk_np y := by rw [List.length_map]; exact hn
  have hloc : 8 + (zk_ml y + 11) + (zk_rm d (s1.2.1 - s.2.1) (s1.2.2 - s.2.2)).locals ≤ R.locals := by show 8 + (zk_ml y + 11) + 40 * d ≤ R.locals; omega
  have hy0 : y ≠ 0 := by
    have h1 := List.all_eq_true.mp zk_Yc_a y hy
    simp only [Bool.and_eq_true] at h1
    have := Nat.le_of_ble_eq_true h1.1.2
    omega
  have hcode : Cond.code (zk_y y) (zk_b y) (zk_ml y) (zk_rt y) ∈ zk_TB := zw_Y_ok _ hy
  have hnm : (zk_y y).name = "<init>" ∧ zk_rt y = none := by
    rcases hl with hl | hl
    · have := List.all_eq_true.mp zk_init_a _ (List.mem_append_left _ hl)
      simpa [hy0] using this
    · have := List.all_eq_true.mp zk_init_a _ (List.mem_append_right _ hl)
      simpa [hy0] using this
  rw [hnm.2] at hcode
  have hwc : Cond.code (zk_y y) (zk_b y) (zk_ml y) none ∈ zk_w y := by
    unfold zk_w
    rw [hnm.2]
    exact List.mem_cons_self
  rcases hl with hl | hl
  · have hlk : (Cond.methodLink (zk_c o) i (zk_y y)).before args sM = true := by
      have := hts _ (zw_M_ok _ hl)
      simpa [zw_M, hy0] using this
    exact zk_cont hlo (va_runI (As := as.map (zk_rz G)) (rest := rest.map (zk_rz G)) ⟨hx, hb, hml, hown, hts⟩ hM ⟨⟨rfl, rfl, hR1, hloc, zk_wsok hts hy, hwc, hts _ hcode, hini, ⟨f2, f3⟩, fun sig h => zk_npf h, hlk⟩, hnm.1, hts _ (zw_In_ok _ hst)⟩ ⟨zk_Pc_b, zk_PcU (as := .ref b :: as) hTb T⟩ rfl hlen hls rfl (lv_room (by rw [zk_rz_s]; exact hrest)) hdec ⟨hc1, hc2⟩) kk
  · have hlk : (Cond.methodLinkNest (zk_c o) i (zk_y y) "SaddlerKnows").before args sM = true := va_Nw.use rfl (hTb.2.1 _ hl)
    exact zk_cont hlo (va_runIN (As := as.map (zk_rz G)) (rest := rest.map (zk_rz G)) ⟨hx, hb, hml, hown, hts⟩ hM ⟨⟨⟨rfl, rfl, hR1, hloc, zk_wsok hts hy, hwc⟩, hts _ hcode, hini, ⟨f2, f3⟩, fun sig h => zk_npf h, hlk⟩, hnm.1, hts _ (zw_In_ok _ hst)⟩ ⟨zk_Pc_b, zk_PcU (as := .ref b :: as) hTb T⟩ rfl hlen hls rfl (lv_room (by rw [zk_rz_s]; exact hrest)) hdec ⟨hc1, hc2⟩) kk
end
