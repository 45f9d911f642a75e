/-! THE START: the law's entry, out of what the claim gives; what is left is a matter of the small machine alone -/
theorem zk_aC {args : Array Value} {s : State} {ty : FieldType} (h : (Jvm.Cond.arrayClass ty).before args s = true) : ∃ cA, ArrOfT s cA ty ∧ s.vm.findClass ("[" ++ ty.toString) = some cA := by
  obtain ⟨c, k, comp, h1, h2, h3⟩ := Cond.arrayClass_spec h
  exact ⟨c, fun N z => ⟨(fun k h => by cases h), k, h2, comp, h3⟩, h1⟩
theorem zk_aR {args : Array Value} {s : State} {C : String} (h : (Jvm.Cond.arrayOver (.object C)).before args s = true) : ∃ cA, ArrOfT s cA (.object C) ∧ va_RA s cA (.object C) := by
  obtain ⟨comp, c, k, h1, h2, h3, h4, h5⟩ := Cond.arrayOver_spec h
  exact ⟨c, fun N z => ⟨(fun k h => by cases h), k, h3, comp, h4⟩, k, comp, h3, h4, h1, h5⟩
theorem zk_st3 {args : Array Value} {s : State} {A : Nat → Prop} {C n : String} {f : Nat → Int32} (h0 : (Jvm.Cond.arrayOf (.static C n "[I") .int).before args s = true) (h1 : (Jvm.Cond.eq (.length (.static C n "[I")) (.int 3)).before args s = true)
    (e0 : (Jvm.Cond.eq (.elem (.static C n "[I") (.int 0)) (.int (f 0))).before args s = true) (e1 : (Jvm.Cond.eq (.elem (.static C n "[I") (.int 1)) (.int (f 1))).before args s = true) (e2 : (Jvm.Cond.eq (.elem (.static C n "[I") (.int 2)) (.int (f 2))).before args s = true) (hA : ∀ a : Nat, a < s.heap.size → ¬ A a) :
    ∃ t : Nat, (Term.static C n "[I").eval args s none [] s = some (.ref t) ∧ va_T .int t 3 (fun j => .int (f j)) A s s.heap :=
  va_Tof (N := 3) (by decide) h0 (va_eqt h1) (fun j hj => match j, hj with
    | 0, _ => va_eqt e0
    | 1, _ => va_eqt e1
    | 2, _ => va_eqt e2
    | n + 3, hj => absurd hj (by omega)) hA
def zk_stm (i : Nat) : Term := match i with | 0 => .string "SaddlerKnows$CountyReader" 74 | 1 => .string "SaddlerKnows$CountyReader" 93 | 2 => .string "SaddlerKnows$CountyReader" 111 | _ => .string "SaddlerKnows$LawReader" 81
def zk_sln : List Nat := [2, 3, 3, 6]
def zk_sby : List (List Int32) := [[104, 107], [115, 98, 116], [114, 117, 102], [115, 98, 102, 116, 103, 119]]
abbrev zk_gn : List Jvm.Cond := flatC (Jvm.Cond.and given_1 narrow_1)
set_option maxRecDepth 20000 in
theorem zk_s1 : (List.range 4).all (fun i => decide (Jvm.Cond.exactly (zk_stm i) "java/lang/String" ∈ zk_gn) && decide (Jvm.Cond.eq (.field (zk_stm i) "java/lang/String" "coder" "B") (.int 0) ∈ zk_gn) && decide (Jvm.Cond.arrayOf (.field (zk_stm i) "java/lang/String" "value" "[B") .byte ∈ zk_gn) && decide (Jvm.Cond.eq (.length (.field (zk_stm i) "java/lang/String" "value" "[B")) (.int (Int32.ofNat (zk_sln.getD i 0))) ∈ zk_gn) && (List.range (zk_sln.getD i 0)).all (fun j => decide (Jvm.Cond.eq (.elem (.field (zk_stm i) "java/lang/String" "value" "[B") (.int (Int32.ofNat j))) (.int ((zk_sby.getD i []).getD j 0)) ∈ zk_gn)) && (List.range 4).all (fun j => decide (i = j) || decide (Jvm.Cond.not (Jvm.Cond.eq (zk_stm i) (zk_stm j)) ∈ zk_gn) || decide (Jvm.Cond.not (Jvm.Cond.eq (zk_stm j) (zk_stm i)) ∈ zk_gn)) && decide (zk_sln.getD i 0 < 2 ^ 31)) = true := by decide +kernel
def zk_gw : List Jvm.Cond := [
  .arrayOf (.static "SaddlerKnows$CountyReader" "RULE_HIGHEST" "[I") .int, .eq (.length (.static "SaddlerKnows$CountyReader" "RULE_HIGHEST" "[I")) (.int 3), .eq (.elem (.static "SaddlerKnows$CountyReader" "RULE_HIGHEST" "[I") (.int 0)) (.int 9), .eq (.elem (.static "SaddlerKnows$CountyReader" "RULE_HIGHEST" "[I") (.int 1)) (.int 99), .eq (.elem (.static "SaddlerKnows$CountyReader" "RULE_HIGHEST" "[I") (.int 2)) (.int 0),
  .arrayOf (.static "SaddlerKnows$CountyReader" "PERSON_HIGHEST" "[I") .int, .eq (.length (.static "SaddlerKnows$CountyReader" "PERSON_HIGHEST" "[I")) (.int 3), .eq (.elem (.static "SaddlerKnows$CountyReader" "PERSON_HIGHEST" "[I") (.int 0)) (.int 9), .eq (.elem (.static "SaddlerKnows$CountyReader" "PERSON_HIGHEST" "[I") (.int 1)) (.int 9), .eq (.elem (.static "SaddlerKnows$CountyReader" "PERSON_HIGHEST" "[I") (.int 2)) (.int 9),
  .arrayOf (.static "SaddlerKnows$CountyReader" "SADDLE_HIGHEST" "[I") .int, .eq (.length (.static "SaddlerKnows$CountyReader" "SADDLE_HIGHEST" "[I")) (.int 3), .eq (.elem (.static "SaddlerKnows$CountyReader" "SADDLE_HIGHEST" "[I") (.int 0)) (.int 5), .eq (.elem (.static "SaddlerKnows$CountyReader" "SADDLE_HIGHEST" "[I") (.int 1)) (.int 5), .eq (.elem (.static "SaddlerKnows$CountyReader" "SADDLE_HIGHEST" "[I") (.int 2)) (.int 9),
  .eq (.static "java/lang/String" "COMPACT_STRINGS" "Z") (.int 1), .isRef (.static "java/lang/Throwable" "UNASSIGNED_STACK" "[Ljava/lang/StackTraceElement;"), .isRef (.static "java/lang/Throwable" "SUPPRESSED_SENTINEL" "Ljava/util/List;")]
set_option maxRecDepth 20000 in
theorem zk_gw_i : ∀ w ∈ zk_gw, w ∈ zk_gn := by decide +kernel
def zk_lw9 : List Jvm.Cond := [.laysStatic "SaddlerKnows$CountyReader" "RULE_HIGHEST" "[I", .laysStatic "SaddlerKnows$CountyReader" "PERSON_HIGHEST" "[I", .laysStatic "SaddlerKnows$CountyReader" "SADDLE_HIGHEST" "[I", .laysStatic "java/lang/String" "COMPACT_STRINGS" "Z", .initialized "SaddlerKnows$CountyReader", .initialized "java/lang/String",
  .laysStatic "java/lang/Throwable" "UNASSIGNED_STACK" "[Ljava/lang/StackTraceElement;", .laysStatic "java/lang/Throwable" "SUPPRESSED_SENTINEL" "Ljava/util/List;", .initialized "java/lang/Throwable", .castable zk_NS zk_NS, .arrayOver (.object "SaddlerKnows$Stand"), .arrayOver (.object "SaddlerKnows$Law"), .arrayClass .int, .arrayClass .boolean, .arrayClass .long]
set_option maxRecDepth 20000 in
theorem zk_lw9_i : ∀ w ∈ zk_lw9, w ∈ lw_tbl := by decide +kernel
set_option maxRecDepth 20000 in
theorem zk_xw_i : ∀ w ∈ zk_xw9, w ∈ lw_tbl := by decide +kernel
/-- the memory at the start -/
def zk_M0 (L : Nat) (xs : Nat → Int32) : zk_M := fun k => if k < 12 then zk_E L xs k else zk_no
/-- the law's end, with a truth narrowed on its way out -/
theorem zk_lret {p : Program} {l : Launch} {e : Env} {s : State} {m : MethodId} {below : List Frame} {meth : Method} {c : Code} {b : Nat} (hx : p.tables.exec = Jvm.exec) (hb : c.code = code) (hr : meth.sig.returnType = ret) (hlocks : meth.locks = false) {pc : Nat} {H : Heap} {ls : Array Slot} {x : Int32} (h1 : x &&& 1 = 1) (hdg : decode code pc = .ok (.ireturn, 1)) : W p l e room_1 s m #[Value.ref b] below meth c H [] 601024 7293034 (lw_Z below #[Value.ref b] s) (F0 m pc ls [.int x]) := by
  intro T hT X
  obtain ⟨fs, hret, hrun, hended, hW, hframe⟩ := X.leave (v := some (.int 1)) (hlocks := hlocks) (fun h => by rw [hr] at h; cases h)
  have hmeth' : T.vm.method? m = some meth := X.method'
  have hn : narrow .boolean (.int x) = .int 1 := congrArg Value.int h1
  refine ⟨T.setFrames fs, ?_, .returned (some (.int 1)), hrun, hended, rfl, ⟨_, rfl⟩, hW, hframe⟩
  jvm_step X.here [X.here.top, hx, hb, hdg, hmeth', hr, ret, hn]
  (try refine ⟨rfl, ?_⟩); (try refine ⟨rfl, ?_⟩)
  first | (intro acts; rw [hret _ acts rfl rfl rfl]) | rw [hret _ _ rfl rfl rfl]
  exact Steps.refl _
theorem zk_303 : (zk_rcd 303).all (fun e => decide (e.2.2 ≠ .ireturn) && (decide (e.2.2 ≠ .ret 2) && (decide (e.2.2 ≠ .lreturn) && (decide (e.2.2 ≠ .areturn) && (decide (e.2.2 ≠ .return_) && decide (e.2.2 ≠ .athrow)))))) = true := by decide +kernel
set_option maxHeartbeats 4000000 in
theorem zk_begin {p : Program} {e : Env} {s : State} {m : MethodId} {below : List Frame} {meth : Method} {c : Code} (l : Launch) (hflags : l.flags = flags0) {b L : Nat} {xs : Nat → Int32} (hL : L ≤ 3072) (C0 : lw_At p s m meth c b L xs)
    (hmain : ∃ s1 : zk_S, zk_sm 2000 303 [.ref 0] (zk_M0 L xs, 12, 0) = some (some (.int 1), s1) ∧ s1.2.1 ≤ 601036 ∧ s1.2.2 ≤ 7293034) : W p l e room_1 s m #[Value.ref b] below meth c s.heap [] 0 0 (lw_Z below #[Value.ref b] s) (entryFrame m ([Value.ref b] : List Value).toArray 7) := by
  obtain ⟨hx, hb, hr, hml, hown, hts, hX, hbl, hlk, hgv⟩ := C0
  obtain ⟨s1, hmain, hm1, hm2⟩ := hmain
  have hs := flat_of_before _ hgv
  have hg : ∀ w ∈ zk_gw, w.before #[Value.ref b] s = true := fun w hw => hs w (zk_gw_i w hw)
  have ht : ∀ w ∈ zk_lw9, w.before #[Value.ref b] s = true := fun w hw => hts w (zk_lw9_i w hw)
  have hG : ∀ {i : Nat} {w : Jvm.Cond}, zk_gw[i]? = some w → w.before #[Value.ref b] s = true := fun h => hg _ (List.mem_of_getElem? h)
  have hT : ∀ {i : Nat} {w : Jvm.Cond}, zk_lw9[i]? = some w → w.before #[Value.ref b] s = true := fun h => ht _ (List.mem_of_getElem? h)
  have htB : ∀ w ∈ zk_TB, w.before #[Value.ref b] s = true := fun w hw => hts w (List.mem_filter.mp hw).1
  have hA : ∀ a : Nat, a < s.heap.size → ¬ (fun q => s.heap.size ≤ q) a := fun a h z => Nat.lt_irrefl _ (Nat.lt_of_lt_of_le h z)
  obtain ⟨t1, ev1, T1⟩ := zk_st3 (A := fun q => s.heap.size ≤ q) (f := fun j => [9, 99, 0].getD j 0) (hG (i := 0) rfl) (hG (i := 1) rfl) (hG (i := 2) rfl) (hG (i := 3) rfl) (hG (i := 4) rfl) hA
  obtain ⟨t2, ev2, T2⟩ := zk_st3 (A := fun q => s.heap.size ≤ q) (f := fun j => [9, 9, 9].getD j 0) (hG (i := 5) rfl) (hG (i := 6) rfl) (hG (i := 7) rfl) (hG (i := 8) rfl) (hG (i := 9) rfl) hA
  obtain ⟨t3, ev3, T3⟩ := zk_st3 (A := fun q => s.heap.size ≤ q) (f := fun j => [5, 5, 9].getD j 0) (hG (i := 10) rfl) (hG (i := 11) rfl) (hG (i := 12) rfl) (hG (i := 13) rfl) (hG (i := 14) rfl) hA
  have Z1 := va_Zof (A := fun q => s.heap.size ≤ q) (hT (i := 0) rfl) (hT (i := 4) rfl) ev1 hA
  have Z2 := va_Zof (A := fun q => s.heap.size ≤ q) (hT (i := 1) rfl) (hT (i := 4) rfl) ev2 hA
  have Z3 := va_Zof (A := fun q => s.heap.size ≤ q) (hT (i := 2) rfl) (hT (i := 4) rfl) ev3 hA
  have Z0 := va_Zof (A := fun q => s.heap.size ≤ q) (hT (i := 3) rfl) (hT (i := 5) rfl) (va_eqt (hG (i := 15) rfl)) hA
  have hst := fun (i : Nat) (hi : i < 4) => List.all_eq_true.mp zk_s1 i (List.mem_range.mpr hi)
  simp only [Bool.and_eq_true, decide_eq_true_eq] at hst
  obtain ⟨adK, adV, ⟨hE, -⟩, hEv⟩ := vk_Sof (N := 4) (tm := zk_stm) (len := zk_sln) (byt := zk_sby) (A := fun q => s.heap.size ≤ q) (args := #[Value.ref b]) (s := s) (fun i hi => (hst i hi).2) (fun i hi => hs _ (hst i hi).1.1.1.1.1.1) (fun i hi => hs _ (hst i hi).1.1.1.1.1.2) (fun i hi => hs _ (hst i hi).1.1.1.1.2) (fun i hi => hs _ (hst i hi).1.1.1.2)
    (fun i hi j hj => hs _ (of_decide_eq_true (List.all_eq_true.mp (hst i hi).1.1.2 j (List.mem_range.mpr hj)))) (fun i j hi hj hij => by
      have h := List.all_eq_true.mp (hst i hi).1.2 j (List.mem_range.mpr hj)
      simp only [Bool.or_eq_true, decide_eq_true_eq] at h
      rcases h with (h | h) | h
      · exact absurd h hij
      · exact Or.inl (hs _ h)
      · exact Or.inr (hs _ h)) hA
  obtain ⟨c7, a7, r7⟩ := zk_aR (hT (i := 10) rfl)
  obtain ⟨c1, a1, r1⟩ := zk_aR (hT (i := 11) rfl)
  obtain ⟨cI, aI, fI⟩ := zk_aC (hT (i := 12) rfl)
  obtain ⟨cZ, aZ, fZ⟩ := zk_aC (hT (i := 13) rfl)
  obtain ⟨cJ, aJ, fJ⟩ := zk_aC (hT (i := 14) rfl)
  have hD : ∀ c : Nat, ∃ q : ClassId × (Nat → Nat), c < 13 → u_Kn s (zk_c c) (zk_tx c) (zk_nf c) q.1 q.2 := by
    intro c
    by_cases hc : c < 13
    · obtain ⟨cC, iS, h⟩ := u_known (n := zk_nf c) htB (zw_Ly_ok hc) (htB _ (zw_Is_ok c (List.elem_iff.mp (List.all_eq_true.mp (by decide +kernel : (List.range 13).all (fun c => zt_In.elem c) = true) c (List.mem_range.mpr hc)))))
      exact ⟨(cC, iS), fun _ => h⟩
    · exact ⟨(0, fun _ => 0), fun h => absurd h hc⟩
  obtain ⟨fD, hD⟩ := Classical.axiomOfChoice hD
  obtain ⟨G, eG⟩ : ∃ G : zk_G, G = (s.heap.size, s.heap, (fun k => match k with | 0 => b | 1 => t1 | 2 => t2 | 3 => t3 | k + 4 => if k < 4 then adK k else adV (k - 4)), ((fun c => (fD c).1), (fun c => (fD c).2)), (fun t => if t = 0 then cI else if t = 2 then cZ else cJ), (fun c => if c = 7 then c7 else c1), L, xs) := ⟨_, rfl⟩
  have hTb : zk_Tb G s := by
    subst eG
    refine ⟨fun c q hq => ?_, fun e he => va_Nw.of rfl (hts _ (zw_N_ok e he)), fun e he => ?_, ⟨fun i i1 i3 => ?_, Z0⟩, fun k k12 k48 => ?_, fun k k4 k8 => ?_, ⟨⟨aI, fI⟩, ⟨aZ, fZ⟩, ⟨aJ, fJ⟩⟩, fun c hc => ?_⟩
    · have hc : c < 13 := (List.getElem?_eq_some_iff.mp hq).1
      rw [zk_vw c hc] at hq
      cases hq
      exact hD c hc
    · have h2 : ∃ i, i < 4 ∧ e.2.2 = i + 4 ∧ zk_stm i = .string (zk_c e.1) e.2.1 := by
        have := List.all_eq_true.mp (by decide +kernel : zt_S.all (fun e => (List.range 4).any (fun i => decide (e.2.2 = i + 4) && decide (zk_stm i = .string (zk_c e.1) e.2.1))) = true) e he
        obtain ⟨i, hi, h⟩ := List.any_eq_true.mp this
        rw [Bool.and_eq_true] at h
        exact ⟨i, List.mem_range.mp hi, of_decide_eq_true h.1, of_decide_eq_true h.2⟩
      obtain ⟨i, hi, e4, es⟩ := h2
      have h3 := hEv i hi
      rw [es] at h3
      rw [e4]
      show vk_R _ _ _ (if i < 4 then adK i else adV (i - 4)) s
      rw [if_pos hi]
      have h1' : (Jvm.Cond.stringRef (zk_c e.1) e.2.1 (zk_tl e.2.2)).before #[Value.ref b] s = true := hts _ (zw_S_ok e he)
      rw [e4] at h1'
      exact vk_R.of h1' h3
    · match i, i1, i3 with
      | 1, _, _ => exact Z1
      | 2, _, _ => exact Z2
      | 3, _, _ => exact Z3
      | n + 4, _, h => exact absurd h (by omega)
    · match k, k12, k48 with
      | 0, _, _ =>
        obtain ⟨scr, x1, x2, x3, x4, x5⟩ := hX
        exact ⟨scr, x1, x2, x3, Nat.le_of_eq x4.symm, by rw [x4]; rfl, x5, hA b hbl⟩
      | 1, _, _ => exact T1
      | 2, _, _ => exact T2
      | 3, _, _ => exact T3
      | 4, _, h => exact absurd h (by omega)
      | 5, _, h => exact absurd h (by omega)
      | 6, _, h => exact absurd h (by omega)
      | 7, _, h => exact absurd h (by omega)
      | 8, _, _ => exact (hE 0 (by omega)).2.2.2
      | 9, _, _ => exact (hE 1 (by omega)).2.2.2
      | 10, _, _ => exact (hE 2 (by omega)).2.2.2
      | 11, _, _ => exact (hE 3 (by omega)).2.2.2
      | n + 12, h, _ => exact absurd h (by omega)
    · match k, k4, k8 with
      | 4, _, _ => exact ⟨(hE 0 (by omega)).1, (hE 0 (by omega)).2.2.1, (hE 0 (by omega)).2.1⟩
      | 5, _, _ => exact ⟨(hE 1 (by omega)).1, (hE 1 (by omega)).2.2.1, (hE 1 (by omega)).2.1⟩
      | 6, _, _ => exact ⟨(hE 2 (by omega)).1, (hE 2 (by omega)).2.2.1, (hE 2 (by omega)).2.1⟩
      | 7, _, _ => exact ⟨(hE 3 (by omega)).1, (hE 3 (by omega)).2.2.1, (hE 3 (by omega)).2.1⟩
      | 0, h, _ => exact absurd h (by omega)
      | 1, h, _ => exact absurd h (by omega)
      | 2, h, _ => exact absurd h (by omega)
      | 3, h, _ => exact absurd h (by omega)
      | n + 8, _, h => exact absurd h (by omega)
    · rcases hc with rfl | rfl
      · exact ⟨va_AO.of (hT (i := 10) rfl), a7, r7⟩
      · exact ⟨va_AO.of (hT (i := 11) rfl), a1, r1⟩
  have hXt : zk_Xt G s := by
    subst eG
    exact ⟨fun w hw a => zk_xw_m (args := #[Value.ref b]) (Vm.Alike.refl _) w hw (hts w (zk_xw_i w hw)), vx_Zqof (hT (i := 6) rfl) (hT (i := 8) rfl) (hG (i := 16) rfl) hA, vx_Zqof (hT (i := 7) rfl) (hT (i := 8) rfl) (hG (i := 17) rfl) hA⟩
  have hB : zk_B G = s.heap.size := by rw [eG]
  have hW : zk_Wd G s.heap (zk_M0 L xs, 12, 0) := by
    subst eG
    exact ⟨Nat.le_refl _, rfl, fun q _ => rfl, fun k hk => if_pos hk, fun k h1 h2 => absurd h1 (Nat.not_le.mpr h2), fun k hk => if_neg (Nat.not_lt.mpr hk)⟩
  have hl : l.stackTraces = false := by
    unfold Launch.stackTraces
    rw [hflags]
    decide +kernel
  have hfa : zk_fa 303 [.ref 0] = true := rfl
  unfold zk_sm at hmain
  rw [hfa] at hmain
  replace hmain : zk_sf 2000 303 0 (zk_en (zk_ml 303) [.ref 0]) [] (zk_M0 L xs, 12, 0) = some (some (.int 1), s1) := hmain
  obtain ⟨f, hw⟩ := zk_sf_i.mp hmain
  obtain ⟨hlh, hln⟩ := zk_lh_e (G := G) (n := 7) (as := [.ref 0]) (by show 1 ≤ 7; omega)
  have ead : zk_ad G 0 = b := by rw [eG]; rfl
  have eargs : ([.ref 0] : List Value).map (zk_rz G) = [Value.ref b] := by show [Value.ref (zk_ad G 0)] = _; rw [ead]
  rw [eargs] at hlh
  have hown' : s.vm.findClass (zk_c (zk_o 303)) = some m.cls := hown
  have hRf : 2000 ≤ room_1.frames := by decide
  have hRl : 40 * 2000 ≤ room_1.locals := by decide
  have hRc : (601024 : Nat) ≤ room_1.cells := by decide
  have hRs : (7293034 : Nat) ≤ room_1.slots := by decide
  rw [lg_entry_eq]
  refine zk_sound G l f 2000 303 0 (zk_en (zk_ml 303) [.ref 0]) [] (zk_M0 L xs, 12, 0) (some (.int 1), s1) p e room_1 s m _ below meth c s.heap [] 0 0 _ 12 0 _ hw hx hb hml hown' (fun h => absurd h (by decide)) htB hTb hRf hRl ⟨hW, hlh, hln, fun q hq => (by cases hq), rfl, rfl⟩ ?_ (fun f' _ => zk_PP_l hl hx hb hml hown' htB hTb hXt hRf hRl) ?_ ?_
  · intro pcE nx i SE LE sE HE locsE cellsE slotsE lsE hl9 hfin T
    have hmem := zk_lk_m hl9
    have hall := List.all_eq_true.mp zk_303 _ hmem
    simp only [Bool.and_eq_true, decide_eq_true_eq] at hall
    have hck := zk_ok 303 _ hmem
    unfold zk_ck at hck
    split at hck
    case h_2 => cases hck
    rename_i raw len hdec
    rw [Bool.and_eq_true] at hck
    obtain ⟨-, hchk⟩ := hck
    replace hchk : zk_chk (zk_o 303) pcE i raw len = true := hchk
    replace hdec : decode code pcE = .ok (raw, len) := hdec
    rcases zk_fin_v hfin with ⟨rfl, x, _, h⟩ | ⟨rfl, x, rfl, h⟩ | ⟨rfl, x, _, h⟩ | ⟨rfl, x, _, h⟩ | ⟨rfl, _⟩ | ⟨rfl, _, h⟩ | ⟨rfl, _, h⟩
    · exact absurd rfl hall.1
    · have hx1 : x &&& 1 = 1 := by
        have h9 : (some (Value.int 1) : Option Value) = some (.int (x &&& 1)) := congrArg Prod.fst h
        exact (Value.int.inj (Option.some.inj h9)).symm
      have hs1 : s1 = sE := congrArg Prod.snd h
      subst hs1
      replace hchk : (match (generalizing := false) raw with | .ireturn => (Nat.beq 1 1 || Nat.beq 1 2) && Nat.beq len 1 | _ => false) = true := hchk
      split at hchk
      case h_2 => cases hchk
      rw [Bool.and_eq_true] at hchk
      have hl1 := Nat.eq_of_beq_eq_true hchk.2
      subst hl1
      have e1 := T.2.2.2.2.1
      have e2 := T.2.2.2.2.2
      refine W.widen (k := 601024) (n := 7293034) (by omega) (by omega) ?_
      exact va_forget (fun q hq => by rw [← hB]; exact T.2.2.2.1 q hq) (zk_lret hx hb hr hlk hx1 hdec)
    · exact absurd rfl hall.2.1
    · exact absurd rfl hall.2.2.1
    · exact absurd rfl hall.2.2.2.1
    · exact absurd rfl hall.2.2.2.2.1
    · exact absurd rfl hall.2.2.2.2.2
  · show s1.2.1 ≤ room_1.cells + 12; omega
  · show s1.2.2 ≤ room_1.slots + 0; omega
