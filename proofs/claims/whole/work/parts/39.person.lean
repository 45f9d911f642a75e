/-! THE THROW: SaddlerKnows.person for a run that throws; the law's own person, which catches it -/
def zk_NS : String := "java/util/NoSuchElementException"
def zk_NL : List String := ["java/lang/RuntimeException", "java/lang/Exception"]
abbrev zk_at0 : List Jvm.Cond := vx_at0 "SaddlerKnows" 169 zk_NS zk_NL
set_option maxRecDepth 20000 in
theorem zk_at_i : ∀ w ∈ zk_at0.filter goodWord, w ∈ lw_tbl := by decide +kernel
def zk_xw9 : List Jvm.Cond := [.castable zk_NS zk_NS, .declares ⟨"java/lang/RuntimeException", "<init>", "()V"⟩, .declares ⟨"java/lang/Exception", "<init>", "()V"⟩, .declares ⟨"java/lang/Throwable", "<init>", "()V"⟩]
theorem zk_at_n : ∀ w ∈ zk_at0.filter (fun w => !goodWord w), w ∈ zk_xw9 := by decide +kernel
theorem zk_at_o : (Jvm.Cond.classLink "SaddlerKnows" 167 zk_NS :: Jvm.Cond.initialized zk_NS :: zk_at0).all vx_ot = true := by decide +kernel
abbrev zk_pcw : Jvm.Cond := .codeWith (zk_y 302) (zk_b 302) 5 (some .int) [(0, 10, 13, 13)]
def zk_pws : List Jvm.Cond := zk_pcw :: zk_TB
def zk_pwl : List Jvm.Cond := [zk_pcw, .classLink "SaddlerKnows" 167 zk_NS, .initialized zk_NS, .classLink "SaddlerKnowsLaw" 13 zk_NS, .methodLink "SaddlerKnowsLaw" 7 (zk_y m_SaddlerKnows_person), .instanceMethod (zk_y m_SaddlerKnows_person), .selects "SaddlerKnows" (zk_y m_SaddlerKnows_person) (zk_y m_SaddlerKnows_person), .static (zk_y 302), .initialized "SaddlerKnowsLaw"]
set_option maxRecDepth 20000 in
theorem zk_pw_i : ∀ w ∈ zk_pwl, w ∈ lw_tbl := by decide +kernel
theorem zk_pw_g : zk_pwl.all goodWord = true := by decide +kernel
theorem zk_pw_t {w : Jvm.Cond} (h : w ∈ zk_pwl) : w ∈ zk_TB := zk_TBi (zk_pw_i w h) (List.all_eq_true.mp zk_pw_g w h)
theorem zk_pw_0 : zk_pcw ∈ zk_TB := zk_pw_t (List.mem_of_getElem? (i := 0) rfl)
theorem zk_pyp : m_SaddlerKnows_person ∈ zt_Yc := by decide +kernel
theorem zk_pd8' : decode (zk_b m_SaddlerKnows_person) 8 = .ok (.new 167, 3) := by decide +kernel
theorem zk_pd11' : decode (zk_b m_SaddlerKnows_person) 11 = .ok (.dup, 1) := by decide +kernel
theorem zk_pd12' : decode (zk_b m_SaddlerKnows_person) 12 = .ok (.invokespecial 169, 3) := by decide +kernel
theorem zk_pd15' : decode (zk_b m_SaddlerKnows_person) 15 = .ok (.athrow, 1) := by decide +kernel
theorem zk_pd126' : decode (zk_b m_SaddlerKnows_person) 126 = .ok (.new 167, 3) := by decide +kernel
theorem zk_pd129' : decode (zk_b m_SaddlerKnows_person) 129 = .ok (.dup, 1) := by decide +kernel
theorem zk_pd130' : decode (zk_b m_SaddlerKnows_person) 130 = .ok (.invokespecial 169, 3) := by decide +kernel
theorem zk_pd133' : decode (zk_b m_SaddlerKnows_person) 133 = .ok (.athrow, 1) := by decide +kernel
theorem zk_pd0 : decode (zk_b 302) 0 = .ok (.aload_n 3, 1) := by decide +kernel
theorem zk_pd1 : decode (zk_b 302) 1 = .ok (.iconst 0, 1) := by decide +kernel
theorem zk_pd2 : decode (zk_b 302) 2 = .ok (.aload_n 0, 1) := by decide +kernel
theorem zk_pd3 : decode (zk_b 302) 3 = .ok (.iload_n 1, 1) := by decide +kernel
theorem zk_pd4 : decode (zk_b 302) 4 = .ok (.iload_n 2, 1) := by decide +kernel
theorem zk_pd5 : decode (zk_b 302) 5 = .ok (.invokevirtual 7, 3) := by decide +kernel
theorem zk_pd8 : decode (zk_b 302) 8 = .ok (.i2l, 1) := by decide +kernel
theorem zk_pd9 : decode (zk_b 302) 9 = .ok (.lastore, 1) := by decide +kernel
theorem zk_pd10 : decode (zk_b 302) 10 = .ok (.goto 7, 3) := by decide +kernel
theorem zk_pd13 : decode (zk_b 302) 13 = .ok (.astore 4, 2) := by decide +kernel
theorem zk_pd15 : decode (zk_b 302) 15 = .ok (.iconst 1, 1) := by decide +kernel
theorem zk_pd16 : decode (zk_b 302) 16 = .ok (.ireturn, 1) := by decide +kernel
theorem zk_pd17 : decode (zk_b 302) 17 = .ok (.iconst 0, 1) := by decide +kernel
theorem zk_pd18 : decode (zk_b 302) 18 = .ok (.ireturn, 1) := by decide +kernel
theorem zk_ath : (zk_rcd m_SaddlerKnows_person).all (fun e => decide (e.2.2 ≠ .athrow) || (Nat.beq e.1 8 || Nat.beq e.1 126)) = true := by decide +kernel
/-- what a throw stands on -/
def zk_Xt (G : zk_G) (U : State) : Prop := (∀ w ∈ zk_xw9, ∀ args : Array Value, w.before args U = true) ∧ vx_Zq Bundle.tN "UNASSIGNED_STACK" Bundle.steD (fun q => zk_B G ≤ q) U (zk_H G) ∧ vx_Zq Bundle.tN "SUPPRESSED_SENTINEL" Bundle.listD (fun q => zk_B G ≤ q) U (zk_H G)
theorem zk_cas {C T : String} {args a' : Array Value} {s U : State} (ha : s.vm.Alike U.vm) (h : (Jvm.Cond.castable C T).before args s = true) : (Jvm.Cond.castable C T).before a' U = true := by
  obtain ⟨c, t, h1, h2, h3⟩ := Cond.castable_spec h
  have g1 : U.vm.findClass C = some c := by rw [ha.findClass]; exact h1
  have g2 : U.vm.findClass T = some t := by rw [ha.findClass]; exact h2
  have g3 : U.vm.assignable c t = true := by rw [ha.assignable]; exact h3
  simp [Cond.before, Cond.holds, Cond.value, g1, g2, g3]
theorem zk_dec {x : MethodName} {args a' : Array Value} {s U : State} (ha : s.vm.Alike U.vm) (h : (Jvm.Cond.declares x).before args s = true) : (Jvm.Cond.declares x).before a' U = true := va_tabs rfl (rfl : (s.setVm U.vm).vm = U.vm) (by rw [Cond.declares_setVm ha]; exact h)
theorem zk_xw_m {s U : State} (ha : s.vm.Alike U.vm) {args a' : Array Value} : ∀ w ∈ zk_xw9, w.before args s = true → w.before a' U = true := by
  intro w hw
  rcases List.mem_cons.mp hw with rfl | hw
  · exact zk_cas ha
  · rcases List.mem_cons.mp hw with rfl | hw
    · exact zk_dec ha
    · rcases List.mem_cons.mp hw with rfl | hw
      · exact zk_dec ha
      · rcases List.mem_cons.mp hw with rfl | hw
        · exact zk_dec ha
        · cases hw
theorem zk_Xt_m {G : zk_G} {s U : State} (ha : s.vm.Alike U.vm) (h : zk_Xt G s) : zk_Xt G U := ⟨fun w hw a => zk_xw_m (args := a) ha w hw (h.1 w hw a), h.2.1.moved ha, h.2.2.moved ha⟩
theorem zk_Xt_c {G : zk_G} {U : State} (h : zk_Xt G U) (args : Array Value) : (Jvm.Cond.castable zk_NS zk_NS).before args U = true := h.1 _ List.mem_cons_self args
theorem zk_loc9 {d n : Nat} (h : 40 * (d + 10) ≤ n) : 8 + (5 + 11) + 40 * (d + 9) ≤ n := by
  rw [Nat.mul_add] at h ⊢
  exact Nat.le_trans (by rw [Nat.add_comm, Nat.add_assoc]; exact Nat.add_le_add_left (by decide) _) h
theorem zk_loc8 {d m : Nat} (h : m ≤ 20) : 8 + (m + 11) + 40 * (d + 8) ≤ 40 * (d + 9) := by omega
def zk_XC (G : zk_G) (s1 : zk_S) : String → State → State → Prop := fun E _ t => E = zk_NS ∧ zk_Wd G t.heap (zk_nw s1 zk_no zk_xw)
def zk_PcX (G : zk_G) (as : List Value) (s : zk_S) : Array Value → State → Prop := fun a U => zk_Pc G as s a U ∧ zk_Xt G U
theorem zk_PcX_b {G : zk_G} {as : List Value} {s : zk_S} : FrameBlind (zk_PcX G as s) := fun a U g mk h => ⟨zk_Pc_b a U g mk h.1, zk_Xt_m (s := U) (U := U.calling g mk a) (show U.vm.Alike (U.calling g mk a).vm from Vm.Alike.refl _) h.2⟩
theorem zk_ofWW {l : Launch} {y : MethodName} {ws ws' : List Jvm.Cond} {rm : Room} {Pc : Array Value → State → Prop} {Qc : Array Value → State → Outcome → State → Prop} {mc ms : Nat} {free : Addr → Prop} {cc : ByteArray} {maxL : Nat} {ret : Option FieldType} {hh : List (Nat × Nat × Nat × Nat)}
    (hy : plainFor y = true) (hw : ws = Jvm.Cond.codeWith y cc maxL ret hh :: ws')
    (body : ∀ p e s m args below meth c s₁, BodyLoose p l y (headSpec ws rm) cc maxL ret e s m args below meth c s₁ → c.maxLocals = maxL → c.exceptionTable.toList = tableOf hh → Pc args s →
      W p l e (headSpec ws rm).room s m args below meth c s.heap [] 0 0 (MQ below Qc args s mc ms free) (entryFrame m args maxL)) : Met l y ws rm Pc Qc mc ms free := by
  have hmem : Jvm.Cond.codeWith y cc maxL ret hh ∈ ws := by rw [hw]; exact List.mem_cons_self
  refine MetFree.of_bodySF (code := cc) (maxLocals := maxL) (ret := ret) hy ?_ ?_
  · intro args s m h hn
    obtain ⟨m9, meth, c, h0, h1, h2, h3, h4, -, h5, h6, -⟩ := Cond.codeWith_spec (atoms_spec (ws := ws) h _ hmem)
    cases Option.some.inj (h0.symm.trans hn)
    exact ⟨meth, c, h1, h2, h3, h4, h5, h6⟩
  · intro p e s m args below meth c s₁ B hml hP _
    have hh0 : s₁.heap = s.heap := by rw [B.state]; rfl
    obtain ⟨t, a1, o, b1, b2, b3⟩ := body p e s m args below meth c s₁ B hml (vx_table (x := y) B (atoms_spec (ws := ws) B.pre _ hmem)) hP s₁ hh0 (Stand.of_body B)
    exact ⟨t, o, a1, b1, b2, ⟨b3.1, b3.2⟩⟩
/-- the contract of a run that throws -/
theorem zk_metX {G : zk_G} {l : Launch} {f d : Nat} {as : List Value} {s s1 : zk_S} {t : Addr} (hl : l.stackTraces = false) (hd : 6 ≤ d) (hSd : zk_Sd G l f) (hfa : zk_fa m_SaddlerKnows_person as = true) (hw : zk_wk f d m_SaddlerKnows_person 0 (zk_en (zk_ml m_SaddlerKnows_person) as) [] s = some (some (.retAddr t), s1)) :
    vx_Met l (zk_y m_SaddlerKnows_person) (zk_w m_SaddlerKnows_person) (zk_rm d (s1.2.1 + 1 - s.2.1) (s1.2.2 + zk_xw - s.2.2)) (zk_PcX G as s) (fun _ _ _ _ => False) (zk_XC G s1) (s1.2.1 + 1 - s.2.1) (s1.2.2 + zk_xw - s.2.2) (fun q => zk_B G ≤ q) := by
  obtain ⟨f1, f2, f3, f4, f5, f6⟩ := zk_yf zk_pyp
  refine vx_ofW (cc := zk_b m_SaddlerKnows_person) (maxL := zk_ml m_SaddlerKnows_person) (ret := zk_rt m_SaddlerKnows_person) (by decide +kernel) rfl ?_
  intro p e sM m args below meth c s₁ B hml hxt hv
  obtain ⟨⟨rfl, hW, hTb⟩, hXt⟩ := hv
  have hts := atoms_spec (ws := zk_w m_SaddlerKnows_person) B.pre
  have hts' : ∀ w ∈ zk_TB, w.before (as.map (zk_rz G)).toArray sM = true := fun w hw => hts w (List.mem_cons_of_mem _ hw)
  have hle : (zk_sl as).length ≤ zk_ml m_SaddlerKnows_person := Nat.le_of_ble_eq_true hfa
  obtain ⟨hlh, hln⟩ := zk_lh_e (G := G) hle
  have hg := zk_wk_g _ _ _ _ _ _ _ _ hw
  have hg1 : s.2.1 ≤ s1.2.1 := hg.1
  have hg2 : s.2.2 ≤ s1.2.2 := hg.2
  have hown : sM.vm.findClass (zk_c (zk_o m_SaddlerKnows_person)) = some m.cls := by rw [← f1]; exact findClass_of_methodNamed B.named
  rw [lg_entry_eq]
  refine hSd d m_SaddlerKnows_person 0 (zk_en (zk_ml m_SaddlerKnows_person) as) [] s (some (.retAddr t), s1) p e _ sM m _ below meth c sM.heap [] 0 0 _ s.2.1 s.2.2 _ hw B.exec B.bytes hml hown ?_ hts' hTb (Nat.le_refl _) (Nat.le_refl _) ⟨hW, hlh, hln, fun q hq => (by cases hq), (Nat.zero_add _).symm, (Nat.zero_add _).symm⟩ ?_ (fun _ _ => zk_PP_v zk_pyp) ?_ ?_
  · exact fun hi => (name_of_methodNamed B.named B.method).1.trans hi
  · intro pcE nx i SE LE sE HE locsE cellsE slotsE lsE hl9 hfin T
    rcases zk_fin_v hfin with ⟨_, x, _, h⟩ | ⟨_, x, _, h⟩ | ⟨_, x, _, h⟩ | ⟨_, x, _, h⟩ | ⟨_, ⟨x, _, h⟩ | ⟨_, h⟩⟩ | ⟨_, _, h⟩ | ⟨rfl, rfl, h⟩
    · cases h
    · cases h
    · cases h
    · cases h
    · cases h
    · cases h
    · cases h
    · cases h
      have hT := T.1
      have e1 := T.2.2.2.2.1
      have e2 := T.2.2.2.2.2
      have hkeep : ∀ a : Nat, a < (zk_H G).size → ¬ (zk_B G ≤ a) → HE[a]? = (zk_H G)[a]? := fun a _ ha => hT.2.2.1 a (by omega)
      have hpc := List.all_eq_true.mp zk_ath _ (zk_lk_m hl9)
      have hdd : decode (zk_b m_SaddlerKnows_person) pcE = .ok (.new 167, 3) ∧ decode (zk_b m_SaddlerKnows_person) (pcE + 3) = .ok (.dup, 1) ∧ decode (zk_b m_SaddlerKnows_person) (pcE + 4) = .ok (.invokespecial 169, 3) ∧ decode (zk_b m_SaddlerKnows_person) (pcE + 7) = .ok (.athrow, 1) := by
        rw [Bool.or_eq_true, Bool.or_eq_true] at hpc
        rcases hpc with hpc | hpc | hpc
        · exact absurd rfl (of_decide_eq_true hpc)
        · replace hpc : pcE = 8 := Nat.eq_of_beq_eq_true hpc
          subst hpc
          exact ⟨zk_pd8', zk_pd11', zk_pd12', zk_pd15'⟩
        · replace hpc : pcE = 126 := Nat.eq_of_beq_eq_true hpc
          subst hpc
          exact ⟨zk_pd126', zk_pd129', zk_pd130', zk_pd133'⟩
      exact zk_throw0 (ik := 167) (ic := 169) (own := "SaddlerKnows") (cls := zk_NS) (names := zk_NL) (A := fun q => zk_B G ≤ q) B.exec B.bytes hl hown (by decide +kernel) (by decide +kernel)
        (hts' _ (zk_pw_t (List.mem_of_getElem? (i := 1) rfl))) (hts' _ (zk_pw_t (List.mem_of_getElem? (i := 2) rfl)))
        (vx_hat (fun w hw => hts' w (zk_TBi (zk_at_i w hw) (List.mem_filter.mp hw).2)) zk_at_n (fun w hw => hXt.1 w hw _))
        (fun w hw => List.all_eq_true.mp zk_at_o w hw) (hXt.2.1.kept hkeep) (hXt.2.2.kept hkeep) (T.2.1.1.trans (T.2.2.1.trans hml.symm)) hdd.1 hdd.2.1 hdd.2.2.1 hdd.2.2.2 (fun x hx => (hxt x hx).elim)
        (by show 2 + 3 < d; omega) (by show 0 + (13 * (2 + 1) + 42) ≤ 40 * d; omega) (by show cellsE + 1 ≤ s1.2.1 + 1 - s.2.1; omega) (by show slotsE + 6 ≤ s1.2.2 + 6 - s.2.2; omega) B.notSynchronized
        (fun t9 ha hz hk => ⟨rfl, (zk_Wd_p hT (x := zk_no) (w := zk_xw) (Or.inl rfl) hz hk).1⟩) T.2.2.2.1 (by omega) (by show slotsE + 6 ≤ s1.2.2 + 6 - s.2.2; omega)
  · show s1.2.1 ≤ (s1.2.1 + 1 - s.2.1) + s.2.1; omega
  · show s1.2.2 ≤ (s1.2.2 + zk_xw - s.2.2) + s.2.2; omega
/-- the law's own person: one run of it -/
theorem zk_lpm {G : zk_G} {l : Launch} {f d : Nat} {as : List Value} {s s1 : zk_S} {v : Option Value} (hl : l.stackTraces = false) (hSd : zk_Sd G l f)
    (h : zk_lp (fun as s => bif zk_fa m_SaddlerKnows_person as then zk_wk f (d + 8) m_SaddlerKnows_person 0 (zk_en (zk_ml m_SaddlerKnows_person) as) [] s else none) as s = some (v, s1)) :
    as.length = 4 ∧ Met l (zk_y 302) zk_pws (zk_rm (d + 9) (s1.2.1 - s.2.1) (s1.2.2 - s.2.2)) (zk_PcX G as s) (zk_Qc G v s1) (s1.2.1 - s.2.1) (s1.2.2 - s.2.2) (fun q => zk_B G ≤ q) := by
  unfold zk_lp at h
  split at h
  case h_2 => cases h
  rename_i x pp ww o
  refine ⟨rfl, ?_⟩
  obtain ⟨u, hrv, h⟩ := Option.bind_eq_some_iff.mp h
  obtain ⟨⟨q, t⟩, hrun, h⟩ := Option.bind_eq_some_iff.mp h
  have hfa : zk_fa m_SaddlerKnows_person [.ref x, .int pp, .int ww] = true := rfl
  replace hrun : (bif zk_fa m_SaddlerKnows_person [.ref x, .int pp, .int ww] then zk_wk f (d + 8) m_SaddlerKnows_person 0 (zk_en (zk_ml m_SaddlerKnows_person) [.ref x, .int pp, .int ww]) [] s else none) = some (q, t) := hrun
  rw [hfa] at hrun
  replace hrun : zk_wk f (d + 8) m_SaddlerKnows_person 0 (zk_en (zk_ml m_SaddlerKnows_person) [.ref x, .int pp, .int ww]) [] s = some (q, t) := hrun
  obtain ⟨f1, f2, f3, f4, f5, f6⟩ := zk_yf zk_pyp
  have hgr := zk_wk_g _ _ _ _ _ _ _ _ hrun
  have hgr1 : s.2.1 ≤ t.2.1 := hgr.1
  have hgr2 : s.2.2 ≤ t.2.2 := hgr.2
  have hq : (∃ yv, q = some (.int yv)) ∨ ∃ tt, q = some (.retAddr tt) := by
    cases q with
    | none => cases h
    | some q => cases q <;> first | exact Or.inl ⟨_, rfl⟩ | exact Or.inr ⟨_, rfl⟩ | (cases h)
  refine zk_ofWW (cc := zk_b 302) (maxL := 5) (ret := some .int) (by decide +kernel) rfl ?_
  intro p e sM m args below meth c s₁ B hml htab hv
  obtain ⟨⟨rfl, hW, hTb⟩, hXt⟩ := hv
  have hts := atoms_spec (ws := zk_pws) B.pre
  have hts' : ∀ w ∈ zk_TB, w.before (([.ref x, .int pp, .int ww, .ref o] : List Value).map (zk_rz G)).toArray sM = true := fun w hw => hts w (List.mem_cons_of_mem _ hw)
  have hx := B.exec
  have hb := B.bytes
  have hown : sM.vm.findClass "SaddlerKnowsLaw" = some m.cls := findClass_of_methodNamed B.named
  obtain ⟨hlh, hln⟩ := zk_lh_e (G := G) (n := 5) (as := [.ref x, .int pp, .int ww, .ref o]) (by show 4 ≤ 5; omega)
  have hrc := zk_rvc hTb hW hrv (by omega)
  have hcode := hts' _ (zw_Y_ok _ zk_pyp)
  have hini : (Cond.initialized (zk_y m_SaddlerKnows_person).cls).before (([.ref x, .int pp, .int ww, .ref o] : List Value).map (zk_rz G)).toArray sM = true := by rw [f1]; exact hts' _ (zw_Ci_ok _ f6)
  have hlk := hts' _ (zk_pw_t (w := .methodLink "SaddlerKnowsLaw" 7 (zk_y m_SaddlerKnows_person)) (List.mem_of_getElem? (i := 4) rfl))
  have hin := hts' _ (zk_pw_t (w := .instanceMethod (zk_y m_SaddlerKnows_person)) (List.mem_of_getElem? (i := 5) rfl))
  have hse := hts' _ (zk_pw_t (w := .selects "SaddlerKnows" (zk_y m_SaddlerKnows_person) (zk_y m_SaddlerKnows_person)) (List.mem_of_getElem? (i := 6) rfl))
  have hloc : 8 + (zk_ml m_SaddlerKnows_person + 11) + 40 * (d + 8) ≤ 40 * (d + 9) := zk_loc8 f5
  rw [lg_entry_eq]
  refine lv_aload_n hx hb (i := 3) (x := zk_ad G o) zk_pd0 rfl (hlh.2.2 3 (.ref o) rfl (fun t z => by cases z)) ?_
  refine lv_iconst hx hb zk_pd1 (v := 0) rfl ?_
  refine lv_aload_n hx hb (i := 0) (x := zk_ad G x) zk_pd2 rfl (hlh.2.2 0 (.ref x) rfl (fun t z => by cases z)) ?_
  refine lv_iload_n hx hb (i := 1) (x := pp) zk_pd3 rfl (hlh.2.2 1 (.int pp) rfl (fun t z => by cases z)) ?_
  refine lv_iload_n hx hb (i := 2) (x := ww) zk_pd4 rfl (hlh.2.2 2 (.int ww) rfl (fun t z => by cases z)) ?_
  rcases hq with ⟨yv, rfl⟩ | ⟨tt, rfl⟩
  · obtain ⟨s2, hst, h⟩ := Option.bind_eq_some_iff.mp h
    cases h
    have hM : zk_CS G l (d + 8) m_SaddlerKnows_person [.ref x, .int pp, .int ww] s (some (.int yv)) t := zk_met hSd zk_pyp hfa hrun (fun t z => by cases z)
    obtain ⟨n9, f9, -, -, hs9⟩ := zk_stL_i hst
    have es : s1.2 = t.2 := by rw [hs9]
    rw [es]
    refine zk_cont (v := some (.int yv)) (s1 := t) (fun q hq => by cases hq) (va_runV (C := "SaddlerKnows") (As := [.int pp, .int ww]) (rest := [.int 0, .ref (zk_ad G o)]) ⟨hx, hb, hml, hown, hts'⟩ hM ⟨⟨rfl, rfl, Nat.le_refl _, hloc, zk_wsok hts' zk_pyp, List.mem_cons_self, hcode, hini, ⟨f2, f3⟩, fun sig h => zk_npf h, hlk⟩, hin, hse⟩ ⟨zk_Pc_b, hrc, zk_PcU (as := [.ref x, .int pp, .int ww]) hTb hW⟩ rfl rfl (hlh.1.trans hln) rfl (Nat.le_of_ble_eq_true rfl) zk_pd5 ⟨by show 0 + (t.2.1 - s.2.1) ≤ t.2.1 - s.2.1; omega, by show 0 + (t.2.2 - s.2.2) ≤ t.2.2 - s.2.2; omega⟩) ?_
    intro H1 locs1 w1 lo1
    refine lv_i2l hx hb zk_pd8 rfl ?_
    refine zo_last hx hb hTb w1 lo1 hst zk_pd9 ?_
    intro H2 locs2 w2 lo2
    refine lv_goto (tgt := 17) hx hb zk_pd10 rfl ?_
    refine lv_iconst hx hb zk_pd17 (v := 0) rfl ?_
    rw [Nat.zero_add, Nat.zero_add]
    exact W.iret hx hb B.returns (fun t ht hW' => ⟨rfl, by rw [ht]; exact w2⟩) lo2 zk_pd18 B.notSynchronized
  · cases h
    have hM := zk_metX (d := d + 8) (G := G) hl (by omega) hSd hfa hrun
    have hr := vx_runV (p := p) (e := e) (R := zk_rm (d + 9) (t.2.1 + 1 - s.2.1) (t.2.2 + zk_xw - s.2.2)) (below := below) (meth := meth) (c := c) (H := sM.heap) (locs := []) (cells := 0) (slots := 0) (C := "SaddlerKnows") (b := zk_ad G x) (As := [.int pp, .int ww]) (rest := [.int 0, .ref (zk_ad G o)]) (own := "SaddlerKnowsLaw") (index := 7) (bytes := zk_b m_SaddlerKnows_person) (maxL := zk_ml m_SaddlerKnows_person) (ret := zk_rt m_SaddlerKnows_person) (n := 2) (nL := 5) (cc := zk_b 302) ⟨hx, hb, hml, hown, hts'⟩ hM
      ⟨⟨rfl, rfl, Nat.le_refl _, hloc, zk_wsok hts' zk_pyp, List.mem_cons_self, hcode, hini, ⟨f2, f3⟩, fun sig h => zk_npf h, hlk⟩, hin, hse⟩ ⟨zk_PcX_b, hrc, fun U hU hW' => ⟨zk_PcU (as := [.ref x, .int pp, .int ww]) hTb hW U hU hW', zk_Xt_m hW'.alike hXt⟩⟩ (g := F0 m 5 ((lg_sl (([.ref x, .int pp, .int ww, .ref o] : List Value).map (zk_rz G)) ++ List.replicate (5 - (lg_sl (([.ref x, .int pp, .int ww, .ref o] : List Value).map (zk_rz G))).length) Slot.unset).toArray) [.int ww, .int pp, .ref (zk_ad G x), .int 0, .ref (zk_ad G o)]) rfl rfl (hlh.1.trans hln) rfl (Nat.le_of_ble_eq_true rfl) zk_pd5 ⟨by show 0 + (t.2.1 + 1 - s.2.1) ≤ t.2.1 + 1 - s.2.1; omega, by show 0 + (t.2.2 + zk_xw - s.2.2) ≤ t.2.2 + zk_xw - s.2.2; omega⟩
    intro T hT X
    rcases hr T hT X with ⟨v9, st₀, t9, T', L, h0, X', hL, e1, e2, hF, st⟩ | ⟨q9, st₀, t9, T', L, E, ce, h0, X', hL, e1, e2, ⟨hE, hXw⟩, hce, hcv, hcl, st⟩
    · exact hF.elim
    · subst hE
      have kk := vx_catch (rest := [.int 0, .ref (zk_ad G o)]) (pc := 5) (ls := (lg_sl (([.ref x, .int pp, .int ww, .ref o] : List Value).map (zk_rz G)) ++ List.replicate (5 - (lg_sl (([.ref x, .int pp, .int ww, .ref o] : List Value).map (zk_rz G))).length) Slot.unset).toArray) (p := p) (l := l) (e := e) (R := zk_rm (d + 9) (t.2.1 + 1 - s.2.1) (t.2.2 + zk_xw - s.2.2)) (s := sM) (m := m) (args := (([.ref x, .int pp, .int ww, .ref o] : List Value).map (zk_rz G)).toArray) (below := below) (meth := meth) (c := c) (H := T'.heap) (locs := [] ++ L) (cells := 0 + (t.2.1 + 1 - s.2.1)) (slots := 0 + (t.2.2 + zk_xw - s.2.2))
        (Q := MQ below (zk_Qc G (some (.int 1)) (zk_nw t zk_no zk_xw)) (([.ref x, .int pp, .int ww, .ref o] : List Value).map (zk_rz G)).toArray sM (t.2.1 + 1 - s.2.1) (t.2.2 + zk_xw - s.2.2) (fun q => zk_B G ≤ q)) (own := "SaddlerKnowsLaw") (name := zk_NS) (E := zk_NS) (ce := ce) (q := q9) hown [] ⟨0, 10, 13, 13⟩ [] htab (fun z hz => by cases hz) rfl (by decide) (hts' _ (zk_pw_t (List.mem_of_getElem? (i := 3) rfl))) (zk_Xt_c hXt _) (by rw [e1]; exact hce) hcv hcl (by
          refine lv_astore hx hb zk_pd13 (zk_lh_h hlh) (by rw [hln]; omega) rfl fun ls' h' => ?_
          refine lv_iconst hx hb zk_pd15 (v := 1) rfl ?_
          rw [Nat.zero_add, Nat.zero_add]
          exact W.iret hx hb B.returns (fun t9 ht hW' => ⟨rfl, by rw [ht, e1]; exact hXw⟩) (fun q hq => by
            rcases List.mem_append.mp hq with z | z
            · cases z
            · exact hL q z) zk_pd16 B.notSynchronized)
      obtain ⟨t2, a1, b1⟩ := kk T' rfl X'
      exact ⟨t2, st.trans a1, b1⟩
/-- the law's call of its own person -/
theorem zk_PP_l {G : zk_G} {p : Program} {l : Launch} {e : Env} {R : Room} {sM : State} {m : MethodId} {args : Array Value} {below : List Frame} {meth : Method} {c : Code} {Q : State → Prop} {f d : Nat} (hl : l.stackTraces = false) (hx : p.tables.exec = Jvm.exec) (hb : c.code = zk_b 303) (hml : c.maxLocals = zk_ml 303) (hown : sM.vm.findClass (zk_c (zk_o 303)) = some m.cls) (hts : ∀ w ∈ zk_TB, w.before args sM = true) (hTb : zk_Tb G sM) (hXt : zk_Xt G sM) (hR1 : d ≤ R.frames) (hR2 : 40 * d ≤ R.locals) : zk_PP G p l e R sM m args below meth c Q 303 (zk_ca (zk_rn f) d) := by
  intro pc i as rest s s1 v H locs cells slots ls hc hnr hM0 hdec hrest hls hW hlo hb1 hb2 kk
  have hlp : ∃ d', d = d' + 10 ∧ zk_lp (zk_rn f (d' + 8) m_SaddlerKnows_person) as s = some (v, s1) := by
    unfold zk_ca at hc
    rcases d with _ | _ | _ | _ | _ | _ | _ | _ | _ | _ | d
    all_goals first
      | exact ⟨d, rfl, hc⟩
      | (cases hc; done)
  obtain ⟨d', rfl, hlp⟩ := hlp
  obtain ⟨h4, hM⟩ := zk_lpm (G := G) (d := d') hl (zk_sound G l f) hlp
  have hlk : (Cond.methodLink (zk_c (zk_o 303)) i (zk_y 302)).before args sM = true := by
    have := hts _ (zw_M_ok _ hM0)
    simpa [zw_M] using this
  have hlen : (as.map (zk_rz G)).length = zk_np 302 := by rw [List.length_map, h4]; rfl
  have hcode : zk_pcw.before args sM = true := hts _ zk_pw_0
  exact zk_cont hlo (vx_runSW (As := as.map (zk_rz G)) (rest := rest.map (zk_rz G)) (hh := [(0, 10, 13, 13)]) (bytes := zk_b 302) (maxL := 5) (ret := some .int) ⟨hx, hb, hml, hown, hts⟩ hM ⟨⟨rfl, rfl, hR1, zk_loc9 hR2, pay_in hts (fun w hw => by
      rcases List.mem_cons.mp hw with rfl | hw
      · exact zk_TBg _ zk_pw_0
      · exact zk_TBg _ hw), List.mem_cons_self⟩, hcode, hts _ (zk_pw_t (List.mem_of_getElem? (i := 8) rfl)), ⟨by decide, by decide⟩, fun sig h => zk_npf h, hlk, hts _ (zk_pw_t (List.mem_of_getElem? (i := 7) rfl))⟩ ⟨zk_PcX_b, fun U hU hW' => ⟨zk_PcU hTb hW U hU hW', zk_Xt_m hW'.alike hXt⟩⟩ rfl hlen hls rfl (lv_room (by rw [zk_rz_s]; exact hrest)) hdec ⟨hb1, hb2⟩) kk
