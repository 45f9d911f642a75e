/-! A RUN IS THE MACHINE'S: contracts of methods out of their runs -/
theorem zk_ofW {l : Launch} {y : MethodName} {ws ws' : List Jvm.Cond} {rm : Room} {Pc : Array Value → State → Prop} {Qc : Array Value → State → Outcome → State → Prop} {mc ms : Nat} {free : Addr → Prop} {cc : ByteArray} {maxL : Nat} {ret : Option FieldType}
    (hy : plainFor y = true) (hw : ws = Jvm.Cond.code y cc maxL ret :: ws')
    (body : ∀ p e s m args below meth c s₁, BodyLoose p l y (headSpec ws rm) cc maxL ret e s m args below meth c s₁ → c.maxLocals = maxL → Pc args s →
      W p l e (headSpec ws rm).room s m args below meth c s.heap [] 0 0 (MQ below Qc args s mc ms free) (entryFrame m args maxL)) : Met l y ws rm Pc Qc mc ms free := by
  refine MetFree.of_bodySF (code := cc) (maxLocals := maxL) (ret := ret) hy ?_ ?_
  · intro args s m h hn
    obtain ⟨meth, c, h1, h2, h3, h4, h5, h6, -, -⟩ := Cond.code_spec hn (atoms_spec (ws := ws) h _ (by rw [hw]; exact List.mem_cons_self))
    exact ⟨meth, c, h1, h2, h3, h4, h5, h6⟩
  · intro p e s m args below meth c s₁ B hml hP _
    have hh0 : s₁.heap = s.heap := by rw [B.state]; rfl
    obtain ⟨t, a1, o, b1, b2, b3⟩ := body p e s m args below meth c s₁ B hml hP s₁ hh0 (Stand.of_body B)
    exact ⟨t, o, a1, b1, b2, ⟨b3.1, b3.2⟩⟩
theorem zk_sl_a {G : zk_G} : ∀ (as : List Value) (k i : Nat) (v : Value), (zk_sl as)[i]? = some v → (∀ t, v ≠ .retAddr t) → (k + i, zk_rz G v) ∈ lv_args k (as.map (zk_rz G))
  | [], _, _, _, h, _ => by simp [zk_sl] at h
  | w :: as, k, i, v, h, hn => by
    have h1 : ∀ (w : Value), (zk_rz G w).category = 1 → (w :: zk_sl as)[i]? = some v → (k + i, zk_rz G v) ∈ lv_args k (zk_rz G w :: as.map (zk_rz G)) := by
      intro w hc h
      show _ ∈ (k, zk_rz G w) :: lv_args (if (zk_rz G w).category = 2 then k + 2 else k + 1) (as.map (zk_rz G))
      rw [hc, if_neg (by decide)]
      cases i with
      | zero => cases h; exact List.mem_cons_self
      | succ i =>
        rw [show k + (i + 1) = k + 1 + i by omega]
        exact List.mem_cons_of_mem _ (zk_sl_a as (k + 1) i v h hn)
    have h2 : ∀ (w : Value), (zk_rz G w).category = 2 → (w :: .retAddr 0 :: zk_sl as)[i]? = some v → (k + i, zk_rz G v) ∈ lv_args k (zk_rz G w :: as.map (zk_rz G)) := by
      intro w hc h
      show _ ∈ (k, zk_rz G w) :: lv_args (if (zk_rz G w).category = 2 then k + 2 else k + 1) (as.map (zk_rz G))
      rw [hc, if_pos rfl]
      match i, h with
      | 0, h => cases h; exact List.mem_cons_self
      | 1, h => cases h; exact absurd rfl (hn 0)
      | i + 2, h =>
        rw [show k + (i + 2) = k + 2 + i by omega]
        exact List.mem_cons_of_mem _ (zk_sl_a as (k + 2) i v h hn)
    cases w with
    | long x => exact h2 _ rfl h
    | double x => exact h2 _ rfl h
    | int x => exact h1 _ rfl h
    | float x => exact h1 _ rfl h
    | null => exact h1 _ rfl h
    | ref x => exact h1 _ rfl h
    | retAddr x => exact h1 _ rfl h
theorem zk_sl_n {G : zk_G} : ∀ (as : List Value), (lg_sl (as.map (zk_rz G))).length = (zk_sl as).length
  | [] => rfl
  | w :: as => by
    have ih := zk_sl_n (G := G) as
    unfold lg_sl at ih ⊢
    rw [List.map_cons, List.flatMap_cons, List.length_append, ih]
    cases w <;> simp [zk_rz, Value.category, zk_sl] <;> omega
theorem zk_lh_e {G : zk_G} {as : List Value} {n : Nat} (h : (zk_sl as).length ≤ n) : zk_lh G ((lg_sl (as.map (zk_rz G)) ++ List.replicate (n - (lg_sl (as.map (zk_rz G))).length) Slot.unset).toArray) (zk_en n as) ∧ (zk_en n as).length = n := by
  have hlen : (zk_en n as).length = n := by
    unfold zk_en
    rw [List.length_append, List.length_replicate]
    omega
  have hv := lv_entry (as.map (zk_rz G)) (n := n) (by rw [zk_sl_n]; exact h)
  refine ⟨⟨by rw [hlen]; exact hv.1, hv.2.1, fun i v hi hn => ?_⟩, hlen⟩
  unfold zk_en at hi
  rcases Nat.lt_or_ge i (zk_sl as).length with q | q
  · rw [List.getElem?_append_left q] at hi
    have := zk_sl_a (G := G) as 0 i v hi hn
    rw [Nat.zero_add] at this
    exact hv.2.2 _ this
  · rw [List.getElem?_append_right q] at hi
    have := List.mem_of_getElem? hi
    rw [List.mem_replicate] at this
    exact absurd this.2 (hn 0)
theorem zk_bn {α β : Type} {X : Option α} {F : α → Option β} (h : ∀ v, F v = none) : X.bind F = none := by
  cases X with
  | none => rfl
  | some v => exact h v
theorem zk_cnn {α : Type} {b : Bool} {x : Option α} (h : x = none) : (bif b then x else none) = none := by cases b <;> first | rfl | exact h
theorem zk_in {α : Type} {p : Prop} [Decidable p] {x y : Option α} (h : x = none) (h' : y = none) : (if p then x else y) = none := by
  by_cases q : p
  · rw [if_pos q]; exact h
  · rw [if_neg q]; exact h'
theorem zk_swn {α : Type} {x : Int32} {d : Int} {k : Nat → Option α} (h : ∀ t, k t = none) : ∀ ps, zk_sw x d k ps = none
  | [] => h _
  | (c, t) :: r => zk_in (h _) (zk_swn h r)
def zk_fn (i : Instr) : Bool := match i with
  | .ireturn => true
  | .ret _ => true
  | .lreturn => true
  | .areturn => true
  | .return_ => true
  | .athrow => true
  | _ => false
theorem zk_invn {nx o : Nat} {L as rest : List Value} {s : zk_S} : zk_inv (fun _ _ _ => none) nx L o as rest s (fun _ _ _ _ => none) = none := by
  unfold zk_inv
  refine zk_cnn ?_
  split <;> exact rfl
set_option maxHeartbeats 4000000 in
theorem zk_fin_n {i : Instr} {S : List Value} {s : zk_S} (h : zk_fn i = false) : zk_fin i S s = none := by
  unfold zk_fin zk_ins
  split <;> first | (cases h; done) | (repeat' (first | rfl | exact zk_invn | exact zk_swn (fun _ => rfl) _ | refine zk_cnn ?_ | refine zk_in ?_ ?_ | refine zk_bn (fun _ => ?_) | split))
theorem zk_fin_v {i : Instr} {S : List Value} {s : zk_S} {r : zk_R} (h : zk_fin i S s = some r) : (i = .ireturn ∧ ∃ x, S = [.int x] ∧ r = (some (.int x), s)) ∨ (i = .ret 1 ∧ ∃ x, S = [.int x] ∧ r = (some (.int (x &&& 1)), s)) ∨ (i = .ret 2 ∧ ∃ x : Int32, S = [.int x] ∧ r = (some (.int x.toInt8.toInt32), s)) ∨ (i = .lreturn ∧ ∃ x, S = [.long x] ∧ r = (some (.long x), s)) ∨ (i = .areturn ∧ ((∃ x, S = [.ref x] ∧ r = (some (.ref x), s)) ∨ (S = [.null] ∧ r = (some .null, s)))) ∨ (i = .return_ ∧ S = [] ∧ r = (none, s)) ∨ (i = .athrow ∧ S = [] ∧ r = (some (.retAddr 0), s)) := by
  cases hf : zk_fn i with
  | false => rw [zk_fin_n hf] at h; cases h
  | true =>
    unfold zk_fn at hf
    split at hf
    · replace h : (match (generalizing := false) S with | [.int x] => some (some (.int x), s) | _ => none) = some r := h
      split at h
      · cases h; exact Or.inl ⟨rfl, _, rfl, rfl⟩
      · cases h
    · rename_i n
      match n, h with
      | 0, h => cases (show (none : Option zk_R) = some r from h)
      | 1, h =>
        replace h : (match (generalizing := false) S with | [.int x] => some (some (.int (x &&& 1)), s) | _ => none) = some r := h
        split at h
        · cases h; exact Or.inr (Or.inl ⟨rfl, _, rfl, rfl⟩)
        · cases h
      | 2, h =>
        replace h : (match (generalizing := false) S with | [.int x] => some (some (.int x.toInt8.toInt32), s) | _ => none) = some r := h
        split at h
        · cases h; exact Or.inr (Or.inr (Or.inl ⟨rfl, _, rfl, rfl⟩))
        · cases h
      | n + 3, h => cases (show (none : Option zk_R) = some r from h)
    · replace h : (match (generalizing := false) S with | [.long x] => some (some (.long x), s) | _ => none) = some r := h
      split at h
      · cases h; exact Or.inr (Or.inr (Or.inr (Or.inl ⟨rfl, _, rfl, rfl⟩)))
      · cases h
    · replace h : (match (generalizing := false) S with | [.ref a] => some (some (.ref a), s) | [.null] => some (some .null, s) | _ => none) = some r := h
      split at h
      · cases h; exact Or.inr (Or.inr (Or.inr (Or.inr (Or.inl ⟨rfl, Or.inl ⟨_, rfl, rfl⟩⟩))))
      · cases h; exact Or.inr (Or.inr (Or.inr (Or.inr (Or.inl ⟨rfl, Or.inr ⟨rfl, rfl⟩⟩))))
      · cases h
    · replace h : (match (generalizing := false) S with | [] => some (none, s) | _ => none) = some r := h
      split at h
      · cases h; exact Or.inr (Or.inr (Or.inr (Or.inr (Or.inr (Or.inl ⟨rfl, rfl, rfl⟩)))))
      · cases h
    · replace h : (match (generalizing := false) S with | [] => some (some (Value.retAddr 0), s) | _ => none) = some r := h
      split at h
      · cases h; exact Or.inr (Or.inr (Or.inr (Or.inr (Or.inr (Or.inr ⟨rfl, rfl, rfl⟩)))))
      · cases h
    · cases hf
/-- a call, by the fuel of the walks behind it -/
abbrev zk_rn (f : Nat) : Nat → Nat → List Value → zk_S → Option zk_R := fun d y as s => bif zk_fa y as then zk_wk f d y 0 (zk_en (zk_ml y) as) [] s else none
/-- walks, by fuel -/
def zk_Sd (G : zk_G) (l : Launch) (f : Nat) : Prop :=
  ∀ (d y pc : Nat) (L S : List Value) (s : zk_S) (r : zk_R) (p : Program) (e : Env) (R : Room) (sM : State) (m : MethodId) (args : Array Value) (below : List Frame) (meth : Method) (c : Code) (H : Heap) (locs : List Loc) (cells slots : Nat) (Q : State → Prop) (kc ks : Nat) (ls : Array Slot),
    zk_wk f d y pc L S s = some r → p.tables.exec = Jvm.exec → c.code = zk_b y → c.maxLocals = zk_ml y → sM.vm.findClass (zk_c (zk_o y)) = some m.cls → ((zk_y y).name = "<init>" → meth.name = "<init>") → (∀ w ∈ zk_TB, w.before args sM = true) → zk_Tb G sM → d ≤ R.frames → 40 * d ≤ R.locals →
    zk_St G H s ls L (zk_ml y) locs cells slots kc ks → zk_EE G p l e R sM m args below meth c Q y kc ks r → (∀ f', f' < f → zk_PP G p l e R sM m args below meth c Q y (zk_ca (zk_rn f') d)) → r.2.2.1 ≤ R.cells + kc → r.2.2.2 ≤ R.slots + ks →
    W p l e R sM m args below meth c H locs cells slots Q (F0 m pc ls (S.map (zk_rz G)))
theorem zk_M0_p : zt_M0.all (fun e => decide (e.2.2.1 ≠ m_Law_person) || Nat.beq e.1 17) = true := by decide +kernel
theorem zk_Yc_17 : zt_Yc.all (fun y => decide (zk_o y ≠ 17)) = true := by decide +kernel
/-- no method but the law calls its person -/
theorem zk_PP_v {G : zk_G} {p : Program} {l : Launch} {e : Env} {R : Room} {sM : State} {m : MethodId} {args : Array Value} {below : List Frame} {meth : Method} {c : Code} {Q : State → Prop} {y : Nat} {call : Nat → List Value → zk_S → Option zk_R} (hy : y ∈ zt_Yc) : zk_PP G p l e R sM m args below meth c Q y call := by
  intro pc i as rest s s1 v H locs cells slots ls _ _ hM
  exfalso
  have h1 := List.all_eq_true.mp zk_M0_p _ hM
  have h2 := of_decide_eq_true (List.all_eq_true.mp zk_Yc_17 _ hy)
  rw [Bool.or_eq_true] at h1
  rcases h1 with h1 | h1
  · exact of_decide_eq_true h1 rfl
  · exact h2 (Nat.eq_of_beq_eq_true h1)
section
variable {p : Program} {l : Launch} {e : Env} {R : Room} {s : State} {m : MethodId} {args : Array Value} {below : List Frame} {meth : Method} {c : Code} {H : Heap} {locs : List Loc} {cells slots : Nat}
/-- an answer narrowed on its way out -/
theorem zk_zret {cc : ByteArray} {Qc : Array Value → State → Outcome → State → Prop} {free : Addr → Prop} {x v : Int32} {ty : FieldType} (hexec : p.tables.exec = Jvm.exec) (hb : c.code = cc) (hr : meth.sig.returnType = some ty) (hn : narrow ty (.int x) = .int v)
    (hq : ∀ t : State, t.heap = H → s.WarmedH t.vm → Qc args s (.returned (some (.int v))) t) (hf : ∀ q ∈ locs, free q.base)
    {pc : Nat} {ls : Array Slot} (hdg : decode cc pc = .ok (.ireturn, 1)) (hlocks : meth.locks = false) : W p l e R s m args below meth c H locs cells slots (MQ below Qc args s cells slots free) (F0 m pc ls [.int x]) := by
  intro T hT X
  obtain ⟨fs, hret, hrun, hended, hW, hframe⟩ := X.leave (v := some (.int v)) (fun h => by rw [hr] at h; cases h)
  have hmeth' : T.vm.method? m = some meth := X.method'
  refine ⟨T.setFrames fs, ?_, .returned (some (.int v)), hrun, hended, hq _ hT hW, locs, ⟨⟨_, rfl⟩, hW, hframe⟩, hf⟩
  jvm_step X.here [X.here.top, hexec, hb, hdg, hmeth', hr, hn]
  (try refine ⟨rfl, ?_⟩); (try refine ⟨rfl, ?_⟩)
  first | (intro acts; rw [hret _ acts rfl rfl rfl]) | rw [hret _ _ rfl rfl rfl]
  exact Steps.refl _
end
/-- a method's end -/
theorem zk_end {G : zk_G} {p : Program} {l : Launch} {e : Env} {R : Room} {sM : State} {m : MethodId} {args : Array Value} {below : List Frame} {meth : Method} {c : Code} {H : Heap} {locs : List Loc} {cells slots y pc nx : Nat} {i : Instr} {S : List Value} {s s1 : zk_S} {v : Option Value} {ls : Array Slot} (hx : p.tables.exec = Jvm.exec) (hb : c.code = zk_b y) (hr : meth.sig.returnType = zk_rt y) (hlk : meth.locks = false) (hl : zk_lk pc (zk_rcd y) = some (nx, i)) (hfin : zk_fin i S s = some (v, s1)) (hnr : ∀ t, v ≠ some (.retAddr t)) (hW : zk_Wd G H s) (hlo : ∀ q ∈ locs, zk_B G ≤ q.base) :
    W p l e R sM m args below meth c H locs cells slots (MQ below (zk_Qc G v s1) args sM cells slots (fun q => zk_B G ≤ q)) (F0 m pc ls (S.map (zk_rz G))) := by
  have hmem := zk_lk_m hl
  have hck := zk_ok y _ hmem
  have hpf := zk_pfa y _ hmem
  unfold zk_ck at hck
  split at hck
  case h_2 => cases hck
  rename_i raw len hdec
  rw [Bool.and_eq_true] at hck
  obtain ⟨-, hchk⟩ := hck
  replace hchk : zk_chk (zk_o y) pc i raw len = true := hchk
  replace hpf : zk_pfk y i = true := hpf
  replace hdec : decode (zk_b y) pc = .ok (raw, len) := hdec
  rcases zk_fin_v hfin with ⟨rfl, x, rfl, h⟩ | ⟨rfl, x, rfl, h⟩ | ⟨rfl, x, rfl, h⟩ | ⟨rfl, x, rfl, h⟩ | ⟨rfl, h⟩ | ⟨rfl, rfl, h⟩ | ⟨rfl, -, h⟩
  · cases h
    obtain ⟨rfl, rfl⟩ := zk_c1 hchk
    have ht : zk_rt y = some .int := of_decide_eq_true hpf
    exact W.iret hx hb (hr.trans ht) (fun t ht hW' => ⟨rfl, by rw [ht]; exact hW⟩) hlo hdec hlk
  · cases h
    replace hchk : (match (generalizing := false) raw with | .ireturn => (Nat.beq 1 1 || Nat.beq 1 2) && Nat.beq len 1 | _ => false) = true := hchk
    split at hchk
    case h_2 => cases hchk
    rw [Bool.and_eq_true] at hchk
    have hl1 := Nat.eq_of_beq_eq_true hchk.2
    subst hl1
    have ht : zk_rt y = some .boolean := of_decide_eq_true hpf
    exact zk_zret hx hb (hr.trans ht) rfl (fun t ht hW' => ⟨rfl, by rw [ht]; exact hW⟩) hlo hdec hlk
  · cases h
    replace hchk : (match (generalizing := false) raw with | .ireturn => (Nat.beq 2 1 || Nat.beq 2 2) && Nat.beq len 1 | _ => false) = true := hchk
    split at hchk
    case h_2 => cases hchk
    rw [Bool.and_eq_true] at hchk
    have hl1 := Nat.eq_of_beq_eq_true hchk.2
    subst hl1
    have ht : zk_rt y = some .byte := of_decide_eq_true hpf
    exact zk_zret hx hb (hr.trans ht) rfl (fun t ht hW' => ⟨rfl, by rw [ht]; exact hW⟩) hlo hdec hlk
  · cases h
    obtain ⟨rfl, rfl⟩ := zk_c1 hchk
    have ht : zk_rt y = some .long := of_decide_eq_true hpf
    exact W.lret hx hb (hr.trans ht) (fun t ht hW' => ⟨rfl, by rw [ht]; exact hW⟩) hlo hdec hlk
  · obtain ⟨rfl, rfl⟩ := zk_c1 hchk
    replace hpf : (match zk_rt y with | some (.object _) => true | _ => false) = true := hpf
    split at hpf
    case h_2 => cases hpf
    rename_i nm ht
    rcases h with ⟨x, rfl, h⟩ | ⟨rfl, h⟩
    · cases h
      exact W.aret hx hb (hr.trans ht) (Or.inl ⟨_, rfl⟩) (Or.inr ⟨_, rfl⟩) (fun t ht hW' => ⟨rfl, by rw [ht]; exact hW⟩) hlo hdec hlk
    · cases h
      exact W.aret hx hb (hr.trans ht) (Or.inl ⟨_, rfl⟩) (Or.inl rfl) (fun t ht hW' => ⟨rfl, by rw [ht]; exact hW⟩) hlo hdec hlk
  · cases h
    obtain ⟨rfl, rfl⟩ := zk_c1 hchk
    have ht : zk_rt y = none := of_decide_eq_true hpf
    exact W.vret hx hb (hr.trans ht) (fun t ht hW' => ⟨rfl, by rw [ht]; exact hW⟩) hlo hdec hlk
  · cases h
    exact absurd rfl (hnr 0)
/-- a method's contract out of walks of that fuel -/
theorem zk_met {G : zk_G} {l : Launch} {f d y : Nat} {as : List Value} {s s1 : zk_S} {v : Option Value} (hSd : zk_Sd G l f) (hy : y ∈ zt_Yc) (hfa : zk_fa y as = true) (hw : zk_wk f d y 0 (zk_en (zk_ml y) as) [] s = some (v, s1)) (hnr : ∀ t, v ≠ some (.retAddr t)) : zk_CS G l d y as s v s1 := by
  obtain ⟨f1, f2, f3, f4, f5, f6⟩ := zk_yf hy
  refine zk_ofW (cc := zk_b y) (maxL := zk_ml y) (ret := zk_rt y) f4 rfl ?_
  intro p e sM m args below meth c s₁ B hml hv
  obtain ⟨rfl, hW, hTb⟩ := hv
  have hts := atoms_spec (ws := zk_w y) B.pre
  have hle : (zk_sl as).length ≤ zk_ml y := Nat.le_of_ble_eq_true hfa
  obtain ⟨hlh, hln⟩ := zk_lh_e (G := G) hle
  have hg := zk_wk_g _ _ _ _ _ _ _ _ hw
  have hg1 : s.2.1 ≤ s1.2.1 := hg.1
  have hg2 : s.2.2 ≤ s1.2.2 := hg.2
  rw [lg_entry_eq]
  refine hSd d y 0 (zk_en (zk_ml y) as) [] s (v, s1) p e _ sM m _ below meth c sM.heap [] 0 0 _ s.2.1 s.2.2 _ hw B.exec B.bytes hml ?_ ?_ (fun w hw => hts w (List.mem_cons_of_mem _ hw)) hTb (Nat.le_refl _) (Nat.le_refl _) ⟨hW, hlh, hln, fun q hq => (by cases hq), (Nat.zero_add _).symm, (Nat.zero_add _).symm⟩ ?_ (fun _ _ => zk_PP_v hy) ?_ ?_
  · rw [← f1]; exact findClass_of_methodNamed B.named
  · exact fun hi => (name_of_methodNamed B.named B.method).1.trans hi
  · intro pcE nx i SE LE sE HE locsE cellsE slotsE lsE hl hfin T
    have hse : s1 = sE := by
      rcases zk_fin_v hfin with ⟨_, x, _, h⟩ | ⟨_, x, _, h⟩ | ⟨_, x, _, h⟩ | ⟨_, x, _, h⟩ | ⟨_, ⟨x, _, h⟩ | ⟨_, h⟩⟩ | ⟨_, _, h⟩ | ⟨_, _, h⟩ <;> (cases h; rfl)
    subst hse
    have e1 := T.2.2.2.2.1
    have e2 := T.2.2.2.2.2
    have c1 : cellsE = s1.2.1 - s.2.1 := by omega
    have c2 : slotsE = s1.2.2 - s.2.2 := by omega
    subst c1
    subst c2
    exact zk_end B.exec B.bytes B.returns B.notSynchronized hl hfin hnr T.1 T.2.2.2.1
  · show s1.2.1 ≤ (s1.2.1 - s.2.1) + s.2.1; omega
  · show s1.2.2 ≤ (s1.2.2 - s.2.2) + s.2.2; omega
theorem zk_ca_g (f d y : Nat) (as : List Value) (s : zk_S) : zk_gr s (zk_ca (zk_rn f) d y as s) := by
  unfold zk_ca
  cases d with
  | zero => exact zk_gr_n
  | succ d =>
    cases Nat.beq y m_Law_person with
    | false => exact zk_gr_c fun _ => zk_wk_g f _ _ _ _ _ _
    | true =>
      rcases d with _ | _ | _ | _ | _ | _ | _ | _ | _ | d
      all_goals first
        | exact zk_gr_n
        | exact zk_lp_g (run := fun as s => bif zk_fa m_SaddlerKnows_person as then zk_wk f (d + 8) m_SaddlerKnows_person 0 (zk_en (zk_ml m_SaddlerKnows_person) as) [] s else none) (fun _ _ => zk_gr_c fun _ => zk_wk_g f _ _ _ _ _ _) as s
theorem zk_Yc_p : ∀ y ∈ zt_Yc, Nat.beq y m_Law_person = false := by decide +kernel
theorem zk_sound (G : zk_G) (l : Launch) : ∀ f, zk_Sd G l f
  | 0 => by
    intro d y pc L S s r p e R sM m args below meth c H locs cells slots Q kc ks ls hw
    cases hw
  | f + 1 => by
    intro d y pc L S s r p e R sM m args below meth c H locs cells slots Q kc ks ls hw hx hb hml hown hnm hts hTb hR1 hR2 T E P hB1 hB2
    have ih := zk_sound G l f
    replace hw : (match zk_lk pc (zk_rcd y) with | none => none | some (nx, i) => zk_ins zk_df (zk_ca (zk_rn f) d) d i nx L S s (fun pc L S s => zk_wk f d y pc L S s)) = some r := hw
    cases hlk : zk_lk pc (zk_rcd y) with
    | none => rw [hlk] at hw; cases hw
    | some q =>
      obtain ⟨nx, i⟩ := q
      rw [hlk] at hw
      refine zo_one hx hb hml hown hnm hts hTb hR1 hR2 T ?_ E ?_ (P f (Nat.lt_succ_self f)) (fun _ _ _ _ => zk_wk_g f _ _ _ _ _ _) (fun _ _ _ => zk_ca_g f _ _ _ _) hB1 hB2 hlk hw
      · intro pc' L' S' s1 H1 locs1 cells1 slots1 ls1 h1 T1
        exact ih d y pc' L' S' s1 r p e R sM m args below meth c H1 locs1 cells1 slots1 Q kc ks ls1 h1 hx hb hml hown hnm hts hTb hR1 hR2 T1 E (fun f' hf' => P f' (Nat.lt_succ_of_lt hf')) hB1 hB2
      · intro y' as s' v s1 hy' hc hnr
        unfold zk_ca at hc
        cases d with
        | zero => cases hc
        | succ d =>
          rw [zk_Yc_p y' hy'] at hc
          replace hc : (bif zk_fa y' as then zk_wk f d y' 0 (zk_en (zk_ml y') as) [] s' else none) = some (v, s1) := hc
          cases hfa : zk_fa y' as with
          | false => rw [hfa] at hc; cases hc
          | true =>
            rw [hfa] at hc
            exact ⟨d, rfl, zk_met ih hy' hfa hc hnr⟩
