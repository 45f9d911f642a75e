/-! THE BIG STEP: a run's step is the machine's (printed by wip/whole/gen/sound.py) -/
theorem zk_c1 {raw i : Instr} {len : Nat} (h : (decide (raw = i) && Nat.beq len 1) = true) : raw = i ∧ len = 1 := by
  rw [Bool.and_eq_true] at h
  exact ⟨of_decide_eq_true h.1, Nat.eq_of_beq_eq_true h.2⟩
theorem zk_c2 {x y len n : Nat} (h : (Nat.beq x y && Nat.beq len n) = true) : x = y ∧ len = n := by
  rw [Bool.and_eq_true] at h
  exact ⟨Nat.eq_of_beq_eq_true h.1, Nat.eq_of_beq_eq_true h.2⟩
theorem zk_c3 {p : Prop} [Decidable p] {len n : Nat} (h : (decide p && Nat.beq len n) = true) : p ∧ len = n := by
  rw [Bool.and_eq_true] at h
  exact ⟨of_decide_eq_true h.1, Nat.eq_of_beq_eq_true h.2⟩
theorem zk_c4 {α : Type} [BEq α] [LawfulBEq α] {x : α} {l : List α} {len n : Nat} (h : (l.elem x && Nat.beq len n) = true) : x ∈ l ∧ len = n := by
  rw [Bool.and_eq_true] at h
  exact ⟨List.elem_iff.mp h.1, Nat.eq_of_beq_eq_true h.2⟩
theorem zk_sw_l {α : Type} {x : Int32} {pc d d' : Int} {kk : Nat → Option α} (hd : pc + d' = d) : ∀ l : List (Int × Int), (∀ q ∈ l, (Int32.ofInt q.1).toInt = q.1) → zk_sw x d kk (l.map fun q => (q.1, pc + q.2)) = kk (pc + Op.lookupswitch.offset l d' x.toInt).toNat
  | [], _ => by rw [Op.lookupswitch.offset_nil, hd]; rfl
  | (a, b) :: r, h => by
    have ha : (Int32.ofInt a).toInt = a := h (a, b) List.mem_cons_self
    show (if x = Int32.ofInt a then kk (pc + b).toNat else zk_sw x d kk (r.map fun q => (q.1, pc + q.2))) = _
    rw [Op.lookupswitch.offset_cons]
    by_cases e : x = Int32.ofInt a
    · rw [if_pos e, if_pos (by rw [e, ha])]
    · rw [if_neg e, if_neg (fun z => e (Int32.toInt_inj.mp (by rw [ha]; first | exact z | exact z.symm))), zk_sw_l hd r (fun q hq => h q (List.mem_cons_of_mem _ hq))]
theorem zk_of_r {pc d : Int} : ∀ {l : List (Int × Int)} {k : Int}, (0 ≤ pc + d) → (∀ q ∈ l, 0 ≤ pc + q.2) → 0 ≤ pc + Op.lookupswitch.offset l d k
  | [], _, h, _ => h
  | (a, b) :: r, k, h, hl => by
    rw [Op.lookupswitch.offset_cons]
    split
    · exact hl (a, b) List.mem_cons_self
    · exact zk_of_r h (fun q hq => hl q (List.mem_cons_of_mem _ hq))
theorem zk_sw_t {α : Type} {x : Int32} {pc d lo : Int} {kk : Nat → Option α} : ∀ (l : List Int) (n : Nat), (∀ j, j < l.length → (Int32.ofInt (lo + ((n + j : Nat) : Int))).toInt = lo + ((n + j : Nat) : Int)) → zk_sw x d kk ((l.zipIdx n).map fun q => (lo + (q.2 : Int), pc + q.1)) = (if lo + (n : Int) ≤ x.toInt ∧ x.toInt < lo + (n : Int) + (l.length : Int) then kk (pc + l.getD (x.toInt - lo - (n : Int)).toNat 0).toNat else kk d.toNat)
  | [], n, _ => by
    rw [if_neg (by simp only [List.length_nil]; omega)]
    rfl
  | b :: r, n, h => by
    have h0 : (Int32.ofInt (lo + (n : Int))).toInt = lo + (n : Int) := h 0 (by simp)
    show (if x = Int32.ofInt (lo + (n : Int)) then kk (pc + b).toNat else zk_sw x d kk ((r.zipIdx (n + 1)).map fun q => (lo + (q.2 : Int), pc + q.1))) = _
    by_cases e : x = Int32.ofInt (lo + (n : Int))
    · have e2 : x.toInt = lo + (n : Int) := by rw [e, h0]
      rw [if_pos e, if_pos (by simp only [List.length_cons]; omega), show (x.toInt - lo - (n : Int)).toNat = 0 by omega]
      rfl
    · have e2 : x.toInt ≠ lo + (n : Int) := fun z => e (Int32.toInt_inj.mp (by rw [h0]; exact z))
      rw [if_neg e, zk_sw_t r (n + 1) (fun j hj => by
        have := h (j + 1) (by simpa using hj)
        rw [show n + 1 + j = n + (j + 1) by omega]
        exact this)]
      by_cases c : lo + ((n + 1 : Nat) : Int) ≤ x.toInt ∧ x.toInt < lo + ((n + 1 : Nat) : Int) + (r.length : Int)
      · rw [if_pos c, if_pos (by simp only [List.length_cons]; omega), show (x.toInt - lo - (n : Int)).toNat = (x.toInt - lo - ((n + 1 : Nat) : Int)).toNat + 1 by omega]
        rfl
      · rw [if_neg c, if_neg (by simp only [List.length_cons]; omega)]
def zk_fin (i : Instr) (S : List Value) (s : zk_S) : Option zk_R := zk_ins zk_df (fun _ _ _ => none) 0 i 0 [] S s (fun _ _ _ _ => none)
/-- where a walk ends -/
def zk_EE (G : zk_G) (p : Program) (l : Launch) (e : Env) (R : Room) (sM : State) (m : MethodId) (args : Array Value) (below : List Frame) (meth : Method) (c : Code) (Q : State → Prop) (y kc ks : Nat) (r : zk_R) : Prop :=
  ∀ (pcE nx : Nat) (i : Instr) (SE LE : List Value) (sE : zk_S) (HE : Heap) (locsE : List Loc) (cellsE slotsE : Nat) (lsE : Array Slot), zk_lk pcE (zk_rcd y) = some (nx, i) → zk_fin i SE sE = some r → zk_St G HE sE lsE LE (zk_ml y) locsE cellsE slotsE kc ks → W p l e R sM m args below meth c HE locsE cellsE slotsE Q (F0 m pcE lsE (SE.map (zk_rz G)))
/-- what calls come to, at depth d -/
def zk_CC (G : zk_G) (l : Launch) (d : Nat) (call : Nat → List Value → zk_S → Option zk_R) : Prop :=
  ∀ (y : Nat) (as : List Value) (s : zk_S) (v : Option Value) (s1 : zk_S), y ∈ zt_Yc → call y as s = some (v, s1) → (∀ t, v ≠ some (.retAddr t)) → ∃ d', d = d' + 1 ∧ zk_CS G l d' y as s v s1
/-- the law's call of its own person -/
def zk_PP (G : zk_G) (p : Program) (l : Launch) (e : Env) (R : Room) (sM : State) (m : MethodId) (args : Array Value) (below : List Frame) (meth : Method) (c : Code) (Q : State → Prop) (y : Nat) (call : Nat → List Value → zk_S → Option zk_R) : Prop :=
  ∀ (pc i : Nat) (as rest : List Value) (s s1 : zk_S) (v : Option Value) (H : Heap) (locs : List Loc) (cells slots : Nat) (ls : Array Slot), call m_Law_person as s = some (v, s1) → (∀ t, v ≠ some (.retAddr t)) → (zk_o y, i, m_Law_person, 0) ∈ zt_M0 → decode (zk_b y) pc = .ok (.invokestatic i, 3) → (rest.map fun v => v.category).sum ≤ 8 → ls.size = zk_ml y → zk_Wd G H s → (∀ q ∈ locs, zk_B G ≤ q.base) → cells + (s1.2.1 - s.2.1) ≤ R.cells → slots + (s1.2.2 - s.2.2) ≤ R.slots →
    (∀ (H1 : Heap) (locs1 : List Loc), zk_Wd G H1 s1 → (∀ q ∈ locs1, zk_B G ≤ q.base) → W p l e R sM m args below meth c H1 locs1 (cells + (s1.2.1 - s.2.1)) (slots + (s1.2.2 - s.2.2)) Q (F0 m (pc + 3) ls ((v.map (zk_rz G)).toList ++ rest.map (zk_rz G)))) → W p l e R sM m args below meth c H locs cells slots Q (F0 m pc ls ((as.map (zk_rz G)).reverse ++ rest.map (zk_rz G)))
theorem zk_oi1 : Jvm.Cond.instanceMethod objectInit ∈ zk_TB := zk_TBi (List.mem_of_getElem? (i := 157) (by decide +kernel)) rfl
theorem zk_oi2 : Jvm.Cond.code objectInit ⟨#[0xb1]⟩ 1 none ∈ zk_TB := zk_TBi (List.mem_of_getElem? (i := 158) (by decide +kernel)) rfl
theorem zk_M1_b : zt_M1.all (fun e => decide (e.2.2.1 ≠ 0)) = true := by decide +kernel
theorem zk_Yin_o : zt_Yin.all (fun y => Nat.ble (zk_o y) 13) = true := by decide +kernel
theorem zk_M1_a : zt_M1.all (fun e => decide (e.2.2.1 ≠ m_Law_person)) = true := by decide +kernel
section
variable {G : zk_G} {p : Program} {l : Launch} {e : Env} {R : Room} {sM : State} {m : MethodId} {args : Array Value} {below : List Frame} {meth : Method} {c : Code} {H : Heap} {locs : List Loc} {cells slots : Nat} {Q : State → Prop} {d pc nx y kc ks : Nat} {L S : List Value} {s : zk_S} {r : zk_R} {ls : Array Slot} {k : Nat → List Value → List Value → zk_S → Option zk_R} {call : Nat → List Value → zk_S → Option zk_R} {i : Instr}
/-- what comes behind a call, by the kind of its answer -/
theorem zk_inv_i {L : List Value} {o : Nat} {as rest : List Value} (hw : zk_inv call nx L o as rest s k = some r) : (rest.map fun v => v.category).sum ≤ 8 ∧ ∃ (v : Option Value) (t : zk_S), call (o % 1000) as s = some (v, t) ∧ (∀ q, v ≠ some (.retAddr q)) ∧ k nx L (v.toList ++ rest) t = some r := by
  unfold zk_inv at hw
  cases hb : Nat.ble (rest.map fun v => v.category).sum 8 with
  | false => rw [hb] at hw; cases hw
  | true =>
    rw [hb] at hw
    refine ⟨Nat.le_of_ble_eq_true hb, ?_⟩
    replace hw : (match o / 10000 % 10 with
      | 0 => (zk_cV (call (o % 1000) as s)).bind fun t => k nx L rest t
      | 1 => (zk_cI (call (o % 1000) as s)).bind fun p => k nx L (.int p.1 :: rest) p.2
      | 2 => (zk_cL (call (o % 1000) as s)).bind fun p => k nx L (.long p.1 :: rest) p.2
      | _ => (zk_cR (call (o % 1000) as s)).bind fun p => match p.1 with
        | some a => k nx L (.ref a :: rest) p.2
        | none => k nx L (.null :: rest) p.2) = some r := hw
    split at hw
    · obtain ⟨t, h1, h2⟩ := Option.bind_eq_some_iff.mp hw
      exact ⟨_, t, zk_cV_i h1, fun q z => (by cases z), h2⟩
    · obtain ⟨⟨x, t⟩, h1, h2⟩ := Option.bind_eq_some_iff.mp hw
      exact ⟨_, t, zk_cI_i h1, fun q z => (by cases z), h2⟩
    · obtain ⟨⟨x, t⟩, h1, h2⟩ := Option.bind_eq_some_iff.mp hw
      exact ⟨_, t, zk_cL_i h1, fun q z => (by cases z), h2⟩
    · obtain ⟨⟨x, t⟩, h1, h2⟩ := Option.bind_eq_some_iff.mp hw
      cases x with
      | none => exact ⟨_, t, zk_cR_i h1, fun q z => (by cases z), h2⟩
      | some x => exact ⟨_, t, zk_cR_i h1, fun q z => (by cases z), h2⟩
set_option maxHeartbeats 8000000 in
theorem zo_one (hx : p.tables.exec = Jvm.exec) (hb : c.code = zk_b y) (hml : c.maxLocals = zk_ml y) (hown : sM.vm.findClass (zk_c (zk_o y)) = some m.cls) (hnm : (zk_y y).name = "<init>" → meth.name = "<init>") (hts : ∀ w ∈ zk_TB, w.before args sM = true) (hTb : zk_Tb G sM) (hR1 : d ≤ R.frames) (hR2 : 40 * d ≤ R.locals)
    (T : zk_St G H s ls L (zk_ml y) locs cells slots kc ks) (K : zk_KK G p l e R sM m args below meth c Q (zk_ml y) kc ks r k) (E : zk_EE G p l e R sM m args below meth c Q y kc ks r) (C : zk_CC G l d call) (P : zk_PP G p l e R sM m args below meth c Q y call) (gk : ∀ pc L S s, zk_gr s (k pc L S s)) (gc : ∀ y as s, zk_gr s (call y as s)) (hB1 : r.2.2.1 ≤ R.cells + kc) (hB2 : r.2.2.2 ≤ R.slots + ks)
    (hlk : zk_lk pc (zk_rcd y) = some (nx, i)) (hw : zk_ins zk_df call d i nx L S s k = some r) : W p l e R sM m args below meth c H locs cells slots Q (F0 m pc ls (S.map (zk_rz G))) := by
  have hmem := zk_lk_m hlk
  have hck := zk_ok y _ hmem
  have hop := zk_opa y _ hmem
  have hpf := zk_pfa y _ hmem
  have hls : ls.size = zk_ml y := T.2.1.1.trans T.2.2.1
  have hlo := T.2.2.2.1
  unfold zk_ck at hck
  split at hck
  case h_2 => cases hck
  rename_i raw len hdec
  rw [Bool.and_eq_true] at hck
  obtain ⟨hnx, hchk⟩ := hck
  replace hnx : nx = pc + len := Nat.eq_of_beq_eq_true hnx
  replace hchk : zk_chk (zk_o y) pc i raw len = true := hchk
  replace hop : zk_opi i = true := hop
  replace hpf : zk_pfk y i = true := hpf
  replace hdec : decode (zk_b y) pc = .ok (raw, len) := hdec
  subst hnx
  have Tw := T.1
  cases i
  case iadd =>
    obtain ⟨rfl, rfl⟩ := zk_c1 hchk
    exact zo_iadd hx hb T K hdec hw
  case isub =>
    obtain ⟨rfl, rfl⟩ := zk_c1 hchk
    exact zo_isub hx hb T K hdec hw
  case imul =>
    obtain ⟨rfl, rfl⟩ := zk_c1 hchk
    exact zo_imul hx hb T K hdec hw
  case iand =>
    obtain ⟨rfl, rfl⟩ := zk_c1 hchk
    exact zo_iand hx hb T K hdec hw
  case ior =>
    obtain ⟨rfl, rfl⟩ := zk_c1 hchk
    exact zo_ior hx hb T K hdec hw
  case ixor =>
    obtain ⟨rfl, rfl⟩ := zk_c1 hchk
    exact zo_ixor hx hb T K hdec hw
  case ladd =>
    obtain ⟨rfl, rfl⟩ := zk_c1 hchk
    exact zo_ladd hx hb T K hdec hw
  case lsub =>
    obtain ⟨rfl, rfl⟩ := zk_c1 hchk
    exact zo_lsub hx hb T K hdec hw
  case lmul =>
    obtain ⟨rfl, rfl⟩ := zk_c1 hchk
    exact zo_lmul hx hb T K hdec hw
  case land =>
    obtain ⟨rfl, rfl⟩ := zk_c1 hchk
    exact zo_land hx hb T K hdec hw
  case lor =>
    obtain ⟨rfl, rfl⟩ := zk_c1 hchk
    exact zo_lor hx hb T K hdec hw
  case ishl =>
    obtain ⟨rfl, rfl⟩ := zk_c1 hchk
    exact zo_ishl hx hb T K hdec hw
  case ishr =>
    obtain ⟨rfl, rfl⟩ := zk_c1 hchk
    exact zo_ishr hx hb T K hdec hw
  case iushr =>
    obtain ⟨rfl, rfl⟩ := zk_c1 hchk
    exact zo_iushr hx hb T K hdec hw
  case lshl =>
    obtain ⟨rfl, rfl⟩ := zk_c1 hchk
    exact zo_lshl hx hb T K hdec hw
  case lushr =>
    obtain ⟨rfl, rfl⟩ := zk_c1 hchk
    exact zo_lushr hx hb T K hdec hw
  case ineg =>
    obtain ⟨rfl, rfl⟩ := zk_c1 hchk
    exact zo_ineg hx hb T K hdec hw
  case i2l =>
    obtain ⟨rfl, rfl⟩ := zk_c1 hchk
    exact zo_i2l hx hb T K hdec hw
  case l2i =>
    obtain ⟨rfl, rfl⟩ := zk_c1 hchk
    exact zo_l2i hx hb T K hdec hw
  case i2b =>
    obtain ⟨rfl, rfl⟩ := zk_c1 hchk
    exact zo_i2b hx hb T K hdec hw
  case i2c =>
    obtain ⟨rfl, rfl⟩ := zk_c1 hchk
    exact zo_i2c hx hb T K hdec hw
  case lcmp =>
    obtain ⟨rfl, rfl⟩ := zk_c1 hchk
    exact zo_lcmp hx hb T K hdec hw
  case idiv =>
    obtain ⟨rfl, rfl⟩ := zk_c1 hchk
    exact zo_idiv hx hb T K hdec hw
  case irem =>
    obtain ⟨rfl, rfl⟩ := zk_c1 hchk
    exact zo_irem hx hb T K hdec hw
  case ldiv =>
    obtain ⟨rfl, rfl⟩ := zk_c1 hchk
    exact zo_ldiv hx hb T K hdec hw
  case lrem =>
    obtain ⟨rfl, rfl⟩ := zk_c1 hchk
    exact zo_lrem hx hb T K hdec hw
  case dup =>
    obtain ⟨rfl, rfl⟩ := zk_c1 hchk
    exact zo_dup hx hb T K hdec hw
  case dup2 =>
    obtain ⟨rfl, rfl⟩ := zk_c1 hchk
    exact zo_dup2 hx hb T K hdec hw
  case pop =>
    obtain ⟨rfl, rfl⟩ := zk_c1 hchk
    exact zo_pop hx hb T K hdec hw
  case aconst_null =>
    obtain ⟨rfl, rfl⟩ := zk_c1 hchk
    exact zo_anull hx hb T K hdec hw
  case iload n =>
    replace hchk : (match (generalizing := false) raw with | .iload m => Nat.beq m n && Nat.beq len 2 | .iload_n j => Nat.beq j.val n && Nat.beq len 1 | _ => false) = true := hchk
    split at hchk
    · obtain ⟨rfl, rfl⟩ := zk_c2 hchk
      exact zo_iload hx hb T K hdec hw
    · obtain ⟨hj, rfl⟩ := zk_c2 hchk
      exact zo_iloadn hx hb T K hj hdec hw
    · cases hchk
  case lload n =>
    replace hchk : (match (generalizing := false) raw with | .lload m => Nat.beq m n && Nat.beq len 2 | .lload_n j => Nat.beq j.val n && Nat.beq len 1 | _ => false) = true := hchk
    split at hchk
    · obtain ⟨rfl, rfl⟩ := zk_c2 hchk
      exact zo_lload hx hb T K hdec hw
    · obtain ⟨hj, rfl⟩ := zk_c2 hchk
      exact zo_lloadn hx hb T K hj hdec hw
    · cases hchk
  case aload n =>
    replace hchk : (match (generalizing := false) raw with | .aload m => Nat.beq m n && Nat.beq len 2 | .aload_n j => Nat.beq j.val n && Nat.beq len 1 | _ => false) = true := hchk
    split at hchk
    · obtain ⟨rfl, rfl⟩ := zk_c2 hchk
      exact zo_aload hx hb T K hdec hw
    · obtain ⟨hj, rfl⟩ := zk_c2 hchk
      exact zo_aloadn hx hb T K hj hdec hw
    · cases hchk
  case istore n =>
    replace hchk : (match (generalizing := false) raw with | .istore m => Nat.beq m n && Nat.beq len 2 | .istore_n j => Nat.beq j.val n && Nat.beq len 1 | _ => false) = true := hchk
    split at hchk
    · obtain ⟨rfl, rfl⟩ := zk_c2 hchk
      exact zo_istore hx hb T K hdec hw
    · obtain ⟨hj, rfl⟩ := zk_c2 hchk
      exact zo_istoren hx hb T K hj hdec hw
    · cases hchk
  case lstore n =>
    replace hchk : (match (generalizing := false) raw with | .lstore m => Nat.beq m n && Nat.beq len 2 | .lstore_n j => Nat.beq j.val n && Nat.beq len 1 | _ => false) = true := hchk
    split at hchk
    · obtain ⟨rfl, rfl⟩ := zk_c2 hchk
      exact zo_lstore hx hb T K hdec hw
    · obtain ⟨hj, rfl⟩ := zk_c2 hchk
      exact zo_lstoren hx hb T K hj hdec hw
    · cases hchk
  case astore n =>
    replace hchk : (match (generalizing := false) raw with | .astore m => Nat.beq m n && Nat.beq len 2 | .astore_n j => Nat.beq j.val n && Nat.beq len 1 | _ => false) = true := hchk
    split at hchk
    · obtain ⟨rfl, rfl⟩ := zk_c2 hchk
      exact zo_astore hx hb T K hdec hw
    · obtain ⟨hj, rfl⟩ := zk_c2 hchk
      exact zo_astoren hx hb T K hj hdec hw
    · cases hchk
  case iconst v =>
    replace hchk : (match (generalizing := false) raw with | .iconst w => decide (w = v) && Nat.beq len 1 | .bipush w => decide ((Int8.ofInt w).toInt32 = Int32.ofInt v) && Nat.beq len 2 | .sipush w => decide ((Int16.ofInt w).toInt32 = Int32.ofInt v) && Nat.beq len 3 | .ldc i => zt_C.elem (zk_o y, i, v) && Nat.beq len 2 | .ldc_w i => zt_C.elem (zk_o y, i, v) && Nat.beq len 3 | _ => false) = true := hchk
    split at hchk
    · obtain ⟨rfl, rfl⟩ := zk_c3 hchk
      exact zo_iconst hx hb T K hdec hw
    · obtain ⟨hv, rfl⟩ := zk_c3 hchk
      exact zo_bipush hx hb T K hv hdec hw
    · obtain ⟨hv, rfl⟩ := zk_c3 hchk
      exact zo_sipush hx hb T K hv hdec hw
    · obtain ⟨hv, rfl⟩ := zk_c4 hchk
      exact zo_ldc hx hb T K hown (hts _ (zw_C_ok _ hv)) hdec hw
    · obtain ⟨hv, rfl⟩ := zk_c4 hchk
      exact zo_ldcw hx hb T K hown (hts _ (zw_C_ok _ hv)) hdec hw
    · cases hchk
  case sipush v =>
    replace hchk : (match (generalizing := false) raw with | .lconst j => decide (Int64.ofNat j.val = Int64.ofInt v) && Nat.beq len 1 | .ldc2_w i => zt_L.elem (zk_o y, i, v) && Nat.beq len 3 | _ => false) = true := hchk
    split at hchk
    · obtain ⟨hv, rfl⟩ := zk_c3 hchk
      exact zo_lconst hx hb T K hv hdec hw
    · obtain ⟨hv, rfl⟩ := zk_c4 hchk
      exact zo_ldc2 hx hb T K hown (hts _ (zw_L_ok _ hv)) hdec hw
    · cases hchk
  case ldc e =>
    replace hchk : (match (generalizing := false) raw with | .ldc i => zt_S.elem (zk_o y, i, e) && Nat.beq len 2 | _ => false) = true := hchk
    split at hchk
    · obtain ⟨hv, rfl⟩ := zk_c4 hchk
      replace hpf : (Nat.ble 4 e && Nat.ble e 7) = true := hpf
      rw [Bool.and_eq_true] at hpf
      replace hw : k (pc + 2) L (.ref e :: S) s = some r := hw
      have kk := K _ _ _ _ _ _ _ _ _ hw T
      refine va_ldcS hx hb hown (hTb.2.2.1 _ hv) hdec ?_
      rw [show zk_X G e = zk_ad G e from (if_pos (by have := Nat.le_of_ble_eq_true hpf.2; omega)).symm]
      exact kk
    · cases hchk
  case getstatic e =>
    replace hchk : (match (generalizing := false) raw with | .getstatic i => zt_G.elem (zk_o y, i, e) && Nat.beq len 3 | _ => false) = true := hchk
    split at hchk
    · obtain ⟨hv, rfl⟩ := zk_c4 hchk
      have hlink := hts _ (zw_G_ok _ hv)
      replace hpf : Nat.ble e 3 = true := hpf
      have he := Nat.le_of_ble_eq_true hpf
      cases e with
      | zero =>
        replace hw : k (pc + 3) L (.int 1 :: S) s = some r := hw
        have kk := K _ _ _ _ _ _ _ _ _ hw T
        obtain ⟨cf, kf, fi, f, a, cell, h1, h2, h3, h4, h5, h6, h7, h8⟩ := hTb.2.2.2.1.2
        exact W.gets hx hb hown hlink h1 h2 h3 h4 ((zk_below Tw h8).trans h5) (fun z => by rw [z] at h6; cases h6) h7 rfl hdec kk
      | succ e =>
        replace hw : k (pc + 3) L (.ref (e + 1) :: S) s = some r := hw
        have kk := K _ _ _ _ _ _ _ _ _ hw T
        obtain ⟨cf, kf, fi, f, a, cell, h1, h2, h3, h4, h5, h6, h7, h8⟩ := hTb.2.2.2.1.1 (e + 1) (by omega) he
        refine W.gets hx hb hown hlink h1 h2 h3 h4 ((zk_below Tw h8).trans h5) (fun z => by rw [z] at h6; cases h6) h7 rfl hdec ?_
        rw [show zk_X G (e + 1) = zk_ad G (e + 1) from (if_pos (by omega)).symm]
        exact kk
    · cases hchk
  case ifCond c1 t1 =>
    replace hchk : (match (generalizing := false) raw with | .ifCond c' off => decide (c' = c1) && decide ((pc : Int) + off = t1) && decide (0 ≤ t1) && Nat.beq len 3 | _ => false) = true := hchk
    split at hchk
    · simp only [Bool.and_eq_true, decide_eq_true_eq] at hchk
      obtain ⟨⟨⟨rfl, ht⟩, h0⟩, hlen⟩ := hchk
      have hlen := Nat.eq_of_beq_eq_true hlen
      subst hlen
      rename_i c1 _
      cases c1
      case eq => exact zo_if_eq hx hb T K ht h0 hdec hw
      case ne => exact zo_if_ne hx hb T K ht h0 hdec hw
      case lt => exact zo_if_lt hx hb T K ht h0 hdec hw
      case ge => exact zo_if_ge hx hb T K ht h0 hdec hw
      case gt => exact zo_if_gt hx hb T K ht h0 hdec hw
      case le => exact zo_if_le hx hb T K ht h0 hdec hw
    · cases hchk
  case if_icmp c1 t1 =>
    replace hchk : (match (generalizing := false) raw with | .if_icmp c' off => decide (c' = c1) && decide ((pc : Int) + off = t1) && decide (0 ≤ t1) && Nat.beq len 3 | _ => false) = true := hchk
    split at hchk
    · simp only [Bool.and_eq_true, decide_eq_true_eq] at hchk
      obtain ⟨⟨⟨rfl, ht⟩, h0⟩, hlen⟩ := hchk
      have hlen := Nat.eq_of_beq_eq_true hlen
      subst hlen
      rename_i c1 _
      cases c1
      case eq => exact zo_icmp_eq hx hb T K ht h0 hdec hw
      case ne => exact zo_icmp_ne hx hb T K ht h0 hdec hw
      case lt => exact zo_icmp_lt hx hb T K ht h0 hdec hw
      case ge => exact zo_icmp_ge hx hb T K ht h0 hdec hw
      case gt => exact zo_icmp_gt hx hb T K ht h0 hdec hw
      case le => exact zo_icmp_le hx hb T K ht h0 hdec hw
    · cases hchk
  case ifnull t1 =>
    replace hchk : (match (generalizing := false) raw with | .ifnull off => decide ((pc : Int) + off = t1) && decide (0 ≤ t1) && Nat.beq len 3 | _ => false) = true := hchk
    split at hchk
    · simp only [Bool.and_eq_true, decide_eq_true_eq] at hchk
      obtain ⟨⟨ht, h0⟩, hlen⟩ := hchk
      have hlen := Nat.eq_of_beq_eq_true hlen
      subst hlen
      exact zo_ifnull hx hb T K ht h0 hdec hw
    · cases hchk
  case ifnonnull t1 =>
    replace hchk : (match (generalizing := false) raw with | .ifnonnull off => decide ((pc : Int) + off = t1) && decide (0 ≤ t1) && Nat.beq len 3 | _ => false) = true := hchk
    split at hchk
    · simp only [Bool.and_eq_true, decide_eq_true_eq] at hchk
      obtain ⟨⟨ht, h0⟩, hlen⟩ := hchk
      have hlen := Nat.eq_of_beq_eq_true hlen
      subst hlen
      exact zo_ifnonnull hx hb T K ht h0 hdec hw
    · cases hchk
  case goto t1 =>
    replace hchk : (match (generalizing := false) raw with | .goto off => decide ((pc : Int) + off = t1) && decide (0 ≤ t1) && Nat.beq len 3 | _ => false) = true := hchk
    split at hchk
    · simp only [Bool.and_eq_true, decide_eq_true_eq] at hchk
      obtain ⟨⟨ht, h0⟩, hlen⟩ := hchk
      have hlen := Nat.eq_of_beq_eq_true hlen
      subst hlen
      exact zo_goto hx hb T K ht h0 hdec hw
    · cases hchk
  case iinc n v =>
    replace hchk : (match (generalizing := false) raw with | .iinc n' v' => Nat.beq n' n && decide (v' = v) && Nat.beq len 3 | _ => false) = true := hchk
    split at hchk
    · simp only [Bool.and_eq_true, decide_eq_true_eq] at hchk
      obtain ⟨⟨h1, rfl⟩, hlen⟩ := hchk
      have h1 := Nat.eq_of_beq_eq_true h1
      have hlen := Nat.eq_of_beq_eq_true hlen
      subst hlen
      subst h1
      exact zo_iinc hx hb T K hdec hw
    · cases hchk
  case lookupswitch dflt ps =>
    replace hw : (match (generalizing := false) S with | .int x :: S => zk_sw x dflt (fun t => k t L S s) ps.toList | _ => none) = some r := hw
    split at hw
    case h_2 => cases hw
    rename_i x S
    replace hchk : (match (generalizing := false) raw with | .lookupswitch d' ps' => decide (0 ≤ dflt) && decide ((pc : Int) + d' = dflt) && decide (ps.toList = ps'.toList.map (fun q => (q.1, (pc : Int) + q.2))) && ps.toList.all (fun q => decide (0 ≤ q.2) && decide ((Int32.ofInt q.1).toInt = q.1)) && (ps'.toList.zip (ps'.toList.drop 1)).all (fun q => decide (q.1.1 < q.2.1)) | .tableswitch d' lo hi offs => decide (0 ≤ dflt) && decide ((pc : Int) + d' = dflt) && decide (ps.toList = offs.toList.zipIdx.map (fun q => (lo + (q.2 : Int), (pc : Int) + q.1))) && ps.toList.all (fun q => decide (0 ≤ q.2) && decide ((Int32.ofInt q.1).toInt = q.1)) && decide (hi = lo + (offs.size : Int) - 1) | _ => false) = true := hchk
    split at hchk
    · rename_i d' ps'
      simp only [Bool.and_eq_true, decide_eq_true_eq] at hchk
      obtain ⟨⟨⟨⟨h0, hd⟩, hps⟩, hall⟩, hz⟩ := hchk
      rw [hps] at hw hall
      have hall2 : ∀ q ∈ ps'.toList, 0 ≤ (pc : Int) + q.2 ∧ (Int32.ofInt q.1).toInt = q.1 := by
        intro q hq
        have := List.all_eq_true.mp hall (q.1, (pc : Int) + q.2) (List.mem_map.mpr ⟨q, hq, rfl⟩)
        simpa [Bool.and_eq_true] using this
      rw [zk_sw_l hd _ (fun q hq => (hall2 q hq).2)] at hw
      have hnn : 0 ≤ (pc : Int) + Op.lookupswitch.offset ps'.toList d' x.toInt := zk_of_r (by omega) (fun q hq => (hall2 q hq).1)
      exact lv_lookup (tgt := ((pc : Int) + Op.lookupswitch.offset ps'.toList d' x.toInt).toNat) hx hb hdec (by simpa using hz) rfl (by omega) (K _ _ _ _ _ _ _ _ _ hw T)
    · rename_i d' lo hi offs
      simp only [Bool.and_eq_true, decide_eq_true_eq] at hchk
      obtain ⟨⟨⟨⟨h0, hd⟩, hps⟩, hall⟩, hhi⟩ := hchk
      rw [hps] at hw hall
      have hall2 : ∀ j, j < offs.toList.length → 0 ≤ (pc : Int) + offs.toList.getD j 0 ∧ (Int32.ofInt (lo + ((0 + j : Nat) : Int))).toInt = lo + ((0 + j : Nat) : Int) := by
        intro j hj
        have hm : (offs.toList[j], j) ∈ offs.toList.zipIdx := by
          rw [List.mem_zipIdx_iff_getElem?]
          simp [hj]
        have := List.all_eq_true.mp hall (lo + (j : Int), (pc : Int) + offs.toList[j]) (List.mem_map.mpr ⟨_, hm, rfl⟩)
        rw [Nat.zero_add, List.getD_eq_getElem?_getD, List.getElem?_eq_getElem hj]
        simpa [Bool.and_eq_true] using this
      rw [zk_sw_t offs.toList 0 (fun j hj => (hall2 j hj).2)] at hw
      have hlen : (offs.toList.length : Int) = (offs.size : Int) := by simp
      by_cases hc : lo + ((0 : Nat) : Int) ≤ x.toInt ∧ x.toInt < lo + ((0 : Nat) : Int) + (offs.toList.length : Int)
      · rw [if_pos hc] at hw
        have hj : (x.toInt - lo - ((0 : Nat) : Int)).toNat < offs.toList.length := by omega
        have h2 := (hall2 _ hj).1
        refine lv_tableIn (off := offs.toList.getD (x.toInt - lo - ((0 : Nat) : Int)).toNat 0) (tgt := ((pc : Int) + offs.toList.getD (x.toInt - lo - ((0 : Nat) : Int)).toNat 0).toNat) hx hb hdec (by omega) (by omega) ?_ (by omega) (K _ _ _ _ _ _ _ _ _ hw T)
        rw [List.getD_eq_getElem?_getD, List.getElem?_eq_getElem hj, show (x.toInt - lo).toNat = (x.toInt - lo - ((0 : Nat) : Int)).toNat by omega, ← Array.getElem?_toList, List.getElem?_eq_getElem hj]
        rfl
      · rw [if_neg hc] at hw
        exact lv_tableOut (tgt := dflt.toNat) hx hb hdec (by omega) (by omega) (K _ _ _ _ _ _ _ _ _ hw T)
    · cases hchk
  case getfield oo =>
    replace hchk : (match (generalizing := false) raw with | .getfield i => zt_F.elem (zk_o y, i, oo / 1000, oo / 10 % 100) && Nat.beq len 3 | _ => false) = true := hchk
    split at hchk
    case h_2 => cases hchk
    obtain ⟨hF, rfl⟩ := zk_c4 hchk
    replace hw : (match (generalizing := false) S with | .ref a :: S => (match oo % 10 with | 0 => (zk_gI s a (oo / 1000) (oo / 10 % 100)).bind fun x => k (pc + 3) L (.int x :: S) s | 1 => (zk_gL s a (oo / 1000) (oo / 10 % 100)).bind fun x => k (pc + 3) L (.long x :: S) s | 2 => (zk_gR s a (oo / 1000) (oo / 10 % 100)).bind fun x => k (pc + 3) L (.ref x :: S) s | _ => none) | _ => none) = some r := hw
    split at hw
    case h_2 => cases hw
    split at hw
    · obtain ⟨x, h1, h2⟩ := Option.bind_eq_some_iff.mp hw
      exact zo_getv hx hb hown hts hTb Tw hF (zk_gI_i h1) hdec (K _ _ _ _ _ _ _ _ _ h2 T)
    · obtain ⟨x, h1, h2⟩ := Option.bind_eq_some_iff.mp hw
      exact zo_getv hx hb hown hts hTb Tw hF (zk_gL_i h1) hdec (K _ _ _ _ _ _ _ _ _ h2 T)
    · obtain ⟨x, h1, h2⟩ := Option.bind_eq_some_iff.mp hw
      exact zo_getv hx hb hown hts hTb Tw hF (zk_gR_i h1) hdec (K _ _ _ _ _ _ _ _ _ h2 T)
    · cases hw
  case putfield oo =>
    replace hchk : (match (generalizing := false) raw with | .putfield i => zt_F.elem (zk_o y, i, oo / 1000, oo / 10 % 100) && Nat.beq len 3 | _ => false) = true := hchk
    split at hchk
    case h_2 => cases hchk
    obtain ⟨hF, rfl⟩ := zk_c4 hchk
    replace hpf : (Nat.blt (oo / 1000) 13 && (bif (zk_tx (oo / 1000) (oo / 10 % 100)).2.2.2 then decide ((zk_y y).name = "<init>") && Nat.beq (oo / 1000) (zk_o y) else true) && (match oo % 10 with
        | 0 => decide (zk_ft (oo / 1000) (oo / 10 % 100) = .int)
        | 3 => decide (zk_ft (oo / 1000) (oo / 10 % 100) = .boolean)
        | 1 => decide (zk_ft (oo / 1000) (oo / 10 % 100) = .long)
        | 2 => (match zk_ft (oo / 1000) (oo / 10 % 100) with | .object _ => true | .array _ => true | _ => false)
        | _ => true)) = true := hpf
    rw [Bool.and_eq_true, Bool.and_eq_true] at hpf
    obtain ⟨⟨hc13, hfin0⟩, hty⟩ := hpf
    have hc13 : oo / 1000 < 13 := Nat.le_of_ble_eq_true hc13
    have hfin : (zk_tx (oo / 1000) (oo / 10 % 100)).2.2.2 = true → meth.name = "<init>" ∧ oo / 1000 = zk_o y := by
      intro h
      rw [h] at hfin0
      replace hfin0 : (decide ((zk_y y).name = "<init>") && Nat.beq (oo / 1000) (zk_o y)) = true := hfin0
      rw [Bool.and_eq_true] at hfin0
      exact ⟨hnm (of_decide_eq_true hfin0.1), Nat.eq_of_beq_eq_true hfin0.2⟩
    replace hw : (match (generalizing := false) S with
      | .int x :: .ref a :: S => (match oo % 10 with
        | 0 => (zk_pf s a (oo / 1000) (oo / 10 % 100) (.int x)).bind fun t => k (pc + 3) L S t
        | 3 => if x = 0 ∨ x = 1 then (zk_pf s a (oo / 1000) (oo / 10 % 100) (.int x)).bind fun t => k (pc + 3) L S t else none
        | _ => none)
      | .long x :: .ref a :: S => (match oo % 10 with
        | 1 => (zk_pf s a (oo / 1000) (oo / 10 % 100) (.long x)).bind fun t => k (pc + 3) L S t
        | _ => none)
      | .ref x :: .ref a :: S => (match oo % 10 with
        | 2 => (zk_pf s a (oo / 1000) (oo / 10 % 100) (.ref x)).bind fun t => k (pc + 3) L S t
        | _ => none)
      | _ => none) = some r := hw
    split at hw
    · rename_i x a S
      split at hw
      · rename_i hk
        rw [hk] at hty
        have hty := of_decide_eq_true hty
        obtain ⟨t, h1, h2⟩ := Option.bind_eq_some_iff.mp hw
        obtain ⟨fs, f1, f2, rfl⟩ := zk_pf_i h1
        refine zo_putv (v := .int x) hx hb hown hts hTb Tw hlo hF hc13 f1 f2 hfin (by rw [hty]; rfl) (by rw [hty]; rfl) hdec (fun H1 locs1 w1 w2 => K _ _ _ _ _ _ _ _ _ h2 ⟨w1, T.2.1, T.2.2.1, w2, T.2.2.2.2⟩)
      · rename_i hk
        rw [hk] at hty
        have hty := of_decide_eq_true hty
        by_cases hx01 : x = 0 ∨ x = 1
        · rw [if_pos hx01] at hw
          obtain ⟨t, h1, h2⟩ := Option.bind_eq_some_iff.mp hw
          obtain ⟨fs, f1, f2, rfl⟩ := zk_pf_i h1
          refine zo_putv (v := .int x) hx hb hown hts hTb Tw hlo hF hc13 f1 f2 hfin (by rw [hty]; rcases hx01 with rfl | rfl <;> rfl) (by rw [hty]; rcases hx01 with rfl | rfl <;> rfl) hdec (fun H1 locs1 w1 w2 => K _ _ _ _ _ _ _ _ _ h2 ⟨w1, T.2.1, T.2.2.1, w2, T.2.2.2.2⟩)
        · rw [if_neg hx01] at hw; cases hw
      · cases hw
    · rename_i x a S
      split at hw
      · rename_i hk
        rw [hk] at hty
        have hty := of_decide_eq_true hty
        obtain ⟨t, h1, h2⟩ := Option.bind_eq_some_iff.mp hw
        obtain ⟨fs, f1, f2, rfl⟩ := zk_pf_i h1
        refine zo_putv (v := .long x) hx hb hown hts hTb Tw hlo hF hc13 f1 f2 hfin (by rw [hty]; rfl) (by rw [hty]; rfl) hdec (fun H1 locs1 w1 w2 => K _ _ _ _ _ _ _ _ _ h2 ⟨w1, T.2.1, T.2.2.1, w2, T.2.2.2.2⟩)
      · cases hw
    · rename_i x a S
      split at hw
      · rename_i hk
        rw [hk] at hty
        replace hty : (match zk_ft (oo / 1000) (oo / 10 % 100) with | .object _ => true | .array _ => true | _ => false) = true := hty
        have hty2 : (∃ n, zk_ft (oo / 1000) (oo / 10 % 100) = .object n) ∨ ∃ n, zk_ft (oo / 1000) (oo / 10 % 100) = .array n := by
          split at hty
          · rename_i q; exact Or.inl ⟨_, q⟩
          · rename_i q; exact Or.inr ⟨_, q⟩
          · cases hty
        obtain ⟨t, h1, h2⟩ := Option.bind_eq_some_iff.mp hw
        obtain ⟨fs, f1, f2, rfl⟩ := zk_pf_i h1
        refine zo_putv (v := .ref x) hx hb hown hts hTb Tw hlo hF hc13 f1 f2 hfin (by rcases hty2 with ⟨n, q⟩ | ⟨n, q⟩ <;> rw [q] <;> rfl) (by rcases hty2 with ⟨n, q⟩ | ⟨n, q⟩ <;> rw [q] <;> rfl) hdec (fun H1 locs1 w1 w2 => K _ _ _ _ _ _ _ _ _ h2 ⟨w1, T.2.1, T.2.2.1, w2, T.2.2.2.2⟩)
      · cases hw
    · cases hw
  case iaload =>
    obtain ⟨rfl, rfl⟩ := zk_c1 hchk
    replace hw : (match (generalizing := false) S with | .int i :: .ref a :: S => (zk_ldI s a i).bind fun x => k (pc + 1) L (.int x :: S) s | _ => none) = some r := hw
    split at hw
    · obtain ⟨x, h1, h2⟩ := Option.bind_eq_some_iff.mp hw
      exact zo_iald hx hb hTb Tw h1 hdec (K _ _ _ _ _ _ _ _ _ h2 T)
    · cases hw
  case baload =>
    obtain ⟨rfl, rfl⟩ := zk_c1 hchk
    replace hw : (match (generalizing := false) S with | .int i :: .ref a :: S => (zk_ldB s a i).bind fun x => k (pc + 1) L (.int x :: S) s | _ => none) = some r := hw
    split at hw
    · obtain ⟨x, h1, h2⟩ := Option.bind_eq_some_iff.mp hw
      exact zo_bald hx hb hTb Tw h1 hdec (K _ _ _ _ _ _ _ _ _ h2 T)
    · cases hw
  case laload =>
    obtain ⟨rfl, rfl⟩ := zk_c1 hchk
    replace hw : (match (generalizing := false) S with | .int i :: .ref a :: S => (zk_ldL s a i).bind fun x => k (pc + 1) L (.long x :: S) s | _ => none) = some r := hw
    split at hw
    · obtain ⟨x, h1, h2⟩ := Option.bind_eq_some_iff.mp hw
      exact zo_lald hx hb hTb Tw h1 hdec (K _ _ _ _ _ _ _ _ _ h2 T)
    · cases hw
  case arraylength =>
    obtain ⟨rfl, rfl⟩ := zk_c1 hchk
    replace hw : (match (generalizing := false) S with | .ref a :: S => (zk_al s a).bind fun x => k (pc + 1) L (.int x :: S) s | _ => none) = some r := hw
    split at hw
    · obtain ⟨x, h1, h2⟩ := Option.bind_eq_some_iff.mp hw
      exact zo_alen hx hb hTb Tw h1 hdec (K _ _ _ _ _ _ _ _ _ h2 T)
    · cases hw
  case aaload =>
    obtain ⟨rfl, rfl⟩ := zk_c1 hchk
    replace hw : (match (generalizing := false) S with | .int i :: .ref a :: S => (zk_ldR s a i).bind fun x => (match x with | some b => k (pc + 1) L (.ref b :: S) s | none => k (pc + 1) L (.null :: S) s) | _ => none) = some r := hw
    split at hw
    · obtain ⟨x, h1, h2⟩ := Option.bind_eq_some_iff.mp hw
      cases x with
      | none => exact zo_aald hx hb hTb Tw h1 hdec (K _ _ _ _ _ _ _ _ _ h2 T)
      | some b => exact zo_aald hx hb hTb Tw h1 hdec (K _ _ _ _ _ _ _ _ _ h2 T)
    · cases hw
  case iastore =>
    obtain ⟨rfl, rfl⟩ := zk_c1 hchk
    replace hw : (match (generalizing := false) S with | .int x :: .int i :: .ref a :: S => (zk_stI s a i x).bind fun t => k (pc + 1) L S t | _ => none) = some r := hw
    split at hw
    · obtain ⟨t, h1, h2⟩ := Option.bind_eq_some_iff.mp hw
      have h9 : t.2 = s.2 := by
        obtain ⟨_, _, -, -, rfl⟩ := zk_stI_i h1; rfl
      exact zo_iast hx hb hTb Tw hlo h1 hdec (fun H1 locs1 w1 w2 => K _ _ _ _ _ _ _ _ _ h2 ⟨w1, T.2.1, T.2.2.1, w2, by rw [h9]; exact T.2.2.2.2⟩)
    · cases hw
  case bastore =>
    obtain ⟨rfl, rfl⟩ := zk_c1 hchk
    replace hw : (match (generalizing := false) S with | .int x :: .int i :: .ref a :: S => (zk_stZ s a i x).bind fun t => k (pc + 1) L S t | _ => none) = some r := hw
    split at hw
    · obtain ⟨t, h1, h2⟩ := Option.bind_eq_some_iff.mp hw
      have h9 : t.2 = s.2 := by
        obtain ⟨_, _, -, -, rfl⟩ := zk_stZ_i h1; rfl
      exact zo_zast hx hb hTb Tw hlo h1 hdec (fun H1 locs1 w1 w2 => K _ _ _ _ _ _ _ _ _ h2 ⟨w1, T.2.1, T.2.2.1, w2, by rw [h9]; exact T.2.2.2.2⟩)
    · cases hw
  case lastore =>
    obtain ⟨rfl, rfl⟩ := zk_c1 hchk
    replace hw : (match (generalizing := false) S with | .long x :: .int i :: .ref a :: S => (zk_stL s a i x).bind fun t => k (pc + 1) L S t | _ => none) = some r := hw
    split at hw
    · obtain ⟨t, h1, h2⟩ := Option.bind_eq_some_iff.mp hw
      have h9 : t.2 = s.2 := by
        obtain ⟨_, _, -, -, rfl⟩ := zk_stL_i h1; rfl
      exact zo_last hx hb hTb Tw hlo h1 hdec (fun H1 locs1 w1 w2 => K _ _ _ _ _ _ _ _ _ h2 ⟨w1, T.2.1, T.2.2.1, w2, by rw [h9]; exact T.2.2.2.2⟩)
    · cases hw
  case aastore =>
    obtain ⟨rfl, rfl⟩ := zk_c1 hchk
    replace hw : (match (generalizing := false) S with | .ref x :: .int i :: .ref a :: S => (zk_stR s a i x).bind fun t => k (pc + 1) L S t | _ => none) = some r := hw
    split at hw
    · obtain ⟨t, h1, h2⟩ := Option.bind_eq_some_iff.mp hw
      have h9 : t.2 = s.2 := by
        obtain ⟨_, _, _, _, -, -, -, rfl⟩ := zk_stR_i h1; rfl
      exact zo_aast hx hb hTb Tw hlo h1 hdec (fun H1 locs1 w1 w2 => K _ _ _ _ _ _ _ _ _ h2 ⟨w1, T.2.1, T.2.2.1, w2, by rw [h9]; exact T.2.2.2.2⟩)
    · cases hw
  case new ci =>
    replace hchk : (match (generalizing := false) raw with | .new i => zt_N.elem (zk_o y, i, ci) && Nat.beq len 3 | _ => false) = true := hchk
    split at hchk
    case h_2 => cases hchk
    obtain ⟨hN, rfl⟩ := zk_c4 hchk
    replace hop : (Nat.blt ci 13 && zt_In.elem ci && zt_Ci.elem ci) = true := hop
    rw [Bool.and_eq_true, Bool.and_eq_true] at hop
    replace hw : k (pc + 3) L (.ref s.2.1 :: S) (zk_nw s (zk_ob ci (zk_df ci)) (zk_df ci).length) = some r := hw
    have hg := gk _ _ _ _ _ hw
    have hg1 : s.2.1 + 1 ≤ r.2.2.1 := hg.1
    have hg2 : s.2.2 + (zk_df ci).length ≤ r.2.2.2 := hg.2
    have e1 := T.2.2.2.2.1
    have e2 := T.2.2.2.2.2
    exact zo_new hx hb hown hts hTb Tw hN (Nat.le_of_ble_eq_true hop.1.1) (List.elem_iff.mp hop.1.2) (List.elem_iff.mp hop.2) (by omega) (by omega) hdec (fun H1 w1 => K _ _ _ _ _ _ _ _ _ hw ⟨w1, T.2.1, T.2.2.1, hlo, by show s.2.1 + 1 = cells + 1 + kc; omega, by show s.2.2 + (zk_df ci).length = slots + (zk_df ci).length + ks; omega⟩)
  case newarray ty =>
    replace hchk : (match (generalizing := false) raw with | .newarray t' => decide (t' = ty) && Nat.beq len 2 | _ => false) = true := hchk
    split at hchk
    case h_2 => cases hchk
    obtain ⟨rfl, rfl⟩ := zk_c3 hchk
    rename_i ty
    replace hw : (match (generalizing := false) S with | .int n :: S => (if n < 0 ∨ 100000 < n then none else (match (generalizing := false) ty with | .int => k (pc + 2) L (.ref s.2.1 :: S) (zk_nw s (zk_ia 0 n.toNatClampNeg (fun _ => 0)) n.toNatClampNeg) | .boolean => k (pc + 2) L (.ref s.2.1 :: S) (zk_nw s (zk_ia 2 n.toNatClampNeg (fun _ => 0)) n.toNatClampNeg) | .long => k (pc + 2) L (.ref s.2.1 :: S) (zk_nw s (zk_la n.toNatClampNeg (fun _ => 0)) n.toNatClampNeg) | _ => none)) | _ => none) = some r := hw
    split at hw
    case h_2 => cases hw
    rename_i n S
    by_cases hn : n < 0 ∨ 100000 < n
    · rw [if_pos hn] at hw; cases hw
    · rw [if_neg hn] at hw
      split at hw
      · have hg := gk _ _ _ _ _ hw
        have hg1 : s.2.1 + 1 ≤ r.2.2.1 := hg.1
        have hg2 : s.2.2 + n.toNatClampNeg ≤ r.2.2.2 := hg.2
        have e1 := T.2.2.2.2.1
        have e2 := T.2.2.2.2.2
        exact zo_newa hx hb hts hTb Tw rfl (Or.inl ⟨rfl, rfl⟩) hn (by omega) (by omega) hdec (fun H1 w1 => K _ _ _ _ _ _ _ _ _ hw ⟨w1, T.2.1, T.2.2.1, hlo, by show s.2.1 + 1 = cells + 1 + kc; omega, by show s.2.2 + n.toNatClampNeg = slots + n.toNatClampNeg + ks; omega⟩)
      · have hg := gk _ _ _ _ _ hw
        have hg1 : s.2.1 + 1 ≤ r.2.2.1 := hg.1
        have hg2 : s.2.2 + n.toNatClampNeg ≤ r.2.2.2 := hg.2
        have e1 := T.2.2.2.2.1
        have e2 := T.2.2.2.2.2
        exact zo_newa hx hb hts hTb Tw rfl (Or.inr (Or.inl ⟨rfl, rfl⟩)) hn (by omega) (by omega) hdec (fun H1 w1 => K _ _ _ _ _ _ _ _ _ hw ⟨w1, T.2.1, T.2.2.1, hlo, by show s.2.1 + 1 = cells + 1 + kc; omega, by show s.2.2 + n.toNatClampNeg = slots + n.toNatClampNeg + ks; omega⟩)
      · have hg := gk _ _ _ _ _ hw
        have hg1 : s.2.1 + 1 ≤ r.2.2.1 := hg.1
        have hg2 : s.2.2 + n.toNatClampNeg ≤ r.2.2.2 := hg.2
        have e1 := T.2.2.2.2.1
        have e2 := T.2.2.2.2.2
        exact zo_newa hx hb hts hTb Tw rfl (Or.inr (Or.inr ⟨rfl, rfl⟩)) hn (by omega) (by omega) hdec (fun H1 w1 => K _ _ _ _ _ _ _ _ _ hw ⟨w1, T.2.1, T.2.2.1, hlo, by show s.2.1 + 1 = cells + 1 + kc; omega, by show s.2.2 + n.toNatClampNeg = slots + n.toNatClampNeg + ks; omega⟩)
      · cases hw
  case anewarray ci =>
    replace hchk : (match (generalizing := false) raw with | .anewarray i => zt_A.elem (zk_o y, i, ci) && Nat.beq len 3 | _ => false) = true := hchk
    split at hchk
    case h_2 => cases hchk
    obtain ⟨hA, rfl⟩ := zk_c4 hchk
    replace hpf : (Nat.beq ci 7 || Nat.beq ci 1) = true := hpf
    have hci : ci = 7 ∨ ci = 1 := by
      rw [Bool.or_eq_true] at hpf
      exact hpf.imp Nat.eq_of_beq_eq_true Nat.eq_of_beq_eq_true
    replace hw : (match (generalizing := false) S with | .int n :: S => (if n < 0 ∨ 100000 < n then none else k (pc + 3) L (.ref s.2.1 :: S) (zk_nw s (zk_ra ci n.toNatClampNeg (fun _ => none)) n.toNatClampNeg)) | _ => none) = some r := hw
    split at hw
    case h_2 => cases hw
    rename_i n S
    by_cases hn : n < 0 ∨ 100000 < n
    · rw [if_pos hn] at hw; cases hw
    · rw [if_neg hn] at hw
      have hg := gk _ _ _ _ _ hw
      have hg1 : s.2.1 + 1 ≤ r.2.2.1 := hg.1
      have hg2 : s.2.2 + n.toNatClampNeg ≤ r.2.2.2 := hg.2
      have e1 := T.2.2.2.2.1
      have e2 := T.2.2.2.2.2
      exact zo_anew hx hb hown hts hTb Tw hA hci hn (by omega) (by omega) hdec (fun H1 w1 => K _ _ _ _ _ _ _ _ _ hw ⟨w1, T.2.1, T.2.2.1, hlo, by show s.2.1 + 1 = cells + 1 + kc; omega, by show s.2.2 + n.toNatClampNeg = slots + n.toNatClampNeg + ks; omega⟩)
  case invokestatic oo =>
    replace hchk : (match (generalizing := false) raw with | .invokestatic i => (zt_M0.elem (zk_o y, i, oo % 1000, 0) || zt_M1.elem (zk_o y, i, oo % 1000, 10)) && Nat.beq len 3 | _ => false) = true := hchk
    split at hchk
    case h_2 => cases hchk
    rename_i i
    rw [Bool.and_eq_true] at hchk
    obtain ⟨hM, hlen⟩ := hchk
    have hlen := Nat.eq_of_beq_eq_true hlen
    subst hlen
    rw [Bool.or_eq_true] at hM
    have hM2 : (zk_o y, i, oo % 1000, 0) ∈ zt_M0 ∨ (zk_o y, i, oo % 1000, 10) ∈ zt_M1 := hM.imp List.elem_iff.mp List.elem_iff.mp
    replace hw : (bif Nat.ble (oo / 1000 % 10) S.length then zk_inv call (pc + 3) L oo (S.take (oo / 1000 % 10)).reverse (S.drop (oo / 1000 % 10)) s k else none) = some r := hw
    cases hle : Nat.ble (oo / 1000 % 10) S.length with
    | false => rw [hle] at hw; cases hw
    | true =>
      rw [hle] at hw
      replace hw : zk_inv call (pc + 3) L oo (S.take (oo / 1000 % 10)).reverse (S.drop (oo / 1000 % 10)) s k = some r := hw
      replace hop : zk_opk 0 oo = true := hop
      unfold zk_opk at hop
      simp only [Bool.and_eq_true, Bool.or_eq_true, if_true] at hop
      obtain ⟨⟨⟨⟨⟨q1, q2⟩, q3⟩, q4⟩, q5⟩, q6⟩ := hop
      obtain ⟨hr8, v, t, hcall, hnr, hk⟩ := zk_inv_i hw
      have hg1 := gc _ _ _ _ hcall
      have hg2 := gk _ _ _ _ _ hk
      have a1 : s.2.1 ≤ t.2.1 := hg1.1
      have a2 : s.2.2 ≤ t.2.2 := hg1.2
      have b1 : t.2.1 ≤ r.2.2.1 := hg2.1
      have b2 : t.2.2 ≤ r.2.2.2 := hg2.2
      have e1 := T.2.2.2.2.1
      have e2 := T.2.2.2.2.2
      have hS : S.map (zk_rz G) = ((S.take (oo / 1000 % 10)).reverse.map (zk_rz G)).reverse ++ (S.drop (oo / 1000 % 10)).map (zk_rz G) := by
        rw [List.map_reverse, List.reverse_reverse, ← List.map_append, List.take_append_drop]
      rw [hS]
      by_cases hp : oo % 1000 = m_Law_person
      · rw [hp] at hcall hM2
        have hM0 : (zk_o y, i, m_Law_person, 0) ∈ zt_M0 := by
          rcases hM2 with z | z
          · exact z
          · exact absurd rfl (of_decide_eq_true (List.all_eq_true.mp zk_M1_a _ z))
        exact P _ _ _ _ _ _ _ _ _ _ _ _ hcall hnr hM0 hdec hr8 hls Tw hlo (by omega) (by omega) (fun H1 locs1 w1 w2 => by
          have q := K _ _ _ _ _ _ _ _ _ hk ⟨w1, T.2.1, T.2.2.1, w2, (by show t.2.1 = cells + (t.2.1 - s.2.1) + kc; omega), (by show t.2.2 = slots + (t.2.2 - s.2.2) + ks; omega)⟩
          rw [List.map_append] at q
          have ez : (v.map (zk_rz G)).toList = v.toList.map (zk_rz G) := by cases v <;> rfl
          rw [ez]
          exact q)
      · have hnp : Nat.beq (oo % 1000) m_Law_person = false := by
          cases hb2 : Nat.beq (oo % 1000) m_Law_person with
          | false => rfl
          | true => exact absurd (Nat.eq_of_beq_eq_true hb2) hp
        rw [hnp] at q2 q6
        have hy : oo % 1000 ∈ zt_Yc := by rcases q2 with z | z; exact List.elem_iff.mp z; cases z
        have hst : oo % 1000 ∈ zt_Yst := by rcases q6 with z | z; exact List.elem_iff.mp z; cases z
        obtain ⟨d', rfl, hCS⟩ := C _ _ _ _ _ hy hcall hnr
        have hn : (S.take (oo / 1000 % 10)).reverse.length = zk_np (oo % 1000) := by
          rw [List.length_reverse, List.length_take, Nat.min_eq_left (Nat.le_of_ble_eq_true hle)]
          exact (Nat.eq_of_beq_eq_true q3)
        exact zo_static hx hb hml hls hown hts hTb Tw hlo hCS hR1 hR2 (by omega) (by omega) hM2 hy hst hn hr8 hdec (fun H1 locs1 w1 w2 => by
          have q := K _ _ _ _ _ _ _ _ _ hk ⟨w1, T.2.1, T.2.2.1, w2, (by show t.2.1 = cells + (t.2.1 - s.2.1) + kc; omega), (by show t.2.2 = slots + (t.2.2 - s.2.2) + ks; omega)⟩
          rw [List.map_append] at q
          have ez : (v.map (zk_rz G)).toList = v.toList.map (zk_rz G) := by cases v <;> rfl
          rw [ez]
          exact q)
  case invokevirtual oo =>
    replace hchk : (match (generalizing := false) raw with | .invokevirtual i => (zt_M0.elem (zk_o y, i, oo % 1000, 1) || zt_M1.elem (zk_o y, i, oo % 1000, 11)) && Nat.beq len 3 | _ => false) = true := hchk
    split at hchk
    case h_2 => cases hchk
    rename_i i
    rw [Bool.and_eq_true] at hchk
    obtain ⟨hM, hlen⟩ := hchk
    have hlen := Nat.eq_of_beq_eq_true hlen
    subst hlen
    rw [Bool.or_eq_true] at hM
    have hM2 : (zk_o y, i, oo % 1000, 1) ∈ zt_M0 ∨ (zk_o y, i, oo % 1000, 11) ∈ zt_M1 := hM.imp List.elem_iff.mp List.elem_iff.mp
    replace hw : (bif Nat.ble (oo / 1000 % 10) S.length then (match (S.take (oo / 1000 % 10)).reverse with | .ref b :: as => (zk_rv s b (oo / 100000)).bind fun _ => zk_inv call (pc + 3) L oo (.ref b :: as) (S.drop (oo / 1000 % 10)) s k | _ => none) else none) = some r := hw
    cases hle : Nat.ble (oo / 1000 % 10) S.length with
    | false => rw [hle] at hw; cases hw
    | true =>
      rw [hle] at hw
      replace hw : (match (S.take (oo / 1000 % 10)).reverse with | .ref b :: as => (zk_rv s b (oo / 100000)).bind fun _ => zk_inv call (pc + 3) L oo (.ref b :: as) (S.drop (oo / 1000 % 10)) s k | _ => none) = some r := hw
      cases hT : (S.take (oo / 1000 % 10)).reverse with
      | nil => rw [hT] at hw; cases hw
      | cons v0 as =>
        rw [hT] at hw
        cases v0
        case ref b =>
          obtain ⟨u0, hrv, hw⟩ := Option.bind_eq_some_iff.mp hw
          replace hop : zk_opk 1 (oo) = true := hop
          unfold zk_opk at hop
          simp only [Bool.and_eq_true, Bool.or_eq_true] at hop
          obtain ⟨⟨⟨⟨⟨q1, q2⟩, q3⟩, q4⟩, q5⟩, q6⟩ := hop
          obtain ⟨hr8, v, t, hcall, hnr, hk⟩ := zk_inv_i hw
          have hg1 := gc _ _ _ _ hcall
          have hg2 := gk _ _ _ _ _ hk
          have a1 : s.2.1 ≤ t.2.1 := hg1.1
          have a2 : s.2.2 ≤ t.2.2 := hg1.2
          have b1 : t.2.1 ≤ r.2.2.1 := hg2.1
          have b2 : t.2.2 ≤ r.2.2.2 := hg2.2
          have e1 := T.2.2.2.2.1
          have e2 := T.2.2.2.2.2
          have hS : S.map (zk_rz G) = (as.map (zk_rz G)).reverse ++ .ref (zk_ad G b) :: (S.drop (oo / 1000 % 10)).map (zk_rz G) := by
            have e9 : S.take (oo / 1000 % 10) = as.reverse ++ [.ref b] := by
              have := congrArg List.reverse hT
              rw [List.reverse_reverse, List.reverse_cons] at this
              exact this
            have e8 : S = (as.reverse ++ [.ref b]) ++ S.drop (oo / 1000 % 10) := by rw [← e9, List.take_append_drop]
            have e7 := congrArg (List.map (zk_rz G)) e8
            rw [List.map_append, List.map_append, List.map_reverse, List.append_assoc] at e7
            exact e7
          rw [hS]
          have q6 := q6
          have hst : oo % 1000 ∈ zt_Yin := by
            have q7 := q6
            simp only [show ((1 : Nat) = 0) = False from eq_false (by decide), if_false, Bool.and_eq_true] at q7
            exact List.elem_iff.mp q7.1
          have hse : oo % 1000 ∈ zt_Yse := by
            have q7 := q6
            simp only [show ((1 : Nat) = 0) = False from eq_false (by decide), if_false, if_true, Bool.and_eq_true] at q7
            exact List.elem_iff.mp q7.2
          have hnp : oo % 1000 ≠ m_Law_person := by
            intro z
            rw [z] at hst
            exact absurd hst (by decide +kernel)
          have hy : oo % 1000 ∈ zt_Yc := by
            rcases q2 with z | z
            · exact List.elem_iff.mp z
            · exact absurd (Nat.eq_of_beq_eq_true z) hnp
          obtain ⟨d', rfl, hCS⟩ := C _ _ _ _ _ hy hcall hnr
          have hn : as.length = zk_np (oo % 1000) := by
            have e6 := congrArg List.length hT
            rw [List.length_reverse, List.length_take, Nat.min_eq_left (Nat.le_of_ble_eq_true hle), List.length_cons] at e6
            have e5 := Nat.eq_of_beq_eq_true q3
            simp only [show ((1 : Nat) = 0) = False from eq_false (by decide), if_false] at e5
            omega
          have ho4 := Nat.eq_of_beq_eq_true q4
          rw [ho4] at hrv
          have ho : zk_o (oo % 1000) ≤ 13 := by
            have h1 := List.all_eq_true.mp zk_Yin_o _ hst
            exact Nat.le_of_ble_eq_true h1
          exact zo_virtual hx hb hml hls hown hts hTb Tw hlo hCS hrv ho hR1 hR2 (by omega) (by omega) hM2 hy hst hse hn hr8 hdec (fun H1 locs1 w1 w2 => by
                have q := K _ _ _ _ _ _ _ _ _ hk ⟨w1, T.2.1, T.2.2.1, w2, (by show t.2.1 = cells + (t.2.1 - s.2.1) + kc; omega), (by show t.2.2 = slots + (t.2.2 - s.2.2) + ks; omega)⟩
                rw [List.map_append] at q
                have ez : (v.map (zk_rz G)).toList = v.toList.map (zk_rz G) := by cases v <;> rfl
                rw [ez]
                exact q)
        all_goals (cases hw)
  case invokespecial oo =>
    cases oo with
    | zero =>
      replace hchk : (match (generalizing := false) raw with | .invokespecial i => (zt_M0.elem (zk_o y, i, 0 % 1000, 2) || zt_M1.elem (zk_o y, i, 0 % 1000, 12)) && Nat.beq len 3 | _ => false) = true := hchk
      split at hchk
      case h_2 => cases hchk
      rename_i i
      rw [Bool.and_eq_true] at hchk
      obtain ⟨hM, hlen⟩ := hchk
      have hlen := Nat.eq_of_beq_eq_true hlen
      subst hlen
      rw [Bool.or_eq_true] at hM
      have hM0 : (zk_o y, i, 0, 2) ∈ zt_M0 := by
        rcases hM with z | z
        · exact List.elem_iff.mp z
        · exact absurd rfl (of_decide_eq_true (List.all_eq_true.mp zk_M1_b _ (List.elem_iff.mp z)))
      replace hw : (match (generalizing := false) S with | .ref _ :: S => (match (generalizing := false) d with | 0 => none | _ + 1 => bif Nat.ble (S.map fun v => v.category).sum 8 then k (pc + 3) L S s else none) | _ => none) = some r := hw
      split at hw
      case h_2 => cases hw
      rename_i b S
      cases d with
      | zero => cases hw
      | succ d =>
        replace hw : (bif Nat.ble (S.map fun v => v.category).sum 8 then k (pc + 3) L S s else none) = some r := hw
        cases hle : Nat.ble (S.map fun v => v.category).sum 8 with
        | false => rw [hle] at hw; cases hw
        | true =>
          rw [hle] at hw
          have h8 := Nat.le_of_ble_eq_true hle
          have hlk := hts _ (zw_M_ok _ hM0)
          have hq := zk_rz_s G S
          refine W.objInit (rest := S.map (zk_rz G)) hx hb hown hlk (hts _ zk_oi1) (hts _ zk_oi2) rfl (hls.trans hml.symm) rfl hdec (by omega) (by show 2 * 0 + ((S.map (zk_rz G)).map fun v => v.category).sum + 12 ≤ R.locals; omega) (K _ _ _ _ _ _ _ _ _ hw T)
    | succ oo =>
      replace hchk : (match (generalizing := false) raw with | .invokespecial i => (zt_M0.elem (zk_o y, i, (oo + 1) % 1000, 2) || zt_M1.elem (zk_o y, i, (oo + 1) % 1000, 12)) && Nat.beq len 3 | _ => false) = true := hchk
      split at hchk
      case h_2 => cases hchk
      rename_i i
      rw [Bool.and_eq_true] at hchk
      obtain ⟨hM, hlen⟩ := hchk
      have hlen := Nat.eq_of_beq_eq_true hlen
      subst hlen
      rw [Bool.or_eq_true] at hM
      have hM2 : (zk_o y, i, (oo + 1) % 1000, 2) ∈ zt_M0 ∨ (zk_o y, i, (oo + 1) % 1000, 12) ∈ zt_M1 := hM.imp List.elem_iff.mp List.elem_iff.mp
      replace hw : (bif Nat.ble ((oo + 1) / 1000 % 10) S.length then (match (S.take ((oo + 1) / 1000 % 10)).reverse with | .ref b :: as => zk_inv call (pc + 3) L (oo + 1) (.ref b :: as) (S.drop ((oo + 1) / 1000 % 10)) s k | _ => none) else none) = some r := hw
      cases hle : Nat.ble ((oo + 1) / 1000 % 10) S.length with
      | false => rw [hle] at hw; cases hw
      | true =>
        rw [hle] at hw
        replace hw : (match (S.take ((oo + 1) / 1000 % 10)).reverse with | .ref b :: as => zk_inv call (pc + 3) L (oo + 1) (.ref b :: as) (S.drop ((oo + 1) / 1000 % 10)) s k | _ => none) = some r := hw
        cases hT : (S.take ((oo + 1) / 1000 % 10)).reverse with
        | nil => rw [hT] at hw; cases hw
        | cons v0 as =>
          rw [hT] at hw
          cases v0
          case ref b =>
            replace hw : zk_inv call (pc + 3) L (oo + 1) (.ref b :: as) (S.drop ((oo + 1) / 1000 % 10)) s k = some r := hw
            replace hop : zk_opk 2 ((oo + 1)) = true := hop
            unfold zk_opk at hop
            simp only [Bool.and_eq_true, Bool.or_eq_true] at hop
            obtain ⟨⟨⟨⟨⟨q1, q2⟩, q3⟩, q4⟩, q5⟩, q6⟩ := hop
            obtain ⟨hr8, v, t, hcall, hnr, hk⟩ := zk_inv_i hw
            have hg1 := gc _ _ _ _ hcall
            have hg2 := gk _ _ _ _ _ hk
            have a1 : s.2.1 ≤ t.2.1 := hg1.1
            have a2 : s.2.2 ≤ t.2.2 := hg1.2
            have b1 : t.2.1 ≤ r.2.2.1 := hg2.1
            have b2 : t.2.2 ≤ r.2.2.2 := hg2.2
            have e1 := T.2.2.2.2.1
            have e2 := T.2.2.2.2.2
            have hS : S.map (zk_rz G) = (as.map (zk_rz G)).reverse ++ .ref (zk_ad G b) :: (S.drop ((oo + 1) / 1000 % 10)).map (zk_rz G) := by
              have e9 : S.take ((oo + 1) / 1000 % 10) = as.reverse ++ [.ref b] := by
                have := congrArg List.reverse hT
                rw [List.reverse_reverse, List.reverse_cons] at this
                exact this
              have e8 : S = (as.reverse ++ [.ref b]) ++ S.drop ((oo + 1) / 1000 % 10) := by rw [← e9, List.take_append_drop]
              have e7 := congrArg (List.map (zk_rz G)) e8
              rw [List.map_append, List.map_append, List.map_reverse, List.append_assoc] at e7
              exact e7
            rw [hS]
            have q6 := q6
            have hst : (oo + 1) % 1000 ∈ zt_Yin := by
              have q7 := q6
              simp only [show ((2 : Nat) = 0) = False from eq_false (by decide), if_false, Bool.and_eq_true] at q7
              exact List.elem_iff.mp q7.1
            have hnp : (oo + 1) % 1000 ≠ m_Law_person := by
              intro z
              rw [z] at hst
              exact absurd hst (by decide +kernel)
            have hy : (oo + 1) % 1000 ∈ zt_Yc := by
              rcases q2 with z | z
              · exact List.elem_iff.mp z
              · exact absurd (Nat.eq_of_beq_eq_true z) hnp
            obtain ⟨d', rfl, hCS⟩ := C _ _ _ _ _ hy hcall hnr
            have hn : as.length = zk_np ((oo + 1) % 1000) := by
              have e6 := congrArg List.length hT
              rw [List.length_reverse, List.length_take, Nat.min_eq_left (Nat.le_of_ble_eq_true hle), List.length_cons] at e6
              have e5 := Nat.eq_of_beq_eq_true q3
              simp only [show ((2 : Nat) = 0) = False from eq_false (by decide), if_false] at e5
              omega
            exact zo_special hx hb hml hls hown hts hTb Tw hlo hCS hR1 hR2 (by omega) (by omega) hM2 hy hst hn hr8 hdec (fun H1 locs1 w1 w2 => by
                  have q := K _ _ _ _ _ _ _ _ _ hk ⟨w1, T.2.1, T.2.2.1, w2, (by show t.2.1 = cells + (t.2.1 - s.2.1) + kc; omega), (by show t.2.2 = slots + (t.2.2 - s.2.2) + ks; omega)⟩
                  rw [List.map_append] at q
                  have ez : (v.map (zk_rz G)).toList = v.toList.map (zk_rz G) := by cases v <;> rfl
                  rw [ez]
                  exact q)
          all_goals (cases hw)
  case ireturn =>
    exact E _ _ _ _ _ _ _ _ _ _ _ hlk hw T
  case lreturn =>
    exact E _ _ _ _ _ _ _ _ _ _ _ hlk hw T
  case areturn =>
    exact E _ _ _ _ _ _ _ _ _ _ _ hlk hw T
  case return_ =>
    exact E _ _ _ _ _ _ _ _ _ _ _ hlk hw T
  case athrow =>
    exact E _ _ _ _ _ _ _ _ _ _ _ hlk hw T
  case ret n =>
    match n, hw, hlk with
    | 0, hw, _ => cases (show (none : Option zk_R) = some r from hw)
    | 1, hw, hlk => exact E _ _ _ _ _ _ _ _ _ _ _ hlk hw T
    | 2, hw, hlk => exact E _ _ _ _ _ _ _ _ _ _ _ hlk hw T
    | n + 3, hw, _ => cases (show (none : Option zk_R) = some r from hw)
  all_goals (cases (show (none : Option zk_R) = some r from hw))
end
