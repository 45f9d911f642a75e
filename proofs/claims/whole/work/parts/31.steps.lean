/-! STEPS: a step of the machine for each step of a run (the plain ones; printed by wip/whole/gen/steps.py) -/
abbrev zk_St (G : zk_G) (H : Heap) (s : zk_S) (ls : Array Slot) (L : List Value) (ml : Nat) (locs : List Loc) (cells slots kc ks : Nat) : Prop := zk_Wd G H s ∧ zk_lh G ls L ∧ L.length = ml ∧ (∀ q ∈ locs, zk_B G ≤ q.base) ∧ s.2.1 = cells + kc ∧ s.2.2 = slots + ks
/-- what stands behind a step -/
def zk_KK (G : zk_G) (p : Program) (l : Launch) (e : Env) (R : Room) (sM : State) (m : MethodId) (args : Array Value) (below : List Frame) (meth : Method) (c : Code) (Q : State → Prop) (ml kc ks : Nat) (r : zk_R) (k : Nat → List Value → List Value → zk_S → Option zk_R) : Prop :=
  ∀ (pc' : Nat) (L' S' : List Value) (s1 : zk_S) (H1 : Heap) (locs1 : List Loc) (cells1 slots1 : Nat) (ls1 : Array Slot), k pc' L' S' s1 = some r → zk_St G H1 s1 ls1 L' ml locs1 cells1 slots1 kc ks → W p l e R sM m args below meth c H1 locs1 cells1 slots1 Q (F0 m pc' ls1 (S'.map (zk_rz G)))
section
variable {G : zk_G} {p : Program} {l : Launch} {e : Env} {R : Room} {sM : State} {m : MethodId} {args : Array Value} {below : List Frame} {meth : Method} {c : Code} {H : Heap} {locs : List Loc} {cells slots : Nat} {Q : State → Prop} {cc : ByteArray} {d pc ml kc ks : Nat} {L S : List Value} {s : zk_S} {r : zk_R} {ls : Array Slot} {k : Nat → List Value → List Value → zk_S → Option zk_R} {call : Nat → List Value → zk_S → Option zk_R}
theorem zo_iadd (hx : p.tables.exec = Jvm.exec) (hb : c.code = cc) (T : zk_St G H s ls L ml locs cells slots kc ks) (K : zk_KK G p l e R sM m args below meth c Q ml kc ks r k) (hdec : decode cc pc = .ok (.iadd, 1)) (hw : zk_ins zk_df call d .iadd (pc + 1) L S s k = some r) : W p l e R sM m args below meth c H locs cells slots Q (F0 m pc ls (S.map (zk_rz G))) := by
  replace hw : (match (generalizing := false) S with | .int y :: .int x :: S => k (pc + 1) L (.int (x + y) :: S) s | _ => none) = some r := hw
  split at hw
  · exact lv_iadd hx hb hdec (K _ _ _ _ _ _ _ _ _ hw T)
  · cases hw
theorem zo_isub (hx : p.tables.exec = Jvm.exec) (hb : c.code = cc) (T : zk_St G H s ls L ml locs cells slots kc ks) (K : zk_KK G p l e R sM m args below meth c Q ml kc ks r k) (hdec : decode cc pc = .ok (.isub, 1)) (hw : zk_ins zk_df call d .isub (pc + 1) L S s k = some r) : W p l e R sM m args below meth c H locs cells slots Q (F0 m pc ls (S.map (zk_rz G))) := by
  replace hw : (match (generalizing := false) S with | .int y :: .int x :: S => k (pc + 1) L (.int (x - y) :: S) s | _ => none) = some r := hw
  split at hw
  · exact lv_isub hx hb hdec (K _ _ _ _ _ _ _ _ _ hw T)
  · cases hw
theorem zo_imul (hx : p.tables.exec = Jvm.exec) (hb : c.code = cc) (T : zk_St G H s ls L ml locs cells slots kc ks) (K : zk_KK G p l e R sM m args below meth c Q ml kc ks r k) (hdec : decode cc pc = .ok (.imul, 1)) (hw : zk_ins zk_df call d .imul (pc + 1) L S s k = some r) : W p l e R sM m args below meth c H locs cells slots Q (F0 m pc ls (S.map (zk_rz G))) := by
  replace hw : (match (generalizing := false) S with | .int y :: .int x :: S => k (pc + 1) L (.int (x * y) :: S) s | _ => none) = some r := hw
  split at hw
  · exact lv_imul hx hb hdec (K _ _ _ _ _ _ _ _ _ hw T)
  · cases hw
theorem zo_iand (hx : p.tables.exec = Jvm.exec) (hb : c.code = cc) (T : zk_St G H s ls L ml locs cells slots kc ks) (K : zk_KK G p l e R sM m args below meth c Q ml kc ks r k) (hdec : decode cc pc = .ok (.iand, 1)) (hw : zk_ins zk_df call d .iand (pc + 1) L S s k = some r) : W p l e R sM m args below meth c H locs cells slots Q (F0 m pc ls (S.map (zk_rz G))) := by
  replace hw : (match (generalizing := false) S with | .int y :: .int x :: S => k (pc + 1) L (.int (x &&& y) :: S) s | _ => none) = some r := hw
  split at hw
  · exact lv_iand hx hb hdec (K _ _ _ _ _ _ _ _ _ hw T)
  · cases hw
theorem zo_ior (hx : p.tables.exec = Jvm.exec) (hb : c.code = cc) (T : zk_St G H s ls L ml locs cells slots kc ks) (K : zk_KK G p l e R sM m args below meth c Q ml kc ks r k) (hdec : decode cc pc = .ok (.ior, 1)) (hw : zk_ins zk_df call d .ior (pc + 1) L S s k = some r) : W p l e R sM m args below meth c H locs cells slots Q (F0 m pc ls (S.map (zk_rz G))) := by
  replace hw : (match (generalizing := false) S with | .int y :: .int x :: S => k (pc + 1) L (.int (x ||| y) :: S) s | _ => none) = some r := hw
  split at hw
  · exact lv_ior hx hb hdec (K _ _ _ _ _ _ _ _ _ hw T)
  · cases hw
theorem zo_ixor (hx : p.tables.exec = Jvm.exec) (hb : c.code = cc) (T : zk_St G H s ls L ml locs cells slots kc ks) (K : zk_KK G p l e R sM m args below meth c Q ml kc ks r k) (hdec : decode cc pc = .ok (.ixor, 1)) (hw : zk_ins zk_df call d .ixor (pc + 1) L S s k = some r) : W p l e R sM m args below meth c H locs cells slots Q (F0 m pc ls (S.map (zk_rz G))) := by
  replace hw : (match (generalizing := false) S with | .int y :: .int x :: S => k (pc + 1) L (.int (x ^^^ y) :: S) s | _ => none) = some r := hw
  split at hw
  · exact lv_ixor hx hb hdec (K _ _ _ _ _ _ _ _ _ hw T)
  · cases hw
theorem zo_ladd (hx : p.tables.exec = Jvm.exec) (hb : c.code = cc) (T : zk_St G H s ls L ml locs cells slots kc ks) (K : zk_KK G p l e R sM m args below meth c Q ml kc ks r k) (hdec : decode cc pc = .ok (.ladd, 1)) (hw : zk_ins zk_df call d .ladd (pc + 1) L S s k = some r) : W p l e R sM m args below meth c H locs cells slots Q (F0 m pc ls (S.map (zk_rz G))) := by
  replace hw : (match (generalizing := false) S with | .long y :: .long x :: S => k (pc + 1) L (.long (x + y) :: S) s | _ => none) = some r := hw
  split at hw
  · exact lv_ladd hx hb hdec (K _ _ _ _ _ _ _ _ _ hw T)
  · cases hw
theorem zo_lsub (hx : p.tables.exec = Jvm.exec) (hb : c.code = cc) (T : zk_St G H s ls L ml locs cells slots kc ks) (K : zk_KK G p l e R sM m args below meth c Q ml kc ks r k) (hdec : decode cc pc = .ok (.lsub, 1)) (hw : zk_ins zk_df call d .lsub (pc + 1) L S s k = some r) : W p l e R sM m args below meth c H locs cells slots Q (F0 m pc ls (S.map (zk_rz G))) := by
  replace hw : (match (generalizing := false) S with | .long y :: .long x :: S => k (pc + 1) L (.long (x - y) :: S) s | _ => none) = some r := hw
  split at hw
  · exact lv_lsub hx hb hdec (K _ _ _ _ _ _ _ _ _ hw T)
  · cases hw
theorem zo_lmul (hx : p.tables.exec = Jvm.exec) (hb : c.code = cc) (T : zk_St G H s ls L ml locs cells slots kc ks) (K : zk_KK G p l e R sM m args below meth c Q ml kc ks r k) (hdec : decode cc pc = .ok (.lmul, 1)) (hw : zk_ins zk_df call d .lmul (pc + 1) L S s k = some r) : W p l e R sM m args below meth c H locs cells slots Q (F0 m pc ls (S.map (zk_rz G))) := by
  replace hw : (match (generalizing := false) S with | .long y :: .long x :: S => k (pc + 1) L (.long (x * y) :: S) s | _ => none) = some r := hw
  split at hw
  · exact lv_lmul hx hb hdec (K _ _ _ _ _ _ _ _ _ hw T)
  · cases hw
theorem zo_land (hx : p.tables.exec = Jvm.exec) (hb : c.code = cc) (T : zk_St G H s ls L ml locs cells slots kc ks) (K : zk_KK G p l e R sM m args below meth c Q ml kc ks r k) (hdec : decode cc pc = .ok (.land, 1)) (hw : zk_ins zk_df call d .land (pc + 1) L S s k = some r) : W p l e R sM m args below meth c H locs cells slots Q (F0 m pc ls (S.map (zk_rz G))) := by
  replace hw : (match (generalizing := false) S with | .long y :: .long x :: S => k (pc + 1) L (.long (x &&& y) :: S) s | _ => none) = some r := hw
  split at hw
  · exact lv_land hx hb hdec (K _ _ _ _ _ _ _ _ _ hw T)
  · cases hw
theorem zo_lor (hx : p.tables.exec = Jvm.exec) (hb : c.code = cc) (T : zk_St G H s ls L ml locs cells slots kc ks) (K : zk_KK G p l e R sM m args below meth c Q ml kc ks r k) (hdec : decode cc pc = .ok (.lor, 1)) (hw : zk_ins zk_df call d .lor (pc + 1) L S s k = some r) : W p l e R sM m args below meth c H locs cells slots Q (F0 m pc ls (S.map (zk_rz G))) := by
  replace hw : (match (generalizing := false) S with | .long y :: .long x :: S => k (pc + 1) L (.long (x ||| y) :: S) s | _ => none) = some r := hw
  split at hw
  · exact lv_lor hx hb hdec (K _ _ _ _ _ _ _ _ _ hw T)
  · cases hw
theorem zo_ishl (hx : p.tables.exec = Jvm.exec) (hb : c.code = cc) (T : zk_St G H s ls L ml locs cells slots kc ks) (K : zk_KK G p l e R sM m args below meth c Q ml kc ks r k) (hdec : decode cc pc = .ok (.ishl, 1)) (hw : zk_ins zk_df call d .ishl (pc + 1) L S s k = some r) : W p l e R sM m args below meth c H locs cells slots Q (F0 m pc ls (S.map (zk_rz G))) := by
  replace hw : (match (generalizing := false) S with | .int y :: .int x :: S => k (pc + 1) L (.int (x <<< (y &&& 31)) :: S) s | _ => none) = some r := hw
  split at hw
  · exact lv_ishl hx hb hdec (K _ _ _ _ _ _ _ _ _ hw T)
  · cases hw
theorem zo_ishr (hx : p.tables.exec = Jvm.exec) (hb : c.code = cc) (T : zk_St G H s ls L ml locs cells slots kc ks) (K : zk_KK G p l e R sM m args below meth c Q ml kc ks r k) (hdec : decode cc pc = .ok (.ishr, 1)) (hw : zk_ins zk_df call d .ishr (pc + 1) L S s k = some r) : W p l e R sM m args below meth c H locs cells slots Q (F0 m pc ls (S.map (zk_rz G))) := by
  replace hw : (match (generalizing := false) S with | .int y :: .int x :: S => k (pc + 1) L (.int (x >>> (y &&& 31)) :: S) s | _ => none) = some r := hw
  split at hw
  · exact lv_ishr hx hb hdec (K _ _ _ _ _ _ _ _ _ hw T)
  · cases hw
theorem zo_iushr (hx : p.tables.exec = Jvm.exec) (hb : c.code = cc) (T : zk_St G H s ls L ml locs cells slots kc ks) (K : zk_KK G p l e R sM m args below meth c Q ml kc ks r k) (hdec : decode cc pc = .ok (.iushr, 1)) (hw : zk_ins zk_df call d .iushr (pc + 1) L S s k = some r) : W p l e R sM m args below meth c H locs cells slots Q (F0 m pc ls (S.map (zk_rz G))) := by
  replace hw : (match (generalizing := false) S with | .int y :: .int x :: S => k (pc + 1) L (.int ((x.toUInt32 >>> (y.toUInt32 &&& Int32.toUInt32 31)).toInt32) :: S) s | _ => none) = some r := hw
  split at hw
  · exact lv_iushr hx hb hdec rfl (K _ _ _ _ _ _ _ _ _ hw T)
  · cases hw
theorem zo_lshl (hx : p.tables.exec = Jvm.exec) (hb : c.code = cc) (T : zk_St G H s ls L ml locs cells slots kc ks) (K : zk_KK G p l e R sM m args below meth c Q ml kc ks r k) (hdec : decode cc pc = .ok (.lshl, 1)) (hw : zk_ins zk_df call d .lshl (pc + 1) L S s k = some r) : W p l e R sM m args below meth c H locs cells slots Q (F0 m pc ls (S.map (zk_rz G))) := by
  replace hw : (match (generalizing := false) S with | .int y :: .long x :: S => k (pc + 1) L (.long (x <<< (y.toInt64 &&& 63)) :: S) s | _ => none) = some r := hw
  split at hw
  · exact lv_lshl hx hb hdec rfl (K _ _ _ _ _ _ _ _ _ hw T)
  · cases hw
theorem zo_lushr (hx : p.tables.exec = Jvm.exec) (hb : c.code = cc) (T : zk_St G H s ls L ml locs cells slots kc ks) (K : zk_KK G p l e R sM m args below meth c Q ml kc ks r k) (hdec : decode cc pc = .ok (.lushr, 1)) (hw : zk_ins zk_df call d .lushr (pc + 1) L S s k = some r) : W p l e R sM m args below meth c H locs cells slots Q (F0 m pc ls (S.map (zk_rz G))) := by
  replace hw : (match (generalizing := false) S with | .int y :: .long x :: S => k (pc + 1) L (.long ((x.toUInt64 >>> (y.toInt64.toUInt64 &&& Int64.toUInt64 63)).toInt64) :: S) s | _ => none) = some r := hw
  split at hw
  · exact lv_lushr hx hb hdec rfl (K _ _ _ _ _ _ _ _ _ hw T)
  · cases hw
theorem zo_ineg (hx : p.tables.exec = Jvm.exec) (hb : c.code = cc) (T : zk_St G H s ls L ml locs cells slots kc ks) (K : zk_KK G p l e R sM m args below meth c Q ml kc ks r k) (hdec : decode cc pc = .ok (.ineg, 1)) (hw : zk_ins zk_df call d .ineg (pc + 1) L S s k = some r) : W p l e R sM m args below meth c H locs cells slots Q (F0 m pc ls (S.map (zk_rz G))) := by
  replace hw : (match (generalizing := false) S with | .int x :: S => k (pc + 1) L (.int (-x) :: S) s | _ => none) = some r := hw
  split at hw
  · exact lv_ineg hx hb hdec (K _ _ _ _ _ _ _ _ _ hw T)
  · cases hw
theorem zo_i2l (hx : p.tables.exec = Jvm.exec) (hb : c.code = cc) (T : zk_St G H s ls L ml locs cells slots kc ks) (K : zk_KK G p l e R sM m args below meth c Q ml kc ks r k) (hdec : decode cc pc = .ok (.i2l, 1)) (hw : zk_ins zk_df call d .i2l (pc + 1) L S s k = some r) : W p l e R sM m args below meth c H locs cells slots Q (F0 m pc ls (S.map (zk_rz G))) := by
  replace hw : (match (generalizing := false) S with | .int x :: S => k (pc + 1) L (.long x.toInt64 :: S) s | _ => none) = some r := hw
  split at hw
  · exact lv_i2l hx hb hdec rfl (K _ _ _ _ _ _ _ _ _ hw T)
  · cases hw
theorem zo_l2i (hx : p.tables.exec = Jvm.exec) (hb : c.code = cc) (T : zk_St G H s ls L ml locs cells slots kc ks) (K : zk_KK G p l e R sM m args below meth c Q ml kc ks r k) (hdec : decode cc pc = .ok (.l2i, 1)) (hw : zk_ins zk_df call d .l2i (pc + 1) L S s k = some r) : W p l e R sM m args below meth c H locs cells slots Q (F0 m pc ls (S.map (zk_rz G))) := by
  replace hw : (match (generalizing := false) S with | .long x :: S => k (pc + 1) L (.int x.toInt32 :: S) s | _ => none) = some r := hw
  split at hw
  · exact lv_l2i hx hb hdec rfl (K _ _ _ _ _ _ _ _ _ hw T)
  · cases hw
theorem zo_i2b (hx : p.tables.exec = Jvm.exec) (hb : c.code = cc) (T : zk_St G H s ls L ml locs cells slots kc ks) (K : zk_KK G p l e R sM m args below meth c Q ml kc ks r k) (hdec : decode cc pc = .ok (.i2b, 1)) (hw : zk_ins zk_df call d .i2b (pc + 1) L S s k = some r) : W p l e R sM m args below meth c H locs cells slots Q (F0 m pc ls (S.map (zk_rz G))) := by
  replace hw : (match (generalizing := false) S with | .int x :: S => k (pc + 1) L (.int x.toInt8.toInt32 :: S) s | _ => none) = some r := hw
  split at hw
  · exact lv_i2b hx hb hdec rfl (K _ _ _ _ _ _ _ _ _ hw T)
  · cases hw
theorem zo_i2c (hx : p.tables.exec = Jvm.exec) (hb : c.code = cc) (T : zk_St G H s ls L ml locs cells slots kc ks) (K : zk_KK G p l e R sM m args below meth c Q ml kc ks r k) (hdec : decode cc pc = .ok (.i2c, 1)) (hw : zk_ins zk_df call d .i2c (pc + 1) L S s k = some r) : W p l e R sM m args below meth c H locs cells slots Q (F0 m pc ls (S.map (zk_rz G))) := by
  replace hw : (match (generalizing := false) S with | .int x :: S => k (pc + 1) L (.int ((x.toUInt32 % 65536).toInt32) :: S) s | _ => none) = some r := hw
  split at hw
  · exact lv_i2c hx hb hdec rfl (K _ _ _ _ _ _ _ _ _ hw T)
  · cases hw
theorem zo_lcmp (hx : p.tables.exec = Jvm.exec) (hb : c.code = cc) (T : zk_St G H s ls L ml locs cells slots kc ks) (K : zk_KK G p l e R sM m args below meth c Q ml kc ks r k) (hdec : decode cc pc = .ok (.lcmp, 1)) (hw : zk_ins zk_df call d .lcmp (pc + 1) L S s k = some r) : W p l e R sM m args below meth c H locs cells slots Q (F0 m pc ls (S.map (zk_rz G))) := by
  replace hw : (match (generalizing := false) S with | .long y :: .long x :: S => k (pc + 1) L (.int (lg_cmp x y) :: S) s | _ => none) = some r := hw
  split at hw
  · exact W.lcmp hx hb hdec (K _ _ _ _ _ _ _ _ _ hw T)
  · cases hw
theorem zo_idiv (hx : p.tables.exec = Jvm.exec) (hb : c.code = cc) (T : zk_St G H s ls L ml locs cells slots kc ks) (K : zk_KK G p l e R sM m args below meth c Q ml kc ks r k) (hdec : decode cc pc = .ok (.idiv, 1)) (hw : zk_ins zk_df call d .idiv (pc + 1) L S s k = some r) : W p l e R sM m args below meth c H locs cells slots Q (F0 m pc ls (S.map (zk_rz G))) := by
  replace hw : (match (generalizing := false) S with | .int y :: .int x :: S => if y = 0 then none else k (pc + 1) L (.int (x / y) :: S) s | _ => none) = some r := hw
  split at hw
  · rename_i y x S
    by_cases hy : y = 0
    · rw [if_pos hy] at hw; cases hw
    · rw [if_neg hy] at hw
      exact lv_idiv hx hb hdec hy (K _ _ _ _ _ _ _ _ _ hw T)
  · cases hw
theorem zo_irem (hx : p.tables.exec = Jvm.exec) (hb : c.code = cc) (T : zk_St G H s ls L ml locs cells slots kc ks) (K : zk_KK G p l e R sM m args below meth c Q ml kc ks r k) (hdec : decode cc pc = .ok (.irem, 1)) (hw : zk_ins zk_df call d .irem (pc + 1) L S s k = some r) : W p l e R sM m args below meth c H locs cells slots Q (F0 m pc ls (S.map (zk_rz G))) := by
  replace hw : (match (generalizing := false) S with | .int y :: .int x :: S => if y = 0 then none else k (pc + 1) L (.int (x - x / y * y) :: S) s | _ => none) = some r := hw
  split at hw
  · rename_i y x S
    by_cases hy : y = 0
    · rw [if_pos hy] at hw; cases hw
    · rw [if_neg hy] at hw
      exact lv_irem hx hb hdec hy (K _ _ _ _ _ _ _ _ _ hw T)
  · cases hw
theorem zo_ldiv (hx : p.tables.exec = Jvm.exec) (hb : c.code = cc) (T : zk_St G H s ls L ml locs cells slots kc ks) (K : zk_KK G p l e R sM m args below meth c Q ml kc ks r k) (hdec : decode cc pc = .ok (.ldiv, 1)) (hw : zk_ins zk_df call d .ldiv (pc + 1) L S s k = some r) : W p l e R sM m args below meth c H locs cells slots Q (F0 m pc ls (S.map (zk_rz G))) := by
  replace hw : (match (generalizing := false) S with | .long y :: .long x :: S => if y = 0 then none else k (pc + 1) L (.long (x / y) :: S) s | _ => none) = some r := hw
  split at hw
  · rename_i y x S
    by_cases hy : y = 0
    · rw [if_pos hy] at hw; cases hw
    · rw [if_neg hy] at hw
      exact lv_ldiv hx hb hdec hy (K _ _ _ _ _ _ _ _ _ hw T)
  · cases hw
theorem zo_lrem (hx : p.tables.exec = Jvm.exec) (hb : c.code = cc) (T : zk_St G H s ls L ml locs cells slots kc ks) (K : zk_KK G p l e R sM m args below meth c Q ml kc ks r k) (hdec : decode cc pc = .ok (.lrem, 1)) (hw : zk_ins zk_df call d .lrem (pc + 1) L S s k = some r) : W p l e R sM m args below meth c H locs cells slots Q (F0 m pc ls (S.map (zk_rz G))) := by
  replace hw : (match (generalizing := false) S with | .long y :: .long x :: S => if y = 0 then none else k (pc + 1) L (.long (x - x / y * y) :: S) s | _ => none) = some r := hw
  split at hw
  · rename_i y x S
    by_cases hy : y = 0
    · rw [if_pos hy] at hw; cases hw
    · rw [if_neg hy] at hw
      exact lv_lrem hx hb hdec hy (K _ _ _ _ _ _ _ _ _ hw T)
  · cases hw
theorem zo_iconst (hx : p.tables.exec = Jvm.exec) (hb : c.code = cc) (T : zk_St G H s ls L ml locs cells slots kc ks) (K : zk_KK G p l e R sM m args below meth c Q ml kc ks r k) {v : Int} (hdec : decode cc pc = .ok (.iconst v, 1)) (hw : zk_ins zk_df call d (.iconst v) (pc + 1) L S s k = some r) : W p l e R sM m args below meth c H locs cells slots Q (F0 m pc ls (S.map (zk_rz G))) :=
  have hw : k (pc + 1) L (.int (Int32.ofInt v) :: S) s = some r := hw
  lv_iconst hx hb hdec rfl (K _ _ _ _ _ _ _ _ _ hw T)
theorem zo_bipush (hx : p.tables.exec = Jvm.exec) (hb : c.code = cc) (T : zk_St G H s ls L ml locs cells slots kc ks) (K : zk_KK G p l e R sM m args below meth c Q ml kc ks r k) {v : Int} {w : Int} (hv : (Int8.ofInt w).toInt32 = Int32.ofInt v) (hdec : decode cc pc = .ok (.bipush w, 2)) (hw : zk_ins zk_df call d (.iconst v) (pc + 2) L S s k = some r) : W p l e R sM m args below meth c H locs cells slots Q (F0 m pc ls (S.map (zk_rz G))) :=
  have hw : k (pc + 2) L (.int (Int32.ofInt v) :: S) s = some r := hw
  lv_bipush hx hb hdec hv (K _ _ _ _ _ _ _ _ _ hw T)
theorem zo_sipush (hx : p.tables.exec = Jvm.exec) (hb : c.code = cc) (T : zk_St G H s ls L ml locs cells slots kc ks) (K : zk_KK G p l e R sM m args below meth c Q ml kc ks r k) {v : Int} {w : Int} (hv : (Int16.ofInt w).toInt32 = Int32.ofInt v) (hdec : decode cc pc = .ok (.sipush w, 3)) (hw : zk_ins zk_df call d (.iconst v) (pc + 3) L S s k = some r) : W p l e R sM m args below meth c H locs cells slots Q (F0 m pc ls (S.map (zk_rz G))) :=
  have hw : k (pc + 3) L (.int (Int32.ofInt v) :: S) s = some r := hw
  lv_sipush hx hb hdec hv (K _ _ _ _ _ _ _ _ _ hw T)
theorem zo_ldc (hx : p.tables.exec = Jvm.exec) (hb : c.code = cc) (T : zk_St G H s ls L ml locs cells slots kc ks) (K : zk_KK G p l e R sM m args below meth c Q ml kc ks r k) {v : Int} {own : String} {i : Nat} (hown : sM.vm.findClass own = some m.cls) (hc : (Jvm.Cond.constant own i (Int32.ofInt v)).before args sM = true) (hdec : decode cc pc = .ok (.ldc i, 2)) (hw : zk_ins zk_df call d (.iconst v) (pc + 2) L S s k = some r) : W p l e R sM m args below meth c H locs cells slots Q (F0 m pc ls (S.map (zk_rz G))) :=
  have hw : k (pc + 2) L (.int (Int32.ofInt v) :: S) s = some r := hw
  lv_ldc hx hb hown hc hdec (K _ _ _ _ _ _ _ _ _ hw T)
theorem zo_ldcw (hx : p.tables.exec = Jvm.exec) (hb : c.code = cc) (T : zk_St G H s ls L ml locs cells slots kc ks) (K : zk_KK G p l e R sM m args below meth c Q ml kc ks r k) {v : Int} {own : String} {i : Nat} (hown : sM.vm.findClass own = some m.cls) (hc : (Jvm.Cond.constant own i (Int32.ofInt v)).before args sM = true) (hdec : decode cc pc = .ok (.ldc_w i, 3)) (hw : zk_ins zk_df call d (.iconst v) (pc + 3) L S s k = some r) : W p l e R sM m args below meth c H locs cells slots Q (F0 m pc ls (S.map (zk_rz G))) :=
  have hw : k (pc + 3) L (.int (Int32.ofInt v) :: S) s = some r := hw
  lv_ldcw hx hb hown hc hdec (K _ _ _ _ _ _ _ _ _ hw T)
theorem zo_lconst (hx : p.tables.exec = Jvm.exec) (hb : c.code = cc) (T : zk_St G H s ls L ml locs cells slots kc ks) (K : zk_KK G p l e R sM m args below meth c Q ml kc ks r k) {v : Int} {j : Fin 2} (hv : Int64.ofNat j.val = Int64.ofInt v) (hdec : decode cc pc = .ok (.lconst j, 1)) (hw : zk_ins zk_df call d (.sipush v) (pc + 1) L S s k = some r) : W p l e R sM m args below meth c H locs cells slots Q (F0 m pc ls (S.map (zk_rz G))) :=
  have hw : k (pc + 1) L (.long (Int64.ofInt v) :: S) s = some r := hw
  lv_lconst hx hb hdec hv (K _ _ _ _ _ _ _ _ _ hw T)
theorem zo_ldc2 (hx : p.tables.exec = Jvm.exec) (hb : c.code = cc) (T : zk_St G H s ls L ml locs cells slots kc ks) (K : zk_KK G p l e R sM m args below meth c Q ml kc ks r k) {v : Int} {own : String} {i : Nat} (hown : sM.vm.findClass own = some m.cls) (hc : (Jvm.Cond.constantLong own i (Int64.ofInt v)).before args sM = true) (hdec : decode cc pc = .ok (.ldc2_w i, 3)) (hw : zk_ins zk_df call d (.sipush v) (pc + 3) L S s k = some r) : W p l e R sM m args below meth c H locs cells slots Q (F0 m pc ls (S.map (zk_rz G))) :=
  have hw : k (pc + 3) L (.long (Int64.ofInt v) :: S) s = some r := hw
  lv_ldc2 hx hb hown hc hdec (K _ _ _ _ _ _ _ _ _ hw T)
theorem zo_anull (hx : p.tables.exec = Jvm.exec) (hb : c.code = cc) (T : zk_St G H s ls L ml locs cells slots kc ks) (K : zk_KK G p l e R sM m args below meth c Q ml kc ks r k) (hdec : decode cc pc = .ok (.aconst_null, 1)) (hw : zk_ins zk_df call d .aconst_null (pc + 1) L S s k = some r) : W p l e R sM m args below meth c H locs cells slots Q (F0 m pc ls (S.map (zk_rz G))) :=
  have hw : k (pc + 1) L (.null :: S) s = some r := hw
  lv_null hx hb hdec (K _ _ _ _ _ _ _ _ _ hw T)
theorem zo_dup (hx : p.tables.exec = Jvm.exec) (hb : c.code = cc) (T : zk_St G H s ls L ml locs cells slots kc ks) (K : zk_KK G p l e R sM m args below meth c Q ml kc ks r k) (hdec : decode cc pc = .ok (.dup, 1)) (hw : zk_ins zk_df call d .dup (pc + 1) L S s k = some r) : W p l e R sM m args below meth c H locs cells slots Q (F0 m pc ls (S.map (zk_rz G))) := by
  replace hw : (match (generalizing := false) S with | v :: S => bif Nat.beq v.category 1 then k (pc + 1) L (v :: v :: S) s else none | _ => none) = some r := hw
  split at hw
  · rename_i v S
    cases hc : Nat.beq v.category 1 with
    | false => rw [hc] at hw; cases hw
    | true =>
      rw [hc] at hw
      exact lv_dup hx hb hdec ((zk_rz_c G v).trans (Nat.eq_of_beq_eq_true hc)) (K _ _ _ _ _ _ _ _ _ hw T)
  · cases hw
theorem zo_pop (hx : p.tables.exec = Jvm.exec) (hb : c.code = cc) (T : zk_St G H s ls L ml locs cells slots kc ks) (K : zk_KK G p l e R sM m args below meth c Q ml kc ks r k) (hdec : decode cc pc = .ok (.pop, 1)) (hw : zk_ins zk_df call d .pop (pc + 1) L S s k = some r) : W p l e R sM m args below meth c H locs cells slots Q (F0 m pc ls (S.map (zk_rz G))) := by
  replace hw : (match (generalizing := false) S with | v :: S => bif Nat.beq v.category 1 then k (pc + 1) L S s else none | _ => none) = some r := hw
  split at hw
  · rename_i v S
    cases hc : Nat.beq v.category 1 with
    | false => rw [hc] at hw; cases hw
    | true =>
      rw [hc] at hw
      exact lv_pop hx hb hdec ((zk_rz_c G v).trans (Nat.eq_of_beq_eq_true hc)) (K _ _ _ _ _ _ _ _ _ hw T)
  · cases hw
theorem zo_dup2 (hx : p.tables.exec = Jvm.exec) (hb : c.code = cc) (T : zk_St G H s ls L ml locs cells slots kc ks) (K : zk_KK G p l e R sM m args below meth c Q ml kc ks r k) (hdec : decode cc pc = .ok (.dup2, 1)) (hw : zk_ins zk_df call d .dup2 (pc + 1) L S s k = some r) : W p l e R sM m args below meth c H locs cells slots Q (F0 m pc ls (S.map (zk_rz G))) := by
  replace hw : (match (generalizing := false) S with | v :: w :: S => bif Nat.beq v.category 1 && Nat.beq w.category 1 then k (pc + 1) L (v :: w :: v :: w :: S) s else none | _ => none) = some r := hw
  split at hw
  · rename_i v w S
    cases hc : (Nat.beq v.category 1 && Nat.beq w.category 1) with
    | false => rw [hc] at hw; cases hw
    | true =>
      rw [hc] at hw
      rw [Bool.and_eq_true] at hc
      exact lv_dup2_11 hx hb hdec ((zk_rz_c G v).trans (Nat.eq_of_beq_eq_true hc.1)) ((zk_rz_c G w).trans (Nat.eq_of_beq_eq_true hc.2)) (K _ _ _ _ _ _ _ _ _ hw T)
  · cases hw
theorem zo_icmp_eq (hx : p.tables.exec = Jvm.exec) (hb : c.code = cc) (T : zk_St G H s ls L ml locs cells slots kc ks) (K : zk_KK G p l e R sM m args below meth c Q ml kc ks r k) {off t : Int} (ht : (pc : Int) + off = t) (h0 : 0 ≤ t) (hdec : decode cc pc = .ok (.if_icmp .eq off, 3)) (hw : zk_ins zk_df call d (.if_icmp .eq t) (pc + 3) L S s k = some r) : W p l e R sM m args below meth c H locs cells slots Q (F0 m pc ls (S.map (zk_rz G))) := by
  replace hw : (match (generalizing := false) S with | .int y :: .int x :: S => if x = y then k t.toNat L S s else k (pc + 3) L S s | _ => none) = some r := hw
  have ht2 : (pc : Int) + off = (t.toNat : Int) := by omega
  split at hw
  · rename_i y x S
    exact lv_icmp_eq (tgt := t.toNat) hx hb hdec ht2 (fun q => by rw [if_pos q] at hw; exact K _ _ _ _ _ _ _ _ _ hw T) (fun q => by rw [if_neg q] at hw; exact K _ _ _ _ _ _ _ _ _ hw T)
  · cases hw
theorem zo_if_eq (hx : p.tables.exec = Jvm.exec) (hb : c.code = cc) (T : zk_St G H s ls L ml locs cells slots kc ks) (K : zk_KK G p l e R sM m args below meth c Q ml kc ks r k) {off t : Int} (ht : (pc : Int) + off = t) (h0 : 0 ≤ t) (hdec : decode cc pc = .ok (.ifCond .eq off, 3)) (hw : zk_ins zk_df call d (.ifCond .eq t) (pc + 3) L S s k = some r) : W p l e R sM m args below meth c H locs cells slots Q (F0 m pc ls (S.map (zk_rz G))) := by
  replace hw : (match (generalizing := false) S with | .int x :: S => if x = 0 then k t.toNat L S s else k (pc + 3) L S s | _ => none) = some r := hw
  have ht2 : (pc : Int) + off = (t.toNat : Int) := by omega
  split at hw
  · rename_i x S
    exact lv_if_eq (tgt := t.toNat) hx hb hdec ht2 (fun q => by rw [if_pos q] at hw; exact K _ _ _ _ _ _ _ _ _ hw T) (fun q => by rw [if_neg q] at hw; exact K _ _ _ _ _ _ _ _ _ hw T)
  · cases hw
theorem zo_icmp_ne (hx : p.tables.exec = Jvm.exec) (hb : c.code = cc) (T : zk_St G H s ls L ml locs cells slots kc ks) (K : zk_KK G p l e R sM m args below meth c Q ml kc ks r k) {off t : Int} (ht : (pc : Int) + off = t) (h0 : 0 ≤ t) (hdec : decode cc pc = .ok (.if_icmp .ne off, 3)) (hw : zk_ins zk_df call d (.if_icmp .ne t) (pc + 3) L S s k = some r) : W p l e R sM m args below meth c H locs cells slots Q (F0 m pc ls (S.map (zk_rz G))) := by
  replace hw : (match (generalizing := false) S with | .int y :: .int x :: S => if x = y then k (pc + 3) L S s else k t.toNat L S s | _ => none) = some r := hw
  have ht2 : (pc : Int) + off = (t.toNat : Int) := by omega
  split at hw
  · rename_i y x S
    exact lv_icmp_ne (tgt := t.toNat) hx hb hdec ht2 (fun q => by rw [if_neg q] at hw; exact K _ _ _ _ _ _ _ _ _ hw T) (fun q => by rw [if_pos q] at hw; exact K _ _ _ _ _ _ _ _ _ hw T)
  · cases hw
theorem zo_if_ne (hx : p.tables.exec = Jvm.exec) (hb : c.code = cc) (T : zk_St G H s ls L ml locs cells slots kc ks) (K : zk_KK G p l e R sM m args below meth c Q ml kc ks r k) {off t : Int} (ht : (pc : Int) + off = t) (h0 : 0 ≤ t) (hdec : decode cc pc = .ok (.ifCond .ne off, 3)) (hw : zk_ins zk_df call d (.ifCond .ne t) (pc + 3) L S s k = some r) : W p l e R sM m args below meth c H locs cells slots Q (F0 m pc ls (S.map (zk_rz G))) := by
  replace hw : (match (generalizing := false) S with | .int x :: S => if x = 0 then k (pc + 3) L S s else k t.toNat L S s | _ => none) = some r := hw
  have ht2 : (pc : Int) + off = (t.toNat : Int) := by omega
  split at hw
  · rename_i x S
    exact lv_if_ne (tgt := t.toNat) hx hb hdec ht2 (fun q => by rw [if_neg q] at hw; exact K _ _ _ _ _ _ _ _ _ hw T) (fun q => by rw [if_pos q] at hw; exact K _ _ _ _ _ _ _ _ _ hw T)
  · cases hw
theorem zo_icmp_lt (hx : p.tables.exec = Jvm.exec) (hb : c.code = cc) (T : zk_St G H s ls L ml locs cells slots kc ks) (K : zk_KK G p l e R sM m args below meth c Q ml kc ks r k) {off t : Int} (ht : (pc : Int) + off = t) (h0 : 0 ≤ t) (hdec : decode cc pc = .ok (.if_icmp .lt off, 3)) (hw : zk_ins zk_df call d (.if_icmp .lt t) (pc + 3) L S s k = some r) : W p l e R sM m args below meth c H locs cells slots Q (F0 m pc ls (S.map (zk_rz G))) := by
  replace hw : (match (generalizing := false) S with | .int y :: .int x :: S => if x < y then k t.toNat L S s else k (pc + 3) L S s | _ => none) = some r := hw
  have ht2 : (pc : Int) + off = (t.toNat : Int) := by omega
  split at hw
  · rename_i y x S
    exact lv_icmp_lt (tgt := t.toNat) hx hb hdec ht2 (fun q => by rw [if_pos q] at hw; exact K _ _ _ _ _ _ _ _ _ hw T) (fun q => by rw [if_neg q] at hw; exact K _ _ _ _ _ _ _ _ _ hw T)
  · cases hw
theorem zo_if_lt (hx : p.tables.exec = Jvm.exec) (hb : c.code = cc) (T : zk_St G H s ls L ml locs cells slots kc ks) (K : zk_KK G p l e R sM m args below meth c Q ml kc ks r k) {off t : Int} (ht : (pc : Int) + off = t) (h0 : 0 ≤ t) (hdec : decode cc pc = .ok (.ifCond .lt off, 3)) (hw : zk_ins zk_df call d (.ifCond .lt t) (pc + 3) L S s k = some r) : W p l e R sM m args below meth c H locs cells slots Q (F0 m pc ls (S.map (zk_rz G))) := by
  replace hw : (match (generalizing := false) S with | .int x :: S => if x < 0 then k t.toNat L S s else k (pc + 3) L S s | _ => none) = some r := hw
  have ht2 : (pc : Int) + off = (t.toNat : Int) := by omega
  split at hw
  · rename_i x S
    exact lv_if_lt (tgt := t.toNat) hx hb hdec ht2 (fun q => by rw [if_pos q] at hw; exact K _ _ _ _ _ _ _ _ _ hw T) (fun q => by rw [if_neg q] at hw; exact K _ _ _ _ _ _ _ _ _ hw T)
  · cases hw
theorem zo_icmp_ge (hx : p.tables.exec = Jvm.exec) (hb : c.code = cc) (T : zk_St G H s ls L ml locs cells slots kc ks) (K : zk_KK G p l e R sM m args below meth c Q ml kc ks r k) {off t : Int} (ht : (pc : Int) + off = t) (h0 : 0 ≤ t) (hdec : decode cc pc = .ok (.if_icmp .ge off, 3)) (hw : zk_ins zk_df call d (.if_icmp .ge t) (pc + 3) L S s k = some r) : W p l e R sM m args below meth c H locs cells slots Q (F0 m pc ls (S.map (zk_rz G))) := by
  replace hw : (match (generalizing := false) S with | .int y :: .int x :: S => if x < y then k (pc + 3) L S s else k t.toNat L S s | _ => none) = some r := hw
  have ht2 : (pc : Int) + off = (t.toNat : Int) := by omega
  split at hw
  · rename_i y x S
    exact lv_icmp_ge (tgt := t.toNat) hx hb hdec ht2 (fun q => by rw [if_neg (Int32.not_lt.mpr q)] at hw; exact K _ _ _ _ _ _ _ _ _ hw T) (fun q => by rw [if_pos (Int32.not_le.mp q)] at hw; exact K _ _ _ _ _ _ _ _ _ hw T)
  · cases hw
theorem zo_if_ge (hx : p.tables.exec = Jvm.exec) (hb : c.code = cc) (T : zk_St G H s ls L ml locs cells slots kc ks) (K : zk_KK G p l e R sM m args below meth c Q ml kc ks r k) {off t : Int} (ht : (pc : Int) + off = t) (h0 : 0 ≤ t) (hdec : decode cc pc = .ok (.ifCond .ge off, 3)) (hw : zk_ins zk_df call d (.ifCond .ge t) (pc + 3) L S s k = some r) : W p l e R sM m args below meth c H locs cells slots Q (F0 m pc ls (S.map (zk_rz G))) := by
  replace hw : (match (generalizing := false) S with | .int x :: S => if x < 0 then k (pc + 3) L S s else k t.toNat L S s | _ => none) = some r := hw
  have ht2 : (pc : Int) + off = (t.toNat : Int) := by omega
  split at hw
  · rename_i x S
    exact lv_if_ge (tgt := t.toNat) hx hb hdec ht2 (fun q => by rw [if_neg (Int32.not_lt.mpr q)] at hw; exact K _ _ _ _ _ _ _ _ _ hw T) (fun q => by rw [if_pos (Int32.not_le.mp q)] at hw; exact K _ _ _ _ _ _ _ _ _ hw T)
  · cases hw
theorem zo_icmp_gt (hx : p.tables.exec = Jvm.exec) (hb : c.code = cc) (T : zk_St G H s ls L ml locs cells slots kc ks) (K : zk_KK G p l e R sM m args below meth c Q ml kc ks r k) {off t : Int} (ht : (pc : Int) + off = t) (h0 : 0 ≤ t) (hdec : decode cc pc = .ok (.if_icmp .gt off, 3)) (hw : zk_ins zk_df call d (.if_icmp .gt t) (pc + 3) L S s k = some r) : W p l e R sM m args below meth c H locs cells slots Q (F0 m pc ls (S.map (zk_rz G))) := by
  replace hw : (match (generalizing := false) S with | .int y :: .int x :: S => if y < x then k t.toNat L S s else k (pc + 3) L S s | _ => none) = some r := hw
  have ht2 : (pc : Int) + off = (t.toNat : Int) := by omega
  split at hw
  · rename_i y x S
    exact lv_icmp_gt (tgt := t.toNat) hx hb hdec ht2 (fun q => by rw [if_pos q] at hw; exact K _ _ _ _ _ _ _ _ _ hw T) (fun q => by rw [if_neg q] at hw; exact K _ _ _ _ _ _ _ _ _ hw T)
  · cases hw
theorem zo_if_gt (hx : p.tables.exec = Jvm.exec) (hb : c.code = cc) (T : zk_St G H s ls L ml locs cells slots kc ks) (K : zk_KK G p l e R sM m args below meth c Q ml kc ks r k) {off t : Int} (ht : (pc : Int) + off = t) (h0 : 0 ≤ t) (hdec : decode cc pc = .ok (.ifCond .gt off, 3)) (hw : zk_ins zk_df call d (.ifCond .gt t) (pc + 3) L S s k = some r) : W p l e R sM m args below meth c H locs cells slots Q (F0 m pc ls (S.map (zk_rz G))) := by
  replace hw : (match (generalizing := false) S with | .int x :: S => if 0 < x then k t.toNat L S s else k (pc + 3) L S s | _ => none) = some r := hw
  have ht2 : (pc : Int) + off = (t.toNat : Int) := by omega
  split at hw
  · rename_i x S
    exact lv_if_gt (tgt := t.toNat) hx hb hdec ht2 (fun q => by rw [if_pos q] at hw; exact K _ _ _ _ _ _ _ _ _ hw T) (fun q => by rw [if_neg q] at hw; exact K _ _ _ _ _ _ _ _ _ hw T)
  · cases hw
theorem zo_icmp_le (hx : p.tables.exec = Jvm.exec) (hb : c.code = cc) (T : zk_St G H s ls L ml locs cells slots kc ks) (K : zk_KK G p l e R sM m args below meth c Q ml kc ks r k) {off t : Int} (ht : (pc : Int) + off = t) (h0 : 0 ≤ t) (hdec : decode cc pc = .ok (.if_icmp .le off, 3)) (hw : zk_ins zk_df call d (.if_icmp .le t) (pc + 3) L S s k = some r) : W p l e R sM m args below meth c H locs cells slots Q (F0 m pc ls (S.map (zk_rz G))) := by
  replace hw : (match (generalizing := false) S with | .int y :: .int x :: S => if y < x then k (pc + 3) L S s else k t.toNat L S s | _ => none) = some r := hw
  have ht2 : (pc : Int) + off = (t.toNat : Int) := by omega
  split at hw
  · rename_i y x S
    exact lv_icmp_le (tgt := t.toNat) hx hb hdec ht2 (fun q => by rw [if_neg (Int32.not_lt.mpr q)] at hw; exact K _ _ _ _ _ _ _ _ _ hw T) (fun q => by rw [if_pos (Int32.not_le.mp q)] at hw; exact K _ _ _ _ _ _ _ _ _ hw T)
  · cases hw
theorem zo_if_le (hx : p.tables.exec = Jvm.exec) (hb : c.code = cc) (T : zk_St G H s ls L ml locs cells slots kc ks) (K : zk_KK G p l e R sM m args below meth c Q ml kc ks r k) {off t : Int} (ht : (pc : Int) + off = t) (h0 : 0 ≤ t) (hdec : decode cc pc = .ok (.ifCond .le off, 3)) (hw : zk_ins zk_df call d (.ifCond .le t) (pc + 3) L S s k = some r) : W p l e R sM m args below meth c H locs cells slots Q (F0 m pc ls (S.map (zk_rz G))) := by
  replace hw : (match (generalizing := false) S with | .int x :: S => if 0 < x then k (pc + 3) L S s else k t.toNat L S s | _ => none) = some r := hw
  have ht2 : (pc : Int) + off = (t.toNat : Int) := by omega
  split at hw
  · rename_i x S
    exact lv_if_le (tgt := t.toNat) hx hb hdec ht2 (fun q => by rw [if_neg (Int32.not_lt.mpr q)] at hw; exact K _ _ _ _ _ _ _ _ _ hw T) (fun q => by rw [if_pos (Int32.not_le.mp q)] at hw; exact K _ _ _ _ _ _ _ _ _ hw T)
  · cases hw
theorem zo_goto (hx : p.tables.exec = Jvm.exec) (hb : c.code = cc) (T : zk_St G H s ls L ml locs cells slots kc ks) (K : zk_KK G p l e R sM m args below meth c Q ml kc ks r k) {off t : Int} (ht : (pc : Int) + off = t) (h0 : 0 ≤ t) (hdec : decode cc pc = .ok (.goto off, 3)) (hw : zk_ins zk_df call d (.goto t) (pc + 3) L S s k = some r) : W p l e R sM m args below meth c H locs cells slots Q (F0 m pc ls (S.map (zk_rz G))) := by
  have hw : k t.toNat L S s = some r := hw
  exact lv_goto (tgt := t.toNat) hx hb hdec (by omega) (K _ _ _ _ _ _ _ _ _ hw T)
theorem zo_ifnull (hx : p.tables.exec = Jvm.exec) (hb : c.code = cc) (T : zk_St G H s ls L ml locs cells slots kc ks) (K : zk_KK G p l e R sM m args below meth c Q ml kc ks r k) {off t : Int} (ht : (pc : Int) + off = t) (h0 : 0 ≤ t) (hdec : decode cc pc = .ok (.ifnull off, 3)) (hw : zk_ins zk_df call d (.ifnull t) (pc + 3) L S s k = some r) : W p l e R sM m args below meth c H locs cells slots Q (F0 m pc ls (S.map (zk_rz G))) := by
  replace hw : (match (generalizing := false) S with | .ref _ :: S => k (pc + 3) L S s | .null :: S => k t.toNat L S s | _ => none) = some r := hw
  have ht2 : (pc : Int) + off = (t.toNat : Int) := by omega
  split at hw
  · exact lv_ifnull hx hb hdec (K _ _ _ _ _ _ _ _ _ hw T)
  · exact lv_ifnullN (tgt := t.toNat) hx hb hdec ht2 (K _ _ _ _ _ _ _ _ _ hw T)
  · cases hw
theorem zo_ifnonnull (hx : p.tables.exec = Jvm.exec) (hb : c.code = cc) (T : zk_St G H s ls L ml locs cells slots kc ks) (K : zk_KK G p l e R sM m args below meth c Q ml kc ks r k) {off t : Int} (ht : (pc : Int) + off = t) (h0 : 0 ≤ t) (hdec : decode cc pc = .ok (.ifnonnull off, 3)) (hw : zk_ins zk_df call d (.ifnonnull t) (pc + 3) L S s k = some r) : W p l e R sM m args below meth c H locs cells slots Q (F0 m pc ls (S.map (zk_rz G))) := by
  replace hw : (match (generalizing := false) S with | .ref _ :: S => k t.toNat L S s | .null :: S => k (pc + 3) L S s | _ => none) = some r := hw
  have ht2 : (pc : Int) + off = (t.toNat : Int) := by omega
  split at hw
  · exact lv_ifnonnull (tgt := t.toNat) hx hb hdec ht2 (K _ _ _ _ _ _ _ _ _ hw T)
  · exact lv_ifnonnullN hx hb hdec (K _ _ _ _ _ _ _ _ _ hw T)
  · cases hw
theorem zo_iloadn (hx : p.tables.exec = Jvm.exec) (hb : c.code = cc) (T : zk_St G H s ls L ml locs cells slots kc ks) (K : zk_KK G p l e R sM m args below meth c Q ml kc ks r k) {n : Nat} {j : Fin 4} (hj : j.val = n) (hdec : decode cc pc = .ok (.iload_n j, 1)) (hw : zk_ins zk_df call d (.iload n) (pc + 1) L S s k = some r) : W p l e R sM m args below meth c H locs cells slots Q (F0 m pc ls (S.map (zk_rz G))) := by
  replace hw : (match L[n]? with | some (.int x) => k (pc + 1) L (.int x :: S) s | _ => none) = some r := hw
  split at hw
  · rename_i x hL
    exact lv_iload_n hx hb hdec hj (T.2.1.2.2 _ _ hL (fun _ z => by cases z)) (K _ _ _ _ _ _ _ _ _ hw T)
  · cases hw
theorem zo_iload (hx : p.tables.exec = Jvm.exec) (hb : c.code = cc) (T : zk_St G H s ls L ml locs cells slots kc ks) (K : zk_KK G p l e R sM m args below meth c Q ml kc ks r k) {n : Nat} (hdec : decode cc pc = .ok (.iload n, 2)) (hw : zk_ins zk_df call d (.iload n) (pc + 2) L S s k = some r) : W p l e R sM m args below meth c H locs cells slots Q (F0 m pc ls (S.map (zk_rz G))) := by
  replace hw : (match L[n]? with | some (.int x) => k (pc + 2) L (.int x :: S) s | _ => none) = some r := hw
  split at hw
  · rename_i x hL
    exact lv_iload hx hb hdec (T.2.1.2.2 _ _ hL (fun _ z => by cases z)) (K _ _ _ _ _ _ _ _ _ hw T)
  · cases hw
theorem zo_lloadn (hx : p.tables.exec = Jvm.exec) (hb : c.code = cc) (T : zk_St G H s ls L ml locs cells slots kc ks) (K : zk_KK G p l e R sM m args below meth c Q ml kc ks r k) {n : Nat} {j : Fin 4} (hj : j.val = n) (hdec : decode cc pc = .ok (.lload_n j, 1)) (hw : zk_ins zk_df call d (.lload n) (pc + 1) L S s k = some r) : W p l e R sM m args below meth c H locs cells slots Q (F0 m pc ls (S.map (zk_rz G))) := by
  replace hw : (match L[n]? with | some (.long x) => k (pc + 1) L (.long x :: S) s | _ => none) = some r := hw
  split at hw
  · rename_i x hL
    exact lv_lload_n hx hb hdec hj (T.2.1.2.2 _ _ hL (fun _ z => by cases z)) (K _ _ _ _ _ _ _ _ _ hw T)
  · cases hw
theorem zo_lload (hx : p.tables.exec = Jvm.exec) (hb : c.code = cc) (T : zk_St G H s ls L ml locs cells slots kc ks) (K : zk_KK G p l e R sM m args below meth c Q ml kc ks r k) {n : Nat} (hdec : decode cc pc = .ok (.lload n, 2)) (hw : zk_ins zk_df call d (.lload n) (pc + 2) L S s k = some r) : W p l e R sM m args below meth c H locs cells slots Q (F0 m pc ls (S.map (zk_rz G))) := by
  replace hw : (match L[n]? with | some (.long x) => k (pc + 2) L (.long x :: S) s | _ => none) = some r := hw
  split at hw
  · rename_i x hL
    exact lv_lload hx hb hdec (T.2.1.2.2 _ _ hL (fun _ z => by cases z)) (K _ _ _ _ _ _ _ _ _ hw T)
  · cases hw
theorem zo_aloadn (hx : p.tables.exec = Jvm.exec) (hb : c.code = cc) (T : zk_St G H s ls L ml locs cells slots kc ks) (K : zk_KK G p l e R sM m args below meth c Q ml kc ks r k) {n : Nat} {j : Fin 4} (hj : j.val = n) (hdec : decode cc pc = .ok (.aload_n j, 1)) (hw : zk_ins zk_df call d (.aload n) (pc + 1) L S s k = some r) : W p l e R sM m args below meth c H locs cells slots Q (F0 m pc ls (S.map (zk_rz G))) := by
  replace hw : (match L[n]? with | some (.ref x) => k (pc + 1) L (.ref x :: S) s | some .null => k (pc + 1) L (.null :: S) s | _ => none) = some r := hw
  split at hw
  · rename_i x hL
    exact lv_aload_n hx hb hdec hj (T.2.1.2.2 _ _ hL (fun _ z => by cases z)) (K _ _ _ _ _ _ _ _ _ hw T)
  · rename_i hL
    exact lv_aload_nN hx hb hdec hj (T.2.1.2.2 _ _ hL (fun _ z => by cases z)) (K _ _ _ _ _ _ _ _ _ hw T)
  · cases hw
theorem zo_aload (hx : p.tables.exec = Jvm.exec) (hb : c.code = cc) (T : zk_St G H s ls L ml locs cells slots kc ks) (K : zk_KK G p l e R sM m args below meth c Q ml kc ks r k) {n : Nat} (hdec : decode cc pc = .ok (.aload n, 2)) (hw : zk_ins zk_df call d (.aload n) (pc + 2) L S s k = some r) : W p l e R sM m args below meth c H locs cells slots Q (F0 m pc ls (S.map (zk_rz G))) := by
  replace hw : (match L[n]? with | some (.ref x) => k (pc + 2) L (.ref x :: S) s | some .null => k (pc + 2) L (.null :: S) s | _ => none) = some r := hw
  split at hw
  · rename_i x hL
    exact lv_aload hx hb hdec (T.2.1.2.2 _ _ hL (fun _ z => by cases z)) (K _ _ _ _ _ _ _ _ _ hw T)
  · rename_i hL
    exact lv_aloadN hx hb hdec (T.2.1.2.2 _ _ hL (fun _ z => by cases z)) (K _ _ _ _ _ _ _ _ _ hw T)
  · cases hw
theorem zo_istoren (hx : p.tables.exec = Jvm.exec) (hb : c.code = cc) (T : zk_St G H s ls L ml locs cells slots kc ks) (K : zk_KK G p l e R sM m args below meth c Q ml kc ks r k) {n : Nat} {j : Fin 4} (hj : j.val = n) (hdec : decode cc pc = .ok (.istore_n j, 1)) (hw : zk_ins zk_df call d (.istore n) (pc + 1) L S s k = some r) : W p l e R sM m args below meth c H locs cells slots Q (F0 m pc ls (S.map (zk_rz G))) := by
  replace hw : (match (generalizing := false) S with | .int x :: S => bif zk_nl L n && Nat.blt n L.length then k (pc + 1) (L.set n (.int x)) S s else none | _ => none) = some r := hw
  split at hw
  · cases hc : (zk_nl L n && Nat.blt n L.length) with
    | false => rw [hc] at hw; cases hw
    | true =>
      rw [hc] at hw
      rw [Bool.and_eq_true] at hc
      have hn : n < L.length := Nat.le_of_ble_eq_true hc.2
      exact lv_istore_n hx hb hdec hj (zk_lh_h T.2.1) hn rfl (fun ls' hl' => K _ _ _ _ _ _ _ _ _ hw ⟨T.1, zk_lh_1 hc.1 hn hl', by rw [List.length_set]; exact T.2.2.1, T.2.2.2⟩)
  · cases hw
theorem zo_astoren (hx : p.tables.exec = Jvm.exec) (hb : c.code = cc) (T : zk_St G H s ls L ml locs cells slots kc ks) (K : zk_KK G p l e R sM m args below meth c Q ml kc ks r k) {n : Nat} {j : Fin 4} (hj : j.val = n) (hdec : decode cc pc = .ok (.astore_n j, 1)) (hw : zk_ins zk_df call d (.astore n) (pc + 1) L S s k = some r) : W p l e R sM m args below meth c H locs cells slots Q (F0 m pc ls (S.map (zk_rz G))) := by
  replace hw : (match (generalizing := false) S with | .ref x :: S => bif zk_nl L n && Nat.blt n L.length then k (pc + 1) (L.set n (.ref x)) S s else none | .null :: S => bif zk_nl L n && Nat.blt n L.length then k (pc + 1) (L.set n (.null)) S s else none | _ => none) = some r := hw
  split at hw
  · cases hc : (zk_nl L n && Nat.blt n L.length) with
    | false => rw [hc] at hw; cases hw
    | true =>
      rw [hc] at hw
      rw [Bool.and_eq_true] at hc
      have hn : n < L.length := Nat.le_of_ble_eq_true hc.2
      exact lv_astore_n hx hb hdec hj (zk_lh_h T.2.1) hn rfl (fun ls' hl' => K _ _ _ _ _ _ _ _ _ hw ⟨T.1, zk_lh_1 hc.1 hn hl', by rw [List.length_set]; exact T.2.2.1, T.2.2.2⟩)
  · cases hc : (zk_nl L n && Nat.blt n L.length) with
    | false => rw [hc] at hw; cases hw
    | true =>
      rw [hc] at hw
      rw [Bool.and_eq_true] at hc
      have hn : n < L.length := Nat.le_of_ble_eq_true hc.2
      exact lv_astore_nN hx hb hdec hj (zk_lh_h T.2.1) hn rfl (fun ls' hl' => K _ _ _ _ _ _ _ _ _ hw ⟨T.1, zk_lh_1 hc.1 hn hl', by rw [List.length_set]; exact T.2.2.1, T.2.2.2⟩)
  · cases hw
theorem zo_lstoren (hx : p.tables.exec = Jvm.exec) (hb : c.code = cc) (T : zk_St G H s ls L ml locs cells slots kc ks) (K : zk_KK G p l e R sM m args below meth c Q ml kc ks r k) {n : Nat} {j : Fin 4} (hj : j.val = n) (hdec : decode cc pc = .ok (.lstore_n j, 1)) (hw : zk_ins zk_df call d (.lstore n) (pc + 1) L S s k = some r) : W p l e R sM m args below meth c H locs cells slots Q (F0 m pc ls (S.map (zk_rz G))) := by
  replace hw : (match (generalizing := false) S with | .long x :: S => bif zk_nl L n && Nat.blt (n + 1) L.length then k (pc + 1) ((L.set n (.long x)).set (n + 1) (.retAddr 0)) S s else none | _ => none) = some r := hw
  split at hw
  · cases hc : (zk_nl L n && Nat.blt (n + 1) L.length) with
    | false => rw [hc] at hw; cases hw
    | true =>
      rw [hc] at hw
      rw [Bool.and_eq_true] at hc
      have hn : n + 1 < L.length := Nat.le_of_ble_eq_true hc.2
      exact lv_lstore_n hx hb hdec hj (zk_lh_h T.2.1) hn rfl (fun ls' hl' => K _ _ _ _ _ _ _ _ _ hw ⟨T.1, zk_lh_2 hc.1 hn hl', by rw [List.length_set, List.length_set]; exact T.2.2.1, T.2.2.2⟩)
  · cases hw
theorem zo_istore (hx : p.tables.exec = Jvm.exec) (hb : c.code = cc) (T : zk_St G H s ls L ml locs cells slots kc ks) (K : zk_KK G p l e R sM m args below meth c Q ml kc ks r k) {n : Nat} (hdec : decode cc pc = .ok (.istore n, 2)) (hw : zk_ins zk_df call d (.istore n) (pc + 2) L S s k = some r) : W p l e R sM m args below meth c H locs cells slots Q (F0 m pc ls (S.map (zk_rz G))) := by
  replace hw : (match (generalizing := false) S with | .int x :: S => bif zk_nl L n && Nat.blt n L.length then k (pc + 2) (L.set n (.int x)) S s else none | _ => none) = some r := hw
  split at hw
  · cases hc : (zk_nl L n && Nat.blt n L.length) with
    | false => rw [hc] at hw; cases hw
    | true =>
      rw [hc] at hw
      rw [Bool.and_eq_true] at hc
      have hn : n < L.length := Nat.le_of_ble_eq_true hc.2
      exact lv_istore hx hb hdec (zk_lh_h T.2.1) hn rfl (fun ls' hl' => K _ _ _ _ _ _ _ _ _ hw ⟨T.1, zk_lh_1 hc.1 hn hl', by rw [List.length_set]; exact T.2.2.1, T.2.2.2⟩)
  · cases hw
theorem zo_astore (hx : p.tables.exec = Jvm.exec) (hb : c.code = cc) (T : zk_St G H s ls L ml locs cells slots kc ks) (K : zk_KK G p l e R sM m args below meth c Q ml kc ks r k) {n : Nat} (hdec : decode cc pc = .ok (.astore n, 2)) (hw : zk_ins zk_df call d (.astore n) (pc + 2) L S s k = some r) : W p l e R sM m args below meth c H locs cells slots Q (F0 m pc ls (S.map (zk_rz G))) := by
  replace hw : (match (generalizing := false) S with | .ref x :: S => bif zk_nl L n && Nat.blt n L.length then k (pc + 2) (L.set n (.ref x)) S s else none | .null :: S => bif zk_nl L n && Nat.blt n L.length then k (pc + 2) (L.set n (.null)) S s else none | _ => none) = some r := hw
  split at hw
  · cases hc : (zk_nl L n && Nat.blt n L.length) with
    | false => rw [hc] at hw; cases hw
    | true =>
      rw [hc] at hw
      rw [Bool.and_eq_true] at hc
      have hn : n < L.length := Nat.le_of_ble_eq_true hc.2
      exact lv_astore hx hb hdec (zk_lh_h T.2.1) hn rfl (fun ls' hl' => K _ _ _ _ _ _ _ _ _ hw ⟨T.1, zk_lh_1 hc.1 hn hl', by rw [List.length_set]; exact T.2.2.1, T.2.2.2⟩)
  · cases hc : (zk_nl L n && Nat.blt n L.length) with
    | false => rw [hc] at hw; cases hw
    | true =>
      rw [hc] at hw
      rw [Bool.and_eq_true] at hc
      have hn : n < L.length := Nat.le_of_ble_eq_true hc.2
      exact lv_astoreN hx hb hdec (zk_lh_h T.2.1) hn rfl (fun ls' hl' => K _ _ _ _ _ _ _ _ _ hw ⟨T.1, zk_lh_1 hc.1 hn hl', by rw [List.length_set]; exact T.2.2.1, T.2.2.2⟩)
  · cases hw
theorem zo_lstore (hx : p.tables.exec = Jvm.exec) (hb : c.code = cc) (T : zk_St G H s ls L ml locs cells slots kc ks) (K : zk_KK G p l e R sM m args below meth c Q ml kc ks r k) {n : Nat} (hdec : decode cc pc = .ok (.lstore n, 2)) (hw : zk_ins zk_df call d (.lstore n) (pc + 2) L S s k = some r) : W p l e R sM m args below meth c H locs cells slots Q (F0 m pc ls (S.map (zk_rz G))) := by
  replace hw : (match (generalizing := false) S with | .long x :: S => bif zk_nl L n && Nat.blt (n + 1) L.length then k (pc + 2) ((L.set n (.long x)).set (n + 1) (.retAddr 0)) S s else none | _ => none) = some r := hw
  split at hw
  · cases hc : (zk_nl L n && Nat.blt (n + 1) L.length) with
    | false => rw [hc] at hw; cases hw
    | true =>
      rw [hc] at hw
      rw [Bool.and_eq_true] at hc
      have hn : n + 1 < L.length := Nat.le_of_ble_eq_true hc.2
      exact lv_lstore hx hb hdec (zk_lh_h T.2.1) hn rfl (fun ls' hl' => K _ _ _ _ _ _ _ _ _ hw ⟨T.1, zk_lh_2 hc.1 hn hl', by rw [List.length_set, List.length_set]; exact T.2.2.1, T.2.2.2⟩)
  · cases hw
theorem zo_iinc (hx : p.tables.exec = Jvm.exec) (hb : c.code = cc) (T : zk_St G H s ls L ml locs cells slots kc ks) (K : zk_KK G p l e R sM m args below meth c Q ml kc ks r k) {n : Nat} {v : Int} (hdec : decode cc pc = .ok (.iinc n v, 3)) (hw : zk_ins zk_df call d (.iinc n v) (pc + 3) L S s k = some r) : W p l e R sM m args below meth c H locs cells slots Q (F0 m pc ls (S.map (zk_rz G))) := by
  replace hw : (match L[n]? with | some (.int x) => bif zk_nl L n && Nat.blt n L.length then k (pc + 3) (L.set n (.int (x + Int32.ofInt v))) S s else none | _ => none) = some r := hw
  split at hw
  · rename_i x hL
    cases hc : (zk_nl L n && Nat.blt n L.length) with
    | false => rw [hc] at hw; cases hw
    | true =>
      rw [hc] at hw
      rw [Bool.and_eq_true] at hc
      have hn : n < L.length := Nat.le_of_ble_eq_true hc.2
      obtain ⟨kk, hk⟩ := List.getElem?_of_mem (zk_lv_i (G := G) hL (fun _ z => by cases z))
      exact lv_iinc hx hb hdec (zk_lh_h T.2.1) hk rfl hn rfl (fun ls' hl' => K _ _ _ _ _ _ _ _ _ hw ⟨T.1, zk_lh_1 (v := .int _) hc.1 hn hl', by rw [List.length_set]; exact T.2.2.1, T.2.2.2⟩)
  · cases hw
end
