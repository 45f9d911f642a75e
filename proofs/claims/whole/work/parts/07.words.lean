/-! WORDS: what the tables say, by the small numbers (printed by wip/whole/gen/wordsg.py) -/
def zk_TB : List Jvm.Cond := lw_tbl.filter goodWord
theorem zk_TBg : GoodIn zk_TB zk_TB := fun _ h => ⟨h, good_of_word (List.mem_filter.mp h).2⟩
theorem zk_TBi {w : Jvm.Cond} (h : w ∈ lw_tbl) (hg : goodWord w = true) : w ∈ zk_TB := List.mem_filter.mpr ⟨h, hg⟩
def zw_F (e : Nat × Nat × Nat × Nat) : Jvm.Cond := .fieldLink (zk_c e.1) e.2.1 (zk_tx e.2.2.1 e.2.2.2).1 (zk_tx e.2.2.1 e.2.2.2).2.1 (zk_tx e.2.2.1 e.2.2.2).2.2.1
set_option maxRecDepth 100000 in
theorem zw_F_s : zk_subl (zt_F.map zw_F) lw_tbl = true := by decide +kernel
theorem zw_F_ok (e : Nat × Nat × Nat × Nat) (h : e ∈ zt_F) : zw_F e ∈ zk_TB := zk_TBi (zk_subl_m _ _ zw_F_s _ (List.mem_map.mpr ⟨e, h, rfl⟩)) rfl
def zw_M (e : Nat × Nat × Nat × Nat) : Jvm.Cond := .methodLink (zk_c e.1) e.2.1 (if e.2.2.1 = 0 then objectInit else zk_y e.2.2.1)
set_option maxRecDepth 100000 in
theorem zw_M_s : zk_subl (zt_M0.map zw_M) lw_tbl = true := by decide +kernel
theorem zw_M_ok (e : Nat × Nat × Nat × Nat) (h : e ∈ zt_M0) : zw_M e ∈ zk_TB := zk_TBi (zk_subl_m _ _ zw_M_s _ (List.mem_map.mpr ⟨e, h, rfl⟩)) rfl
def zw_N (e : Nat × Nat × Nat × Nat) : Jvm.Cond := .methodLinkNest (zk_c e.1) e.2.1 (zk_y e.2.2.1) "SaddlerKnows"
set_option maxRecDepth 100000 in
theorem zw_N_s : zk_subl (zt_M1.map zw_N) lw_tbl = true := by decide +kernel
theorem zw_N_ok (e : Nat × Nat × Nat × Nat) (h : e ∈ zt_M1) : zw_N e ∈ lw_tbl := zk_subl_m _ _ zw_N_s _ (List.mem_map.mpr ⟨e, h, rfl⟩)
def zw_C (e : Nat × Nat × Int) : Jvm.Cond := .constant (zk_c e.1) e.2.1 (Int32.ofInt e.2.2)
set_option maxRecDepth 100000 in
theorem zw_C_s : zk_subl (zt_C.map zw_C) lw_tbl = true := by decide +kernel
theorem zw_C_ok (e : Nat × Nat × Int) (h : e ∈ zt_C) : zw_C e ∈ zk_TB := zk_TBi (zk_subl_m _ _ zw_C_s _ (List.mem_map.mpr ⟨e, h, rfl⟩)) rfl
def zw_L (e : Nat × Nat × Int) : Jvm.Cond := .constantLong (zk_c e.1) e.2.1 (Int64.ofInt e.2.2)
set_option maxRecDepth 100000 in
theorem zw_L_s : zk_subl (zt_L.map zw_L) lw_tbl = true := by decide +kernel
theorem zw_L_ok (e : Nat × Nat × Int) (h : e ∈ zt_L) : zw_L e ∈ zk_TB := zk_TBi (zk_subl_m _ _ zw_L_s _ (List.mem_map.mpr ⟨e, h, rfl⟩)) rfl
def zk_tl (e : Nat) : String := match e with | 4 => "hk" | 5 => "sbt" | 6 => "ruf" | _ => "sbftgw"
def zw_S (e : Nat × Nat × Nat) : Jvm.Cond := .stringRef (zk_c e.1) e.2.1 (zk_tl e.2.2)
set_option maxRecDepth 100000 in
theorem zw_S_s : zk_subl (zt_S.map zw_S) lw_tbl = true := by decide +kernel
theorem zw_S_ok (e : Nat × Nat × Nat) (h : e ∈ zt_S) : zw_S e ∈ lw_tbl := zk_subl_m _ _ zw_S_s _ (List.mem_map.mpr ⟨e, h, rfl⟩)
def zk_sc (i : Nat) : String × String × String := match i with | 0 => ("java/lang/String", "COMPACT_STRINGS", "Z") | 1 => ("SaddlerKnows$CountyReader", "RULE_HIGHEST", "[I") | 2 => ("SaddlerKnows$CountyReader", "PERSON_HIGHEST", "[I") | _ => ("SaddlerKnows$CountyReader", "SADDLE_HIGHEST", "[I")
def zw_G (e : Nat × Nat × Nat) : Jvm.Cond := .fieldLink (zk_c e.1) e.2.1 (zk_sc e.2.2).1 (zk_sc e.2.2).2.1 (zk_sc e.2.2).2.2
set_option maxRecDepth 100000 in
theorem zw_G_s : zk_subl (zt_G.map zw_G) lw_tbl = true := by decide +kernel
theorem zw_G_ok (e : Nat × Nat × Nat) (h : e ∈ zt_G) : zw_G e ∈ zk_TB := zk_TBi (zk_subl_m _ _ zw_G_s _ (List.mem_map.mpr ⟨e, h, rfl⟩)) rfl
def zw_W (e : Nat × Nat × Nat) : Jvm.Cond := .classLink (zk_c e.1) e.2.1 (zk_c e.2.2)
set_option maxRecDepth 100000 in
theorem zw_W_s : zk_subl (zt_N.map zw_W) lw_tbl = true := by decide +kernel
theorem zw_W_ok (e : Nat × Nat × Nat) (h : e ∈ zt_N) : zw_W e ∈ zk_TB := zk_TBi (zk_subl_m _ _ zw_W_s _ (List.mem_map.mpr ⟨e, h, rfl⟩)) rfl
def zw_A (e : Nat × Nat × Nat) : Jvm.Cond := .classLink (zk_c e.1) e.2.1 (zk_c e.2.2)
set_option maxRecDepth 100000 in
theorem zw_A_s : zk_subl (zt_A.map zw_A) lw_tbl = true := by decide +kernel
theorem zw_A_ok (e : Nat × Nat × Nat) (h : e ∈ zt_A) : zw_A e ∈ zk_TB := zk_TBi (zk_subl_m _ _ zw_A_s _ (List.mem_map.mpr ⟨e, h, rfl⟩)) rfl
def zw_Y (e : Nat) : Jvm.Cond := .code (zk_y e) (zk_b e) (zk_ml e) (zk_rt e)
set_option maxRecDepth 100000 in
theorem zw_Y_s0 : zk_subl (((zt_Yc.drop 0).take 12).map zw_Y) lw_tbl = true := by decide +kernel
set_option maxRecDepth 100000 in
theorem zw_Y_s12 : zk_subl (((zt_Yc.drop 12).take 12).map zw_Y) lw_tbl = true := by decide +kernel
set_option maxRecDepth 100000 in
theorem zw_Y_s24 : zk_subl (((zt_Yc.drop 24).take 12).map zw_Y) lw_tbl = true := by decide +kernel
set_option maxRecDepth 100000 in
theorem zw_Y_s36 : zk_subl (((zt_Yc.drop 36).take 12).map zw_Y) lw_tbl = true := by decide +kernel
set_option maxRecDepth 100000 in
theorem zw_Y_s48 : zk_subl (((zt_Yc.drop 48).take 12).map zw_Y) lw_tbl = true := by decide +kernel
set_option maxRecDepth 100000 in
theorem zw_Y_s60 : zk_subl (((zt_Yc.drop 60).take 12).map zw_Y) lw_tbl = true := by decide +kernel
set_option maxRecDepth 100000 in
theorem zw_Y_s72 : zk_subl (((zt_Yc.drop 72).take 12).map zw_Y) lw_tbl = true := by decide +kernel
set_option maxRecDepth 100000 in
theorem zw_Y_s84 : zk_subl (((zt_Yc.drop 84).take 12).map zw_Y) lw_tbl = true := by decide +kernel
set_option maxRecDepth 100000 in
theorem zw_Y_s96 : zk_subl (((zt_Yc.drop 96).take 12).map zw_Y) lw_tbl = true := by decide +kernel
set_option maxRecDepth 100000 in
theorem zw_Y_s108 : zk_subl (((zt_Yc.drop 108).take 12).map zw_Y) lw_tbl = true := by decide +kernel
set_option maxRecDepth 100000 in
theorem zw_Y_s120 : zk_subl (((zt_Yc.drop 120).take 12).map zw_Y) lw_tbl = true := by decide +kernel
set_option maxRecDepth 100000 in
theorem zw_Y_s132 : zk_subl (((zt_Yc.drop 132).take 12).map zw_Y) lw_tbl = true := by decide +kernel
set_option maxRecDepth 100000 in
theorem zw_Y_s144 : zk_subl (((zt_Yc.drop 144).take 12).map zw_Y) lw_tbl = true := by decide +kernel
set_option maxRecDepth 100000 in
theorem zw_Y_s156 : zk_subl (((zt_Yc.drop 156).take 12).map zw_Y) lw_tbl = true := by decide +kernel
set_option maxRecDepth 100000 in
theorem zw_Y_s168 : zk_subl (((zt_Yc.drop 168).take 12).map zw_Y) lw_tbl = true := by decide +kernel
set_option maxRecDepth 100000 in
theorem zw_Y_s180 : zk_subl (((zt_Yc.drop 180).take 12).map zw_Y) lw_tbl = true := by decide +kernel
set_option maxRecDepth 100000 in
theorem zw_Y_s192 : zk_subl (((zt_Yc.drop 192).take 12).map zw_Y) lw_tbl = true := by decide +kernel
set_option maxRecDepth 100000 in
theorem zw_Y_s204 : zk_subl (((zt_Yc.drop 204).take 12).map zw_Y) lw_tbl = true := by decide +kernel
set_option maxRecDepth 100000 in
theorem zw_Y_s216 : zk_subl (((zt_Yc.drop 216).take 12).map zw_Y) lw_tbl = true := by decide +kernel
set_option maxRecDepth 100000 in
theorem zw_Y_s228 : zk_subl (((zt_Yc.drop 228).take 12).map zw_Y) lw_tbl = true := by decide +kernel
set_option maxRecDepth 100000 in
theorem zw_Y_s240 : zk_subl (((zt_Yc.drop 240).take 12).map zw_Y) lw_tbl = true := by decide +kernel
set_option maxRecDepth 100000 in
theorem zw_Y_s252 : zk_subl (((zt_Yc.drop 252).take 12).map zw_Y) lw_tbl = true := by decide +kernel
set_option maxRecDepth 100000 in
theorem zw_Y_s264 : zk_subl (((zt_Yc.drop 264).take 12).map zw_Y) lw_tbl = true := by decide +kernel
set_option maxRecDepth 100000 in
theorem zw_Y_s276 : zk_subl (((zt_Yc.drop 276).take 12).map zw_Y) lw_tbl = true := by decide +kernel
set_option maxRecDepth 100000 in
theorem zw_Y_s288 : zk_subl (((zt_Yc.drop 288).take 12).map zw_Y) lw_tbl = true := by decide +kernel
set_option maxRecDepth 100000 in
theorem zw_Y_s300 : zk_subl (((zt_Yc.drop 300).take 12).map zw_Y) lw_tbl = true := by decide +kernel
theorem zw_Y_j {α : Type} {l : List α} {P : α → Prop} (a n : Nat) (h : ∀ x ∈ (l.drop a).take n, P x) (h2 : ∀ x ∈ l.drop (a + n), P x) : ∀ x ∈ l.drop a, P x := by
  intro x hx
  rw [← List.take_append_drop n (l.drop a)] at hx
  rcases List.mem_append.mp hx with q | q
  · exact h x q
  · exact h2 x (by rwa [List.drop_drop] at q)
theorem zw_Y_l : ∀ e ∈ zt_Yc, zw_Y e ∈ lw_tbl := fun e he => (show ∀ x ∈ zt_Yc.drop 0, zw_Y x ∈ lw_tbl from (zw_Y_j 0 12 (fun x hx => zk_subl_m _ _ zw_Y_s0 _ (List.mem_map.mpr ⟨x, hx, rfl⟩)) (zw_Y_j 12 12 (fun x hx => zk_subl_m _ _ zw_Y_s12 _ (List.mem_map.mpr ⟨x, hx, rfl⟩)) (zw_Y_j 24 12 (fun x hx => zk_subl_m _ _ zw_Y_s24 _ (List.mem_map.mpr ⟨x, hx, rfl⟩)) (zw_Y_j 36 12 (fun x hx => zk_subl_m _ _ zw_Y_s36 _ (List.mem_map.mpr ⟨x, hx, rfl⟩)) (zw_Y_j 48 12 (fun x hx => zk_subl_m _ _ zw_Y_s48 _ (List.mem_map.mpr ⟨x, hx, rfl⟩)) (zw_Y_j 60 12 (fun x hx => zk_subl_m _ _ zw_Y_s60 _ (List.mem_map.mpr ⟨x, hx, rfl⟩)) (zw_Y_j 72 12 (fun x hx => zk_subl_m _ _ zw_Y_s72 _ (List.mem_map.mpr ⟨x, hx, rfl⟩)) (zw_Y_j 84 12 (fun x hx => zk_subl_m _ _ zw_Y_s84 _ (List.mem_map.mpr ⟨x, hx, rfl⟩)) (zw_Y_j 96 12 (fun x hx => zk_subl_m _ _ zw_Y_s96 _ (List.mem_map.mpr ⟨x, hx, rfl⟩)) (zw_Y_j 108 12 (fun x hx => zk_subl_m _ _ zw_Y_s108 _ (List.mem_map.mpr ⟨x, hx, rfl⟩)) (zw_Y_j 120 12 (fun x hx => zk_subl_m _ _ zw_Y_s120 _ (List.mem_map.mpr ⟨x, hx, rfl⟩)) (zw_Y_j 132 12 (fun x hx => zk_subl_m _ _ zw_Y_s132 _ (List.mem_map.mpr ⟨x, hx, rfl⟩)) (zw_Y_j 144 12 (fun x hx => zk_subl_m _ _ zw_Y_s144 _ (List.mem_map.mpr ⟨x, hx, rfl⟩)) (zw_Y_j 156 12 (fun x hx => zk_subl_m _ _ zw_Y_s156 _ (List.mem_map.mpr ⟨x, hx, rfl⟩)) (zw_Y_j 168 12 (fun x hx => zk_subl_m _ _ zw_Y_s168 _ (List.mem_map.mpr ⟨x, hx, rfl⟩)) (zw_Y_j 180 12 (fun x hx => zk_subl_m _ _ zw_Y_s180 _ (List.mem_map.mpr ⟨x, hx, rfl⟩)) (zw_Y_j 192 12 (fun x hx => zk_subl_m _ _ zw_Y_s192 _ (List.mem_map.mpr ⟨x, hx, rfl⟩)) (zw_Y_j 204 12 (fun x hx => zk_subl_m _ _ zw_Y_s204 _ (List.mem_map.mpr ⟨x, hx, rfl⟩)) (zw_Y_j 216 12 (fun x hx => zk_subl_m _ _ zw_Y_s216 _ (List.mem_map.mpr ⟨x, hx, rfl⟩)) (zw_Y_j 228 12 (fun x hx => zk_subl_m _ _ zw_Y_s228 _ (List.mem_map.mpr ⟨x, hx, rfl⟩)) (zw_Y_j 240 12 (fun x hx => zk_subl_m _ _ zw_Y_s240 _ (List.mem_map.mpr ⟨x, hx, rfl⟩)) (zw_Y_j 252 12 (fun x hx => zk_subl_m _ _ zw_Y_s252 _ (List.mem_map.mpr ⟨x, hx, rfl⟩)) (zw_Y_j 264 12 (fun x hx => zk_subl_m _ _ zw_Y_s264 _ (List.mem_map.mpr ⟨x, hx, rfl⟩)) (zw_Y_j 276 12 (fun x hx => zk_subl_m _ _ zw_Y_s276 _ (List.mem_map.mpr ⟨x, hx, rfl⟩)) (zw_Y_j 288 12 (fun x hx => zk_subl_m _ _ zw_Y_s288 _ (List.mem_map.mpr ⟨x, hx, rfl⟩)) (zw_Y_j 300 12 (fun x hx => zk_subl_m _ _ zw_Y_s300 _ (List.mem_map.mpr ⟨x, hx, rfl⟩)) (fun x hx => by rw [show zt_Yc.drop 312 = [] from by decide +kernel] at hx; cases hx)))))))))))))))))))))))))))) e he
theorem zw_Y_ok (e : Nat) (h : e ∈ zt_Yc) : zw_Y e ∈ zk_TB := zk_TBi (zw_Y_l e h) rfl
def zw_St (e : Nat) : Jvm.Cond := .static (zk_y e)
set_option maxRecDepth 100000 in
theorem zw_St_s : zk_subl (zt_Yst.map zw_St) lw_tbl = true := by decide +kernel
theorem zw_St_ok (e : Nat) (h : e ∈ zt_Yst) : zw_St e ∈ zk_TB := zk_TBi (zk_subl_m _ _ zw_St_s _ (List.mem_map.mpr ⟨e, h, rfl⟩)) rfl
def zw_In (e : Nat) : Jvm.Cond := .instanceMethod (zk_y e)
set_option maxRecDepth 100000 in
theorem zw_In_s : zk_subl (zt_Yin.map zw_In) lw_tbl = true := by decide +kernel
theorem zw_In_ok (e : Nat) (h : e ∈ zt_Yin) : zw_In e ∈ zk_TB := zk_TBi (zk_subl_m _ _ zw_In_s _ (List.mem_map.mpr ⟨e, h, rfl⟩)) rfl
def zw_Se (e : Nat) : Jvm.Cond := .selects (zk_y e).cls (zk_y e) (zk_y e)
set_option maxRecDepth 100000 in
theorem zw_Se_s : zk_subl (zt_Yse.map zw_Se) lw_tbl = true := by decide +kernel
theorem zw_Se_ok (e : Nat) (h : e ∈ zt_Yse) : zw_Se e ∈ zk_TB := zk_TBi (zk_subl_m _ _ zw_Se_s _ (List.mem_map.mpr ⟨e, h, rfl⟩)) rfl
def zw_Ci (e : Nat) : Jvm.Cond := .initialized (zk_c e)
set_option maxRecDepth 100000 in
theorem zw_Ci_s : zk_subl (zt_Ci.map zw_Ci) lw_tbl = true := by decide +kernel
theorem zw_Ci_ok (e : Nat) (h : e ∈ zt_Ci) : zw_Ci e ∈ zk_TB := zk_TBi (zk_subl_m _ _ zw_Ci_s _ (List.mem_map.mpr ⟨e, h, rfl⟩)) rfl
def zw_Is (e : Nat) : Jvm.Cond := .instantiable (zk_c e) (zk_nf e)
set_option maxRecDepth 100000 in
theorem zw_Is_s : zk_subl (zt_In.map zw_Is) lw_tbl = true := by decide +kernel
theorem zw_Is_ok (e : Nat) (h : e ∈ zt_In) : zw_Is e ∈ zk_TB := zk_TBi (zk_subl_m _ _ zw_Is_s _ (List.mem_map.mpr ⟨e, h, rfl⟩)) rfl
def zt_Ly : List (Nat × Nat) := [
  (9, 0), (9, 1), (9, 2), (10, 0), (10, 1), (10, 2), (10, 3), (10, 4), (10, 5), (10, 6), (10, 7), (10, 8), (10, 9), (0, 0), (0, 1), (0, 2),
  (0, 3), (2, 0), (2, 1), (2, 2), (4, 0), (4, 1), (4, 2), (4, 3), (7, 0), (7, 1), (7, 2), (7, 3), (7, 4), (7, 5), (3, 0), (3, 1),
  (3, 2), (3, 3), (3, 4), (3, 5), (3, 6), (6, 0), (6, 1), (6, 2), (6, 3), (6, 4), (6, 5), (6, 6), (6, 7), (6, 8), (6, 9), (8, 0),
  (8, 1), (8, 2), (8, 3), (8, 4), (8, 5), (5, 0), (5, 1), (5, 2), (5, 3), (5, 4), (11, 0), (11, 1), (11, 2), (11, 3), (11, 4), (11, 5),
  (11, 6), (11, 7), (11, 8), (11, 9), (11, 10), (11, 11), (11, 12), (1, 0), (1, 1), (1, 2), (12, 0), (12, 1), (12, 2), (12, 3), (12, 4), (12, 5),
  (12, 6), (12, 7), (12, 8), (12, 9), (12, 10), (12, 11), (12, 12), (12, 13), (12, 14), (12, 15), (12, 16), (12, 17), (12, 18), (12, 19), (12, 20), (12, 21),
  (12, 22), (12, 23), (12, 24), (12, 25), (12, 26), (12, 27), (12, 28), (12, 29), (12, 30), (12, 31), (12, 32), (12, 33), (12, 34), (12, 35), (12, 36), (12, 37),
  (12, 38), (12, 39), (12, 40), (12, 41), (12, 42), (12, 43), (12, 44), (12, 45), (12, 46), (12, 47), (12, 48), (12, 49), (12, 50)]
def zw_Ly (e : Nat × Nat) : Jvm.Cond := u_lay (zk_c e.1) (zk_tx e.1) e.2
set_option maxRecDepth 100000 in
theorem zw_Ly_s : zk_subl (zt_Ly.map zw_Ly) lw_tbl = true := by decide +kernel
theorem zw_Ly_g : zt_Ly.all (fun e => goodWord (zw_Ly e)) = true := by decide +kernel
theorem zw_Ly_a : (List.range 13).all (fun c => (List.range (zk_nf c)).all (fun k => zt_Ly.elem (c, k))) = true := by decide +kernel
theorem zw_Ly_ok {c : Nat} (h : c < 13) : ∀ w ∈ u_ws (zk_c c) (zk_tx c) (zk_nf c), w ∈ zk_TB := by
  intro w hw
  obtain ⟨k, hk, rfl⟩ := List.mem_map.mp hw
  have h1 := List.all_eq_true.mp (List.all_eq_true.mp zw_Ly_a c (List.mem_range.mpr h)) k hk
  have h2 : (c, k) ∈ zt_Ly := List.elem_iff.mp h1
  exact zk_TBi (zk_subl_m _ _ zw_Ly_s _ (List.mem_map.mpr ⟨(c, k), h2, rfl⟩)) (List.all_eq_true.mp zw_Ly_g _ h2)
theorem zk_arI : Cond.arrayClass .int ∈ zk_TB := zk_TBi (List.mem_of_getElem? (i := 178) (by decide +kernel)) rfl
theorem zk_arZ : Cond.arrayClass .boolean ∈ zk_TB := zk_TBi (List.mem_of_getElem? (i := 419) (by decide +kernel)) rfl
theorem zk_arJ : Cond.arrayClass .long ∈ zk_TB := zk_TBi (List.mem_of_getElem? (i := 2024) (by decide +kernel)) rfl
theorem zk_vw : ∀ c, c < 13 → vwCl[c]? = some (zk_c c, zk_tx c, zk_nf c) := fun c h => match c, h with
  | 0, _ => rfl
  | 1, _ => rfl
  | 2, _ => rfl
  | 3, _ => rfl
  | 4, _ => rfl
  | 5, _ => rfl
  | 6, _ => rfl
  | 7, _ => rfl
  | 8, _ => rfl
  | 9, _ => rfl
  | 10, _ => rfl
  | 11, _ => rfl
  | 12, _ => rfl
  | c + 13, h => absurd h (by omega)
def zk_ft (c j : Nat) : FieldType := match parseFieldDescriptor (zk_tx c j).2.2.1 with | some t => t | none => .int
theorem zk_ft_a : (List.range 13).all (fun c => (List.range (zk_nf c)).all (fun k => decide (parseFieldDescriptor (zk_tx c k).2.2.1 = some (zk_ft c k)))) = true := by decide +kernel
theorem zk_ft_ok {c k : Nat} (h : c < 13) (hk : k < zk_nf c) : parseFieldDescriptor (zk_tx c k).2.2.1 = some (zk_ft c k) := of_decide_eq_true (List.all_eq_true.mp (List.all_eq_true.mp zk_ft_a c (List.mem_range.mpr h)) k (List.mem_range.mpr hk))
theorem zk_nm_a : (List.range 13).all (fun c => (List.range (zk_nf c)).all (fun a => (List.range (zk_nf c)).all (fun b => decide (a = b) || decide ((zk_tx c a).2.1 ≠ (zk_tx c b).2.1)))) = true := by decide +kernel
theorem zk_nm_ok {c : Nat} (h : c < 13) : ∀ a, a < zk_nf c → ∀ b, b < zk_nf c → a ≠ b → (zk_tx c a).2.1 ≠ (zk_tx c b).2.1 := by
  intro a ha b hb hab
  have h1 := List.all_eq_true.mp (List.all_eq_true.mp (List.all_eq_true.mp zk_nm_a c (List.mem_range.mpr h)) a (List.mem_range.mpr ha)) b (List.mem_range.mpr hb)
  rw [Bool.or_eq_true] at h1
  rcases h1 with h1 | h1
  · exact absurd (of_decide_eq_true h1) hab
  · exact of_decide_eq_true h1
theorem zk_dc_a : (List.range 13).all (fun c => (List.range (zk_nf c)).all (fun k => decide ((zk_tx c k).1 = zk_c c))) = true := by decide +kernel
theorem zk_dc_ok {c k : Nat} (h : c < 13) (hk : k < zk_nf c) : (zk_tx c k).1 = zk_c c := of_decide_eq_true (List.all_eq_true.mp (List.all_eq_true.mp zk_dc_a c (List.mem_range.mpr h)) k (List.mem_range.mpr hk))
theorem zk_df_a : (List.range 13).all (fun c => decide ((zk_df c).length = zk_nf c) && (List.range (zk_nf c)).all (fun k => decide (defaultValue (zk_ft c k) = vp_V (zk_df c) k))) = true := by decide +kernel
theorem zk_df_n {c : Nat} (h : c < 13) : (zk_df c).length = zk_nf c := of_decide_eq_true (Bool.and_eq_true_iff.mp (List.all_eq_true.mp zk_df_a c (List.mem_range.mpr h))).1
theorem zk_df_v {c : Nat} (h : c < 13) : ∀ j, j < zk_nf c → defaultValue (zk_ft c j) = vp_V (zk_df c) j := fun j hj => of_decide_eq_true (List.all_eq_true.mp (Bool.and_eq_true_iff.mp (List.all_eq_true.mp zk_df_a c (List.mem_range.mpr h))).2 j (List.mem_range.mpr hj))
theorem zk_ycls_a : (List.range 304).all (fun y => Nat.beq y 0 || (decide ((zk_y y).cls = zk_c (zk_o y)) && decide ((zk_y y).cls ≠ "java/lang/invoke/MethodHandle") && decide ((zk_y y).cls ≠ "java/lang/invoke/VarHandle") && plainFor (zk_y y) && Nat.ble (zk_ml y) 20)) = true := by decide +kernel
def zk_np (y : Nat) : Nat := match parseMethodDescriptor (zk_y y).desc with | some s => s.parameters.length | none => 99
/-- an operand's numbers: how many arguments, kind of the answer, class -/
def zk_opk (k : Nat) (o : Nat) : Bool := Nat.ble (o % 1000) 302 && (zt_Yc.elem (o % 1000) || Nat.beq (o % 1000) m_Law_person) && Nat.beq (o / 1000 % 10) (zk_np (o % 1000) + (if k = 0 then 0 else 1)) && Nat.beq (o / 100000) (zk_o (o % 1000)) && (match o / 10000 % 10 with | 0 => decide (zk_rt (o % 1000) = none) | 1 => decide (zk_rt (o % 1000) = some .int ∨ zk_rt (o % 1000) = some .boolean ∨ zk_rt (o % 1000) = some .byte) | 2 => decide (zk_rt (o % 1000) = some .long) | _ => true) && (if k = 0 then zt_Yst.elem (o % 1000) || Nat.beq (o % 1000) m_Law_person else zt_Yin.elem (o % 1000) && (if k = 1 then zt_Yse.elem (o % 1000) else true))
def zk_opi (i : Instr) : Bool := match i with | .invokestatic o => zk_opk 0 o | .invokevirtual o => zk_opk 1 o | .invokespecial o => Nat.beq o 0 || zk_opk 2 o | .new c => Nat.blt c 13 && zt_In.elem c && zt_Ci.elem c | .getfield o => (match o % 10 with | 0 | 1 | 2 => true | _ => false) | _ => true
set_option maxRecDepth 100000 in
theorem zk_op0 : (List.range 60).all (fun i => (zk_rcd (0 + i)).all (fun e => zk_opi e.2.2)) = true := by decide +kernel
set_option maxRecDepth 100000 in
theorem zk_op60 : (List.range 60).all (fun i => (zk_rcd (60 + i)).all (fun e => zk_opi e.2.2)) = true := by decide +kernel
set_option maxRecDepth 100000 in
theorem zk_op120 : (List.range 60).all (fun i => (zk_rcd (120 + i)).all (fun e => zk_opi e.2.2)) = true := by decide +kernel
set_option maxRecDepth 100000 in
theorem zk_op180 : (List.range 60).all (fun i => (zk_rcd (180 + i)).all (fun e => zk_opi e.2.2)) = true := by decide +kernel
set_option maxRecDepth 100000 in
theorem zk_op240 : (List.range 60).all (fun i => (zk_rcd (240 + i)).all (fun e => zk_opi e.2.2)) = true := by decide +kernel
set_option maxRecDepth 100000 in
theorem zk_op300 : (List.range 4).all (fun i => (zk_rcd (300 + i)).all (fun e => zk_opi e.2.2)) = true := by decide +kernel
theorem zk_opa (y : Nat) (e : Nat × Nat × Instr) (he : e ∈ zk_rcd y) : zk_opi e.2.2 = true := by
  have key : ∀ a n : Nat, (List.range n).all (fun i => (zk_rcd (a + i)).all (fun e => zk_opi e.2.2)) = true → a ≤ y → y < a + n → zk_opi e.2.2 = true := by
    intro a n h h1 h2
    have h3 := List.all_eq_true.mp h (y - a) (List.mem_range.mpr (by omega))
    rw [show a + (y - a) = y by omega] at h3
    exact List.all_eq_true.mp h3 e he
  by_cases h0 : y < 60
  · exact key 0 60 zk_op0 (by omega) (by omega)
  by_cases h60 : y < 120
  · exact key 60 60 zk_op60 (by omega) (by omega)
  by_cases h120 : y < 180
  · exact key 120 60 zk_op120 (by omega) (by omega)
  by_cases h180 : y < 240
  · exact key 180 60 zk_op180 (by omega) (by omega)
  by_cases h240 : y < 300
  · exact key 240 60 zk_op240 (by omega) (by omega)
  by_cases h300 : y < 304
  · exact key 300 4 zk_op300 (by omega) (by omega)
  have hz : zk_rcl.length = 304 := by decide +kernel
  have hn : zk_rcl[y]? = none := List.getElem?_eq_none (by omega)
  unfold zk_rcd at he
  rw [List.getD_eq_getElem?_getD, hn] at he
  cases he
