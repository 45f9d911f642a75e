/-! SPECS 12: a law's worth, by the class -/
def yen (nx : Nat) : yL → List Int32
  | [] => []
  | (t, s) :: X => (if t = [] then s.map yec ++ [-59] else t.map yec ++ -63 :: zi (nx + t.length + s.length + 3) :: (s.map yec ++ [-59])) ++ yen (if t = [] then nx + s.length + 1 else nx + t.length + s.length + 3) X
/-- a law's worth -/
def yWl (l : Nat → Int32) : yL → Int32
  | [] => 0
  | (t, s) :: X => if t = [] then (yrn l s []).headD 0 else if (yrn l t []).headD 0 = 0 then yWl l X else (yrn l s []).headD 0
def yls (s b f t g w : Int32) (i : Nat) : Int32 := match i with | 0 => s | 1 => b | 2 => f | 3 => t | 4 => g | _ => w
def yW (X : yL) (s b f t g w : Int32) : Int32 := yWl (yls s b f t g w) X
def ywf (X : yL) : Prop := ∀ c ∈ X, (c.1 = [] ∨ yty c.1 [] = some [true]) ∧ yty c.2 [] = some [false]
/-- the class's law in its cells -/
def yLC (g : zk_M) (la : Nat) (X : yL) : Prop := 300 ≤ la ∧ (yen 0 X).length < 1000 ∧ ∃ (h : Int32) (st fc : Nat → Int32), g la = zk_ob 1 [.ref (la + 2), .ref (la + 1), .int h] ∧ g (la + 1) = zk_ia 0 64 st ∧ g (la + 2) = zk_ia 0 (yen 0 X).length fc ∧ ∀ j x, (yen 0 X)[j]? = some x → fc j = x
/-- what a law at work may change -/
def yG (g g' : zk_M) : Prop := ∀ la X, yLC g la X → yLC g' la X
theorem yG_r {g : zk_M} : yG g g := fun _ _ h => h
theorem yG_t {g g' g'' : zk_M} (h : yG g g') (h' : yG g' g'') : yG g g'' := fun _ _ z => h' _ _ (h _ _ z)
theorem yS_G {g : zk_M} {P : zp} {la : Nat} {S : List Int32} {X : yL} (hX : yLC g la X) (h : yS g P la S) : yG g P.2.2.2.2 := by
  obtain ⟨hl, -, ⟨f, e, e1, -⟩, ho⟩ := h
  intro la' X' ⟨hl', hb, h', st', fc', e', e1', e2', hf'⟩
  obtain ⟨-, -, h0, st0, fc0, e0, e10, e20, -⟩ := hX
  refine ⟨hl', hb, ?_⟩
  have n1 : la' + 1 ≠ la := by intro z; rw [z, e0] at e1'; cases e1'
  have n2 : la' + 2 ≠ la := by intro z; rw [z, e0] at e2'; cases e2'
  have n3 : la' ≠ la + 1 := by intro z; rw [z, e10] at e'; cases e'
  have n4 : la' + 2 ≠ la + 1 := by intro z; exact n1 (by omega)
  by_cases q : la' = la
  · subst q
    exact ⟨_, f, fc', e, e1, (ho _ (by omega) (by omega)).trans e2', hf'⟩
  · exact ⟨h', st', fc', (ho _ q n3).trans e', (ho _ n1 (by omega)).trans e1', (ho _ n2 n4).trans e2', hf'⟩
section
variable {P : zp} {n : Nat × Nat} {la d : Nat}
set_option maxHeartbeats 1000000 in
theorem zs_lrun {g : zk_M} {l : Nat → Int32} {s b f t gg w : Int32} {m : Nat} {fc : Nat → Int32} (hl : l 0 = s ∧ l 1 = b ∧ l 2 = f ∧ l 3 = t ∧ l 4 = gg ∧ l 5 = w) (hg : g (la + 2) = zk_ia 0 m fc) (hm : m < 1000) :
    ∀ (ops : List (Nat × Nat)) (i k : Nat) (S : List Int32) (ts ts' : List Bool) (P : zp) (v9 v10 : Value), (∀ j o, ops[j]? = some o → fc (i + j) = yec o) → i + ops.length < m → k ≤ i → yS g P la S → ymt S ts → yty ops ts = some ts' →
    ∃ g' k' v9' v10', zk_sf (d + 4) m_Law_worth 11 [.ref la, .int s, .int b, .int f, .int t, .int gg, .int w, .int (zi i), .int (zi k), v9, v10] [] (zp_M P, n) = zk_sf (d + 4) m_Law_worth 11 [.ref la, .int s, .int b, .int f, .int t, .int gg, .int w, .int (zi (i + ops.length)), .int (zi k'), v9', v10'] [] (zp_M (zp_sG P g'), n) ∧ k' ≤ i + ops.length ∧ yS g (zp_sG P g') la (yrn l ops S) ∧ ymt (yrn l ops S) ts'
  | [], i, k, S, ts, ts', P, v9, v10, _, _, hk, hS, hmt, hty => by
    cases hty
    exact ⟨P.2.2.2.2, k, v9, v10, rfl, hk, hS, hmt⟩
  | o :: ops, i, k, S, ts, ts', P, v9, v10, ho, hi, hk, hS, hmt, hty => by
    obtain ⟨t1, h1, h2⟩ := Option.bind_eq_some_iff.mp hty
    rw [List.length_cons] at hi
    obtain ⟨g1, a9, a10, e1, s1⟩ := zs_lstep (n := n) (d := d) (v9 := v9) (v10 := v10) hl hg hm (i := i) (k := k) (by omega) hk (ho 0 o rfl) hS hmt h1
    obtain ⟨g2, k2, b9, b10, e2, kl, s2, m2⟩ := zs_lrun hl hg hm ops (i + 1) (k + 1) _ t1 ts' (zp_sG P g1) a9 a10 (fun j o' hj => by rw [show i + 1 + j = i + (j + 1) by omega]; exact ho (j + 1) o' hj) (by omega) (by omega) s1 (ymt_s hmt h1) h2
    refine ⟨g2, k2, b9, b10, ?_, ?_, s2, m2⟩
    · rw [e1, e2, List.length_cons, show i + 1 + ops.length = i + (ops.length + 1) by omega]
      rfl
    · rw [List.length_cons]; omega
theorem yl_at {a m i : Nat} {f : Nat → Int32} (hl : 300 ≤ a) (e : P.2.2.2.2 a = zk_ia 0 m f) (hi : i < m) (hm : m < 2 ^ 31) : zk_sm d m_SaddlerKnows_at [.ref a, .int (zi i)] (zp_M P, n) = some (some (Value.int (f i)), (zp_M P, n)) := by
  rw [e_SaddlerKnows_at, yl_al hl e, Option.bind_some, yl_ld hl e hi hm, Option.bind_some, if_neg (zi_n (by omega)), if_pos ((zi_nI (by omega) hm).mpr hi)]
theorem ymt_1 {S : List Int32} {b : Bool} (h : ymt S [b]) : ∃ a, S = [a] := by
  match S, h with
  | [a], _ => exact ⟨a, rfl⟩
  | _ :: _ :: _, h => exact h.2.elim
set_option maxHeartbeats 4000000 in
theorem zs_lend {g : zk_M} {s b f t gg w : Int32} {m i k : Nat} {fc : Nat → Int32} {a : Int32} {v9 v10 : Value} (hg : g (la + 2) = zk_ia 0 m fc) (hm : m < 1000) (hi : i < m) (hk : k ≤ i) (he : fc i = -59) (hS : yS g P la [a]) :
    ∃ g', zk_sf (d + 4) m_Law_worth 11 [.ref la, .int s, .int b, .int f, .int t, .int gg, .int w, .int (zi i), .int (zi k), v9, v10] [] (zp_M P, n) = some (some (Value.int a), (zp_M (zp_sG P g'), n)) ∧ yS g (zp_sG P g') la [] := by
  obtain ⟨hR, hV⟩ := zs_cLw (n := n) hS
  have h300 := hS.1
  have hgm : P.2.2.2.2 (la + 2) = zk_ia 0 m fc := (hS.2.2.2 (la + 2) (by omega) (by omega)).trans hg
  have hal := yl_al (n := n) (P := P) (by omega) hgm
  have hld := yl_ld (n := n) (P := P) (by omega) hgm hi (by omega)
  obtain ⟨g', e1, e2⟩ := zs_pop (n := n) (d := d + 3) hS
  rw [e_Law_worth_11, hR, Option.bind_some, hal, Option.bind_some, if_pos ((zi_nI (by omega) (by omega)).mpr (by omega)), if_neg (zi_n (by omega)), Option.bind_some, hal, Option.bind_some, if_pos ((zi_nI (by omega) (by omega)).mpr hi), Option.bind_some, hld, Option.bind_some, he, zi_s, zi_s, hV, if_neg (by decide), if_pos (by decide), Option.bind_some, e1, zs_cI, Option.bind_some]
  exact ⟨g', rfl, e2⟩
set_option maxHeartbeats 4000000 in
theorem zs_ltest {g : zk_M} {s b f t gg w : Int32} {m i k j : Nat} {fc : Nat → Int32} {a : Int32} {v9 v10 : Value} (hg : g (la + 2) = zk_ia 0 m fc) (hm : m < 1000) (hi : i + 1 < m) (hk : k ≤ i) (he : fc i = -63) (hj : fc (i + 1) = zi j) (hS : yS g P la [a]) :
    ∃ g' v9' v10', zk_sf (d + 4) m_Law_worth 11 [.ref la, .int s, .int b, .int f, .int t, .int gg, .int w, .int (zi i), .int (zi k), v9, v10] [] (zp_M P, n) = zk_sf (d + 4) m_Law_worth 11 [.ref la, .int s, .int b, .int f, .int t, .int gg, .int w, .int (zi (if a = 0 then j else i + 2)), .int (zi (k + 1)), v9', v10'] [] (zp_M (zp_sG P g'), n) ∧ yS g (zp_sG P g') la [] := by
  obtain ⟨hR, hV⟩ := zs_cLw (n := n) hS
  have h300 := hS.1
  have hgm : P.2.2.2.2 (la + 2) = zk_ia 0 m fc := (hS.2.2.2 (la + 2) (by omega) (by omega)).trans hg
  have hal := yl_al (n := n) (P := P) (by omega) hgm
  have hld := yl_ld (n := n) (P := P) (by omega) hgm (i := i) (by omega) (by omega)
  obtain ⟨g', e1, e2⟩ := zs_pop (n := n) (d := d + 3) hS
  obtain ⟨hR', hV'⟩ := zs_cLw (n := n) e2
  have hgm' : (zp_sG P g').2.2.2.2 (la + 2) = zk_ia 0 m fc := (e2.2.2.2 (la + 2) (by omega) (by omega)).trans hg
  rw [e_Law_worth_11, hR, Option.bind_some, hal, Option.bind_some, if_pos ((zi_nI (by omega) (by omega)).mpr (by omega)), if_neg (zi_n (by omega)), Option.bind_some, hal, Option.bind_some, if_pos ((zi_nI (by omega) (by omega)).mpr (by omega)), Option.bind_some, hld, Option.bind_some, he, zi_s, zi_s, zi_s, hV, if_neg (by decide), if_neg (by decide), if_pos (by decide), Option.bind_some, e1, zs_cI, Option.bind_some]
  by_cases q : a = 0
  · simp only [if_pos q]
    rw [hR', Option.bind_some, yl_at (by omega) hgm' hi (by omega), zs_cI, Option.bind_some, hj]
    exact ⟨g', _, _, rfl, e2⟩
  · simp only [if_neg q]
    exact ⟨g', _, _, rfl, e2⟩
theorem yS_len {g : zk_M} {S : List Int32} (h : yS g P la S) : (zp_sG P P.2.2.2.2) = P := rfl
set_option maxHeartbeats 2000000 in
theorem zs_lclauses {g : zk_M} {l : Nat → Int32} {s b f t gg w : Int32} {m : Nat} {fc : Nat → Int32} (hl : l 0 = s ∧ l 1 = b ∧ l 2 = f ∧ l 3 = t ∧ l 4 = gg ∧ l 5 = w) (hg : g (la + 2) = zk_ia 0 m fc) (hm : m < 1000) :
    ∀ (X : yL) (i k : Nat) (P : zp) (v9 v10 : Value), ywf X → (∀ j x, (yen i X)[j]? = some x → fc (i + j) = x) → i + (yen i X).length = m → k ≤ i → yS g P la [] →
    ∃ g' S, zk_sf (d + 4) m_Law_worth 11 [.ref la, .int s, .int b, .int f, .int t, .int gg, .int w, .int (zi i), .int (zi k), v9, v10] [] (zp_M P, n) = some (some (Value.int (yWl l X)), (zp_M (zp_sG P g'), n)) ∧ yS g (zp_sG P g') la S
  | [], i, k, P, v9, v10, _, _, hi, hk, hS => by
    obtain ⟨hR, hV⟩ := zs_cLw (n := n) hS
    have h300 := hS.1
    have hgm : P.2.2.2.2 (la + 2) = zk_ia 0 m fc := (hS.2.2.2 (la + 2) (by omega) (by omega)).trans hg
    have hal := yl_al (n := n) (P := P) (by omega) hgm
    have hi' : i = m := hi
    refine ⟨P.2.2.2.2, [], ?_, hS⟩
    rw [e_Law_worth_11, hR, Option.bind_some, hal, Option.bind_some]
    have h2 : ¬ zi i < nI m := fun z => absurd ((zi_nI (by omega) (by omega)).mp z) (by omega)
    by_cases q : zi k < nI m
    · rw [if_pos q, if_neg (zi_n (by omega)), Option.bind_some, hal, Option.bind_some, if_neg h2]; rfl
    · rw [if_neg q]; rfl
  | (t', s') :: X, i, k, P, v9, v10, hw, hf, hi, hk, hS => by
    obtain ⟨w1, w2⟩ := hw (t', s') (List.mem_cons_self ..)
    have hw' : ywf X := fun c hc => hw c (List.mem_cons_of_mem _ hc)
    by_cases q : t' = []
    · subst q
      have hen : yen i (([], s') :: X) = s'.map yec ++ -59 :: yen (i + s'.length + 1) X := by
        show (s'.map yec ++ [-59]) ++ yen (i + s'.length + 1) X = _
        rw [List.append_assoc]; rfl
      rw [hen] at hf hi
      rw [List.length_append, List.length_map, List.length_cons] at hi
      obtain ⟨g1, k1, a9, a10, e1, kl, s1, m1⟩ := zs_lrun (d := d) (n := n) hl hg hm s' i k [] [] [false] P v9 v10 (fun j o hj => hf j _ (by rw [List.getElem?_append_left (by rw [List.length_map]; exact (List.getElem?_eq_some_iff.mp hj).1), List.getElem?_map, hj]; rfl)) (by omega) hk hS trivial w2
      obtain ⟨a, ha⟩ := ymt_1 m1
      rw [ha] at s1
      obtain ⟨g2, e2, s2⟩ := zs_lend (d := d) (n := n) (v9 := a9) (v10 := a10) (s := s) (b := b) (f := f) (t := t) (gg := gg) (w := w) hg hm (i := i + s'.length) (by omega) kl (hf s'.length _ (by rw [List.getElem?_append_right (by rw [List.length_map]; omega), List.length_map, Nat.sub_self]; rfl)) s1
      refine ⟨g2, [], ?_, s2⟩
      rw [e1, e2]
      show _ = some (some (Value.int ((yrn l s' []).headD 0)), _)
      rw [ha]; rfl
    · have w1' : yty t' [] = some [true] := w1.resolve_left q
      have hen : yen i ((t', s') :: X) = t'.map yec ++ -63 :: zi (i + t'.length + s'.length + 3) :: (s'.map yec ++ -59 :: yen (i + t'.length + s'.length + 3) X) := by
        show (if t' = [] then s'.map yec ++ [-59] else t'.map yec ++ -63 :: zi (i + t'.length + s'.length + 3) :: (s'.map yec ++ [-59])) ++ yen (if t' = [] then i + s'.length + 1 else i + t'.length + s'.length + 3) X = _
        rw [if_neg q, if_neg q, List.append_assoc]
        show t'.map yec ++ -63 :: zi (i + t'.length + s'.length + 3) :: ((s'.map yec ++ [-59]) ++ _) = _
        rw [List.append_assoc]; rfl
      rw [hen] at hf hi
      rw [List.length_append, List.length_map, List.length_cons, List.length_cons, List.length_append, List.length_map, List.length_cons] at hi
      have hf1 : fc (i + t'.length) = -63 := hf t'.length _ (by rw [List.getElem?_append_right (by rw [List.length_map]; omega), List.length_map, Nat.sub_self]; rfl)
      have hf2 : fc (i + t'.length + 1) = zi (i + t'.length + s'.length + 3) := by
        rw [Nat.add_assoc i]
        exact hf (t'.length + 1) _ (by rw [List.getElem?_append_right (by rw [List.length_map]; omega), List.length_map, Nat.add_sub_cancel_left]; rfl)
      have hf3 : ∀ j x, (s'.map yec ++ -59 :: yen (i + t'.length + s'.length + 3) X)[j]? = some x → fc (i + t'.length + 2 + j) = x := by
        intro j x hj
        rw [show i + t'.length + 2 + j = i + (t'.length + (2 + j)) by omega]
        refine hf _ _ ?_
        rw [List.getElem?_append_right (by rw [List.length_map]; omega), List.length_map, Nat.add_sub_cancel_left, show 2 + j = j + 1 + 1 by omega, List.getElem?_cons_succ, List.getElem?_cons_succ]
        exact hj
      obtain ⟨g1, k1, a9, a10, e1, kl, s1, m1⟩ := zs_lrun (d := d) (n := n) hl hg hm t' i k [] [] [true] P v9 v10 (fun j o hj => hf j _ (by rw [List.getElem?_append_left (by rw [List.length_map]; exact (List.getElem?_eq_some_iff.mp hj).1), List.getElem?_map, hj]; rfl)) (by omega) hk hS trivial w1'
      obtain ⟨a, ha⟩ := ymt_1 m1
      rw [ha] at s1
      obtain ⟨g2, b9, b10, e2, s2⟩ := zs_ltest (d := d) (n := n) (v9 := a9) (v10 := a10) (s := s) (b := b) (f := f) (t := t) (gg := gg) (w := w) hg hm (i := i + t'.length) (j := i + t'.length + s'.length + 3) (by omega) kl hf1 hf2 s1
      have hv : yWl l ((t', s') :: X) = if a = 0 then yWl l X else (yrn l s' []).headD 0 := by
        show (if t' = [] then _ else if (yrn l t' []).headD 0 = 0 then yWl l X else _) = _
        rw [if_neg q, ha]; rfl
      rw [hv]
      by_cases qa : a = 0
      · rw [if_pos qa]
        rw [if_pos qa] at e2
        obtain ⟨g3, S3, e3, s3⟩ := zs_lclauses hl hg hm X (i + t'.length + s'.length + 3) (k1 + 1) (zp_sG P g2) b9 b10 hw' (fun j x hj => by
          have := hf3 (s'.length + 1 + j) x (by rw [List.getElem?_append_right (by rw [List.length_map]; omega), List.length_map, show s'.length + 1 + j - s'.length = j + 1 by omega, List.getElem?_cons_succ]; exact hj)
          rw [show i + t'.length + s'.length + 3 + j = i + t'.length + 2 + (s'.length + 1 + j) by omega]
          exact this) (by omega) (by omega) s2
        refine ⟨g3, S3, ?_, s3⟩
        rw [e1, show zk_sf (d + 4) m_Law_worth 11 _ [] (zp_M (zp_sG P g1), n) = _ from e2]
        exact e3
      · rw [if_neg qa]
        rw [if_neg qa] at e2
        obtain ⟨g3, k3, c9, c10, e3, kl3, s3, m3⟩ := zs_lrun (d := d) (n := n) hl hg hm s' (i + t'.length + 2) (k1 + 1) [] [] [false] (zp_sG P g2) b9 b10 (fun j o hj => hf3 j _ (by rw [List.getElem?_append_left (by rw [List.length_map]; exact (List.getElem?_eq_some_iff.mp hj).1), List.getElem?_map, hj]; rfl)) (by omega) (by omega) s2 trivial w2
        obtain ⟨a', ha'⟩ := ymt_1 m3
        rw [ha'] at s3
        obtain ⟨g4, e4, s4⟩ := zs_lend (d := d) (n := n) (v9 := c9) (v10 := c10) (s := s) (b := b) (f := f) (t := t) (gg := gg) (w := w) hg hm (i := i + t'.length + 2 + s'.length) (by omega) kl3 (hf3 s'.length _ (by rw [List.getElem?_append_right (by rw [List.length_map]; omega), List.length_map, Nat.sub_self]; rfl)) s3
        refine ⟨g4, [], ?_, s4⟩
        rw [ha']
        exact e1.trans (Eq.trans e2 (Eq.trans e3 e4))
theorem zs_worth {X : yL} {s b f t gg w : Int32} (hX : yLC P.2.2.2.2 la X) (hw : ywf X) : ∃ g', zk_sm (d + 4) m_Law_worth [.ref la, .int s, .int b, .int f, .int t, .int gg, .int w] (zp_M P, n) = some (some (Value.int (yW X s b f t gg w)), (zp_M (zp_sG P g'), n)) ∧ yG P.2.2.2.2 g' := by
  obtain ⟨hl, hm, h, st, fc, e, e1, e2, hf⟩ := hX
  rw [e_Law_worth, yl_pf hl e (by show 2 < 3; decide), Option.bind_some]
  have hS : yS P.2.2.2.2 (zp_sG P (zk_up P.2.2.2.2 la (zk_ob 1 ([Value.ref (la + 2), .ref (la + 1), .int h].set 2 (.int 0))))) la [] := by
    refine ⟨hl, by decide, ⟨st, ?_, ?_, trivial⟩, fun j h1 h2 => ?_⟩
    · show zk_up _ la _ la = _
      rw [zk_up_s]; rfl
    · show zk_up _ la _ (la + 1) = _
      rw [zk_up_n (by omega)]; exact e1
    · show zk_up _ la _ j = _
      rw [zk_up_n h1]
  obtain ⟨g', S, e3, s3⟩ := zs_lclauses (d := d) (n := n) (l := yls s b f t gg w) ⟨rfl, rfl, rfl, rfl, rfl, rfl⟩ e2 hm X 0 0 _ (.retAddr 0) (.retAddr 0) hw (fun j x hj => by rw [Nat.zero_add]; exact hf j x hj) (Nat.zero_add _) (Nat.le_refl _) hS
  exact ⟨g', e3, yS_G ⟨hl, hm, h, st, fc, e, e1, e2, hf⟩ s3⟩
end
