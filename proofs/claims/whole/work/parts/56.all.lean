/-! ===== questions on lines ===== -/
theorem ne20 : ¬ (2 : Int32) = 0 := by decide
theorem ne21 : ¬ (2 : Int32) = 1 := by decide
theorem bool_tf (x : Bool) : x = true ∨ x = false := by cases x <;> simp
/-- what a question may change of the reference: place, height, slope, why -/
def kp (g g' : zG) : Prop := ∀ j, j ≠ 8 → j ≠ 9 → j ≠ 10 → j ≠ 11 → g' j = g j
theorem kp_rf (g : zG) : kp g g := fun _ _ _ _ _ => rfl
theorem kp_tr {a b c : zG} (h1 : kp a b) (h2 : kp b c) : kp a c := fun j x y z u => (h2 j x y z u).trans (h1 j x y z u)
theorem kp_0 {g g' : zG} (h : kp g g') : g' 0 = g 0 := h 0 (by decide) (by decide) (by decide) (by decide)
theorem kp_abs {gB gX gY gN gN' : zG} {h : Nat → Option zG} {b : zB} {hs : List zB} {tx : List Int32} (hA : zAbs gB gX gY h gN b hs tx) (hk : kp gN gN') : zAbs gB gX gY h gN' b hs tx :=
  zAbs_keep hA (fun j hj => hk j (by omega) (by omega) (by omega) (by omega))
/-- where a line of a bench ends -/
def zE (b : zB) (q : zL) : zPt := pth q.1 b.2.1 1000
theorem hasLine_no {g : zG} {n : Nat} (h : g 2 0 = nI n) (hn : n ≤ 8) {x : Int32} (hx : lnum n x = none) : f_X0_hasLine g x = some 0 := by
  rw [hasLine_ev h hn, hx]; rfl
theorem hasLine_yes {g : zG} {n : Nat} (h : g 2 0 = nI n) (hn : n ≤ 8) {x : Int32} {k : Nat} (hx : lnum n x = some k) : f_X0_hasLine g x = some 1 := by
  rw [hasLine_ev h hn, hx]; rfl
theorem isLine_no {g : zG} {n : Nat} (h : g 0 0 = nI n) (hn : n ≤ 8) {x : Int32} (hx : lnum n x = none) : f_X7_isLine g x = some 0 := by
  rw [isLine_ev h hn, hx]; rfl
theorem isLine_yes {g : zG} {n : Nat} (h : g 0 0 = nI n) (hn : n ≤ 8) {x : Int32} {k : Nat} (hx : lnum n x = some k) : f_X7_isLine g x = some 1 := by
  rw [isLine_ev h hn, hx]; rfl
theorem hasThing_no {g : zG} {n : Nat} (h : g 8 0 = nI n) (hn : n ≤ 8) {x : Int32} (hx : lnum n x = none) : f_X0_hasThing g x = some 0 := by
  rw [hasThing_ev h hn, hx]; rfl
theorem hasThing_yes {g : zG} {n : Nat} (h : g 8 0 = nI n) (hn : n ≤ 8) {x : Int32} {k : Nat} (hx : lnum n x = some k) : f_X0_hasThing g x = some 1 := by
  rw [hasThing_ev h hn, hx]; rfl
theorem comes_ev {gR : zG} {l : Nat} (hl : l < 8) {y : Int32} (h : gR 3 l = y) : f_X4_comes gR (nI l) = some (if y = 0 then 1 else 0) := by
  unfold f_X4_comes
  rw [if_neg (nI_pos (by omega)), if_neg (c := (8 : Int32) ≤ nI l) (by rw [l8 (by omega)]; omega), zin_nI hl (by decide), nI_clamp (by omega), h]
  by_cases q : y = 0
  · rw [if_pos q, if_pos q]
  · rw [if_neg q, if_neg q]
theorem path_rng (c u : Int32) : ∀ (th : List zTh) (p h sl : Int32), (path c u th p h sl).2.2.2 = 0 → -999 ≤ (path c u th p h sl).2.1 ∧ (path c u th p h sl).2.1 ≤ 999 := by
  have pe : ∀ (p h sl : Int32), (pend u p h sl).2.2.2 = 0 → -999 ≤ (pend u p h sl).2.1 ∧ (pend u p h sl).2.1 ≤ 999 := by
    intro p h sl
    unfold pend
    intro q
    simp only at q ⊢
    by_cases c : -999 ≤ h + fdI (sl * (u - p)) 1000 ∧ h + fdI (sl * (u - p)) 1000 ≤ 999
    · exact c
    · rw [if_neg c] at q
      exact absurd q (by decide)
  intro th
  induction th with
  | nil => exact pe
  | cons t r ih =>
    intro p h sl
    unfold path
    split
    · exact pe p h sl
    · split
      · split
        · exact ih _ _ _
        · split
          · exact ih _ _ _
          · intro q; exact absurd q ne10
      · intro q; exact absurd q ne20
theorem pth_rng {c u : Int32} {th : List zTh} (h : (pth c th u).2.2.2 = 0) : -999 ≤ (pth c th u).2.1 ∧ (pth c th u).2.1 ≤ 999 := path_rng c u th 0 0 0 h
/-- why is 0, 1 or 2 -/
theorem path_why (c u : Int32) : ∀ (th : List zTh) (p h sl : Int32), (path c u th p h sl).2.2.2 = 0 ∨ (path c u th p h sl).2.2.2 = 1 ∨ (path c u th p h sl).2.2.2 = 2 := by
  have pe : ∀ (p h sl : Int32), (pend u p h sl).2.2.2 = 0 ∨ (pend u p h sl).2.2.2 = 1 ∨ (pend u p h sl).2.2.2 = 2 := by
    intro p h sl
    unfold pend
    simp only
    split
    · exact Or.inl rfl
    · exact Or.inr (Or.inr rfl)
  intro th
  induction th with
  | nil => exact pe
  | cons t r ih =>
    intro p h sl
    unfold path
    split
    · exact pe p h sl
    · split
      · split
        · exact ih _ _ _
        · split
          · exact ih _ _ _
          · exact Or.inr (Or.inl rfl)
      · exact Or.inr (Or.inr rfl)
theorem wpos {gB : zG} {b : zB} (ok : okB b) : ¬ b.2.2 ≤ 0 := by
  rw [inle]
  exact Int32.lt_of_lt_of_le (by decide) ok.2.2.1
theorem cellOf_ev {gB : zG} {b : zB} (hB : rB gB b) (ok : okB b) (y : Int32) : f_X0_cellOf gB y = some (fdI y b.2.2) := by
  unfold f_X0_cellOf
  have h1 := wpos (gB := gB) ok
  have h2 := inle.mp h1
  rw [ilt, Int32.toInt_zero] at h2
  rw [hB.2.2.1, if_neg h1, floorDiv_ev h2, zbind_some]
theorem cell_ev {g : zG} {b : zB} (hS : rS (g 0) b) (ok : okB b) {y : Int32} (hg : g 9 0 = y) (hy : -999 ≤ y ∧ y ≤ 999) : f_X7_cell g = some (fdI y b.2.2) := by
  unfold f_X7_cell
  have h1 : (1 : Int) ≤ b.2.2.toInt := ile_c ok.2.2.1
  have h2 : b.2.2.toInt ≤ (500 : Int) := ile_c ok.2.2.2.1
  have h3 : (-999 : Int) ≤ y.toInt := ile_c hy.1
  rw [z2 (by decide) (by decide), tn2, hS.2.2.1, hg, floor_ev (by omega) (by omega), zbind_some]
theorem upto7 {x : Int32} (h : 0 ≤ x ∧ x ≤ 7) : x = 0 ∨ x = 1 ∨ x = 2 ∨ x = 3 ∨ x = 4 ∨ x = 5 ∨ x = 6 ∨ x = 7 := by
  obtain ⟨j, hj, rfl⟩ := i32_nI (n := 7) h.1 h.2 (by decide)
  rcases (show j = 0 ∨ j = 1 ∨ j = 2 ∨ j = 3 ∨ j = 4 ∨ j = 5 ∨ j = 6 ∨ j = 7 by omega) with rfl | rfl | rfl | rfl | rfl | rfl | rfl | rfl <;> decide
theorem upto6 {x : Int32} (h : 0 ≤ x ∧ x ≤ 6) : x = 0 ∨ x = 1 ∨ x = 2 ∨ x = 3 ∨ x = 4 ∨ x = 5 ∨ x = 6 := by
  obtain ⟨j, hj, rfl⟩ := i32_nI (n := 6) h.1 h.2 (by decide)
  rcases (show j = 0 ∨ j = 1 ∨ j = 2 ∨ j = 3 ∨ j = 4 ∨ j = 5 ∨ j = 6 by omega) with rfl | rfl | rfl | rfl | rfl | rfl | rfl <;> decide
theorem upto2 {x : Int32} (h : 0 ≤ x ∧ x ≤ 2) : x = 0 ∨ x = 1 ∨ x = 2 := by
  obtain ⟨j, hj, rfl⟩ := i32_nI (n := 2) h.1 h.2 (by decide)
  rcases (show j = 0 ∨ j = 1 ∨ j = 2 by omega) with rfl | rfl | rfl <;> decide
theorem pm_lineOf {gB gX gY gN : zG} {h : Nat → Option zG} (hR : zRel gB gX gY h gN) (gM : zG) (gR : zG) (x1 x2 : Int32) : ∃ R R', f_X6_lineOf gM gB gR x1 x2 = some R ∧ f_X7_lineOf gN x1 x2 = some R' ∧ R.1 = R'.1 ∧ zRel gB gX gY h R'.2 := by
  obtain ⟨b, hs, tx, hA⟩ := zRel_abs hR
  have hA0 := hA
  obtain ⟨h1, h2, h3, h4, h5, h6, h7, h8, h9⟩ := hA
  have hn := h1.1
  unfold f_X6_lineOf f_X7_lineOf
  cases hL : lnum b.1.length x1 with
  | none =>
    rw [hasLine_no h3.1 hn hL, zbind_some, if_pos rfl, isLine_no h4.1 hn hL, zbind_some, if_pos rfl]
    exact ⟨_, _, rfl, rfl, rfl, hR⟩
  | some l =>
    obtain ⟨hl, rfl⟩ := lnum_some (by omega) hL
    rw [hasLine_yes h3.1 hn hL, zbind_some, if_neg ne10, isLine_yes h4.1 hn hL, zbind_some, if_neg ne10, within_ev, zbind_some, ite_1, in_ev, zbind_some, ite_1]
    by_cases q : 0 ≤ x2 ∧ x2 ≤ 7
    · rw [if_pos q, if_pos q]
      obtain ⟨t, ht⟩ : ∃ t, b.1[l]? = some t := ⟨_, List.getElem?_eq_getElem hl⟩
      obtain ⟨gR', r1, r2, r3⟩ := follow_ev h3 h1.2.1 hn h1.2.2.2.2.2.1 gR
      obtain ⟨gN', n1, n2⟩ := follows_ev h4 h1 ht (u := 1000) (by decide)
      obtain ⟨a1, a2, a3⟩ := r2 l t hl ht
      obtain ⟨c1, c2⟩ := h3.2.2.2.1 l t ht
      have hz : zRel gB gX gY h gN' := zAbs_rel (kp_abs hA0 n2.1)
      have hS' : rS (gN' 0) b := by rw [kp_0 n2.1]; exact h4
      obtain ⟨m0, m8, m9, m10, m11⟩ := n2
      have z8 : ∀ {β : Type} (k : Option β), zin (nI l) 8 k = k := fun k => zin_nI (by omega) (by decide)
      have cl : (nI l).toNatClampNeg = l := nI_clamp (by omega)
      have ln := lightOf_ev hS' hn ht
      have cn := colour_ev hS' hn ht
      have ce := fun (hy : (pth t.1 b.2.1 1000).2.2.2 = 0) => cell_ev hS' h1 m9 (pth_rng hy)
      have cB := cellOf_ev h3 h1
      rw [r1, zbind_some, comes_ev (by omega) a2, zbind_some, n1, zbind_some]
      have k1 : ∀ (y : Int32) (z : zG), (∃ R R', (some (y, gR') : Option (Int32 × zG)) = some R ∧ (some (y, gN') : Option (Int32 × zG)) = some R' ∧ R.1 = R'.1 ∧ zRel gB gX gY h R'.2) := fun y z => ⟨_, _, rfl, rfl, rfl, hz⟩
      by_cases hy : (pth t.1 b.2.1 1000).2.2.2 = 0
      · rw [if_pos hy]
        rcases upto7 q with rfl | rfl | rfl | rfl | rfl | rfl | rfl | rfl
        · rw [if_pos rfl, z8, cl, c1]
          rw [if_pos (by decide)]
          unfold f_X7_lineOf_63
          rw [if_pos rfl, cn, zbind_some]
          exact k1 _ gN
        · rw [if_neg (by decide), if_pos rfl, z8, cl, c2]
          rw [if_pos (by decide)]
          unfold f_X7_lineOf_63
          rw [if_neg (by decide), if_pos rfl, ln, zbind_some]
          exact k1 _ gN
        · rw [if_neg (by decide), if_neg (by decide), if_pos rfl]
          unfold f_X6_oneIf
          rw [if_neg ne10, zbind_some]
          rw [if_pos (by decide)]
          unfold f_X7_lineOf_63
          rw [if_neg (by decide), if_neg (by decide), if_pos rfl, m11, if_pos hy]
          exact k1 _ gN
        · rw [if_neg (by decide), if_neg (by decide), if_neg (by decide), if_pos rfl, if_neg ne10, z8, cl, (a3 hy).1]
          rw [if_neg (by decide), if_neg (by decide)]
          unfold f_X7_lineOf_45 f_X7_lineOf_57 f_X7_lineOf_63
          rw [m11, if_pos hy, if_pos rfl, if_neg (by decide), if_neg (by decide), if_neg (by decide), if_pos rfl, m9]
          exact k1 _ gN
        · rw [if_neg (by decide), if_neg (by decide), if_neg (by decide), if_neg (by decide), if_pos rfl, if_neg ne10, z8, cl, (a3 hy).2]
          rw [if_neg (by decide), if_neg (by decide)]
          unfold f_X7_lineOf_45 f_X7_lineOf_57 f_X7_lineOf_63
          rw [m11, if_pos hy, if_pos rfl, if_neg (by decide), if_neg (by decide), if_neg (by decide), if_neg (by decide), if_pos rfl, m10]
          exact k1 _ gN
        · rw [if_neg (by decide), if_neg (by decide), if_neg (by decide), if_neg (by decide), if_neg (by decide), if_pos rfl, if_neg ne10, z8, cl, (a3 hy).1, cB, zbind_some]
          rw [if_neg (by decide), if_neg (by decide)]
          unfold f_X7_lineOf_45 f_X7_lineOf_57 f_X7_lineOf_63
          rw [m11, if_pos hy, if_pos rfl, if_neg (by decide), if_neg (by decide), if_neg (by decide), if_neg (by decide), if_neg (by decide), if_pos rfl, ce hy, zbind_some]
          exact k1 _ gN
        · rw [if_neg (by decide), if_neg (by decide), if_neg (by decide), if_neg (by decide), if_neg (by decide), if_neg (by decide), if_pos rfl, if_neg ne10]
          rw [if_neg (by decide), if_pos (by decide)]
          unfold f_X7_lineOf_45 f_X7_lineOf_57 f_X7_lineOf_63
          rw [m11, if_pos hy, if_neg (by decide)]
          exact k1 _ gN
        · rw [if_neg (by decide), if_neg (by decide), if_neg (by decide), if_neg (by decide), if_neg (by decide), if_neg (by decide), if_neg (by decide), if_neg ne10]
          rw [if_neg (by decide), if_pos (by decide)]
          unfold f_X7_lineOf_45 f_X7_lineOf_57 f_X7_lineOf_63
          rw [m11, if_pos hy, if_neg (by decide)]
          exact k1 _ gN
      · rw [if_neg hy]
        rcases upto7 q with rfl | rfl | rfl | rfl | rfl | rfl | rfl | rfl
        · rw [if_pos rfl, z8, cl, c1]
          rw [if_pos (by decide)]
          unfold f_X7_lineOf_63
          rw [if_pos rfl, cn, zbind_some]
          exact k1 _ gN
        · rw [if_neg (by decide), if_pos rfl, z8, cl, c2]
          rw [if_pos (by decide)]
          unfold f_X7_lineOf_63
          rw [if_neg (by decide), if_pos rfl, ln, zbind_some]
          exact k1 _ gN
        · rw [if_neg (by decide), if_neg (by decide), if_pos rfl]
          unfold f_X6_oneIf
          rw [if_pos rfl, zbind_some]
          rw [if_pos (by decide)]
          unfold f_X7_lineOf_63
          rw [if_neg (by decide), if_neg (by decide), if_pos rfl, m11, if_neg hy]
          exact k1 _ gN
        · rw [if_neg (by decide), if_neg (by decide), if_neg (by decide), if_pos rfl, if_pos rfl]
          rw [if_neg (by decide), if_neg (by decide)]
          unfold f_X7_lineOf_45 f_X7_lineOf_57 f_X7_lineOf_63
          rw [m11, if_neg hy, if_neg (by decide)]
          exact k1 _ gN
        · rw [if_neg (by decide), if_neg (by decide), if_neg (by decide), if_neg (by decide), if_pos rfl, if_pos rfl]
          rw [if_neg (by decide), if_neg (by decide)]
          unfold f_X7_lineOf_45 f_X7_lineOf_57 f_X7_lineOf_63
          rw [m11, if_neg hy, if_neg (by decide)]
          exact k1 _ gN
        · rw [if_neg (by decide), if_neg (by decide), if_neg (by decide), if_neg (by decide), if_neg (by decide), if_pos rfl, if_pos rfl]
          rw [if_neg (by decide), if_neg (by decide)]
          unfold f_X7_lineOf_45 f_X7_lineOf_57 f_X7_lineOf_63
          rw [m11, if_neg hy, if_neg (by decide)]
          exact k1 _ gN
        · rw [if_neg (by decide), if_neg (by decide), if_neg (by decide), if_neg (by decide), if_neg (by decide), if_neg (by decide), if_pos rfl, if_pos rfl, z8, cl, a1]
          rw [if_neg (by decide), if_pos (by decide)]
          unfold f_X7_lineOf_45 f_X7_lineOf_57 f_X7_lineOf_63
          rw [m11, if_neg hy, if_pos rfl, if_neg (by decide), if_neg (by decide), if_neg (by decide), if_neg (by decide), if_neg (by decide), if_neg (by decide), if_pos rfl, m8]
          exact k1 _ gN
        · rw [if_neg (by decide), if_neg (by decide), if_neg (by decide), if_neg (by decide), if_neg (by decide), if_neg (by decide), if_neg (by decide), if_pos rfl, z8, cl, a2]
          rw [if_neg (by decide), if_pos (by decide)]
          unfold f_X7_lineOf_45 f_X7_lineOf_57 f_X7_lineOf_63
          rw [m11, if_neg hy, if_pos rfl, if_neg (by decide), if_neg (by decide), if_neg (by decide), if_neg (by decide), if_neg (by decide), if_neg (by decide), if_neg (by decide), m11]
          exact k1 _ gN
    · rw [if_neg q, if_neg q]
      exact ⟨_, _, rfl, rfl, rfl, hR⟩
/-! ===== the height of a line at a place, and slits that let one line through ===== -/
def hgt (b : zB) (q : zL) (u : Int32) : Int32 := if (pth q.1 b.2.1 u).2.2.2 = 0 then (pth q.1 b.2.1 u).2.1 else NFO
theorem heightAt_ev {gB gM gR : zG} {b : zB} (hB : rB gB b) (ok : okB b) {l : Nat} {q : zL} (hl : b.1[l]? = some q) (u : Int32) : ∃ gR', f_X6_heightAt gM gB gR (nI l) u = some (hgt b q u, gR') := by
  have hk := (List.getElem?_eq_some_iff.mp hl).1
  have hn := ok.1
  obtain ⟨g', e1, w1, w2, w3, w4, w5⟩ := followLine_ev hB ok.2.1 ok.1 ok.2.2.2.2.2.1 hl u gR
  unfold f_X6_heightAt hgt
  rw [e1, zbind_some, comes_ev (by omega) w4, zbind_some, ite_1]
  by_cases hy : (pth q.1 b.2.1 u).2.2.2 = 0
  · rw [if_pos hy, if_pos hy, zin_nI (by omega) (by decide), nI_clamp (by omega), (w5 hy).1]
    exact ⟨_, rfl⟩
  · rw [if_neg hy, if_neg hy]
    exact ⟨_, rfl⟩
theorem pm_height {gB gX gY gN : zG} {h : Nat → Option zG} (hR : zRel gB gX gY h gN) (gM : zG) (gR : zG) (x1 x2 : Int32) : ∃ R R', f_X6_height gM gB gR x1 x2 = some R ∧ f_X7_height gN x1 x2 = some R' ∧ R.1 = R'.1 ∧ zRel gB gX gY h R'.2 := by
  obtain ⟨b, hs, tx, hA⟩ := zRel_abs hR
  have hA0 := hA
  obtain ⟨h1, h2, h3, h4, h5, h6, h7, h8, h9⟩ := hA
  have hn := h1.1
  unfold f_X6_height f_X7_height
  cases hL : lnum b.1.length x1 with
  | none =>
    rw [hasLine_no h3.1 hn hL, zbind_some, if_pos rfl, isLine_no h4.1 hn hL, zbind_some, if_pos rfl]
    exact ⟨_, _, rfl, rfl, rfl, hR⟩
  | some l =>
    obtain ⟨hl, rfl⟩ := lnum_some (by omega) hL
    rw [hasLine_yes h3.1 hn hL, zbind_some, if_neg ne10, isLine_yes h4.1 hn hL, zbind_some, if_neg ne10, within_ev, zbind_some, ite_1, in_ev, zbind_some, ite_1]
    by_cases q : 0 ≤ x2 ∧ x2 ≤ 1000
    · rw [if_pos q, if_pos q]
      obtain ⟨t, ht⟩ : ∃ t, b.1[l]? = some t := ⟨_, List.getElem?_eq_getElem hl⟩
      obtain ⟨gR', r1⟩ := heightAt_ev (gM := gM) (gR := gR) h3 h1 ht x2
      obtain ⟨gN', n1, n2⟩ := follows_ev h4 h1 ht q
      have hz : zRel gB gX gY h gN' := zAbs_rel (kp_abs hA0 n2.1)
      rw [r1, zbind_some, n1, zbind_some, n2.2.2.2.2, n2.2.2.1]
      unfold hgt
      by_cases hy : (pth t.1 b.2.1 x2).2.2.2 = 0
      · rw [if_pos hy, if_pos hy]
        exact ⟨_, _, rfl, rfl, rfl, hz⟩
      · rw [if_neg hy, if_neg hy]
        exact ⟨_, _, rfl, rfl, rfl, hz⟩
    · rw [if_neg q, if_neg q]
      exact ⟨_, _, rfl, rfl, rfl, hR⟩
/-- another line has the same height -/
def lkB (b : zB) (l : Nat) (u y : Int32) : Nat → List zL → Bool
  | _, [] => false
  | i, q :: r => (decide (i ≠ l) && decide (hgt b q u = y)) || lkB b l u y (i + 1) r
theorem NFO_out {y : Int32} (h : -999 ≤ y ∧ y ≤ 999) : ¬ NFO = y := by
  intro e
  subst e
  exact absurd h.1 (by decide)
theorem alone_c {gB gM : zG} {b : zB} (hB : rB gB b) (ok : okB b) {l : Nat} (hl : l < 8) (u y : Int32) : ∀ (r : List zL) (i fuel : Nat) (gR : zG), b.1.drop i = r → i ≤ b.1.length → r.length < fuel → ∃ gR', f_X6_alone_58 gM gB fuel (nI l) u y (nI i) gR = some (if lkB b l u y i r then NPO else y, gR') := by
  have hn := ok.1
  intro r
  induction r with
  | nil =>
    intro i fuel gR hd hi hf
    obtain ⟨n, rfl⟩ : ∃ n, fuel = n + 1 := ⟨fuel - 1, by omega⟩
    have hi2 : b.1.length ≤ i := List.drop_eq_nil_iff.mp hd
    refine ⟨gR, ?_⟩
    show f_X6_alone_58_b gM gB (f_X6_alone_58 gM gB n) (nI l) u y (nI i) gR = _
    unfold f_X6_alone_58_b
    rw [hasLine_nI hB.1 hn (by omega), if_neg (c := i < b.1.length) (by omega), zbind_some, if_pos rfl]
    split <;> rfl
  | cons q r ih =>
    intro i fuel gR hd hi hf
    obtain ⟨n, rfl⟩ : ∃ n, fuel = n + 1 := ⟨fuel - 1, by omega⟩
    obtain ⟨e1, e2, e3⟩ := drop_cons hd
    rw [List.length_cons] at hf
    show ∃ gR', f_X6_alone_58_b gM gB (f_X6_alone_58 gM gB n) (nI l) u y (nI i) gR = _
    unfold f_X6_alone_58_b
    rw [if_neg (c := (8 : Int32) ≤ nI i) (by rw [l8 (by omega)]; omega), hasLine_nI hB.1 hn (by omega), if_pos e1, zbind_some, if_neg ne10, nIs]
    unfold lkB
    by_cases hil : i = l
    · subst hil
      rw [if_pos rfl]
      simpa using ih (i + 1) n gR e3 (by omega) (by omega)
    · rw [if_neg (c := nI i = nI l) (fun h => hil ((nI_eq (by omega) (by omega)).mp h))]
      obtain ⟨gR', k1⟩ := heightAt_ev (gM := gM) (gR := gR) hB ok e2 u
      rw [k1, zbind_some]
      by_cases hy : hgt b q u = y
      · rw [if_pos hy]
        exact ⟨gR', by simp [hil, hy]; rfl⟩
      · rw [if_neg hy]
        simpa [hil, hy] using ih (i + 1) n gR' e3 (by omega) (by omega)
theorem alone_m {b : zB} (ok : okB b) {l : Nat} (hl : l < 8) {u y : Int32} (hu : 0 ≤ u ∧ u ≤ 1000) (hy : -999 ≤ y ∧ y ≤ 999) (hf0 : fidx u b.2.1 = none) : ∀ (r : List zL) (i fuel : Nat) (a : Bool) (g : zG), rS (g 0) b → b.1.drop i = r → i ≤ b.1.length → r.length < fuel → ∃ g', f_X7_alone_49 fuel (nI l) u 1 y (if a then 1 else 0) (nI i) g = some (if a || lkB b l u y i r then NPO else y, g') ∧ kp g g' := by
  have hn := ok.1
  intro r
  induction r with
  | nil =>
    intro i fuel a g hS hd hi hf
    obtain ⟨n, rfl⟩ : ∃ n, fuel = n + 1 := ⟨fuel - 1, by omega⟩
    have hi2 : b.1.length ≤ i := List.drop_eq_nil_iff.mp hd
    refine ⟨g, ?_, kp_rf g⟩
    show f_X7_alone_49_b (f_X7_alone_49 n) (nI l) u 1 y (if a then 1 else 0) (nI i) g = _
    unfold f_X7_alone_49_b f_X7_alone_111
    rw [z0 (by decide) (by decide), tn0, hS.1, if_pos ((nI_leI (by omega) (by omega)).mpr hi2), at_ev hS ok.2.1, hf0, zbind_some, if_neg (show ¬ 0 ≤ ix none NFO from by decide), if_neg ne10]
    cases a <;> rfl
  | cons q r ih =>
    intro i fuel a g hS hd hi hf
    obtain ⟨n, rfl⟩ : ∃ n, fuel = n + 1 := ⟨fuel - 1, by omega⟩
    obtain ⟨e1, e2, e3⟩ := drop_cons hd
    rw [List.length_cons] at hf
    obtain ⟨g1, k1, k2⟩ := follows_ev hS ok e2 hu
    have hS1 : rS (g1 0) b := by rw [kp_0 k2.1]; exact hS
    have key : ∀ a' : Bool, (a' = (a || (decide (i ≠ l) && decide (hgt b q u = y)))) → ∃ g', f_X7_alone_49 n (nI l) u 1 y (if a' then 1 else 0) (nI (i + 1)) g1 = some (if a || lkB b l u y i (q :: r) then NPO else y, g') ∧ kp g g' := by
      intro a' ha
      obtain ⟨g', j1, j2⟩ := ih (i + 1) n a' g1 hS1 e3 (by omega) (by omega)
      refine ⟨g', ?_, kp_tr k2.1 j2⟩
      have e : lkB b l u y i (q :: r) = ((decide (i ≠ l) && decide (hgt b q u = y)) || lkB b l u y (i + 1) r) := rfl
      rw [j1, ha, e, Bool.or_assoc]
    show ∃ g', f_X7_alone_49_b (f_X7_alone_49 n) (nI l) u 1 y (if a then 1 else 0) (nI i) g = _ ∧ _
    unfold f_X7_alone_49_b f_X7_alone_98
    rw [z0 (by decide) (by decide), tn0, hS.1, if_neg (fun q => by have := (nI_leI (by omega) (by omega)).mp q; omega), if_neg ne10, k1, zbind_some, nIs]
    cases a with
    | true =>
      rw [if_pos rfl, if_neg ne10]
      exact key true rfl
    | false =>
      rw [if_pos (show (if (false : Bool) = true then (1 : Int32) else 0) = 0 from rfl)]
      by_cases hil : i = l
      · subst hil
        rw [if_pos rfl]
        have := key false (by simp)
        simpa using this
      · rw [if_neg (c := nI i = nI l) (fun h => hil ((nI_eq (by omega) (by omega)).mp h)), k2.2.2.2.2, k2.2.2.1]
        by_cases hw : (pth q.1 b.2.1 u).2.2.2 = 0
        · rw [if_pos hw]
          have eh : hgt b q u = (pth q.1 b.2.1 u).2.1 := by unfold hgt; rw [if_pos hw]
          by_cases hh : (pth q.1 b.2.1 u).2.1 = y
          · rw [if_pos hh]
            exact key true (by rw [eh]; simp [hil, hh])
          · rw [if_neg hh]
            have := key false (by rw [eh]; simp [hh])
            simpa using this
        · rw [if_neg hw]
          have eh : hgt b q u = NFO := by unfold hgt; rw [if_neg hw]
          have := key false (by rw [eh]; simp [NFO_out hy])
          simpa using this
theorem alone_m0 {b : zB} (ok : okB b) {u : Int32} (hf0 : fidx u b.2.1 = none) (n : Nat) (l y i : Int32) {g : zG} (hS : rS (g 0) b) : f_X7_alone_49 (n + 1) l u 0 y 0 i g = some (NFO, g) := by
  show f_X7_alone_49_b (f_X7_alone_49 n) l u 0 y 0 i g = _
  unfold f_X7_alone_49_b f_X7_alone_111
  rw [z0 (by decide) (by decide), at_ev hS ok.2.1, hf0, zbind_some, if_neg (show ¬ 0 ≤ ix none NFO from by decide), if_pos rfl, if_pos rfl, if_pos rfl]
  split <;> rfl
/-- with a thing at the place the answer is NOT_POSSIBLE -/
theorem alone_mN {b : zB} (ok : okB b) {u : Int32} (hu : 0 ≤ u ∧ u ≤ 1000) {k : Nat} (hf0 : fidx u b.2.1 = some k) (l c y : Int32) : ∀ (r : List zL) (i fuel : Nat) (a : Int32) (g : zG), rS (g 0) b → b.1.drop i = r → i ≤ b.1.length → r.length < fuel → ∃ g', f_X7_alone_49 fuel l u c y a (nI i) g = some (NPO, g') ∧ kp g g' := by
  have hn := ok.1
  have hk := fidx_lt hf0
  have h8 := ok.2.1
  have fin : ∀ (a : Int32) (g : zG), rS (g 0) b → f_X7_alone_111 u c y a g = some (NPO, g) := by
    intro a g hS
    unfold f_X7_alone_111
    rw [at_ev hS ok.2.1, hf0, zbind_some, if_pos (show 0 ≤ ix (some k) NFO from nI_pos' (by omega))]
    rfl
  intro r
  induction r with
  | nil =>
    intro i fuel a g hS hd hi hf
    obtain ⟨n, rfl⟩ : ∃ n, fuel = n + 1 := ⟨fuel - 1, by omega⟩
    have hi2 : b.1.length ≤ i := List.drop_eq_nil_iff.mp hd
    refine ⟨g, ?_, kp_rf g⟩
    show f_X7_alone_49_b (f_X7_alone_49 n) l u c y a (nI i) g = _
    unfold f_X7_alone_49_b
    rw [z0 (by decide) (by decide), tn0, hS.1, if_pos ((nI_leI (by omega) (by omega)).mpr hi2), fin a g hS]
  | cons q r ih =>
    intro i fuel a g hS hd hi hf
    obtain ⟨n, rfl⟩ : ∃ n, fuel = n + 1 := ⟨fuel - 1, by omega⟩
    obtain ⟨e1, e2, e3⟩ := drop_cons hd
    rw [List.length_cons] at hf
    obtain ⟨g1, k1, k2⟩ := follows_ev hS ok e2 hu
    have hS1 : rS (g1 0) b := by rw [kp_0 k2.1]; exact hS
    have key : ∀ a' : Int32, ∃ g', f_X7_alone_49 n l u c y a' (nI (i + 1)) g1 = some (NPO, g') ∧ kp g g' := by
      intro a'
      obtain ⟨g', j1, j2⟩ := ih (i + 1) n a' g1 hS1 e3 (by omega) (by omega)
      exact ⟨g', j1, kp_tr k2.1 j2⟩
    show ∃ g', f_X7_alone_49_b (f_X7_alone_49 n) l u c y a (nI i) g = _ ∧ _
    unfold f_X7_alone_49_b f_X7_alone_98
    rw [z0 (by decide) (by decide), tn0, hS.1, if_neg (fun q => by have := (nI_leI (by omega) (by omega)).mp q; omega), nIs]
    by_cases hc : c = 0
    · rw [if_pos hc, fin a g hS]
      exact ⟨g, rfl, kp_rf g⟩
    · rw [if_neg hc, k1, zbind_some]
      split
      · split
        · exact key _
        · split
          · split
            · exact key _
            · exact key _
          · exact key _
      · exact key _
theorem pm_alone {gB gX gY gN : zG} {h : Nat → Option zG} (hR : zRel gB gX gY h gN) (gM : zG) (gR : zG) (x1 x2 : Int32) : ∃ R R', f_X6_alone gM gB gR x1 x2 = some R ∧ f_X7_alone gN x1 x2 = some R' ∧ R.1 = R'.1 ∧ zRel gB gX gY h R'.2 := by
  obtain ⟨b, hs, tx, hA⟩ := zRel_abs hR
  have hA0 := hA
  obtain ⟨h1, h2, h3, h4, h5, h6, h7, h8, h9⟩ := hA
  have hn := h1.1
  unfold f_X6_alone f_X7_alone
  cases hL : lnum b.1.length x1 with
  | none =>
    rw [hasLine_no h3.1 hn hL, zbind_some, if_pos rfl, isLine_no h4.1 hn hL, zbind_some, if_pos rfl]
    exact ⟨_, _, rfl, rfl, rfl, hR⟩
  | some l =>
    obtain ⟨hl, rfl⟩ := lnum_some (by omega) hL
    rw [hasLine_yes h3.1 hn hL, zbind_some, if_neg ne10, isLine_yes h4.1 hn hL, zbind_some, if_neg ne10, within_ev, zbind_some, ite_1, isPlace_ev, zbind_some, ite_1]
    by_cases q : 1 ≤ x2 ∧ x2 ≤ 999
    · rw [if_pos q, if_pos q]
      have hu := place_rng q
      obtain ⟨t, ht⟩ : ∃ t, b.1[l]? = some t := ⟨_, List.getElem?_eq_getElem hl⟩
      obtain ⟨gN', n1, n2⟩ := follows_ev h4 h1 ht hu
      have hS' : rS (gN' 0) b := by rw [kp_0 n2.1]; exact h4
      rw [indexOf_ev h3 h1.2.1, zbind_some, n1, zbind_some]
      unfold f_X7_alone_36
      cases hf : fidx x2 b.2.1 with
      | some k =>
        have hk := fidx_lt hf
        have hk8 := h1.2.1
        rw [if_neg (show ¬ ix (some k) (-1) < 0 from nI_pos (by omega))]
        have fin : ∀ c : Int32, ∃ R R', (some ((-1000000002 : Int32), gR) : Option (Int32 × zG)) = some R ∧ f_X7_alone_49 zfuel (nI l) x2 c (gN' 9 0) (0 : Int32) (0 : Int32) gN' = some R' ∧ R.1 = R'.1 ∧ zRel gB gX gY h R'.2 := by
          intro c
          obtain ⟨g', j1, j2⟩ := alone_mN h1 hu hf (nI l) c (gN' 9 0) b.1 0 zfuel 0 gN' hS' rfl (Nat.zero_le _) (by unfold zfuel; omega)
          exact ⟨_, _, rfl, j1, rfl, zAbs_rel (kp_abs hA0 (kp_tr n2.1 j2))⟩
        split
        · exact fin 1
        · exact fin 0
      | none =>
        rw [if_pos (show ix none (-1) < 0 from by decide)]
        obtain ⟨gR', r1⟩ := heightAt_ev (gM := gM) (gR := gR) h3 h1 ht x2
        rw [r1, zbind_some, n2.2.2.2.2]
        by_cases hy : (pth t.1 b.2.1 x2).2.2.2 = 0
        · have eh : hgt b t x2 = (pth t.1 b.2.1 x2).2.1 := by unfold hgt; rw [if_pos hy]
          have hr := pth_rng hy
          rw [if_pos hy, eh, n2.2.2.1, if_neg (fun e => NFO_out hr e.symm)]
          obtain ⟨gR'', c1⟩ := alone_c (gM := gM) h3 h1 (show l < 8 by omega) x2 (pth t.1 b.2.1 x2).2.1 b.1 0 zfuel gR' rfl (Nat.zero_le _) (by unfold zfuel; omega)
          obtain ⟨g', m1, m2⟩ := alone_m h1 (show l < 8 by omega) hu hr hf b.1 0 zfuel false gN' hS' rfl (Nat.zero_le _) (by unfold zfuel; omega)
          have m1' : f_X7_alone_49 zfuel (nI l) x2 1 (pth t.1 b.2.1 x2).2.1 0 0 gN' = _ := m1
          have c1' : f_X6_alone_58 gM gB zfuel (nI l) x2 (pth t.1 b.2.1 x2).2.1 0 gR' = _ := c1
          rw [c1', m1', Bool.false_or]
          exact ⟨_, _, rfl, rfl, rfl, zAbs_rel (kp_abs hA0 (kp_tr n2.1 m2))⟩
        · have eh : hgt b t x2 = NFO := by unfold hgt; rw [if_neg hy]
          rw [if_neg hy, eh, if_pos (show (NFO, gR').1 = -1000000004 from rfl), show zfuel = 999 + 1 from rfl, alone_m0 h1 hf 999 (nI l) (gN' 9 0) 0 hS']
          exact ⟨_, _, rfl, rfl, rfl, zAbs_rel (kp_abs hA0 n2.1)⟩
    · rw [if_neg q, if_neg q]
      exact ⟨_, _, rfl, rfl, rfl, hR⟩
/-! ===== sets of lines as bits, and sums of lights ===== -/
def setB (p : zL → Bool) : List zL → Nat
  | [] => 0
  | q :: r => (if p q then 1 else 0) + 2 * setB p r
def sm (f : zL → Int32) : List zL → Int32
  | [] => 0
  | q :: r => f q + sm f r
theorem setB_lt (p : zL → Bool) : ∀ ls : List zL, setB p ls < 2 ^ ls.length := by
  intro ls
  induction ls with
  | nil => exact Nat.one_pos
  | cons q r ih =>
    unfold setB
    rw [List.length_cons, Nat.pow_succ]
    split <;> omega
theorem setB_256 (p : zL → Bool) {ls : List zL} (hn : ls.length ≤ 8) : setB p ls < 256 := by
  have h1 := setB_lt p ls
  have h2 : 2 ^ ls.length ≤ 2 ^ 8 := Nat.pow_le_pow_right (by decide) hn
  omega
theorem setB_congr {p p' : zL → Bool} : ∀ {ls : List zL}, (∀ q ∈ ls, p q = p' q) → setB p ls = setB p' ls := by
  intro ls
  induction ls with
  | nil => intro _; rfl
  | cons q r ih =>
    intro h
    unfold setB
    rw [h q List.mem_cons_self, ih (fun x hx => h x (List.mem_cons_of_mem _ hx))]
theorem sm_congr {f f' : zL → Int32} : ∀ {ls : List zL}, (∀ q ∈ ls, f q = f' q) → sm f ls = sm f' ls := by
  intro ls
  induction ls with
  | nil => intro _; rfl
  | cons q r ih =>
    intro h
    unfold sm
    rw [h q List.mem_cons_self, ih (fun x hx => h x (List.mem_cons_of_mem _ hx))]
theorem sm_add (f f' : zL → Int32) : ∀ ls : List zL, sm (fun q => f q + f' q) ls = sm f ls + sm f' ls := by
  intro ls
  induction ls with
  | nil => rfl
  | cons q r ih =>
    unfold sm
    rw [ih]
    ac_rfl
theorem or_bit {m i : Nat} (hi : i < 8) (hm : m < 2 ^ i) : nI m ||| ((1 : Int32) <<< (nI i &&& 31)) = nI (m + 2 ^ i) := by
  have key : ∀ i : Fin 8, ∀ m : Fin 256, m.val < 2 ^ i.val → nI m.val ||| ((1 : Int32) <<< (nI i.val &&& 31)) = nI (m.val + 2 ^ i.val) := by decide +kernel
  have h2 : 2 ^ i ≤ 2 ^ 8 := Nat.pow_le_pow_right (by decide) (by omega)
  exact key ⟨i, hi⟩ ⟨m, by omega⟩ hm
theorem bit_at {m l : Nat} (hl : l < 8) (hm : m < 256) : ((nI m >>> (nI l &&& 31)) &&& (1 : Int32)) = nI (m / 2 ^ l % 2) := by
  have key : ∀ l : Fin 8, ∀ m : Fin 256, ((nI m.val >>> (nI l.val &&& 31)) &&& (1 : Int32)) = nI (m.val / 2 ^ l.val % 2) := by decide +kernel
  exact key ⟨l, hl⟩ ⟨m, hm⟩
theorem setB_bit (p : zL → Bool) : ∀ (ls : List zL) (l : Nat) (q : zL), ls[l]? = some q → setB p ls / 2 ^ l % 2 = if p q then 1 else 0 := by
  intro ls
  induction ls with
  | nil => intro l q h; simp at h
  | cons x r ih =>
    intro l q h
    unfold setB
    cases l with
    | zero =>
      simp at h
      subst h
      rw [Nat.pow_zero, Nat.div_one]
      rcases bool_tf (p x) with h | h
      · rw [h, if_pos rfl, if_pos rfl]; omega
      · rw [h, if_neg (by decide), if_neg (by decide)]; omega
    | succ l =>
      rw [List.getElem?_cons_succ] at h
      have e : ((if p x then 1 else 0) + 2 * setB p r) / 2 ^ (l + 1) = setB p r / 2 ^ l := by
        rw [Nat.pow_succ, Nat.mul_comm, ← Nat.div_div_eq_div_mul]
        congr 1
        split <;> omega
      rw [e, ih l q h]
theorem bit_yes {p : zL → Bool} {ls : List zL} {l : Nat} {q : zL} (hn : ls.length ≤ 8) (hq : ls[l]? = some q) (h : p q = true) : ((nI (setB p ls) >>> (nI l &&& 31)) &&& (1 : Int32)) = 1 := by
  have hl := (List.getElem?_eq_some_iff.mp hq).1
  rw [bit_at (by omega) (setB_256 p hn), setB_bit p ls l q hq, h]
  rfl
theorem bit_no {p : zL → Bool} {ls : List zL} {l : Nat} {q : zL} (hn : ls.length ≤ 8) (hq : ls[l]? = some q) (h : p q = false) : ((nI (setB p ls) >>> (nI l &&& 31)) &&& (1 : Int32)) = 0 := by
  have hl := (List.getElem?_eq_some_iff.mp hq).1
  rw [bit_at (by omega) (setB_256 p hn), setB_bit p ls l q hq, h]
  rfl
theorem setB_t {p : zL → Bool} {q : zL} (h : p q = true) (m i : Nat) (r : List zL) : m + 2 ^ i + 2 ^ (i + 1) * setB p r = m + 2 ^ i * setB p (q :: r) := by
  have e : setB p (q :: r) = 1 + 2 * setB p r := by
    show (if p q then 1 else 0) + 2 * setB p r = _
    rw [h, if_pos rfl]
  rw [e]
  generalize setB p r = s
  have e2 : 2 ^ (i + 1) * s = 2 ^ i * (2 * s) := by rw [Nat.pow_succ, Nat.mul_assoc]
  rw [e2, Nat.mul_add, Nat.mul_one]
  omega
theorem setB_f {p : zL → Bool} {q : zL} (h : p q = false) (m i : Nat) (r : List zL) : m + 2 ^ (i + 1) * setB p r = m + 2 ^ i * setB p (q :: r) := by
  have e : setB p (q :: r) = 2 * setB p r := by
    show (if p q then 1 else 0) + 2 * setB p r = _
    rw [h, if_neg (by decide), Nat.zero_add]
  rw [e]
  generalize setB p r = s
  rw [Nat.pow_succ, Nat.mul_assoc]
theorem pw2 {m i : Nat} (h : m < 2 ^ i) : m + 2 ^ i < 2 ^ (i + 1) := by
  rw [Nat.pow_succ]; omega
theorem pw2' {m i : Nat} (h : m < 2 ^ i) : m < 2 ^ (i + 1) := by
  rw [Nat.pow_succ]; omega
/-- does the line come to the screen -/
def cm (b : zB) (q : zL) : Bool := decide ((zE b q).2.2.2 = 0)
theorem cm_t {b : zB} {q : zL} : cm b q = true ↔ (zE b q).2.2.2 = 0 := by unfold cm; exact decide_eq_true_iff
theorem cm_f {b : zB} {q : zL} : cm b q = false ↔ ¬ (zE b q).2.2.2 = 0 := by unfold cm; exact decide_eq_false_iff_not
def rayC (gR : zG) (b : zB) : Prop := rayR gR b.1 b.2.1 1000 b.1.length ∧ gR 4 0 = nI b.1.length
theorem ray_follow {gB : zG} {b : zB} (hB : rB gB b) (ok : okB b) (g : zG) : ∃ g', f_X4_follow g gB = some g' ∧ rayC g' b := by
  obtain ⟨g', h1, h2, h3⟩ := follow_ev hB ok.2.1 ok.1 ok.2.2.2.2.2.1 g
  exact ⟨g', h1, h2, h3⟩
theorem ray_at {gR : zG} {b : zB} (hr : rayC gR b) {l : Nat} {q : zL} (hq : b.1[l]? = some q) : gR 2 l = (zE b q).1 ∧ gR 3 l = (zE b q).2.2.2 ∧ (cm b q = true → gR 0 l = (zE b q).2.1 ∧ gR 1 l = (zE b q).2.2.1) := by
  obtain ⟨a1, a2, a3⟩ := hr.1 l q (List.getElem?_eq_some_iff.mp hq).1 hq
  exact ⟨a1, a2, fun h => a3 (cm_t.mp h)⟩
theorem ray_yes {gR : zG} {b : zB} (hr : rayC gR b) (ok : okB b) {l : Nat} {q : zL} (hq : b.1[l]? = some q) (h : cm b q = true) : f_X4_comes gR (nI l) = some 1 := by
  have hl := (List.getElem?_eq_some_iff.mp hq).1
  have hn := ok.1
  rw [comes_ev (by omega) (ray_at hr hq).2.1, if_pos (cm_t.mp h)]
theorem ray_no {gR : zG} {b : zB} (hr : rayC gR b) (ok : okB b) {l : Nat} {q : zL} (hq : b.1[l]? = some q) (h : cm b q = false) : f_X4_comes gR (nI l) = some 0 := by
  have hl := (List.getElem?_eq_some_iff.mp hq).1
  have hn := ok.1
  rw [comes_ev (by omega) (ray_at hr hq).2.1, if_neg (cm_f.mp h)]
theorem has_nI {g : zG} {n k : Nat} (h : g 4 0 = nI n) (hn : n ≤ 8) (hk : k < 2 ^ 31) : f_X4_has g (nI k) = some (if k < n then 1 else 0) := by
  have := hasLine_nI (g := fun k => if k = 2 then g 4 else g k) (n := n) (by simpa using h) hn hk
  simpa [f_X0_hasLine, f_X4_has] using this
/-- one step of a loop over the lines: the class's side -/
theorem linesOn_loop {gR : zG} {b : zB} (ok : okB b) (hr : rayC gR b) : ∀ (r : List zL) (i fuel m : Nat), b.1.drop i = r → i ≤ b.1.length → r.length < fuel → m < 2 ^ i → f_X4_linesOnScreen_4 gR fuel (nI m) (nI i) = some (nI (m + 2 ^ i * setB (cm b) r)) := by
  have hn := ok.1
  intro r
  induction r with
  | nil =>
    intro i fuel m hd hi hf hm
    obtain ⟨n, rfl⟩ : ∃ n, fuel = n + 1 := ⟨fuel - 1, by omega⟩
    have hi2 : b.1.length ≤ i := List.drop_eq_nil_iff.mp hd
    show f_X4_linesOnScreen_4_b gR (f_X4_linesOnScreen_4 gR n) (nI m) (nI i) = _
    unfold f_X4_linesOnScreen_4_b
    rw [has_nI hr.2 hn (by omega), if_neg (c := i < b.1.length) (by omega), zbind_some, if_pos rfl, show setB (cm b) [] = 0 from rfl, Nat.mul_zero, Nat.add_zero]
    split <;> rfl
  | cons q r ih =>
    intro i fuel m hd hi hf hm
    obtain ⟨n, rfl⟩ : ∃ n, fuel = n + 1 := ⟨fuel - 1, by omega⟩
    obtain ⟨e1, e2, e3⟩ := drop_cons hd
    rw [List.length_cons] at hf
    show f_X4_linesOnScreen_4_b gR (f_X4_linesOnScreen_4 gR n) (nI m) (nI i) = _
    unfold f_X4_linesOnScreen_4_b
    rw [if_neg (c := (8 : Int32) ≤ nI i) (by rw [l8 (by omega)]; omega), has_nI hr.2 hn (by omega), if_pos e1, zbind_some, if_neg ne10, nIs]
    rcases bool_tf (cm b q) with hc | hc
    · rw [ray_yes hr ok e2 hc, zbind_some, if_neg ne10, or_bit (by omega) hm, ih (i + 1) n _ e3 (by omega) (by omega) (pw2 hm), setB_t hc]
    · rw [ray_no hr ok e2 hc, zbind_some, if_pos rfl, ih (i + 1) n _ e3 (by omega) (by omega) (pw2' hm), setB_f hc]
theorem linesOn_ev {gR : zG} {b : zB} (ok : okB b) (hr : rayC gR b) : f_X4_linesOnScreen gR = some (nI (setB (cm b) b.1)) := by
  unfold f_X4_linesOnScreen
  have hn := ok.1
  have := linesOn_loop ok hr b.1 0 zfuel 0 rfl (Nat.zero_le _) (by unfold zfuel; omega) (by decide)
  rw [Nat.zero_add, Nat.pow_zero, Nat.one_mul] at this
  exact this
/-- the lines that a set holds -/
theorem coming_loop {b : zB} (ok : okB b) {u : Int32} (hu : 0 ≤ u ∧ u ≤ 1000) : ∀ (r : List zL) (i fuel m : Nat) (g : zG), rS (g 0) b → b.1.drop i = r → i ≤ b.1.length → r.length < fuel → m < 2 ^ i → ∃ g', f_X7_coming_4 fuel u (nI m) (nI i) g = some (nI (m + 2 ^ i * setB (fun q => decide ((pth q.1 b.2.1 u).2.2.2 = 0)) r), g') ∧ kp g g' := by
  have hn := ok.1
  intro r
  induction r with
  | nil =>
    intro i fuel m g hS hd hi hf hm
    obtain ⟨n, rfl⟩ : ∃ n, fuel = n + 1 := ⟨fuel - 1, by omega⟩
    have hi2 : b.1.length ≤ i := List.drop_eq_nil_iff.mp hd
    refine ⟨g, ?_, kp_rf g⟩
    show f_X7_coming_4_b (f_X7_coming_4 n) u (nI m) (nI i) g = _
    unfold f_X7_coming_4_b
    rw [z0 (by decide) (by decide), tn0, hS.1, if_pos ((nI_leI (by omega) (by omega)).mpr hi2), show setB (fun q => decide ((pth q.1 b.2.1 u).2.2.2 = 0)) [] = 0 from rfl, Nat.mul_zero, Nat.add_zero]
  | cons q r ih =>
    intro i fuel m g hS hd hi hf hm
    obtain ⟨n, rfl⟩ : ∃ n, fuel = n + 1 := ⟨fuel - 1, by omega⟩
    obtain ⟨e1, e2, e3⟩ := drop_cons hd
    rw [List.length_cons] at hf
    obtain ⟨g1, k1, k2⟩ := follows_ev hS ok e2 hu
    have hS1 : rS (g1 0) b := by rw [kp_0 k2.1]; exact hS
    show ∃ g', f_X7_coming_4_b (f_X7_coming_4 n) u (nI m) (nI i) g = _ ∧ _
    unfold f_X7_coming_4_b
    rw [z0 (by decide) (by decide), tn0, hS.1, if_neg (fun q => by have := (nI_leI (by omega) (by omega)).mp q; omega), k1, zbind_some, nIs, k2.2.2.2.2]
    by_cases hw : (pth q.1 b.2.1 u).2.2.2 = 0
    · obtain ⟨g', j1, j2⟩ := ih (i + 1) n (m + 2 ^ i) g1 hS1 e3 (by omega) (by omega) (pw2 hm)
      rw [if_pos hw, or_bit (by omega) hm, j1, setB_t (p := fun q => decide ((pth q.1 b.2.1 u).2.2.2 = 0)) (decide_eq_true hw)]
      exact ⟨g', rfl, kp_tr k2.1 j2⟩
    · obtain ⟨g', j1, j2⟩ := ih (i + 1) n m g1 hS1 e3 (by omega) (by omega) (pw2' hm)
      rw [if_neg hw, Int32.or_zero, j1, setB_f (p := fun q => decide ((pth q.1 b.2.1 u).2.2.2 = 0)) (decide_eq_false hw)]
      exact ⟨g', rfl, kp_tr k2.1 j2⟩
theorem coming_ev {b : zB} (ok : okB b) {u : Int32} (hu : 0 ≤ u ∧ u ≤ 1000) {g : zG} (hS : rS (g 0) b) : ∃ g', f_X7_coming g u = some (nI (setB (fun q => decide ((pth q.1 b.2.1 u).2.2.2 = 0)) b.1), g') ∧ kp g g' := by
  unfold f_X7_coming
  have hn := ok.1
  have := coming_loop ok hu b.1 0 zfuel 0 g hS rfl (Nat.zero_le _) (by unfold zfuel; omega) (by decide)
  rw [Nat.zero_add, Nat.pow_zero, Nat.one_mul] at this
  exact this
theorem coming_s {b : zB} (ok : okB b) {g : zG} (hS : rS (g 0) b) : ∃ g', f_X7_coming g (1000 : Int32) = some (nI (setB (cm b) b.1), g') ∧ kp g g' := coming_ev ok (by decide) hS
theorem lightIn_loop {b : zB} (ok : okB b) {g : zG} (hS : rS (g 0) b) (p : zL → Bool) : ∀ (r : List zL) (i fuel : Nat) (a : Int32), b.1.drop i = r → i ≤ b.1.length → r.length < fuel → f_X7_lightIn_4 g fuel (nI (setB p b.1)) a (nI i) = some (a + sm (fun q => if p q then q.2 else 0) r) := by
  have hn := ok.1
  intro r
  induction r with
  | nil =>
    intro i fuel a hd hi hf
    obtain ⟨n, rfl⟩ : ∃ n, fuel = n + 1 := ⟨fuel - 1, by omega⟩
    have hi2 : b.1.length ≤ i := List.drop_eq_nil_iff.mp hd
    show f_X7_lightIn_4_b g (f_X7_lightIn_4 g n) (nI (setB p b.1)) a (nI i) = _
    unfold f_X7_lightIn_4_b
    rw [z0 (by decide) (by decide), tn0, hS.1, if_pos ((nI_leI (by omega) (by omega)).mpr hi2), show sm (fun q => if p q then q.2 else 0) [] = 0 from rfl, Int32.add_zero]
  | cons q r ih =>
    intro i fuel a hd hi hf
    obtain ⟨n, rfl⟩ : ∃ n, fuel = n + 1 := ⟨fuel - 1, by omega⟩
    obtain ⟨e1, e2, e3⟩ := drop_cons hd
    rw [List.length_cons] at hf
    show f_X7_lightIn_4_b g (f_X7_lightIn_4 g n) (nI (setB p b.1)) a (nI i) = _
    unfold f_X7_lightIn_4_b
    rw [z0 (by decide) (by decide), tn0, hS.1, if_neg (fun q => by have := (nI_leI (by omega) (by omega)).mp q; omega), nIs]
    have es : sm (fun q => if p q then q.2 else 0) (q :: r) = (if p q then q.2 else 0) + sm (fun q => if p q then q.2 else 0) r := rfl
    rcases bool_tf (p q) with hc | hc
    · rw [bit_yes hn e2 hc, if_pos rfl, lightOf_ev hS hn e2, zbind_some, ih (i + 1) n _ e3 (by omega) (by omega), es, hc, if_pos rfl, Int32.add_assoc]
    · rw [bit_no hn e2 hc, if_neg (by decide), ih (i + 1) n _ e3 (by omega) (by omega), es, hc, if_neg (by decide), Int32.add_assoc]
theorem lightIn_ev {b : zB} (ok : okB b) {g : zG} (hS : rS (g 0) b) (p : zL → Bool) : f_X7_lightIn g (nI (setB p b.1)) = some (sm (fun q => if p q then q.2 else 0) b.1) := by
  unfold f_X7_lightIn
  have hn := ok.1
  have := lightIn_loop ok hS p b.1 0 zfuel 0 rfl (Nat.zero_le _) (by unfold zfuel; omega)
  rw [Int32.zero_add] at this
  exact this
theorem lightOn_loop {gB gR : zG} {b : zB} (hB : rB gB b) (ok : okB b) (hr : rayC gR b) : ∀ (r : List zL) (i fuel : Nat) (a : Int32), b.1.drop i = r → i ≤ b.1.length → r.length < fuel → f_X4_lightOnScreen_4 gR gB fuel a (nI i) = some (a + sm (fun q => if cm b q then q.2 else 0) r) := by
  have hn := ok.1
  intro r
  induction r with
  | nil =>
    intro i fuel a hd hi hf
    obtain ⟨n, rfl⟩ : ∃ n, fuel = n + 1 := ⟨fuel - 1, by omega⟩
    have hi2 : b.1.length ≤ i := List.drop_eq_nil_iff.mp hd
    show f_X4_lightOnScreen_4_b gR gB (f_X4_lightOnScreen_4 gR gB n) a (nI i) = _
    unfold f_X4_lightOnScreen_4_b
    rw [hasLine_nI hB.1 hn (by omega), if_neg (c := i < b.1.length) (by omega), zbind_some, if_pos rfl, show sm (fun q => if cm b q then q.2 else 0) [] = 0 from rfl, Int32.add_zero]
    split <;> rfl
  | cons q r ih =>
    intro i fuel a hd hi hf
    obtain ⟨n, rfl⟩ : ∃ n, fuel = n + 1 := ⟨fuel - 1, by omega⟩
    obtain ⟨e1, e2, e3⟩ := drop_cons hd
    rw [List.length_cons] at hf
    show f_X4_lightOnScreen_4_b gR gB (f_X4_lightOnScreen_4 gR gB n) a (nI i) = _
    unfold f_X4_lightOnScreen_4_b
    rw [if_neg (c := (8 : Int32) ≤ nI i) (by rw [l8 (by omega)]; omega), hasLine_nI hB.1 hn (by omega), if_pos e1, zbind_some, if_neg ne10, nIs]
    have es : sm (fun q => if cm b q then q.2 else 0) (q :: r) = (if cm b q then q.2 else 0) + sm (fun q => if cm b q then q.2 else 0) r := rfl
    rcases bool_tf (cm b q) with hc | hc
    · rw [ray_yes hr ok e2 hc, zbind_some, if_neg ne10, zin_nI (by omega) (by decide), nI_clamp (by omega), (hB.2.2.2.1 i q e2).2, ih (i + 1) n _ e3 (by omega) (by omega), es, hc, if_pos rfl, Int32.add_assoc]
    · rw [ray_no hr ok e2 hc, zbind_some, if_pos rfl, ih (i + 1) n _ e3 (by omega) (by omega), es, hc, if_neg (by decide), Int32.zero_add]
theorem lightOn_ev {gB gR : zG} {b : zB} (hB : rB gB b) (ok : okB b) (hr : rayC gR b) : f_X4_lightOnScreen gR gB = some (sm (fun q => if cm b q then q.2 else 0) b.1) := by
  unfold f_X4_lightOnScreen
  have hn := ok.1
  have := lightOn_loop hB ok hr b.1 0 zfuel 0 rfl (Nat.zero_le _) (by unfold zfuel; omega)
  rw [Int32.zero_add] at this
  exact this
/-- the light of a line that is lost at a place -/
def lo (b : zB) (p : Int32) (q : zL) : Int32 := if ¬ (zE b q).2.2.2 = 0 ∧ (zE b q).1 = p then q.2 else 0
theorem lostC_loop {gB gR : zG} {b : zB} (hB : rB gB b) (ok : okB b) (hr : rayC gR b) (p : Int32) : ∀ (r : List zL) (i fuel : Nat) (a : Int32), b.1.drop i = r → i ≤ b.1.length → r.length < fuel → f_X4_lightLostAt_5 gR gB fuel p a (nI i) = some (a + sm (lo b p) r) := by
  have hn := ok.1
  intro r
  induction r with
  | nil =>
    intro i fuel a hd hi hf
    obtain ⟨n, rfl⟩ : ∃ n, fuel = n + 1 := ⟨fuel - 1, by omega⟩
    have hi2 : b.1.length ≤ i := List.drop_eq_nil_iff.mp hd
    show f_X4_lightLostAt_5_b gR gB (f_X4_lightLostAt_5 gR gB n) p a (nI i) = _
    unfold f_X4_lightLostAt_5_b
    rw [hasLine_nI hB.1 hn (by omega), if_neg (c := i < b.1.length) (by omega), zbind_some, if_pos rfl, show sm (lo b p) [] = 0 from rfl, Int32.add_zero]
    split <;> rfl
  | cons q r ih =>
    intro i fuel a hd hi hf
    obtain ⟨n, rfl⟩ : ∃ n, fuel = n + 1 := ⟨fuel - 1, by omega⟩
    obtain ⟨e1, e2, e3⟩ := drop_cons hd
    rw [List.length_cons] at hf
    show f_X4_lightLostAt_5_b gR gB (f_X4_lightLostAt_5 gR gB n) p a (nI i) = _
    unfold f_X4_lightLostAt_5_b
    rw [if_neg (c := (8 : Int32) ≤ nI i) (by rw [l8 (by omega)]; omega), hasLine_nI hB.1 hn (by omega), if_pos e1, zbind_some, if_neg ne10, nIs]
    have es : sm (lo b p) (q :: r) = lo b p q + sm (lo b p) r := rfl
    rcases bool_tf (cm b q) with hc | hc
    · have e0 : lo b p q = 0 := by unfold lo; rw [if_neg (fun h => h.1 (cm_t.mp hc))]
      rw [ray_yes hr ok e2 hc, zbind_some, if_neg ne10, ih (i + 1) n _ e3 (by omega) (by omega), es, e0, Int32.zero_add]
    · rw [ray_no hr ok e2 hc, zbind_some, if_pos rfl, zin_nI (by omega) (by decide), zin_nI (by omega) (by decide), nI_clamp (by omega), (ray_at hr e2).1, (hB.2.2.2.1 i q e2).2]
      by_cases hp : (zE b q).1 = p
      · have e0 : lo b p q = q.2 := by unfold lo; rw [if_pos ⟨cm_f.mp hc, hp⟩]
        rw [if_pos hp, ih (i + 1) n _ e3 (by omega) (by omega), es, e0, Int32.add_assoc]
      · have e0 : lo b p q = 0 := by unfold lo; rw [if_neg (fun h => hp h.2)]
        rw [if_neg hp, ih (i + 1) n _ e3 (by omega) (by omega), es, e0, Int32.zero_add]
theorem lostC_ev {gB gR : zG} {b : zB} (hB : rB gB b) (ok : okB b) (hr : rayC gR b) (p : Int32) : f_X4_lightLostAt gR gB p = some (sm (lo b p) b.1) := by
  unfold f_X4_lightLostAt
  have hn := ok.1
  have := lostC_loop hB ok hr p b.1 0 zfuel 0 rfl (Nat.zero_le _) (by unfold zfuel; omega)
  rw [Int32.zero_add] at this
  exact this
theorem lostM_loop {b : zB} (ok : okB b) (p : Int32) : ∀ (r : List zL) (i fuel : Nat) (a : Int32) (g : zG), rS (g 0) b → b.1.drop i = r → i ≤ b.1.length → r.length < fuel → ∃ g', f_X7_lostAt_4 fuel p a (nI i) g = some (a + sm (lo b p) r, g') ∧ kp g g' := by
  have hn := ok.1
  intro r
  induction r with
  | nil =>
    intro i fuel a g hS hd hi hf
    obtain ⟨n, rfl⟩ : ∃ n, fuel = n + 1 := ⟨fuel - 1, by omega⟩
    have hi2 : b.1.length ≤ i := List.drop_eq_nil_iff.mp hd
    refine ⟨g, ?_, kp_rf g⟩
    show f_X7_lostAt_4_b (f_X7_lostAt_4 n) p a (nI i) g = _
    unfold f_X7_lostAt_4_b
    rw [z0 (by decide) (by decide), tn0, hS.1, if_pos ((nI_leI (by omega) (by omega)).mpr hi2), show sm (lo b p) [] = 0 from rfl, Int32.add_zero]
  | cons q r ih =>
    intro i fuel a g hS hd hi hf
    obtain ⟨n, rfl⟩ : ∃ n, fuel = n + 1 := ⟨fuel - 1, by omega⟩
    obtain ⟨e1, e2, e3⟩ := drop_cons hd
    rw [List.length_cons] at hf
    obtain ⟨g1, k1, k2⟩ := follows_ev hS ok e2 (u := 1000) (by decide)
    have hS1 : rS (g1 0) b := by rw [kp_0 k2.1]; exact hS
    have es : sm (lo b p) (q :: r) = lo b p q + sm (lo b p) r := rfl
    have key : ∀ a' : Int32, a' = a + lo b p q → ∃ g', f_X7_lostAt_4 n p a' (nI (i + 1)) g1 = some (a + sm (lo b p) (q :: r), g') ∧ kp g g' := by
      intro a' ha
      obtain ⟨g', j1, j2⟩ := ih (i + 1) n a' g1 hS1 e3 (by omega) (by omega)
      refine ⟨g', ?_, kp_tr k2.1 j2⟩
      rw [j1, es, ha, Int32.add_assoc]
    show ∃ g', f_X7_lostAt_4_b (f_X7_lostAt_4 n) p a (nI i) g = _ ∧ _
    unfold f_X7_lostAt_4_b f_X7_lostAt_46
    rw [z0 (by decide) (by decide), tn0, hS.1, if_neg (fun q => by have := (nI_leI (by omega) (by omega)).mp q; omega), k1, zbind_some, nIs, k2.2.2.2.2, k2.2.1, lightOf_ev hS1 hn e2, zbind_some]
    have ez : pth q.1 b.2.1 1000 = zE b q := rfl
    rw [ez]
    by_cases hw : (zE b q).2.2.2 = 0
    · have e0 : lo b p q = 0 := by unfold lo; rw [if_neg (fun h => h.1 hw)]
      rw [if_pos (by rw [hw]; exact Int32.le_refl _)]
      exact key _ (by rw [e0])
    · have hn0 : ¬ (zE b q).2.2.2 ≤ 0 := by
        rcases path_why q.1 1000 b.2.1 0 0 0 with h | h | h
        · exact absurd h hw
        · have h : (zE b q).2.2.2 = 1 := h
          rw [h]; decide
        · have h : (zE b q).2.2.2 = 2 := h
          rw [h]; decide
      rw [if_neg hn0]
      by_cases hp : (zE b q).1 = p
      · rw [if_pos hp]
        exact key _ (by unfold lo; rw [if_pos ⟨hw, hp⟩])
      · rw [if_neg hp]
        exact key _ (by unfold lo; rw [if_neg (fun h => hp h.2)])
theorem lostM_ev {b : zB} (ok : okB b) (p : Int32) {g : zG} (hS : rS (g 0) b) : ∃ g', f_X7_lostAt g p = some (sm (lo b p) b.1, g') ∧ kp g g' := by
  unfold f_X7_lostAt
  have hn := ok.1
  have := lostM_loop ok p b.1 0 zfuel 0 g hS rfl (Nat.zero_le _) (by unfold zfuel; omega)
  rw [Int32.zero_add] at this
  exact this
theorem lightAll_loop {gB : zG} {b : zB} (hB : rB gB b) (ok : okB b) : ∀ (r : List zL) (i fuel : Nat) (a : Int32), b.1.drop i = r → i ≤ b.1.length → r.length < fuel → f_X0_lightOfAll_4 gB fuel a (nI i) = some (a + sm (fun q => q.2) r) := by
  have hn := ok.1
  intro r
  induction r with
  | nil =>
    intro i fuel a hd hi hf
    obtain ⟨n, rfl⟩ : ∃ n, fuel = n + 1 := ⟨fuel - 1, by omega⟩
    have hi2 : b.1.length ≤ i := List.drop_eq_nil_iff.mp hd
    show f_X0_lightOfAll_4_b gB (f_X0_lightOfAll_4 gB n) a (nI i) = _
    unfold f_X0_lightOfAll_4_b
    rw [hasLine_nI hB.1 hn (by omega), if_neg (c := i < b.1.length) (by omega), zbind_some, if_pos rfl, show sm (fun q => q.2) [] = 0 from rfl, Int32.add_zero]
    split <;> rfl
  | cons q r ih =>
    intro i fuel a hd hi hf
    obtain ⟨n, rfl⟩ : ∃ n, fuel = n + 1 := ⟨fuel - 1, by omega⟩
    obtain ⟨e1, e2, e3⟩ := drop_cons hd
    rw [List.length_cons] at hf
    show f_X0_lightOfAll_4_b gB (f_X0_lightOfAll_4 gB n) a (nI i) = _
    unfold f_X0_lightOfAll_4_b
    have es : sm (fun q => q.2) (q :: r) = q.2 + sm (fun q => q.2) r := rfl
    rw [if_neg (c := (8 : Int32) ≤ nI i) (by rw [l8 (by omega)]; omega), hasLine_nI hB.1 hn (by omega), if_pos e1, zbind_some, if_neg ne10, nIs, zin_nI (by omega) (by decide), nI_clamp (by omega), (hB.2.2.2.1 i q e2).2, ih (i + 1) n _ e3 (by omega) (by omega), es, Int32.add_assoc]
theorem lightAll_ev {gB : zG} {b : zB} (hB : rB gB b) (ok : okB b) : f_X0_lightOfAll gB = some (sm (fun q => q.2) b.1) := by
  unfold f_X0_lightOfAll
  have hn := ok.1
  have := lightAll_loop hB ok b.1 0 zfuel 0 rfl (Nat.zero_le _) (by unfold zfuel; omega)
  rw [Int32.zero_add] at this
  exact this
theorem setB_all : ∀ ls : List zL, setB (fun _ => true) ls = 2 ^ ls.length - 1 := by
  intro ls
  induction ls with
  | nil => rfl
  | cons q r ih =>
    unfold setB
    have := Nat.two_pow_pos r.length
    rw [ih, if_pos rfl, List.length_cons, Nat.pow_succ]
    omega
theorem allLines_ev {b : zB} (ok : okB b) {g : zG} (hS : rS (g 0) b) : f_X7_allLines g = some (nI (setB (fun _ => true) b.1)) := by
  have key : ∀ n : Fin 9, ((1 : Int32) <<< (nI n.val &&& 31)) - 1 = nI (2 ^ n.val - 1) := by decide +kernel
  unfold f_X7_allLines
  have hn := ok.1
  rw [z0 (by decide) (by decide), tn0, hS.1, setB_all]
  exact congrArg some (key ⟨b.1.length, by omega⟩)
theorem lightAllM_ev {b : zB} (ok : okB b) {g : zG} (hS : rS (g 0) b) : f_X7_lightIn g (nI (setB (fun _ => true) b.1)) = some (sm (fun q => q.2) b.1) := by
  rw [lightIn_ev ok hS]
  rfl
/-! ===== a thing: the lines that come to it, the light that is lost at it ===== -/
theorem path_cons (c u : Int32) (t : zTh) (r : List zTh) (p h sl : Int32) : path c u (t :: r) p h sl = (if u ≤ t.1 then pend u p h sl else
      if -999 ≤ h + fdI (sl * (t.1 - p)) 1000 ∧ h + fdI (sl * (t.1 - p)) 1000 ≤ 999 then
        (if t.2.1 = 0 then path c u r t.1 (h + fdI (sl * (t.1 - p)) 1000) (sl + bnd t c) else
          if t.2.2.1 ≤ h + fdI (sl * (t.1 - p)) 1000 ∧ h + fdI (sl * (t.1 - p)) 1000 ≤ t.2.2.2.1 then path c u r t.1 (h + fdI (sl * (t.1 - p)) 1000) sl else (t.1, h + fdI (sl * (t.1 - p)) 1000, sl, 1))
      else (t.1, h + fdI (sl * (t.1 - p)) 1000, sl, 2)) := rfl
theorem path_gt (c : Int32) {p : Int32} (hp : p < 1000) : ∀ (th : List zTh) (a h sl : Int32), (∀ t ∈ th, p < t.1) → p < (path c 1000 th a h sl).1 := by
  intro th
  induction th with
  | nil => intro a h sl _; exact hp
  | cons t r ih =>
    intro a h sl ht
    have h1 := ht t List.mem_cons_self
    have h2 := fun q hq => ht q (List.mem_cons_of_mem _ hq)
    rw [path_cons]
    split
    · exact hp
    · split
      · split
        · exact ih _ _ _ h2
        · split
          · exact ih _ _ _ h2
          · exact h1
      · exact h1
theorem nle1000 {t : zTh} (h : okT t) : ¬ (1000 : Int32) ≤ t.1 := fun q => absurd (Int32.le_trans q h.2.1) (by decide)
theorem split_ev (c p : Int32) (hp : p < 1000) : ∀ (th : List zTh) (a h sl : Int32), (∀ t ∈ th, okT t) → th.Pairwise (fun a b => a.1 < b.1) → (∃ t ∈ th, t.1 = p) → ((path c p th a h sl).2.2.2 = 0 ↔ ((path c 1000 th a h sl).2.2.2 = 0 ∨ ¬ (path c 1000 th a h sl).1 ≤ p ∨ ((path c 1000 th a h sl).1 = p ∧ (path c 1000 th a h sl).2.2.2 = 1))) := by
  intro th
  induction th with
  | nil =>
    intro a h sl _ _ hx
    obtain ⟨t, ht, _⟩ := hx
    cases ht
  | cons t r ih =>
    intro a h sl hok hpw hx
    rw [List.pairwise_cons] at hpw
    have ht := nle1000 (hok t List.mem_cons_self)
    have hok2 := fun q hq => hok q (List.mem_cons_of_mem _ hq)
    rw [path_cons, path_cons, if_neg ht]
    by_cases hpt : t.1 = p
    · subst hpt
      rw [if_pos (Int32.le_refl _)]
      have gt := fun a h sl => path_gt c hp r a h sl hpw.1
      unfold pend
      by_cases hr : -999 ≤ h + fdI (sl * (t.1 - a)) 1000 ∧ h + fdI (sl * (t.1 - a)) 1000 ≤ 999
      · rw [if_pos hr, if_pos hr]
        refine ⟨fun _ => ?_, fun _ => rfl⟩
        split
        · exact Or.inr (Or.inl (inle.mpr (gt _ _ _)))
        · split
          · exact Or.inr (Or.inl (inle.mpr (gt _ _ _)))
          · exact Or.inr (Or.inr ⟨rfl, rfl⟩)
      · rw [if_neg hr, if_neg hr]
        constructor
        · intro q; exact absurd q ne20
        · rintro (q | q | q)
          · exact absurd q ne20
          · exact absurd (Int32.le_refl _) q
          · exact absurd q.2 ne21
    · have hx2 : ∃ q ∈ r, q.1 = p := by
        obtain ⟨q, hq, e⟩ := hx
        rcases List.mem_cons.mp hq with rfl | hq
        · exact absurd e hpt
        · exact ⟨q, hq, e⟩
      have hlt : t.1 < p := by
        obtain ⟨q, hq, e⟩ := hx2
        rw [← e]
        exact hpw.1 q hq
      have hle : t.1 ≤ p := Int32.le_of_lt hlt
      rw [if_neg (inle.mpr hlt)]
      by_cases hr : -999 ≤ h + fdI (sl * (t.1 - a)) 1000 ∧ h + fdI (sl * (t.1 - a)) 1000 ≤ 999
      · rw [if_pos hr, if_pos hr]
        by_cases hk : t.2.1 = 0
        · rw [if_pos hk, if_pos hk]
          exact ih _ _ _ hok2 hpw.2 hx2
        · rw [if_neg hk, if_neg hk]
          by_cases hs : t.2.2.1 ≤ h + fdI (sl * (t.1 - a)) 1000 ∧ h + fdI (sl * (t.1 - a)) 1000 ≤ t.2.2.2.1
          · rw [if_pos hs, if_pos hs]
            exact ih _ _ _ hok2 hpw.2 hx2
          · rw [if_neg hs, if_neg hs]
            constructor
            · intro q; exact absurd q ne10
            · rintro (q | q | q)
              · exact absurd q ne10
              · exact absurd hle q
              · exact absurd q.1 hpt
      · rw [if_neg hr, if_neg hr]
        constructor
        · intro q; exact absurd q ne20
        · rintro (q | q | q)
          · exact absurd q ne20
          · exact absurd hle q
          · exact absurd q.1 hpt
theorem linesAt_loop {gB gR : zG} {b : zB} (hB : rB gB b) (ok : okB b) (hr : rayC gR b) (p : Int32) (f : zL → Bool) (hf0 : ∀ q, f q = true ↔ ((zE b q).2.2.2 = 0 ∨ ¬ (zE b q).1 ≤ p ∨ ((zE b q).1 = p ∧ (zE b q).2.2.2 = 1))) : ∀ (r : List zL) (i fuel m : Nat), b.1.drop i = r → i ≤ b.1.length → r.length < fuel → m < 2 ^ i → f_X4_linesAt_5 gR gB fuel p (nI m) (nI i) = some (nI (m + 2 ^ i * setB f r)) := by
  have hn := ok.1
  intro r
  induction r with
  | nil =>
    intro i fuel m hd hi hf hm
    obtain ⟨n, rfl⟩ : ∃ n, fuel = n + 1 := ⟨fuel - 1, by omega⟩
    have hi2 : b.1.length ≤ i := List.drop_eq_nil_iff.mp hd
    show f_X4_linesAt_5_b gR gB (f_X4_linesAt_5 gR gB n) p (nI m) (nI i) = _
    unfold f_X4_linesAt_5_b
    rw [hasLine_nI hB.1 hn (by omega), if_neg (c := i < b.1.length) (by omega), zbind_some, if_pos rfl, show setB f [] = 0 from rfl, Nat.mul_zero, Nat.add_zero]
    split <;> rfl
  | cons q r ih =>
    intro i fuel m hd hi hf hm
    obtain ⟨n, rfl⟩ : ∃ n, fuel = n + 1 := ⟨fuel - 1, by omega⟩
    obtain ⟨e1, e2, e3⟩ := drop_cons hd
    rw [List.length_cons] at hf
    obtain ⟨w1, w2, -⟩ := ray_at hr e2
    have cl : (nI i).toNatClampNeg = i := nI_clamp (by omega)
    have z8 : ∀ {β : Type} (k : Option β), zin (nI i) 8 k = k := fun k => zin_nI (by omega) (by decide)
    have yes : f q = true → f_X4_linesAt_87 gR gB (f_X4_linesAt_5 gR gB n) p (nI m) (nI i) = some (nI (m + 2 ^ i * setB f (q :: r))) := by
      intro h
      unfold f_X4_linesAt_87
      rw [nIs, or_bit (by omega) hm, ih (i + 1) n _ e3 (by omega) (by omega) (pw2 hm), setB_t h]
    have no : f q = false → f_X4_linesAt_5 gR gB n p (nI m) (nI i + 1) = some (nI (m + 2 ^ i * setB f (q :: r))) := by
      intro h
      rw [nIs, ih (i + 1) n _ e3 (by omega) (by omega) (pw2' hm), setB_f h]
    have k1 : f q = true → f_X4_linesAt_41 gR gB (f_X4_linesAt_5 gR gB n) p (nI m) (nI i) = some (nI (m + 2 ^ i * setB f (q :: r))) := by
      intro h
      unfold f_X4_linesAt_41 f_X4_linesAt_46 f_X4_linesAt_74 f_X4_linesAt_75
      rw [z8, z8]
      simp only [if_neg ne10, ite_self]
      exact yes h
    show f_X4_linesAt_5_b gR gB (f_X4_linesAt_5 gR gB n) p (nI m) (nI i) = _
    unfold f_X4_linesAt_5_b
    rw [if_neg (c := (8 : Int32) ≤ nI i) (by rw [l8 (by omega)]; omega), hasLine_nI hB.1 hn (by omega), if_pos e1, zbind_some, if_neg ne10]
    rcases bool_tf (cm b q) with hc | hc
    · rw [ray_yes hr ok e2 hc, zbind_some, if_neg ne10]
      exact k1 ((hf0 q).mpr (Or.inl (cm_t.mp hc)))
    · rw [ray_no hr ok e2 hc, zbind_some, if_pos rfl, z8, cl, w1]
      have hc' := cm_f.mp hc
      by_cases hp : (zE b q).1 ≤ p
      · rw [if_pos hp]
        unfold f_X4_linesAt_46 f_X4_linesAt_74 f_X4_linesAt_75
        rw [z8, z8, cl, w1, w2]
        by_cases h1 : (zE b q).1 = p
        · rw [if_pos h1]
          by_cases h2 : (zE b q).2.2.2 = 1
          · rw [if_pos h2, if_pos rfl, if_neg ne10]
            exact yes ((hf0 q).mpr (Or.inr (Or.inr ⟨h1, h2⟩)))
          · rw [if_neg h2, if_pos rfl, if_pos rfl]
            refine no ?_
            rcases bool_tf (f q) with h | h
            · rcases (hf0 q).mp h with h | h | h
              · exact absurd h hc'
              · exact absurd hp h
              · exact absurd h.2 h2
            · exact h
        · rw [if_neg h1, if_pos rfl, if_pos rfl]
          refine no ?_
          rcases bool_tf (f q) with h | h
          · rcases (hf0 q).mp h with h | h | h
            · exact absurd h hc'
            · exact absurd hp h
            · exact absurd h.1 h1
          · exact h
      · rw [if_neg hp]
        exact k1 ((hf0 q).mpr (Or.inr (Or.inl hp)))
theorem linesAt_ev {gB gR : zG} {b : zB} (hB : rB gB b) (ok : okB b) (hr : rayC gR b) {t : zTh} (ht : t ∈ b.2.1) : f_X4_linesAt gR gB t.1 = some (nI (setB (fun q => decide ((pth q.1 b.2.1 t.1).2.2.2 = 0)) b.1)) := by
  unfold f_X4_linesAt
  have hn := ok.1
  have hp : t.1 < 1000 := Int32.lt_of_le_of_lt (ok.2.2.2.2.2.1 t ht).2.1 (by decide)
  have := linesAt_loop hB ok hr t.1 (fun q => decide ((pth q.1 b.2.1 t.1).2.2.2 = 0)) (fun q => by
    rw [decide_eq_true_iff]
    exact split_ev q.1 t.1 hp b.2.1 0 0 0 ok.2.2.2.2.2.1 ok.2.2.2.2.2.2 ⟨t, ht, rfl⟩) b.1 0 zfuel 0 rfl (Nat.zero_le _) (by unfold zfuel; omega) (by decide)
  rw [Nat.zero_add, Nat.pow_zero, Nat.one_mul] at this
  exact this
theorem turn_ev {gB gM : zG} {b : zB} (hB : rB gB b) (ok : okB b) {k : Nat} {t : zTh} (ht : b.2.1[k]? = some t) : f_X6_turnOfThing gM gB (nI k) = some (if t.2.1 = 1 then -1000000004 else if t.2.2.2.2 = 1 then 1 else 2) := by
  have hk := (List.getElem?_eq_some_iff.mp ht).1
  have h8 := ok.2.1
  have hT := ok.2.2.2.2.2.1 t (List.mem_of_getElem? ht)
  obtain ⟨a1, a2, a3, a4, a5⟩ := hB.2.2.2.2 k t ht
  unfold f_X6_turnOfThing
  rw [hasThing_nI hB.2.1 h8 (by omega), if_pos hk, zbind_some, if_neg ne10, zin_nI (by omega) (by decide), zin_nI (by omega) (by decide), nI_clamp (by omega), a2]
  rcases hT.2.2 with h | h
  · rw [if_pos h.1, a5 h.1, if_neg (c := t.2.1 = 1) (by rw [h.1]; decide)]
    split <;> rfl
  · rw [if_neg (by rw [h.1]; decide), if_pos h.1]
theorem pm_thing {gB gX gY gN : zG} {h : Nat → Option zG} (hR : zRel gB gX gY h gN) (gM : zG) (gR : zG) (x1 x2 : Int32) : ∃ R R', f_X6_thing gM gB gR x1 x2 = some R ∧ f_X7_thing gN x1 x2 = some R' ∧ R.1 = R'.1 ∧ zRel gB gX gY h R'.2 := by
  obtain ⟨b, hs, tx, hA⟩ := zRel_abs hR
  have hA0 := hA
  obtain ⟨h1, h2, h3, h4, h5, h6, h7, h8, h9⟩ := hA
  have hn := h1.1
  have hn2 := h1.2.1
  unfold f_X6_thing f_X7_thing
  by_cases hx : x1 < 0
  · rw [if_pos hx, if_pos hx]
    exact ⟨_, _, rfl, rfl, rfl, hR⟩
  · rw [if_neg hx, if_neg hx, within_ev, zbind_some, ite_1, in_ev, zbind_some, ite_1]
    by_cases q : 0 ≤ x2 ∧ x2 ≤ 6
    · rw [if_pos q, if_pos q, z1 (by decide) (by decide), tn1, h4.2.1]
      obtain ⟨k, hk, rfl⟩ := nI_of hx
      rw [hasThing_nI h3.2.1 hn2 hk, zbind_some]
      by_cases hkl : k < b.2.1.length
      · rw [if_pos hkl, if_neg ne10, if_pos (c := nI k < nI b.2.1.length) ((nI_ltI hk (by omega)).mpr hkl)]
        obtain ⟨t, ht⟩ : ∃ t, b.2.1[k]? = some t := ⟨_, List.getElem?_eq_getElem hkl⟩
        have htm := List.mem_of_getElem? ht
        obtain ⟨gR', r1, r2⟩ := ray_follow h3 h1 gR
        obtain ⟨a1, a2, a3, a4, a5⟩ := h3.2.2.2.2 k t ht
        obtain ⟨m0, m1, m2, m3, m4⟩ := of_is h4 hn2 hkl
        have et : b.2.1.getD k (0, 0, 0, 0, 0) = t := by
          have := getD_some (d := ((0 : Int32), (0 : Int32), (0 : Int32), (0 : Int32), (0 : Int32))) hkl
          rw [ht] at this
          exact (Option.some.inj this).symm
        rw [et] at m0 m1 m2 m3 m4
        have z8 : ∀ {β : Type} (j : Option β), zin (nI k) 8 j = j := fun j => zin_nI (by omega) (by decide)
        have cl : (nI k).toNatClampNeg = k := nI_clamp hk
        have fin : ∀ (y : Int32), (∃ R R', (some (y, gR') : Option (Int32 × zG)) = some R ∧ (some (y, gN) : Option (Int32 × zG)) = some R' ∧ R.1 = R'.1 ∧ zRel gB gX gY h R'.2) := fun y => ⟨_, _, rfl, rfl, rfl, hR⟩
        rw [r1, zbind_some]
        rcases upto6 q with rfl | rfl | rfl | rfl | rfl | rfl | rfl
        · rw [if_pos rfl, z8, cl, a1, if_neg (by decide), if_neg (by decide), if_neg (by decide), m0, zbind_some]
          exact fin _
        · rw [if_neg (by decide), if_pos rfl, z8, cl, a2, if_neg (by decide), if_neg (by decide), if_neg (by decide), m1, zbind_some]
          exact fin _
        · rw [if_neg (by decide), if_neg (by decide), if_pos rfl, z8, cl, a3, if_neg (by decide), if_neg (by decide), if_neg (by decide), m2, zbind_some]
          exact fin _
        · rw [if_neg (by decide), if_neg (by decide), if_neg (by decide), if_pos rfl, z8, cl, a4, if_neg (by decide), if_neg (by decide), if_neg (by decide), m3, zbind_some]
          exact fin _
        · rw [if_neg (by decide), if_neg (by decide), if_neg (by decide), if_neg (by decide), if_pos rfl, turn_ev h3 h1 ht, zbind_some, if_pos rfl, m1, zbind_some, m4, zbind_some]
          by_cases hk1 : t.2.1 = 1
          · rw [if_pos hk1, if_pos hk1]
            exact fin _
          · rw [if_neg hk1, if_neg hk1]
            by_cases ht1 : t.2.2.2.2 = 1
            · rw [if_pos ht1, if_pos ht1]
              exact fin _
            · rw [if_neg ht1, if_neg ht1]
              exact fin _
        · obtain ⟨gN', c1, c2⟩ := coming_ev h1 (place_rng ⟨(h1.2.2.2.2.2.1 t htm).1, (h1.2.2.2.2.2.1 t htm).2.1⟩) h4
          rw [if_neg (by decide), if_neg (by decide), if_neg (by decide), if_neg (by decide), if_neg (by decide), if_pos rfl, z8, cl, a1, linesAt_ev h3 h1 r2 htm, zbind_some, if_neg (by decide), if_pos rfl, m0, zbind_some, c1, zbind_some]
          exact ⟨_, _, rfl, rfl, rfl, zAbs_rel (kp_abs hA0 c2)⟩
        · obtain ⟨gN', c1, c2⟩ := lostM_ev h1 t.1 h4
          rw [if_neg (by decide), if_neg (by decide), if_neg (by decide), if_neg (by decide), if_neg (by decide), if_neg (by decide), z8, cl, a1, lostC_ev h3 h1 r2, zbind_some, if_neg (by decide), if_neg (by decide), if_pos rfl, m0, zbind_some, c1, zbind_some]
          exact ⟨_, _, rfl, rfl, rfl, zAbs_rel (kp_abs hA0 c2)⟩
      · rw [if_neg hkl, if_pos rfl, if_neg (c := nI k < nI b.2.1.length) (fun h => hkl ((nI_ltI hk (by omega)).mp h))]
        exact ⟨_, _, rfl, rfl, rfl, hR⟩
    · rw [if_neg q, if_neg q]
      exact ⟨_, _, rfl, rfl, rfl, hR⟩
/-! ===== the spread ===== -/
def spF (b : zB) : List zL → Int32 → Int32 → Int32 × Int32
  | [], a, c => (a, c)
  | q :: r, a, c => if cm b q then spF b r (if (zE b q).2.1 < a then (zE b q).2.1 else a) (if c < (zE b q).2.1 then (zE b q).2.1 else c) else spF b r a c
theorem spF_t {b : zB} {q : zL} (h : cm b q = true) (r : List zL) (a c : Int32) : spF b (q :: r) a c = spF b r (if (zE b q).2.1 < a then (zE b q).2.1 else a) (if c < (zE b q).2.1 then (zE b q).2.1 else c) := by
  show (if cm b q then _ else _) = _
  rw [h, if_pos rfl]
theorem spF_f {b : zB} {q : zL} (h : cm b q = false) (r : List zL) (a c : Int32) : spF b (q :: r) a c = spF b r a c := by
  show (if cm b q then _ else _) = _
  rw [h, if_neg (by decide)]
theorem spF_eq (b : zB) : ∀ r : List zL, spF b r 999 (-999) = spF b r 1000 (-1000) ∨ (spF b r 999 (-999) = (999, -999) ∧ spF b r 1000 (-1000) = (1000, -1000)) := by
  intro r
  induction r with
  | nil => exact Or.inr ⟨rfl, rfl⟩
  | cons q r ih =>
    rcases bool_tf (cm b q) with hc | hc
    · left
      obtain ⟨h1, h2⟩ : -999 ≤ (zE b q).2.1 ∧ (zE b q).2.1 ≤ 999 := pth_rng (cm_t.mp hc)
      rw [spF_t hc, spF_t hc, if_pos (c := (zE b q).2.1 < 1000) (Int32.lt_of_le_of_lt h2 (by decide)), if_pos (c := -1000 < (zE b q).2.1) (Int32.lt_of_lt_of_le (by decide) h1)]
      have e1 : (if (zE b q).2.1 < 999 then (zE b q).2.1 else 999) = (zE b q).2.1 := by
        by_cases h : (zE b q).2.1 < 999
        · rw [if_pos h]
        · rw [if_neg h]; exact Int32.le_antisymm (inlt.mp h) h2
      have e2 : (if -999 < (zE b q).2.1 then (zE b q).2.1 else -999) = (zE b q).2.1 := by
        by_cases h : -999 < (zE b q).2.1
        · rw [if_pos h]
        · rw [if_neg h]; exact Int32.le_antisymm h1 (inlt.mp h)
      rw [e1, e2]
    · rw [spF_f hc, spF_f hc]
      exact ih
def sprd (b : zB) : Int32 := if (spF b b.1 999 (-999)).1 ≤ (spF b b.1 999 (-999)).2 then (spF b b.1 999 (-999)).2 - (spF b b.1 999 (-999)).1 else 0
theorem sprd_m (b : zB) : sprd b = if (spF b b.1 1000 (-1000)).1 ≤ (spF b b.1 1000 (-1000)).2 then (spF b b.1 1000 (-1000)).2 - (spF b b.1 1000 (-1000)).1 else 0 := by
  unfold sprd
  rcases spF_eq b b.1 with h | ⟨h, h'⟩
  · rw [h]
  · rw [h, h', if_neg (by decide), if_neg (by decide)]
theorem spC_loop {gR : zG} {b : zB} (ok : okB b) (hr : rayC gR b) : ∀ (r : List zL) (i fuel : Nat) (a c : Int32), b.1.drop i = r → i ≤ b.1.length → r.length < fuel → f_X4_spread_10 gR fuel a c (nI i) = some (if (spF b r a c).1 ≤ (spF b r a c).2 then (spF b r a c).2 - (spF b r a c).1 else 0) := by
  have hn := ok.1
  intro r
  induction r with
  | nil =>
    intro i fuel a c hd hi hf
    obtain ⟨n, rfl⟩ : ∃ n, fuel = n + 1 := ⟨fuel - 1, by omega⟩
    have hi2 : b.1.length ≤ i := List.drop_eq_nil_iff.mp hd
    have e : f_X4_spread_60 gR a c = some (if (spF b [] a c).1 ≤ (spF b [] a c).2 then (spF b [] a c).2 - (spF b [] a c).1 else 0) := by
      unfold f_X4_spread_60 spF
      simp only
      split <;> rfl
    show f_X4_spread_10_b gR (f_X4_spread_10 gR n) a c (nI i) = _
    unfold f_X4_spread_10_b
    rw [has_nI hr.2 hn (by omega), if_neg (c := i < b.1.length) (by omega), zbind_some, if_pos rfl, e]
    split <;> rfl
  | cons q r ih =>
    intro i fuel a c hd hi hf
    obtain ⟨n, rfl⟩ : ∃ n, fuel = n + 1 := ⟨fuel - 1, by omega⟩
    obtain ⟨e1, e2, e3⟩ := drop_cons hd
    rw [List.length_cons] at hf
    show f_X4_spread_10_b gR (f_X4_spread_10 gR n) a c (nI i) = _
    unfold f_X4_spread_10_b
    rw [if_neg (c := (8 : Int32) ≤ nI i) (by rw [l8 (by omega)]; omega), has_nI hr.2 hn (by omega), if_pos e1, zbind_some, if_neg ne10, nIs]
    rcases bool_tf (cm b q) with hc | hc
    · rw [ray_yes hr ok e2 hc, zbind_some, if_neg ne10, zin_nI (by omega) (by decide), zin_nI (by omega) (by decide), nI_clamp (by omega), ((ray_at hr e2).2.2 hc).1, ih (i + 1) n _ _ e3 (by omega) (by omega), spF_t hc]
    · rw [ray_no hr ok e2 hc, zbind_some, if_pos rfl, ih (i + 1) n _ _ e3 (by omega) (by omega), spF_f hc]
theorem spC_ev {gR : zG} {b : zB} (ok : okB b) (hr : rayC gR b) : f_X4_spread gR = some (sprd b) := by
  unfold f_X4_spread sprd
  have hn := ok.1
  exact spC_loop ok hr b.1 0 zfuel 999 (-999) rfl (Nat.zero_le _) (by unfold zfuel; omega)
theorem spM_loop {b : zB} (ok : okB b) : ∀ (r : List zL) (i fuel : Nat) (a c : Int32) (g : zG), rS (g 0) b → b.1.drop i = r → i ≤ b.1.length → r.length < fuel → ∃ g', f_X7_spread_10 fuel a c (nI i) g = some (if (spF b r a c).1 ≤ (spF b r a c).2 then (spF b r a c).2 - (spF b r a c).1 else 0, g') ∧ kp g g' := by
  have hn := ok.1
  intro r
  induction r with
  | nil =>
    intro i fuel a c g hS hd hi hf
    obtain ⟨n, rfl⟩ : ∃ n, fuel = n + 1 := ⟨fuel - 1, by omega⟩
    have hi2 : b.1.length ≤ i := List.drop_eq_nil_iff.mp hd
    refine ⟨g, ?_, kp_rf g⟩
    show f_X7_spread_10_b (f_X7_spread_10 n) a c (nI i) g = _
    unfold f_X7_spread_10_b spF
    rw [z0 (by decide) (by decide), tn0, hS.1, if_pos ((nI_leI (by omega) (by omega)).mpr hi2)]
    simp only
    split <;> rfl
  | cons q r ih =>
    intro i fuel a c g hS hd hi hf
    obtain ⟨n, rfl⟩ : ∃ n, fuel = n + 1 := ⟨fuel - 1, by omega⟩
    obtain ⟨e1, e2, e3⟩ := drop_cons hd
    rw [List.length_cons] at hf
    obtain ⟨g1, k1, k2⟩ := follows_ev hS ok e2 (u := 1000) (by decide)
    have hS1 : rS (g1 0) b := by rw [kp_0 k2.1]; exact hS
    have key := fun a c => ih (i + 1) n a c g1 hS1 e3 (by omega) (by omega)
    show ∃ g', f_X7_spread_10_b (f_X7_spread_10 n) a c (nI i) g = _ ∧ _
    unfold f_X7_spread_10_b f_X7_spread_50 f_X7_spread_51
    rw [z0 (by decide) (by decide), tn0, hS.1, if_neg (fun q => by have := (nI_leI (by omega) (by omega)).mp q; omega), k1, zbind_some, nIs, k2.2.2.2.2, k2.2.2.1]
    have ez : pth q.1 b.2.1 1000 = zE b q := rfl
    rw [ez]
    rcases bool_tf (cm b q) with hc | hc
    · rw [if_pos (cm_t.mp hc), if_pos (cm_t.mp hc), if_pos (cm_t.mp hc), spF_t hc]
      obtain ⟨g', j1, j2⟩ := key (if (zE b q).2.1 < a then (zE b q).2.1 else a) (if c < (zE b q).2.1 then (zE b q).2.1 else c)
      refine ⟨g', ?_, kp_tr k2.1 j2⟩
      rw [← j1]
      by_cases ha : (zE b q).2.1 < a
      · rw [if_neg (inle.mpr ha), if_pos ha]
        by_cases hcc : c < (zE b q).2.1
        · rw [if_neg (inle.mpr hcc), if_pos hcc]
        · rw [if_pos (inlt.mp hcc), if_neg hcc]
      · rw [if_pos (inlt.mp ha), if_neg ha]
        by_cases hcc : c < (zE b q).2.1
        · rw [if_neg (inle.mpr hcc), if_pos hcc]
        · rw [if_pos (inlt.mp hcc), if_neg hcc]
    · rw [if_neg (cm_f.mp hc), if_neg (cm_f.mp hc), spF_f hc]
      obtain ⟨g', j1, j2⟩ := key a c
      exact ⟨g', j1, kp_tr k2.1 j2⟩
theorem spM_ev {b : zB} (ok : okB b) {g : zG} (hS : rS (g 0) b) : ∃ g', f_X7_spread g = some (sprd b, g') ∧ kp g g' := by
  unfold f_X7_spread
  have hn := ok.1
  rw [sprd_m]
  exact spM_loop ok b.1 0 zfuel 1000 (-1000) g hS rfl (Nat.zero_le _) (by unfold zfuel; omega)
/-! ===== the cells of the screen ===== -/
def kq (g g' : zG) : Prop := ∀ j, j ≠ 8 → j ≠ 9 → j ≠ 10 → j ≠ 11 → j ≠ 12 → j ≠ 13 → g' j = g j
theorem kq_rf (g : zG) : kq g g := fun _ _ _ _ _ _ _ => rfl
theorem kq_tr {a b c : zG} (h1 : kq a b) (h2 : kq b c) : kq a c := fun j x y z u v w => (h2 j x y z u v w).trans (h1 j x y z u v w)
theorem kq_of {g g' : zG} (h : kp g g') : kq g g' := fun j x y z u _ _ => h j x y z u
theorem kq_0 {g g' : zG} (h : kq g g') : g' 0 = g 0 := h 0 (by decide) (by decide) (by decide) (by decide) (by decide) (by decide)
theorem kq_abs {gB gX gY gN gN' : zG} {h : Nat → Option zG} {b : zB} {hs : List zB} {tx : List Int32} (hA : zAbs gB gX gY h gN b hs tx) (hk : kq gN gN') : zAbs gB gX gY h gN' b hs tx :=
  zAbs_keep hA (fun j hj => hk j (by omega) (by omega) (by omega) (by omega) (by omega) (by omega))
/-- the cell of a line -/
def cl (b : zB) (q : zL) : Int32 := fdI (zE b q).2.1 b.2.2
/-- is the line in the cell -/
def pc (b : zB) (c : Int32) (q : zL) : Bool := cm b q && decide (cl b q = c)
theorem pc_t {b : zB} {c : Int32} {q : zL} : pc b c q = true ↔ cm b q = true ∧ cl b q = c := by
  unfold pc
  rw [Bool.and_eq_true, decide_eq_true_iff]
theorem pc_f {b : zB} {c : Int32} {q : zL} (h : ¬ (cm b q = true ∧ cl b q = c)) : pc b c q = false := by
  rcases bool_tf (pc b c q) with e | e
  · exact absurd (pc_t.mp e) h
  · exact e
def lc (b : zB) (c : Int32) (ls : List zL) : Int32 := sm (fun q => if pc b c q then q.2 else 0) ls
theorem sm_snoc (f : zL → Int32) : ∀ (ls : List zL) (q : zL), sm f (ls ++ [q]) = sm f ls + f q := by
  intro ls
  induction ls with
  | nil => intro q; show f q + 0 = 0 + f q; rw [Int32.add_zero, Int32.zero_add]
  | cons x r ih =>
    intro q
    show f x + sm f (r ++ [q]) = f x + sm f r + f q
    rw [ih, Int32.add_assoc]
theorem sm_none {f : zL → Int32} : ∀ {ls : List zL}, (∀ q ∈ ls, f q = 0) → sm f ls = 0 := by
  intro ls
  induction ls with
  | nil => intro _; rfl
  | cons x r ih =>
    intro h
    unfold sm
    rw [h x List.mem_cons_self, ih (fun q hq => h q (List.mem_cons_of_mem _ hq))]
    rfl
theorem setB_none {p : zL → Bool} : ∀ {ls : List zL}, (∀ q ∈ ls, p q = false) → setB p ls = 0 := by
  intro ls
  induction ls with
  | nil => intro _; rfl
  | cons x r ih =>
    intro h
    unfold setB
    rw [h x List.mem_cons_self, ih (fun q hq => h q (List.mem_cons_of_mem _ hq))]
    rfl
theorem setB_snoc (p : zL → Bool) : ∀ (ls : List zL) (q : zL), setB p (ls ++ [q]) = setB p ls + 2 ^ ls.length * (if p q then 1 else 0) := by
  intro ls
  induction ls with
  | nil =>
    intro q
    show (if p q then 1 else 0) + 2 * 0 = 0 + 2 ^ 0 * (if p q then 1 else 0)
    rw [Nat.pow_zero, Nat.one_mul]; omega
  | cons x r ih =>
    intro q
    show (if p x then 1 else 0) + 2 * setB p (r ++ [q]) = (if p x then 1 else 0) + 2 * setB p r + 2 ^ (r.length + 1) * (if p q then 1 else 0)
    rw [ih, Nat.pow_succ, Nat.mul_add, Nat.mul_comm (2 ^ r.length) 2, Nat.mul_assoc, Nat.add_assoc]
def didx (c : Int32) : List Int32 → Nat
  | [] => 0
  | x :: r => if x = c then 0 else didx c r + 1
theorem didx_le (c : Int32) : ∀ D : List Int32, didx c D ≤ D.length := by
  intro D
  induction D with
  | nil => exact Nat.le_refl _
  | cons x r ih =>
    unfold didx
    rw [List.length_cons]
    split <;> omega
theorem didx_in {c : Int32} : ∀ {D : List Int32}, c ∈ D → D[didx c D]? = some c := by
  intro D
  induction D with
  | nil => intro h; cases h
  | cons x r ih =>
    intro h
    unfold didx
    by_cases hx : x = c
    · rw [if_pos hx, hx]; rfl
    · rw [if_neg hx, List.getElem?_cons_succ]
      rcases List.mem_cons.mp h with h | h
      · exact absurd h.symm hx
      · exact ih h
theorem didx_out {c : Int32} : ∀ {D : List Int32}, c ∉ D → didx c D = D.length := by
  intro D
  induction D with
  | nil => intro _; rfl
  | cons x r ih =>
    intro h
    unfold didx
    rw [if_neg (fun e => h (by rw [e]; exact List.mem_cons_self)), ih (fun q => h (List.mem_cons_of_mem _ q)), List.length_cons]
theorem nodup_at {D : List Int32} (hD : D.Nodup) {c : Int32} {k j : Nat} (h1 : D[k]? = some c) (h2 : D[j]? = some c) : k = j := by
  have hk := (List.getElem?_eq_some_iff.mp h1).1
  have hj := (List.getElem?_eq_some_iff.mp h2).1
  rw [List.getElem?_eq_getElem hk] at h1
  rw [List.getElem?_eq_getElem hj] at h2
  have e : D[k] = D[j] := by rw [Option.some.inj h1, Option.some.inj h2]
  have hp := List.pairwise_iff_getElem.mp hD
  rcases Nat.lt_trichotomy k j with q | q | q
  · exact absurd e (hp k j hk hj q)
  · exact q
  · exact absurd e.symm (hp j k hj hk q)
def nx (b : zB) (q : zL) (D : List Int32) : List Int32 := if cm b q = true ∧ cl b q ∉ D then D ++ [cl b q] else D
def dcs (b : zB) : List zL → List Int32 → List Int32
  | [], D => D
  | q :: r, D => dcs b r (nx b q D)
/-- the cells of the lines so far -/
def gD (b : zB) (pre : List zL) (D : List Int32) : Prop := D.Nodup ∧ D.length ≤ pre.length ∧ (∀ q ∈ pre, cm b q = true → cl b q ∈ D)
theorem gD_nx {b : zB} {pre : List zL} {D : List Int32} (h : gD b pre D) (q : zL) : gD b (pre ++ [q]) (nx b q D) := by
  obtain ⟨h1, h2, h3⟩ := h
  unfold nx
  by_cases c : cm b q = true ∧ cl b q ∉ D
  · rw [if_pos c]
    refine ⟨?_, ?_, ?_⟩
    · rw [List.nodup_append]
      refine ⟨h1, by simp, ?_⟩
      intro a ha x hx e
      rw [List.mem_singleton] at hx
      subst hx
      subst e
      exact c.2 ha
    · simp; omega
    · intro x hx hc
      rcases List.mem_append.mp hx with hx | hx
      · exact List.mem_append_left _ (h3 x hx hc)
      · rw [List.mem_singleton] at hx
        subst hx
        exact List.mem_append_right _ (List.mem_singleton.mpr rfl)
  · rw [if_neg c]
    refine ⟨h1, by simp; omega, ?_⟩
    intro x hx hc
    rcases List.mem_append.mp hx with hx | hx
    · exact h3 x hx hc
    · rw [List.mem_singleton] at hx
      subst hx
      by_cases hm : cl b x ∈ D
      · exact hm
      · exact absurd ⟨hc, hm⟩ c
theorem gD_0 (b : zB) : gD b [] [] := ⟨List.nodup_nil, Nat.le_refl _, fun q h => absurd h List.not_mem_nil⟩
theorem gD_dcs {b : zB} : ∀ (r pre : List zL) (D : List Int32), gD b pre D → gD b (pre ++ r) (dcs b r D) := by
  intro r
  induction r with
  | nil => intro pre D h; rw [List.append_nil]; exact h
  | cons q r ih =>
    intro pre D h
    have := ih (pre ++ [q]) (nx b q D) (gD_nx h q)
    rw [List.append_assoc] at this
    exact this
theorem hasSlot_nI {g : zG} {n k : Nat} (h : g 3 0 = nI n) (hn : n ≤ 8) (hk : k < 2 ^ 31) : f_X1_hasSlot g (nI k) = some (if k < n then 1 else 0) := by
  have := hasLine_nI (g := fun k => if k = 2 then g 3 else g k) (n := n) (by simpa using h) hn hk
  simpa [f_X0_hasLine, f_X1_hasSlot] using this
theorem slotOf_loop {g : zG} {D : List Int32} (h : g 3 0 = nI D.length) (hn : D.length ≤ 8) (hc : ∀ (k : Nat) (c : Int32), D[k]? = some c → g 0 k = c) (c : Int32) : ∀ (r : List Int32) (i fuel : Nat), D.drop i = r → i ≤ D.length → r.length < fuel → f_X1_slotOf_2 g fuel c (nI i) = some (nI (i + didx c r)) := by
  intro r
  induction r with
  | nil =>
    intro i fuel hd hi hf
    obtain ⟨n, rfl⟩ : ∃ n, fuel = n + 1 := ⟨fuel - 1, by omega⟩
    have hi2 : D.length ≤ i := List.drop_eq_nil_iff.mp hd
    show f_X1_slotOf_2_b g (f_X1_slotOf_2 g n) c (nI i) = _
    unfold f_X1_slotOf_2_b
    rw [hasSlot_nI h hn (by omega), if_neg (c := i < D.length) (by omega), zbind_some, if_pos rfl]
    split <;> rfl
  | cons x r ih =>
    intro i fuel hd hi hf
    obtain ⟨n, rfl⟩ : ∃ n, fuel = n + 1 := ⟨fuel - 1, by omega⟩
    obtain ⟨e1, e2, e3⟩ := drop_cons hd
    rw [List.length_cons] at hf
    show f_X1_slotOf_2_b g (f_X1_slotOf_2 g n) c (nI i) = _
    unfold f_X1_slotOf_2_b didx
    rw [if_neg (c := (8 : Int32) ≤ nI i) (by rw [l8 (by omega)]; omega), hasSlot_nI h hn (by omega), if_pos e1, zbind_some, if_neg ne10, zin_nI (by omega) (by decide), nI_clamp (by omega), hc i x e2]
    by_cases hx : x = c
    · rw [if_pos hx, if_pos hx]; rfl
    · rw [if_neg hx, if_neg hx, nIs, ih (i + 1) n e3 (by omega) (by omega)]
      congr 2; omega
theorem slotOf_ev {g : zG} {D : List Int32} (h : g 3 0 = nI D.length) (hn : D.length ≤ 8) (hc : ∀ (k : Nat) (c : Int32), D[k]? = some c → g 0 k = c) (c : Int32) : f_X1_slotOf g c = some (nI (didx c D)) := by
  unfold f_X1_slotOf
  have := slotOf_loop h hn hc c D 0 zfuel rfl (Nat.zero_le _) (by unfold zfuel; omega)
  rw [Nat.zero_add] at this
  exact this
/-- the class's cells behind some lines -/
def gC (b : zB) (pre : List zL) (D : List Int32) (g : zG) : Prop := g 3 0 = nI D.length ∧ ∀ (k : Nat) (c : Int32), D[k]? = some c → g 0 k = c ∧ g 1 k = lc b c pre ∧ g 2 k = nI (setB (pc b c) pre)
theorem addTo_63 {g : zG} {s : Nat} (hs : s < 8) (v w : Int32) : f_X1_addTo_63 v w (nI s) g = some (gup (gup g 1 s (g 1 s + v)) 2 s (g 2 s ||| w)) := by
  unfold f_X1_addTo_63
  have z8 : ∀ {β : Type} (j : Option β), zin (nI s) 8 j = j := fun j => zin_nI hs (by decide)
  simp only [z8, zlet_eq, nI_clamp (show s < 2 ^ 31 by omega)]
  congr 2
theorem addTo_ev {b : zB} {pre : List zL} {D : List Int32} {g : zG} (hD : gD b pre D) (hg : gC b pre D g) (hp : pre.length < 8) {q : zL} (hc : cm b q = true) : ∃ g', f_X1_addTo g (cl b q) q.2 ((1 : Int32) <<< (nI pre.length &&& 31)) = some g' ∧ gC b (pre ++ [q]) (nx b q D) g' := by
  obtain ⟨d1, d2, d3⟩ := hD
  obtain ⟨g1, g2⟩ := hg
  have lp := setB_lt
  unfold f_X1_addTo
  rw [slotOf_ev g1 (by omega) (fun k c h => (g2 k c h).1), zbind_some]
  have hle := didx_le (cl b q) D
  rw [if_neg (nI_pos (by omega)), if_pos (c := nI (didx (cl b q) D) < (8 : Int32)) ((nI_ltI (b := 8) (by omega) (by decide)).mpr (by omega)), g1]
  unfold nx
  by_cases hm : cl b q ∈ D
  · have hin := didx_in hm
    have hlt := (List.getElem?_eq_some_iff.mp hin).1
    rw [if_neg (c := nI (didx (cl b q) D) = nI D.length) (fun e => by have := (nI_eq (by omega) (by omega)).mp e; omega), addTo_63 (by omega), if_neg (fun h => h.2 hm)]
    obtain ⟨a1, a2, a3⟩ := g2 _ _ hin
    have hpq : pc b (cl b q) q = true := pc_t.mpr ⟨hc, rfl⟩
    refine ⟨_, rfl, ?_, ?_⟩
    · rw [gup_ne _ _ _ (by decide), gup_ne _ _ _ (by decide)]; exact g1
    · intro k c hk
      rw [gup_ne _ _ _ (show (0 : Nat) ≠ 2 by decide), gup_ne _ _ _ (show (0 : Nat) ≠ 1 by decide), gup_ne _ _ _ (show (1 : Nat) ≠ 2 by decide), gup_same, gup_same]
      obtain ⟨b1, b2, b3⟩ := g2 k c hk
      refine ⟨b1, ?_, ?_⟩
      · unfold lc
        rw [sm_snoc]
        unfold upd
        by_cases e : k = didx (cl b q) D
        · subst e
          rw [hin] at hk
          cases hk
          rw [if_pos rfl, hpq, if_pos rfl, a2]
          rfl
        · have hne : ¬ (cm b q = true ∧ cl b q = c) := fun h => e (nodup_at d1 hk (by rw [← h.2]; exact hin))
          rw [if_neg e, pc_f hne, if_neg (by decide), Int32.add_zero, b2]
          rfl
      · rw [setB_snoc]
        unfold upd
        by_cases e : k = didx (cl b q) D
        · subst e
          rw [hin] at hk
          cases hk
          rw [if_pos rfl, hpq, if_pos rfl, Nat.mul_one, a3, or_bit hp (lp _ _)]
        · have hne : ¬ (cm b q = true ∧ cl b q = c) := fun h => e (nodup_at d1 hk (by rw [← h.2]; exact hin))
          rw [if_neg e, pc_f hne, if_neg (by decide), Nat.mul_zero, Nat.add_zero, gup_ne _ _ _ (show (2 : Nat) ≠ 1 by decide), b3]
  · have ho := didx_out hm
    have z8 : ∀ {β : Type} (j : Option β), zin (nI D.length) 8 j = j := fun j => zin_nI (by omega) (by decide)
    rw [ho, if_pos rfl, if_pos ⟨hc, hm⟩]
    simp only [z8, zlet_eq, nI_clamp (show D.length < 2 ^ 31 by omega)]
    rw [addTo_63 (by omega)]
    have n0 : ∀ x ∈ pre, pc b (cl b q) x = false := fun x hx => pc_f (fun h => hm (by rw [← h.2]; exact d3 x hx h.1))
    refine ⟨_, rfl, ?_, ?_⟩
    · simp [gup, upd, g1, nIs]
    · intro k c hk
      rcases snoc_get hk with ⟨hk1, hk⟩ | ⟨rfl, rfl⟩
      · obtain ⟨b1, b2, b3⟩ := g2 k c hk
        have hne : ¬ (cm b q = true ∧ cl b q = c) := fun h => hm (by rw [h.2]; exact List.mem_of_getElem? hk)
        have hkn : k ≠ D.length := by omega
        refine ⟨by simpa [gup, upd, hkn] using b1, ?_, ?_⟩
        · unfold lc
          rw [sm_snoc, pc_f hne, if_neg (by decide), Int32.add_zero]
          have b2' : g 1 k = sm (fun q => if pc b c q then q.2 else 0) pre := b2
          rw [← b2']
          simp [gup, upd, hkn]
        · rw [setB_snoc, pc_f hne, if_neg (by decide), Nat.mul_zero, Nat.add_zero]
          simpa [gup, upd, hkn] using b3
      · have hpq : pc b (cl b q) q = true := pc_t.mpr ⟨hc, rfl⟩
        refine ⟨by simp [gup, upd], ?_, ?_⟩
        · unfold lc
          rw [sm_snoc, hpq, if_pos rfl, sm_none (fun x hx => by rw [n0 x hx]; rfl)]
          simp [gup, upd]
        · rw [setB_snoc, hpq, if_pos rfl, setB_none n0, Nat.mul_one]
          have := or_bit (m := 0) hp (Nat.two_pow_pos _)
          rw [← this, show nI 0 = (0 : Int32) from rfl]
          simp [gup, upd]
theorem gC_skip {b : zB} {pre : List zL} {D : List Int32} {g : zG} (hg : gC b pre D g) {q : zL} (hc : cm b q = false) : gC b (pre ++ [q]) (nx b q D) g := by
  unfold nx
  rw [if_neg (fun h => by rw [hc] at h; exact absurd h.1 (by decide))]
  refine ⟨hg.1, fun k c hk => ?_⟩
  obtain ⟨b1, b2, b3⟩ := hg.2 k c hk
  have e : pc b c q = false := pc_f (fun h => by rw [hc] at h; exact absurd h.1 (by decide))
  unfold lc
  rw [sm_snoc, setB_snoc, e, if_neg (by decide), if_neg (by decide), Int32.add_zero, Nat.mul_zero, Nat.add_zero]
  exact ⟨b1, b2, b3⟩
theorem gather_loop {gB gR : zG} {b : zB} (hB : rB gB b) (ok : okB b) (hr : rayC gR b) : ∀ (r pre : List zL) (fuel : Nat) (D : List Int32) (g : zG), b.1 = pre ++ r → r.length < fuel → gD b pre D → gC b pre D g → ∃ g', f_X1_gather_7 gB gR fuel (nI pre.length) g = some g' ∧ gC b b.1 (dcs b r D) g' := by
  have hn := ok.1
  intro r
  induction r with
  | nil =>
    intro pre fuel D g hd hf hD hg
    obtain ⟨n, rfl⟩ : ∃ n, fuel = n + 1 := ⟨fuel - 1, by omega⟩
    rw [List.append_nil] at hd
    refine ⟨g, ?_, by rw [hd]; exact hg⟩
    show f_X1_gather_7_b gB gR (f_X1_gather_7 gB gR n) (nI pre.length) g = _
    unfold f_X1_gather_7_b
    rw [hasLine_nI hB.1 hn (by rw [← hd]; omega), if_neg (c := pre.length < b.1.length) (by rw [hd]; omega), zbind_some, if_pos rfl]
    split <;> rfl
  | cons q r ih =>
    intro pre fuel D g hd hf hD hg
    obtain ⟨n, rfl⟩ : ∃ n, fuel = n + 1 := ⟨fuel - 1, by omega⟩
    rw [List.length_cons] at hf
    have e1 : pre.length < b.1.length := by rw [hd]; simp
    have e2 : b.1[pre.length]? = some q := by rw [hd]; simp
    have hd' : b.1 = (pre ++ [q]) ++ r := by rw [hd]; simp
    have el : (pre ++ [q]).length = pre.length + 1 := by simp
    show ∃ g', f_X1_gather_7_b gB gR (f_X1_gather_7 gB gR n) (nI pre.length) g = some g' ∧ _
    unfold f_X1_gather_7_b
    rw [if_neg (c := (8 : Int32) ≤ nI pre.length) (by rw [l8 (by omega)]; omega), hasLine_nI hB.1 hn (by omega), if_pos e1, zbind_some, if_neg ne10, nIs]
    rcases bool_tf (cm b q) with hc | hc
    · obtain ⟨g1, k1, k2⟩ := addTo_ev hD hg (by omega) hc
      rw [ray_yes hr ok e2 hc, zbind_some, if_neg ne10, zin_nI (by omega) (by decide), nI_clamp (by omega), ((ray_at hr e2).2.2 hc).1, cellOf_ev hB ok, zbind_some, zin_nI (by omega) (by decide), (hB.2.2.2.1 _ q e2).2]
      have k1' : f_X1_addTo g (fdI (zE b q).2.1 b.2.2) q.2 ((1 : Int32) <<< (nI pre.length &&& 31)) = some g1 := k1
      rw [k1', zbind_some]
      have := ih (pre ++ [q]) n (nx b q D) g1 hd' (by omega) (gD_nx hD q) k2
      rw [el] at this
      exact this
    · rw [ray_no hr ok e2 hc, zbind_some, if_pos rfl]
      have := ih (pre ++ [q]) n (nx b q D) g hd' (by omega) (gD_nx hD q) (gC_skip hg hc)
      rw [el] at this
      exact this
/-- the distinct cells of the lines, in the order in which they come -/
def dc (b : zB) : List Int32 := dcs b b.1 []
theorem dc_D (b : zB) : gD b b.1 (dc b) := by
  have := gD_dcs b.1 [] [] (gD_0 b)
  exact this
theorem gather_ev {gB gR : zG} {b : zB} (hB : rB gB b) (ok : okB b) (hr : rayC gR b) (g : zG) : ∃ g', f_X1_gather g gB gR = some g' ∧ gC b b.1 (dc b) g' := by
  have hn := ok.1
  unfold f_X1_gather
  rw [zlet_eq]
  exact gather_loop hB ok hr b.1 [] zfuel [] (gup g 3 0 0) rfl (by unfold zfuel; omega) (gD_0 b) ⟨by simp [gup, upd]; rfl, fun k c h => by simp at h⟩
/-! ===== the reference's cells ===== -/
theorem inCell_loop {b : zB} (ok : okB b) (c : Int32) : ∀ (r : List zL) (i fuel m : Nat) (g : zG), rS (g 0) b → b.1.drop i = r → i ≤ b.1.length → r.length < fuel → m < 2 ^ i → ∃ g', f_X7_inCell_4 fuel c (nI m) (nI i) g = some (nI (m + 2 ^ i * setB (pc b c) r), g') ∧ kp g g' := by
  have hn := ok.1
  intro r
  induction r with
  | nil =>
    intro i fuel m g hS hd hi hf hm
    obtain ⟨n, rfl⟩ : ∃ n, fuel = n + 1 := ⟨fuel - 1, by omega⟩
    have hi2 : b.1.length ≤ i := List.drop_eq_nil_iff.mp hd
    refine ⟨g, ?_, kp_rf g⟩
    show f_X7_inCell_4_b (f_X7_inCell_4 n) c (nI m) (nI i) g = _
    unfold f_X7_inCell_4_b
    rw [z0 (by decide) (by decide), tn0, hS.1, if_pos ((nI_leI (by omega) (by omega)).mpr hi2), show setB (pc b c) [] = 0 from rfl, Nat.mul_zero, Nat.add_zero]
  | cons q r ih =>
    intro i fuel m g hS hd hi hf hm
    obtain ⟨n, rfl⟩ : ∃ n, fuel = n + 1 := ⟨fuel - 1, by omega⟩
    obtain ⟨e1, e2, e3⟩ := drop_cons hd
    rw [List.length_cons] at hf
    obtain ⟨g1, k1, k2⟩ := follows_ev hS ok e2 (u := 1000) (by decide)
    have hS1 : rS (g1 0) b := by rw [kp_0 k2.1]; exact hS
    have no : pc b c q = false → ∃ g', f_X7_inCell_4 n c (nI m) (nI (i + 1)) g1 = some (nI (m + 2 ^ i * setB (pc b c) (q :: r)), g') ∧ kp g g' := by
      intro h
      obtain ⟨g', j1, j2⟩ := ih (i + 1) n m g1 hS1 e3 (by omega) (by omega) (pw2' hm)
      rw [j1, setB_f h]
      exact ⟨g', rfl, kp_tr k2.1 j2⟩
    show ∃ g', f_X7_inCell_4_b (f_X7_inCell_4 n) c (nI m) (nI i) g = _ ∧ _
    unfold f_X7_inCell_4_b f_X7_inCell_44
    rw [z0 (by decide) (by decide), tn0, hS.1, if_neg (fun q => by have := (nI_leI (by omega) (by omega)).mp q; omega), k1, zbind_some, nIs, k2.2.2.2.2, Int32.or_zero]
    have ez : pth q.1 b.2.1 1000 = zE b q := rfl
    have k9 := k2.2.2.1
    rw [ez] at k9 ⊢
    rcases bool_tf (cm b q) with hc | hc
    · have hc' := cm_t.mp hc
      rw [if_pos hc', cell_ev hS1 ok k9 (pth_rng hc'), zbind_some]
      by_cases e : fdI (zE b q).2.1 b.2.2 = c
      · rw [if_pos e, or_bit (by omega) hm]
        obtain ⟨g', j1, j2⟩ := ih (i + 1) n _ g1 hS1 e3 (by omega) (by omega) (pw2 hm)
        rw [j1, setB_t (pc_t.mpr ⟨hc, e⟩)]
        exact ⟨g', rfl, kp_tr k2.1 j2⟩
      · rw [if_neg e]
        exact no (pc_f (fun h => e h.2))
    · rw [if_neg (cm_f.mp hc)]
      exact no (pc_f (fun h => by rw [hc] at h; exact absurd h.1 (by decide)))
theorem inCell_ev {b : zB} (ok : okB b) (c : Int32) {g : zG} (hS : rS (g 0) b) : ∃ g', f_X7_inCell g c = some (nI (setB (pc b c) b.1), g') ∧ kp g g' := by
  unfold f_X7_inCell
  have hn := ok.1
  have := inCell_loop ok c b.1 0 zfuel 0 g hS rfl (Nat.zero_le _) (by unfold zfuel; omega) (by decide)
  rw [Nat.zero_add, Nat.pow_zero, Nat.one_mul] at this
  exact this
theorem pm_light {gB gX gY gN : zG} {h : Nat → Option zG} (hR : zRel gB gX gY h gN) (gM : zG) (gR : zG) (gC0 : zG) (x1 : Int32) : ∃ R R', f_X6_light gM gB gR gC0 x1 = some R ∧ f_X7_light gN x1 = some R' ∧ R.1 = R'.1 ∧ zRel gB gX gY h R'.2 := by
  obtain ⟨b, hs, tx, hA⟩ := zRel_abs hR
  have hA0 := hA
  obtain ⟨h1, h2, h3, h4, h5, h6, h7, h8, h9⟩ := hA
  have hn := h1.1
  unfold f_X6_light f_X7_light
  rw [within_ev, zbind_some, ite_1, in_ev, zbind_some, ite_1]
  by_cases q : -9999 ≤ x1 ∧ x1 ≤ 9999
  · rw [if_pos q, if_pos q]
    obtain ⟨gR', r1, r2⟩ := ray_follow h3 h1 gR
    obtain ⟨gC', c1, c2⟩ := gather_ev h3 h1 r2 gC0
    obtain ⟨gN', n1, n2⟩ := inCell_ev h1 x1 h4
    have hS' : rS (gN' 0) b := by rw [kp_0 n2]; exact h4
    obtain ⟨d1, d2, d3⟩ := dc_D b
    have hle := didx_le x1 (dc b)
    rw [r1, zbind_some, c1, zbind_some, n1, zbind_some, lightIn_ev h1 hS', zbind_some]
    unfold f_X1_lightOf
    rw [slotOf_ev c2.1 (by omega) (fun k c h => (c2.2 k c h).1), zbind_some, hasSlot_nI c2.1 (by omega) (by omega), zbind_some, ite_1]
    by_cases hm : x1 ∈ dc b
    · have hin := didx_in hm
      have hlt := (List.getElem?_eq_some_iff.mp hin).1
      rw [if_pos hlt, zin_nI (by omega) (by decide), nI_clamp (by omega), (c2.2 _ _ hin).2.1, zbind_some]
      exact ⟨_, _, rfl, rfl, rfl, zAbs_rel (kp_abs hA0 n2)⟩
    · rw [didx_out hm, if_neg (Nat.lt_irrefl _), zbind_some, sm_none (fun x hx => by rw [pc_f (fun h => hm (by rw [← h.2]; exact d3 x hx h.1))]; rfl)]
      exact ⟨_, _, rfl, rfl, rfl, zAbs_rel (kp_abs hA0 n2)⟩
  · rw [if_neg q, if_neg q]
    exact ⟨_, _, rfl, rfl, rfl, hR⟩
theorem nI_or (a b : Nat) : nI a ||| nI b = nI (a ||| b) := by
  apply Int32.toBitVec_inj.1
  show BitVec.ofNat 32 a ||| BitVec.ofNat 32 b = BitVec.ofNat 32 (a ||| b)
  apply BitVec.eq_of_getLsbD_eq
  intro i hi
  simp [hi]
theorem setB_or (p p' : zL → Bool) : ∀ ls : List zL, setB p ls ||| setB p' ls = setB (fun q => p q || p' q) ls := by
  intro ls
  induction ls with
  | nil => show (0 : Nat) ||| 0 = 0; decide
  | cons q r ih =>
    unfold setB
    rw [← ih]
    have e := Nat.div_add_mod ((((if p q then 1 else 0) + 2 * setB p r)) ||| (((if p' q then 1 else 0) + 2 * setB p' r))) 2
    rw [← e, Nat.or_div_two]
    have e1 : ((if p q then 1 else 0) + 2 * setB p r) / 2 = setB p r := by split <;> omega
    have e2 : ((if p' q then 1 else 0) + 2 * setB p' r) / 2 = setB p' r := by split <;> omega
    rw [e1, e2]
    have e3 : ((((if p q then 1 else 0) + 2 * setB p r)) ||| (((if p' q then 1 else 0) + 2 * setB p' r))) % 2 = if (p q || p' q) = true then 1 else 0 := by
      have := @Nat.or_mod_two_eq_one ((if p q then 1 else 0) + 2 * setB p r) ((if p' q then 1 else 0) + 2 * setB p' r)
      rcases bool_tf (p q) with h | h <;> rcases bool_tf (p' q) with h' | h' <;> simp only [h, h', Bool.or_true, Bool.true_or, Bool.or_false, if_true, if_false, Bool.false_eq_true] at this ⊢ <;> omega
    rw [e3]
    omega
/-- the reference's cells -/
def gL (b : zB) (D : List Int32) (g : zG) : Prop := ∀ (k : Nat) (c : Int32), D[k]? = some c → g 12 k = c ∧ g 13 k = nI (setB (pc b c) b.1)
theorem lays_loop {b : zB} (ok : okB b) : ∀ (r pre : List zL) (fuel : Nat) (D : List Int32) (g : zG), b.1 = pre ++ r → r.length < fuel → gD b pre D → gL b D g → rS (g 0) b → ∃ g', f_X7_laysCells_6 fuel (nI D.length) (nI (setB (fun q => cm b q && decide (cl b q ∈ D)) b.1)) (nI pre.length) g = some (nI (dcs b r D).length, g') ∧ gL b (dcs b r D) g' ∧ kq g g' := by
  have hn := ok.1
  intro r
  induction r with
  | nil =>
    intro pre fuel D g hd hf hD hg hS
    obtain ⟨n, rfl⟩ : ∃ n, fuel = n + 1 := ⟨fuel - 1, by omega⟩
    rw [List.append_nil] at hd
    refine ⟨g, ?_, hg, kq_rf g⟩
    show f_X7_laysCells_6_b (f_X7_laysCells_6 n) _ _ (nI pre.length) g = _
    unfold f_X7_laysCells_6_b
    rw [z0 (by decide) (by decide), tn0, hS.1, if_pos ((nI_leI (by omega) (by rw [← hd]; omega)).mpr (by rw [hd]; exact Nat.le_refl _))]
    rfl
  | cons q r ih =>
    intro pre fuel D g hd hf hD hg hS
    obtain ⟨n, rfl⟩ : ∃ n, fuel = n + 1 := ⟨fuel - 1, by omega⟩
    rw [List.length_cons] at hf
    have e1 : pre.length < b.1.length := by rw [hd]; simp
    have e2 : b.1[pre.length]? = some q := by rw [hd]; simp
    have hd' : b.1 = (pre ++ [q]) ++ r := by rw [hd]; simp
    have el : (pre ++ [q]).length = pre.length + 1 := by simp
    obtain ⟨g1, k1, k2⟩ := follows_ev hS ok e2 (u := 1000) (by decide)
    have hS1 : rS (g1 0) b := by rw [kp_0 k2.1]; exact hS
    have hg1 : gL b D g1 := fun k c hk => by
      rw [k2.1 12 (by decide) (by decide) (by decide) (by decide), k2.1 13 (by decide) (by decide) (by decide) (by decide)]
      exact hg k c hk
    have hDl : D.length ≤ pre.length := hD.2.1
    have no : ¬ (cm b q = true ∧ cl b q ∉ D) → ∃ g', f_X7_laysCells_6 n (nI D.length) (nI (setB (fun q => cm b q && decide (cl b q ∈ D)) b.1)) (nI (pre.length + 1)) g1 = some (nI (dcs b r (nx b q D)).length, g') ∧ gL b (dcs b r (nx b q D)) g' ∧ kq g g' := by
      intro h
      have en : nx b q D = D := by unfold nx; rw [if_neg h]
      have hD' := gD_nx hD q
      rw [en] at hD' ⊢
      obtain ⟨g', j1, j2, j3⟩ := ih (pre ++ [q]) n D g1 hd' (by omega) hD' hg1 hS1
      rw [el] at j1
      exact ⟨g', j1, j2, kq_tr (kq_of k2.1) j3⟩
    show ∃ g', f_X7_laysCells_6_b (f_X7_laysCells_6 n) _ _ (nI pre.length) g = some (nI (dcs b r (nx b q D)).length, g') ∧ gL b (dcs b r (nx b q D)) g' ∧ kq g g'
    unfold f_X7_laysCells_6_b
    have ez : pth q.1 b.2.1 1000 = zE b q := rfl
    have k9 := k2.2.2.1
    rw [z0 (by decide) (by decide), tn0, hS.1, if_neg (fun q => by have := (nI_leI (by omega) (by omega)).mp q; omega), k1, zbind_some, nIs pre.length, k2.2.2.2.2, ez]
    rw [ez] at k9
    rcases bool_tf (cm b q) with hc | hc
    · have hc' := cm_t.mp hc
      rw [if_pos hc']
      by_cases hm : cl b q ∈ D
      · rw [bit_yes hn e2 (p := fun q => cm b q && decide (cl b q ∈ D)) (by simp [hc, hm]), if_neg ne10]
        exact no (fun h => h.2 hm)
      · have z8 : ∀ {β : Type} (j : Option β), zin (nI D.length) 8 j = j := fun j => zin_nI (by omega) (by decide)
        have cd : (nI D.length).toNatClampNeg = D.length := nI_clamp (by omega)
        rw [bit_no hn e2 (p := fun q => cm b q && decide (cl b q ∈ D)) (by simp [hm]), if_pos rfl, cell_ev hS1 ok k9 (pth_rng hc'), zbind_some, z8, zlet_eq, z8, cd, gup_same]
        have e12 : upd (g1 12) D.length (fdI (zE b q).2.1 b.2.2) D.length = cl b q := by simp [upd]; rfl
        rw [e12]
        have hS2 : rS ((gup g1 12 D.length (fdI (zE b q).2.1 b.2.2)) 0) b := by rw [gup_ne _ _ _ (by decide)]; exact hS1
        obtain ⟨g2, i1, i2⟩ := inCell_ev ok (cl b q) hS2
        rw [i1, zbind_some]
        dsimp only
        rw [z8, zlet_eq, z8, gup_same]
        have e13 : upd (g2 13) D.length (nI (setB (pc b (cl b q)) b.1)) D.length = nI (setB (pc b (cl b q)) b.1) := by simp [upd]
        rw [e13, nI_or, setB_or, nIs D.length]
        have en : nx b q D = D ++ [cl b q] := by unfold nx; rw [if_pos ⟨hc, hm⟩]
        have eb : setB (fun x => (cm b x && decide (cl b x ∈ D)) || pc b (cl b q) x) b.1 = setB (fun x => cm b x && decide (cl b x ∈ nx b q D)) b.1 := by
          refine setB_congr (fun x _ => ?_)
          rw [en]
          unfold pc
          rcases bool_tf (cm b x) with h | h <;> simp [h]
        have eL : D.length + 1 = (nx b q D).length := by rw [en]; simp
        rw [eb, eL]
        have hS3 : rS ((gup g2 13 D.length (nI (setB (pc b (cl b q)) b.1))) 0) b := by rw [gup_ne _ _ _ (by decide), kp_0 i2]; exact hS2
        have kk : kq g (gup g2 13 D.length (nI (setB (pc b (cl b q)) b.1))) := fun j a1 a2 a3 a4 a5 a6 => by
          rw [gup_ne _ _ _ a6, i2 j a1 a2 a3 a4, gup_ne _ _ _ a5, k2.1 j a1 a2 a3 a4]
        have hg3 : gL b (nx b q D) (gup g2 13 D.length (nI (setB (pc b (cl b q)) b.1))) := by
          intro k c hk
          rw [en] at hk
          rw [gup_ne _ _ _ (show (12 : Nat) ≠ 13 by decide), gup_same, i2 12 (by decide) (by decide) (by decide) (by decide), i2 13 (by decide) (by decide) (by decide) (by decide), gup_same, gup_ne _ _ _ (show (13 : Nat) ≠ 12 by decide)]
          rcases snoc_get hk with ⟨hk1, hk⟩ | ⟨rfl, rfl⟩
          · unfold upd
            rw [if_neg (by omega), if_neg (by omega)]
            exact hg1 k c hk
          · unfold upd
            rw [if_pos rfl, if_pos rfl]
            exact ⟨rfl, rfl⟩
        obtain ⟨g', j1, j2, j3⟩ := ih (pre ++ [q]) n (nx b q D) _ hd' (by omega) (gD_nx hD q) hg3 hS3
        rw [el] at j1
        exact ⟨g', j1, j2, kq_tr kk j3⟩
    · rw [if_neg (cm_f.mp hc)]
      exact no (fun h => by rw [hc] at h; exact absurd h.1 (by decide))
theorem lays_ev {b : zB} (ok : okB b) {g : zG} (hS : rS (g 0) b) : ∃ g', f_X7_laysCells g = some (nI (dc b).length, g') ∧ gL b (dc b) g' ∧ kq g g' := by
  unfold f_X7_laysCells
  have hn := ok.1
  have e0 : setB (fun q => cm b q && decide (cl b q ∈ ([] : List Int32))) b.1 = 0 := setB_none (fun q _ => by simp)
  have := lays_loop ok b.1 [] zfuel [] g rfl (by unfold zfuel; omega) (gD_0 b) (fun k c h => by simp at h) hS
  rw [e0] at this
  exact this
/-! ===== the brightest cells ===== -/
theorem sm_bd {f : zL → Int32} : ∀ ls : List zL, (∀ q ∈ ls, 0 ≤ (f q).toInt ∧ (f q).toInt ≤ 999) → ls.length ≤ 8 → 0 ≤ (sm f ls).toInt ∧ (sm f ls).toInt ≤ 999 * ls.length := by
  intro ls
  induction ls with
  | nil =>
    intro _ _
    show (0 : Int) ≤ (0 : Int32).toInt ∧ (0 : Int32).toInt ≤ 999 * ((0 : Nat) : Int)
    decide
  | cons q r ih =>
    intro h hl
    rw [List.length_cons] at hl
    obtain ⟨a1, a2⟩ := h q List.mem_cons_self
    obtain ⟨b1, b2⟩ := ih (fun x hx => h x (List.mem_cons_of_mem _ hx)) (by omega)
    have e : (sm f (q :: r)).toInt = (f q).toInt + (sm f r).toInt := iadd (by omega) (by omega)
    rw [e, List.length_cons]
    omega
theorem okL_bd {t : zL} (h : okL t) : 0 ≤ t.2.toInt ∧ t.2.toInt ≤ 999 := by
  have h1 : (1 : Int) ≤ t.2.toInt := ile_c h.2.2.1
  have h2 : t.2.toInt ≤ (999 : Int) := ile_c h.2.2.2
  omega
theorem lc_bd {b : zB} (ok : okB b) (c : Int32) : 0 ≤ (lc b c b.1).toInt ∧ (lc b c b.1).toInt ≤ 7992 := by
  have hn := ok.1
  have := sm_bd (f := fun q => if pc b c q then q.2 else 0) b.1 (fun q hq => by
    have := okL_bd (ok.2.2.2.2.1 q hq)
    split
    · exact this
    · exact ⟨by decide, by decide⟩) hn
  unfold lc
  omega
theorem by_pos {a c : Int32} (ha : 0 ≤ a.toInt ∧ a.toInt ≤ 7992) (hc : 0 ≤ c.toInt ∧ c.toInt ≤ 7992) : (0 < a - c ↔ c < a) ∧ (a - c = 0 ↔ a = c) := by
  have e : (a - c).toInt = a.toInt - c.toInt := isub (by omega) (by omega)
  refine ⟨?_, ?_⟩
  · rw [ilt, ilt, e, Int32.toInt_zero]; omega
  · rw [← Int32.toInt_inj, ← Int32.toInt_inj, e, Int32.toInt_zero]; omega
def nD (b : zB) (k : Nat) : Int32 := (dc b).getD k 0
def bri (b : zB) (i k : Nat) : Bool := decide (lc b (nD b k) b.1 < lc b (nD b i) b.1 ∨ (lc b (nD b i) b.1 = lc b (nD b k) b.1 ∧ nD b i < nD b k))
theorem nD_get {b : zB} {k : Nat} (h : k < (dc b).length) : (dc b)[k]? = some (nD b k) := getD_some h
def rkN (B : Nat → Bool) : Nat → Nat → Nat → Nat
  | 0, _, a => a
  | d + 1, i, a => rkN B d (i + 1) (if B i then a + 1 else a)
def fkd (P : Nat → Bool) : Nat → Nat → Option Nat
  | 0, _ => none
  | d + 1, i => if P i then some i else fkd P d (i + 1)
theorem rank_loop {b : zB} {g : zG} (hg : gC b b.1 (dc b) g) (hm : (dc b).length ≤ 8) {k : Nat} (hk : k < (dc b).length) : ∀ (d i fuel a : Nat), i + d = (dc b).length → d < fuel → f_X1_rankOf_4 g fuel (nI k) (nI a) (nI i) = some (nI (rkN (fun o => bri b o k) d i a)) := by
  intro d
  induction d with
  | zero =>
    intro i fuel a hi hf
    obtain ⟨n, rfl⟩ : ∃ n, fuel = n + 1 := ⟨fuel - 1, by omega⟩
    show f_X1_rankOf_4_b g (f_X1_rankOf_4 g n) (nI k) (nI a) (nI i) = _
    unfold f_X1_rankOf_4_b
    rw [hasSlot_nI hg.1 hm (by omega), if_neg (c := i < (dc b).length) (by omega), zbind_some, if_pos rfl]
    split <;> rfl
  | succ d ih =>
    intro i fuel a hi hf
    obtain ⟨n, rfl⟩ : ∃ n, fuel = n + 1 := ⟨fuel - 1, by omega⟩
    have hil : i < (dc b).length := by omega
    have z8 : ∀ {β : Type} (j : Option β), zin (nI i) 8 j = j := fun j => zin_nI (by omega) (by decide)
    have z8' : ∀ {β : Type} (j : Option β), zin (nI k) 8 j = j := fun j => zin_nI (by omega) (by decide)
    obtain ⟨a1, a2, -⟩ := hg.2 i _ (nD_get hil)
    obtain ⟨b1, b2, -⟩ := hg.2 k _ (nD_get hk)
    show f_X1_rankOf_4_b g (f_X1_rankOf_4 g n) (nI k) (nI a) (nI i) = some (nI (rkN (fun o => bri b o k) d (i + 1) (if bri b i k then a + 1 else a)))
    unfold f_X1_rankOf_4_b f_X1_rankOf_38 f_X1_rankOf_74 f_X1_rankOf_75
    rw [if_neg (c := (8 : Int32) ≤ nI i) (by rw [l8 (by omega)]; omega), hasSlot_nI hg.1 hm (by omega), if_pos hil, zbind_some, if_neg ne10]
    simp only [z8, z8', nI_clamp (show i < 2 ^ 31 by omega), nI_clamp (show k < 2 ^ 31 by omega), a1, a2, b1, b2, nIs]
    have yes : bri b i k = true → f_X1_rankOf_4 g n (nI k) (nI (a + 1)) (nI (i + 1)) = some (nI (rkN (fun o => bri b o k) d (i + 1) (if bri b i k then a + 1 else a))) := by
      intro h
      rw [h, if_pos rfl]
      exact ih (i + 1) n (a + 1) (by omega) (by omega)
    have no : bri b i k = false → f_X1_rankOf_4 g n (nI k) (nI a) (nI (i + 1)) = some (nI (rkN (fun o => bri b o k) d (i + 1) (if bri b i k then a + 1 else a))) := by
      intro h
      rw [h, if_neg (by decide)]
      exact ih (i + 1) n a (by omega) (by omega)
    by_cases h1 : lc b (nD b i) b.1 ≤ lc b (nD b k) b.1
    · rw [if_pos h1]
      by_cases h2 : lc b (nD b i) b.1 = lc b (nD b k) b.1
      · rw [if_pos h2]
        by_cases h3 : nD b k ≤ nD b i
        · rw [if_pos h3, if_pos trivial, if_pos trivial]
          refine no ?_
          unfold bri
          rw [decide_eq_false_iff_not]
          rintro (h | h)
          · exact inle.mpr h h1
          · exact inle.mpr h.2 h3
        · rw [if_neg h3, if_pos trivial, if_neg ne10]
          refine yes ?_
          unfold bri
          rw [decide_eq_true_iff]
          exact Or.inr ⟨h2, inle.mp h3⟩
      · rw [if_neg h2, if_pos trivial, if_pos trivial]
        refine no ?_
        unfold bri
        rw [decide_eq_false_iff_not]
        rintro (h | h)
        · exact inle.mpr h h1
        · exact h2 h.1
    · rw [if_neg h1]
      simp only [if_neg ne10, ite_self]
      refine yes ?_
      unfold bri
      rw [decide_eq_true_iff]
      exact Or.inl (inle.mp h1)
def rkP (b : zB) (x : Int32) (k : Nat) : Bool := decide (nI (rkN (fun o => bri b o k) (dc b).length 0 0) = x)
theorem rank_ev {b : zB} {g : zG} (hg : gC b b.1 (dc b) g) (hm : (dc b).length ≤ 8) {k : Nat} (hk : k < (dc b).length) : f_X1_rankOf g (nI k) = some (nI (rkN (fun o => bri b o k) (dc b).length 0 0)) := by
  unfold f_X1_rankOf
  exact rank_loop hg hm hk (dc b).length 0 zfuel 0 (by omega) (by unfold zfuel; omega)
theorem slotRank_loop {b : zB} {g : zG} (hg : gC b b.1 (dc b) g) (hm : (dc b).length ≤ 8) (x : Int32) : ∀ (d i fuel : Nat), i + d = (dc b).length → d < fuel → f_X1_slotOfRank_2 g fuel x (nI i) = some (ix (fkd (rkP b x) d i) (-1)) := by
  intro d
  induction d with
  | zero =>
    intro i fuel hi hf
    obtain ⟨n, rfl⟩ : ∃ n, fuel = n + 1 := ⟨fuel - 1, by omega⟩
    show f_X1_slotOfRank_2_b g (f_X1_slotOfRank_2 g n) x (nI i) = _
    unfold f_X1_slotOfRank_2_b
    rw [hasSlot_nI hg.1 hm (by omega), if_neg (c := i < (dc b).length) (by omega), zbind_some, if_pos rfl]
    split <;> rfl
  | succ d ih =>
    intro i fuel hi hf
    obtain ⟨n, rfl⟩ : ∃ n, fuel = n + 1 := ⟨fuel - 1, by omega⟩
    have hil : i < (dc b).length := by omega
    show f_X1_slotOfRank_2_b g (f_X1_slotOfRank_2 g n) x (nI i) = some (ix (if rkP b x i then some i else fkd (rkP b x) d (i + 1)) (-1))
    unfold f_X1_slotOfRank_2_b
    rw [if_neg (c := (8 : Int32) ≤ nI i) (by rw [l8 (by omega)]; omega), hasSlot_nI hg.1 hm (by omega), if_pos hil, zbind_some, if_neg ne10, rank_ev hg hm hil, zbind_some, nIs]
    unfold rkP
    by_cases h : nI (rkN (fun o => bri b o i) (dc b).length 0 0) = x
    · rw [if_pos h, if_pos (decide_eq_true h)]
      rfl
    · rw [if_neg h, decide_eq_false h, if_neg (by decide)]
      exact ih (i + 1) n (by omega) (by omega)
theorem fkd_lt {P : Nat → Bool} : ∀ (d i k : Nat), fkd P d i = some k → k < i + d := by
  intro d
  induction d with
  | zero => intro i k h; cases h
  | succ d ih =>
    intro i k h
    unfold fkd at h
    split at h
    · cases h; omega
    · have := ih (i + 1) k h; omega
theorem brighter_ev {b : zB} (ok : okB b) {g : zG} (hS : rS (g 0) b) (hg : gL b (dc b) g) (hm : (dc b).length ≤ 8) {i k : Nat} (hi : i < (dc b).length) (hk : k < (dc b).length) : f_X7_isBrighter g (nI i) (nI k) = some (if bri b i k then 1 else 0) := by
  have z8 : ∀ {β : Type} (j : Option β), zin (nI i) 8 j = j := fun j => zin_nI (by omega) (by decide)
  have z8' : ∀ {β : Type} (j : Option β), zin (nI k) 8 j = j := fun j => zin_nI (by omega) (by decide)
  obtain ⟨a1, a2⟩ := hg i _ (nD_get hi)
  obtain ⟨b1, b2⟩ := hg k _ (nD_get hk)
  obtain ⟨p1, p2⟩ := by_pos (lc_bd ok (nD b i)) (lc_bd ok (nD b k))
  unfold f_X7_isBrighter
  simp only [z8, z8', nI_clamp (show i < 2 ^ 31 by omega), nI_clamp (show k < 2 ^ 31 by omega), a1, a2, b1, b2]
  rw [lightIn_ev ok hS, zbind_some, lightIn_ev ok hS, zbind_some]
  have e1 : sm (fun q => if pc b (nD b i) q then q.2 else 0) b.1 = lc b (nD b i) b.1 := rfl
  have e2 : sm (fun q => if pc b (nD b k) q then q.2 else 0) b.1 = lc b (nD b k) b.1 := rfl
  rw [e1, e2]
  unfold bri
  by_cases h1 : lc b (nD b k) b.1 < lc b (nD b i) b.1
  · rw [if_pos (p1.mpr h1), if_pos (decide_eq_true (Or.inl h1))]
  · rw [if_neg (fun h => h1 (p1.mp h))]
    by_cases h2 : lc b (nD b i) b.1 = lc b (nD b k) b.1
    · rw [if_pos (p2.mpr h2)]
      by_cases h3 : nD b k ≤ nD b i
      · rw [if_pos h3, decide_eq_false (fun h => h.elim h1 (fun h => inle.mpr h.2 h3)), if_neg (by decide)]
      · rw [if_neg h3, if_pos (decide_eq_true (Or.inr ⟨h2, inle.mp h3⟩))]
    · rw [if_neg (fun h => h2 (p2.mp h)), decide_eq_false (fun h => h.elim h1 (fun h => h2 h.1)), if_neg (by decide)]
def brA (b : zB) (x2 : Int32) (k : Nat) : Int32 := if x2 = 0 then nD b k else if x2 = 1 then lc b (nD b k) b.1 else nI (setB (pc b (nD b k)) b.1)
theorem bright36_loop {b : zB} (ok : okB b) {g : zG} (hS : rS (g 0) b) (hg : gL b (dc b) g) (hm : (dc b).length ≤ 8) (x1 x2 : Int32) (k24 : Int32 → Int32 → Int32 → Int32 → zG → Option (Int32 × zG)) {k : Nat} (hk : k < (dc b).length) : ∀ (d i fuel a : Nat), i + d = (dc b).length → d < fuel → f_X7_bright_36 k24 fuel x1 x2 (nI (dc b).length) (nI k) (nI a) (nI i) g = if nI (rkN (fun o => bri b o k) d i a) = x1 then some (brA b x2 k, g) else k24 x1 x2 (nI (dc b).length) (nI (k + 1)) g := by
  intro d
  induction d with
  | zero =>
    intro i fuel a hi hf
    obtain ⟨n, rfl⟩ : ∃ n, fuel = n + 1 := ⟨fuel - 1, by omega⟩
    have z8' : ∀ {β : Type} (j : Option β), zin (nI k) 8 j = j := fun j => zin_nI (by omega) (by decide)
    obtain ⟨b1, b2⟩ := hg k _ (nD_get hk)
    show f_X7_bright_36_b k24 (f_X7_bright_36 k24 n) x1 x2 (nI (dc b).length) (nI k) (nI a) (nI i) g = _
    unfold f_X7_bright_36_b
    rw [if_pos (c := nI (dc b).length ≤ nI i) ((nI_leI (by omega) (by omega)).mpr (by omega)), nIs]
    simp only [z8', nI_clamp (show k < 2 ^ 31 by omega), b1, b2]
    rw [lightIn_ev ok hS, zbind_some]
    have e2 : sm (fun q => if pc b (nD b k) q then q.2 else 0) b.1 = lc b (nD b k) b.1 := rfl
    rw [e2]
    have er : rkN (fun o => bri b o k) 0 i a = a := rfl
    rw [er]
    unfold brA
    by_cases h : nI a = x1
    · rw [if_pos h, if_pos h]
      by_cases h0 : x2 = 0
      · rw [if_pos h0, if_pos h0]
      · rw [if_neg h0, if_neg h0]
        by_cases h1 : x2 = 1
        · rw [if_pos h1, if_pos h1]
        · rw [if_neg h1, if_neg h1]
    · rw [if_neg h, if_neg h]
  | succ d ih =>
    intro i fuel a hi hf
    obtain ⟨n, rfl⟩ : ∃ n, fuel = n + 1 := ⟨fuel - 1, by omega⟩
    have hil : i < (dc b).length := by omega
    have er : rkN (fun o => bri b o k) (d + 1) i a = rkN (fun o => bri b o k) d (i + 1) (if bri b i k then a + 1 else a) := rfl
    show f_X7_bright_36_b k24 (f_X7_bright_36 k24 n) x1 x2 (nI (dc b).length) (nI k) (nI a) (nI i) g = _
    unfold f_X7_bright_36_b
    rw [if_neg (c := nI (dc b).length ≤ nI i) (fun h => by have := (nI_leI (by omega) (by omega)).mp h; omega), brighter_ev ok hS hg hm hil hk, zbind_some, ite_1, er, nIs, nIs, Int32.add_zero]
    by_cases h : bri b i k = true
    · rw [if_pos h, if_pos h]
      exact ih (i + 1) n (a + 1) (by omega) (by omega)
    · rw [if_neg h, if_neg h]
      exact ih (i + 1) n a (by omega) (by omega)
theorem bright24_loop {b : zB} (ok : okB b) {g : zG} (hS : rS (g 0) b) (hg : gL b (dc b) g) (hm : (dc b).length ≤ 8) (x1 x2 : Int32) : ∀ (d i fuel : Nat), i + d = (dc b).length → d < fuel → f_X7_bright_24 fuel x1 x2 (nI (dc b).length) (nI i) g = some (match fkd (rkP b x1) d i with | none => NFO | some k => brA b x2 k, g) := by
  intro d
  induction d with
  | zero =>
    intro i fuel hi hf
    obtain ⟨n, rfl⟩ : ∃ n, fuel = n + 1 := ⟨fuel - 1, by omega⟩
    show f_X7_bright_24_b (f_X7_bright_24 n) x1 x2 (nI (dc b).length) (nI i) g = _
    unfold f_X7_bright_24_b
    rw [if_pos (c := nI (dc b).length ≤ nI i) ((nI_leI (by omega) (by omega)).mpr (by omega))]
    rfl
  | succ d ih =>
    intro i fuel hi hf
    obtain ⟨n, rfl⟩ : ∃ n, fuel = n + 1 := ⟨fuel - 1, by omega⟩
    have hil : i < (dc b).length := by omega
    have ef : fkd (rkP b x1) (d + 1) i = if rkP b x1 i then some i else fkd (rkP b x1) d (i + 1) := rfl
    show f_X7_bright_24_b (f_X7_bright_24 n) x1 x2 (nI (dc b).length) (nI i) g = _
    unfold f_X7_bright_24_b
    rw [if_neg (c := nI (dc b).length ≤ nI i) (fun h => by have := (nI_leI (by omega) (by omega)).mp h; omega)]
    have := bright36_loop ok hS hg hm x1 x2 (f_X7_bright_24 n) hil (dc b).length 0 zfuel 0 (by omega) (by unfold zfuel; omega)
    have this : f_X7_bright_36 (f_X7_bright_24 n) zfuel x1 x2 (nI (dc b).length) (nI i) (0 : Int32) (0 : Int32) g = _ := this
    rw [this, ef]
    unfold rkP
    by_cases h : nI (rkN (fun o => bri b o i) (dc b).length 0 0) = x1
    · rw [if_pos h, if_pos (decide_eq_true h)]
    · rw [if_neg h, if_neg (by rw [decide_eq_false h]; decide)]
      exact ih (i + 1) n (by omega) (by omega)
theorem pm_bright {gB gX gY gN : zG} {h : Nat → Option zG} (hR : zRel gB gX gY h gN) (gM : zG) (gR : zG) (gC0 : zG) (x1 x2 : Int32) : ∃ R R', f_X6_bright gM gB gR gC0 x1 x2 = some R ∧ f_X7_bright gN x1 x2 = some R' ∧ R.1 = R'.1 ∧ zRel gB gX gY h R'.2 := by
  obtain ⟨b, hs, tx, hA⟩ := zRel_abs hR
  have hA0 := hA
  obtain ⟨h1, h2, h3, h4, h5, h6, h7, h8, h9⟩ := hA
  have hn := h1.1
  unfold f_X6_bright f_X7_bright
  by_cases hx : x1 < 0
  · rw [if_pos hx, if_pos hx]
    exact ⟨_, _, rfl, rfl, rfl, hR⟩
  · rw [if_neg hx, if_neg hx, within_ev, zbind_some, ite_1, in_ev, zbind_some, ite_1]
    by_cases q : 0 ≤ x2 ∧ x2 ≤ 2
    · rw [if_pos q, if_pos q]
      obtain ⟨gR', r1, r2⟩ := ray_follow h3 h1 gR
      obtain ⟨gC', c1, c2⟩ := gather_ev h3 h1 r2 gC0
      obtain ⟨gN', n1, n2, n3⟩ := lays_ev h1 h4
      have hS' : rS (gN' 0) b := by rw [kq_0 n3]; exact h4
      obtain ⟨d1, d2, d3⟩ := dc_D b
      have hm : (dc b).length ≤ 8 := by omega
      have hz : zRel gB gX gY h gN' := zAbs_rel (kq_abs hA0 n3)
      have m1 := bright24_loop h1 hS' n2 hm x1 x2 (dc b).length 0 zfuel (by omega) (by unfold zfuel; omega)
      have m1 : f_X7_bright_24 zfuel x1 x2 (nI (dc b).length) (0 : Int32) gN' = _ := m1
      have s1 := slotRank_loop c2 hm x1 (dc b).length 0 zfuel (by omega) (by unfold zfuel; omega)
      have s1 : f_X1_slotOfRank gC' x1 = _ := s1
      rw [r1, zbind_some, c1, zbind_some, n1, zbind_some, m1, s1, zbind_some]
      cases hf : fkd (rkP b x1) (dc b).length 0 with
      | none =>
        have e : f_X1_hasSlot gC' (ix none (-1)) = some 0 := by
          unfold f_X1_hasSlot
          rw [if_pos (show ix none (-1) < 0 from by decide)]
        rw [e, zbind_some, if_pos rfl]
        exact ⟨_, _, rfl, rfl, rfl, hz⟩
      | some k =>
        have hk := fkd_lt _ _ _ hf
        have hk : k < (dc b).length := by omega
        obtain ⟨a1, a2, a3⟩ := c2.2 k _ (nD_get hk)
        have z8 : ∀ {β : Type} (j : Option β), zin (nI k) 8 j = j := fun j => zin_nI (by omega) (by decide)
        have e : ix (some k) (-1) = nI k := rfl
        rw [e, hasSlot_nI c2.1 hm (by omega), if_pos hk, zbind_some, if_neg ne10]
        simp only [z8, nI_clamp (show k < 2 ^ 31 by omega), a1, a2, a3]
        unfold brA
        rcases upto2 q with rfl | rfl | rfl
        · rw [if_pos rfl, if_pos rfl]
          exact ⟨_, _, rfl, rfl, rfl, hz⟩
        · rw [if_neg (by decide), if_pos rfl, if_neg (by decide), if_pos rfl]
          exact ⟨_, _, rfl, rfl, rfl, hz⟩
        · rw [if_neg (by decide), if_neg (by decide), if_neg (by decide), if_neg (by decide)]
          exact ⟨_, _, rfl, rfl, rfl, hz⟩
    · rw [if_neg q, if_neg q]
      exact ⟨_, _, rfl, rfl, rfl, hR⟩
/-! ===== counts ===== -/
theorem bitc_ev {n m : Nat} (hn : n ≤ 8) (hm : m < 2 ^ n) : ∃ v, f_J6_bitCount_0f7a4 (nI m) = some v ∧ (v = nI n ↔ m = 2 ^ n - 1) := by
  have key : ∀ n : Fin 9, ∀ m : Fin 256, m.val < 2 ^ n.val → (f_J6_bitCount_0f7a4 (nI m.val) = some (nI n.val) ↔ m.val = 2 ^ n.val - 1) := by decide +kernel
  have h2 : 2 ^ n ≤ 2 ^ 8 := Nat.pow_le_pow_right (by decide) hn
  have k := key ⟨n, by omega⟩ ⟨m, by omega⟩ hm
  obtain ⟨v, hv⟩ : ∃ v, f_J6_bitCount_0f7a4 (nI m) = some v := ⟨_, rfl⟩
  refine ⟨v, hv, ?_⟩
  simp only at k
  rw [hv] at k
  exact ⟨fun e => k.mp (by rw [e]), fun e => Option.some.inj (k.mpr e)⟩
theorem setB_full {p : zL → Bool} : ∀ {ls : List zL}, setB p ls = 2 ^ ls.length - 1 → ∀ q ∈ ls, p q = true := by
  intro ls
  induction ls with
  | nil => intro _ q h; cases h
  | cons x r ih =>
    intro h q hq
    have h1 := setB_lt p r
    unfold setB at h
    rw [List.length_cons, Nat.pow_succ] at h
    rcases bool_tf (p x) with hx | hx
    · rw [hx, if_pos rfl] at h
      rcases List.mem_cons.mp hq with rfl | hq
      · exact hx
      · exact ih (by omega) q hq
    · rw [hx, if_neg (by decide)] at h
      omega
def jn (b : zB) : Bool := decide ((dc b).length = 1) && decide (setB (cm b) b.1 = 2 ^ b.1.length - 1)
theorem jn_t {b : zB} : jn b = true ↔ (dc b).length = 1 ∧ setB (cm b) b.1 = 2 ^ b.1.length - 1 := by
  unfold jn
  rw [Bool.and_eq_true, decide_eq_true_iff, decide_eq_true_iff]
theorem jn_f {b : zB} (h : ¬ ((dc b).length = 1 ∧ setB (cm b) b.1 = 2 ^ b.1.length - 1)) : jn b = false := by
  rcases bool_tf (jn b) with e | e
  · exact absurd (jn_t.mp e) h
  · exact e
theorem joinC_ev {gB gR gM : zG} {b : zB} (hB : rB gB b) (ok : okB b) (hr : rayC gR b) (g : zG) : ∃ g', f_X6_lightIsJoined gM gB gR g = some (if jn b then 1 else 0, g') := by
  have hn := ok.1
  obtain ⟨g', c1, c2⟩ := gather_ev hB ok hr g
  obtain ⟨d1, d2, d3⟩ := dc_D b
  unfold f_X6_lightIsJoined
  rw [c1, zbind_some, c2.1]
  refine ⟨g', ?_⟩
  by_cases h1 : (dc b).length = 1
  · rw [h1, if_pos (show nI 1 = (1 : Int32) from rfl), linesOn_ev ok hr, zbind_some]
    obtain ⟨v, v1, v2⟩ := bitc_ev hn (setB_lt (cm b) b.1)
    rw [v1, zbind_some, hB.1]
    by_cases h2 : setB (cm b) b.1 = 2 ^ b.1.length - 1
    · rw [if_pos (v2.mpr h2), jn_t.mpr ⟨h1, h2⟩, if_pos rfl]
    · rw [if_neg (fun e => h2 (v2.mp e)), jn_f (fun h => h2 h.2), if_neg (by decide)]
  · rw [if_neg (c := nI (dc b).length = (1 : Int32)) (fun e => h1 ((nI_eq (a := (dc b).length) (b := 1) (by omega) (by decide)).mp e)), jn_f (fun h => h1 h.1), if_neg (by decide)]
theorem dc_nil {b : zB} (h : b.1.length = 0) : (dc b).length = 0 := by
  have := (dc_D b).2.1
  omega
theorem joinM_ev {b : zB} (ok : okB b) {g : zG} (hS : rS (g 0) b) : ∃ g', f_X7_isJoined g = some (if jn b then 1 else 0, g') ∧ kq g g' := by
  have hn := ok.1
  obtain ⟨d1, d2, d3⟩ := dc_D b
  unfold f_X7_isJoined
  rw [z0 (by decide) (by decide), tn0, hS.1]
  by_cases h0 : b.1.length = 0
  · rw [if_pos (by rw [h0]; exact Int32.le_refl _), jn_f (fun h => by have := dc_nil h0; omega), if_neg (by decide)]
    exact ⟨g, rfl, kq_rf g⟩
  · obtain ⟨g1, c1, c2⟩ := coming_s ok hS
    have hS1 : rS (g1 0) b := by rw [kp_0 c2]; exact hS
    rw [if_neg (nI_nle (by omega) (by omega)), c1, zbind_some, allLines_ev ok hS1, zbind_some, setB_all]
    have h256 := setB_256 (cm b) hn
    have h2p : 2 ^ b.1.length ≤ 2 ^ 8 := Nat.pow_le_pow_right (by decide) hn
    by_cases h2 : setB (cm b) b.1 = 2 ^ b.1.length - 1
    · rw [if_pos (congrArg nI h2)]
      obtain ⟨g2, e1, e2, e3⟩ := lays_ev ok hS1
      rw [e1, zbind_some]
      refine ⟨g2, ?_, kq_tr (kq_of c2) e3⟩
      by_cases h1 : (dc b).length = 1
      · rw [h1, if_pos (show nI 1 = (1 : Int32) from rfl), jn_t.mpr ⟨h1, h2⟩, if_pos rfl]
      · show (if nI (dc b).length = (1 : Int32) then some ((1 : Int32), g2) else some ((0 : Int32), g2)) = _
        rw [if_neg (c := nI (dc b).length = (1 : Int32)) (fun e => h1 ((nI_eq (a := (dc b).length) (b := 1) (by omega) (by decide)).mp e)), jn_f (fun h => h1 h.1), if_neg (by decide)]
    · rw [if_neg (fun e => h2 ((nI_eq (by omega) (by omega)).mp e)), jn_f (fun h => h2 h.2), if_neg (by decide)]
      exact ⟨g1, rfl, kq_of c2⟩
/-- all lines have one slope -/
def sls (b : zB) (s : Int32) : List zL → Bool
  | [] => true
  | q :: r => decide ((zE b q).2.2.1 = s) && sls b s r
theorem slC_loop {gR : zG} {b : zB} (ok : okB b) (hr : rayC gR b) (hc : ∀ q ∈ b.1, cm b q = true) {s : Int32} (hs : gR 1 0 = s) : ∀ (r : List zL) (i fuel : Nat), b.1.drop i = r → i ≤ b.1.length → r.length < fuel → f_X4_slopesAreSame_2 gR fuel (nI i) = some (if sls b s r then 1 else 0) := by
  have hn := ok.1
  intro r
  induction r with
  | nil =>
    intro i fuel hd hi hf
    obtain ⟨n, rfl⟩ : ∃ n, fuel = n + 1 := ⟨fuel - 1, by omega⟩
    have hi2 : b.1.length ≤ i := List.drop_eq_nil_iff.mp hd
    show f_X4_slopesAreSame_2_b gR (f_X4_slopesAreSame_2 gR n) (nI i) = _
    unfold f_X4_slopesAreSame_2_b
    rw [has_nI hr.2 hn (by omega), if_neg (c := i < b.1.length) (by omega), zbind_some, if_pos rfl]
    split <;> rfl
  | cons q r ih =>
    intro i fuel hd hi hf
    obtain ⟨n, rfl⟩ : ∃ n, fuel = n + 1 := ⟨fuel - 1, by omega⟩
    obtain ⟨e1, e2, e3⟩ := drop_cons hd
    rw [List.length_cons] at hf
    have e : sls b s (q :: r) = (decide ((zE b q).2.2.1 = s) && sls b s r) := rfl
    show f_X4_slopesAreSame_2_b gR (f_X4_slopesAreSame_2 gR n) (nI i) = _
    unfold f_X4_slopesAreSame_2_b
    rw [if_neg (c := (8 : Int32) ≤ nI i) (by rw [l8 (by omega)]; omega), has_nI hr.2 hn (by omega), if_pos e1, zbind_some, if_neg ne10, zin_nI (by omega) (by decide), z0 (by decide) (by decide), tn0, nI_clamp (by omega), ((ray_at hr e2).2.2 (hc q (List.mem_of_getElem? e2))).2, hs, nIs, e]
    by_cases h : (zE b q).2.2.1 = s
    · rw [if_pos h, decide_eq_true h, Bool.true_and]
      exact ih (i + 1) n e3 (by omega) (by omega)
    · rw [if_neg h, decide_eq_false h, Bool.false_and, if_neg (by decide)]
theorem slM_loop {b : zB} (ok : okB b) (s : Int32) : ∀ (r : List zL) (i fuel : Nat) (a : Bool) (g : zG), rS (g 0) b → b.1.drop i = r → i ≤ b.1.length → r.length < fuel → ∃ g', f_X7_isAsItWas_20 fuel s (if a then 1 else 0) (nI i) g = some (if a && sls b s r then 1 else 0, g') ∧ kp g g' := by
  have hn := ok.1
  intro r
  induction r with
  | nil =>
    intro i fuel a g hS hd hi hf
    obtain ⟨n, rfl⟩ : ∃ n, fuel = n + 1 := ⟨fuel - 1, by omega⟩
    have hi2 : b.1.length ≤ i := List.drop_eq_nil_iff.mp hd
    refine ⟨g, ?_, kp_rf g⟩
    show f_X7_isAsItWas_20_b (f_X7_isAsItWas_20 n) s (if a then 1 else 0) (nI i) g = _
    unfold f_X7_isAsItWas_20_b
    rw [z0 (by decide) (by decide), tn0, hS.1, if_pos ((nI_leI (by omega) (by omega)).mpr hi2)]
    cases a
    · rw [if_neg (by decide), zbl_0]; rfl
    · rw [if_pos rfl, zbl_1]; rfl
  | cons q r ih =>
    intro i fuel a g hS hd hi hf
    obtain ⟨n, rfl⟩ : ∃ n, fuel = n + 1 := ⟨fuel - 1, by omega⟩
    obtain ⟨e1, e2, e3⟩ := drop_cons hd
    rw [List.length_cons] at hf
    obtain ⟨g1, k1, k2⟩ := follows_ev hS ok e2 (u := 1000) (by decide)
    have hS1 : rS (g1 0) b := by rw [kp_0 k2.1]; exact hS
    have e : sls b s (q :: r) = (decide ((zE b q).2.2.1 = s) && sls b s r) := rfl
    have key : ∀ a' : Bool, a' = (a && decide ((zE b q).2.2.1 = s)) → ∃ g', f_X7_isAsItWas_20 n s (if a' then 1 else 0) (nI (i + 1)) g1 = some (if a && sls b s (q :: r) then 1 else 0, g') ∧ kp g g' := by
      intro a' ha
      obtain ⟨g', j1, j2⟩ := ih (i + 1) n a' g1 hS1 e3 (by omega) (by omega)
      refine ⟨g', ?_, kp_tr k2.1 j2⟩
      rw [j1, ha, e, Bool.and_assoc]
    show ∃ g', f_X7_isAsItWas_20_b (f_X7_isAsItWas_20 n) s (if a then 1 else 0) (nI i) g = _ ∧ _
    unfold f_X7_isAsItWas_20_b
    have ez : pth q.1 b.2.1 1000 = zE b q := rfl
    have k10 := k2.2.2.2.1
    rw [ez] at k10
    rw [z0 (by decide) (by decide), tn0, hS.1, if_neg (fun q => by have := (nI_leI (by omega) (by omega)).mp q; omega), k1, zbind_some, nIs, k10]
    cases a with
    | false =>
      rw [if_pos (show (if (false : Bool) = true then (1 : Int32) else 0) = 0 from rfl)]
      exact key false (by simp)
    | true =>
      rw [if_pos rfl, if_neg ne10]
      by_cases h : (zE b q).2.2.1 = s
      · rw [if_pos h]
        exact key true (by simp [h])
      · rw [if_neg h]
        exact key false (by simp [h])
theorem floor_tot (v : Int32) : ∃ y, f_X7_floor v (1000 : Int32) = some y := by
  unfold f_X7_floor
  rw [zne_ok (by decide), zne_ok (by decide)]
  split
  · exact ⟨_, rfl⟩
  · exact ⟨_, rfl⟩
theorem goes_tot (g : zG) (u : Int32) : ∃ g', f_X7_goes g u = some g' ∧ kp g g' := by
  unfold f_X7_goes
  obtain ⟨y, hy⟩ := floor_tot (g 10 0 * (u - g 8 0))
  rw [hy, zbind_some, zlet_eq, zlet_eq, in_ev, zbind_some, ite_1, zlet_eq, zlet_eq]
  split
  · exact ⟨_, rfl, fun j a b c d => by rw [gup_ne _ _ _ d, gup_ne _ _ _ a, gup_ne _ _ _ b]⟩
  · exact ⟨_, rfl, fun j a b c d => by rw [gup_ne _ _ _ d, gup_ne _ _ _ a, gup_ne _ _ _ b]⟩
theorem bends_tot (gl c : Int32) : ∃ y, f_X7_bends gl c = some y := by
  unfold f_X7_bends
  split
  · exact ⟨_, rfl⟩
  · exact ⟨_, rfl⟩
theorem follows_tot_loop {b : zB} (ok : okB b) (u : Int32) : ∀ (d i fuel : Nat) (g : zG), rS (g 0) b → i + d = b.2.1.length → d < fuel → ∃ g', f_X7_follows_22 fuel (0 : Int32) u (nI i) g = some g' ∧ kp g g' := by
  have h8 := ok.2.1
  have fin : ∀ g : zG, ∃ g', f_X7_follows_162 u g = some g' ∧ kp g g' := by
    intro g
    unfold f_X7_follows_162
    obtain ⟨g', e1, e2⟩ := goes_tot g u
    split
    · rw [e1, zbind_some]; exact ⟨g', rfl, e2⟩
    · exact ⟨g, rfl, kp_rf g⟩
  intro d
  induction d with
  | zero =>
    intro i fuel g hS hi hf
    obtain ⟨n, rfl⟩ : ∃ n, fuel = n + 1 := ⟨fuel - 1, by omega⟩
    show ∃ g', f_X7_follows_22_b (f_X7_follows_22 n) 0 u (nI i) g = some g' ∧ _
    unfold f_X7_follows_22_b
    rw [z1 (by decide) (by decide), tn1, hS.2.1, if_pos ((nI_leI (by omega) (by omega)).mpr (by omega))]
    exact fin g
  | succ d ih =>
    intro i fuel g hS hi hf
    obtain ⟨n, rfl⟩ : ∃ n, fuel = n + 1 := ⟨fuel - 1, by omega⟩
    have hil : i < b.2.1.length := by omega
    show ∃ g', f_X7_follows_22_b (f_X7_follows_22 n) 0 u (nI i) g = some g' ∧ _
    unfold f_X7_follows_22_b
    rw [z1 (by decide) (by decide), tn1, hS.2.1, if_neg (fun q => by have := (nI_leI (by omega) (by omega)).mp q; omega), nIs]
    have key : ∀ g1 : zG, kp g g1 → ∃ g', f_X7_follows_22 n (0 : Int32) u (nI (i + 1)) g1 = some g' ∧ kp g g' := by
      intro g1 h
      obtain ⟨g', j1, j2⟩ := ih (i + 1) n g1 (by rw [kp_0 h]; exact hS) (by omega) (by omega)
      exact ⟨g', j1, kp_tr h j2⟩
    have k118 : ∀ g1 : zG, kp g g1 → ∃ g', f_X7_follows_118 (f_X7_follows_22 n) (0 : Int32) u (nI i) g1 = some g' ∧ kp g g' := by
      intro g1 h
      have hS1 : rS (g1 0) b := by rw [kp_0 h]; exact hS
      obtain ⟨m0, m1, m2, m3, m4⟩ := of_is hS1 h8 hil
      unfold f_X7_follows_118
      rw [m2, zbind_some, m3, zbind_some, in_ev, zbind_some, ite_1, zlet_eq, zlet_eq, nIs]
      split
      · split
        · exact key _ (kp_tr h (fun j a b c d => gup_ne _ _ _ d))
        · exact key _ (kp_tr h (fun j a b c d => gup_ne _ _ _ d))
      · exact key _ h
    obtain ⟨m0, m1, m2, m3, m4⟩ := of_is hS h8 hil
    by_cases hy : g 11 0 = 0
    · rw [if_pos hy, m0, zbind_some]
      by_cases hu : u ≤ (b.2.1.getD i (0, 0, 0, 0, 0)).1
      · rw [if_pos hu]
        exact fin g
      · rw [if_neg hu, zbind_some]
        obtain ⟨g1, e1, e2⟩ := goes_tot g (b.2.1.getD i (0, 0, 0, 0, 0)).1
        have hS1 : rS (g1 0) b := by rw [kp_0 e2]; exact hS
        obtain ⟨o0, o1, o2, o3, o4⟩ := of_is hS1 h8 hil
        rw [e1, zbind_some]
        by_cases hy1 : g1 11 0 = 0
        · rw [if_pos hy1, o1, zbind_some]
          by_cases hk : (b.2.1.getD i (0, 0, 0, 0, 0)).2.1 = 0
          · have ec : ∃ c, f_X7_colour g1 (0 : Int32) = some c := by
              unfold f_X7_colour
              rw [show (3 : Int32) + (2 : Int32) * 0 = nI 3 from by decide, zin_nI (by decide) (by decide)]
              exact ⟨_, rfl⟩
            obtain ⟨c, hc⟩ := ec
            obtain ⟨y, hy⟩ := bends_tot (b.2.1.getD i (0, 0, 0, 0, 0)).2.2.1 c
            rw [if_pos hk, o4, zbind_some, o3, zbind_some, o2, zbind_some, hc, zbind_some, hy, zbind_some, zlet_eq]
            exact key _ (kp_tr e2 (fun j a b c d => gup_ne _ _ _ c))
          · rw [if_neg hk]
            exact k118 _ e2
        · rw [if_neg hy1]
          exact k118 _ e2
    · rw [if_neg hy]
      exact fin g
theorem follows_tot {b : zB} (ok : okB b) {g : zG} (hS : rS (g 0) b) (u : Int32) : ∃ g', f_X7_follows g (0 : Int32) u = some g' ∧ kp g g' := by
  unfold f_X7_follows
  simp only [zlet_eq]
  have k0 : kp g (gup (gup (gup (gup g 8 0 0) 9 0 0) 10 0 0) 11 0 0) := fun j a b c d => by
    rw [gup_ne _ _ _ d, gup_ne _ _ _ c, gup_ne _ _ _ b, gup_ne _ _ _ a]
  have h8 := ok.2.1
  obtain ⟨g', j1, j2⟩ := follows_tot_loop ok u b.2.1.length 0 zfuel (gup (gup (gup (gup g 8 0 0) 9 0 0) 10 0 0) 11 0 0) (by rw [kp_0 k0]; exact hS) (by omega) (by unfold zfuel; omega)
  exact ⟨g', j1, kp_tr k0 j2⟩
/-- is the light as it was -/
def asw (b : zB) : Bool := jn b && sls b (match b.1 with | [] => 0 | q :: _ => (zE b q).2.2.1) b.1
theorem aswM_ev {b : zB} (ok : okB b) {g : zG} (hS : rS (g 0) b) : ∃ g', f_X7_isAsItWas g = some (if asw b then 1 else 0, g') ∧ kq g g' := by
  have hn := ok.1
  have e0 : ∃ g', f_X7_follows g (0 : Int32) (1000 : Int32) = some g' ∧ kp g g' ∧ (∀ q r, b.1 = q :: r → g' 10 0 = (zE b q).2.2.1) := by
    cases hl : b.1 with
    | nil =>
      obtain ⟨g', h1, h2⟩ := follows_tot ok hS 1000
      exact ⟨g', h1, h2, fun q r h => by cases h⟩
    | cons q r =>
      obtain ⟨g', h1, h2⟩ := follows_ev hS ok (l := 0) (q := q) (by rw [hl]; rfl) (u := 1000) (by decide)
      refine ⟨g', h1, h2.1, fun q' r' h => ?_⟩
      cases h
      exact h2.2.2.2.1
  obtain ⟨g1, k1, k2, k3⟩ := e0
  have hS1 : rS (g1 0) b := by rw [kp_0 k2]; exact hS
  obtain ⟨g2, j1, j2⟩ := joinM_ev ok hS1
  have hS2 : rS (g2 0) b := by rw [kq_0 j2]; exact hS1
  unfold f_X7_isAsItWas
  rw [k1, zbind_some, j1, zbind_some]
  obtain ⟨g3, l1, l2⟩ := slM_loop ok (g1 10 0) b.1 0 zfuel (jn b) g2 hS2 rfl (Nat.zero_le _) (by unfold zfuel; omega)
  have l1 : f_X7_isAsItWas_20 zfuel (g1 10 0) (if jn b then 1 else 0) (0 : Int32) g2 = _ := l1
  refine ⟨g3, ?_, kq_tr (kq_of k2) (kq_tr j2 (kq_of l2))⟩
  rw [l1]
  unfold asw
  cases hl : b.1 with
  | nil => rfl
  | cons q r => rw [k3 q r hl]
/-! the light lost at things -/
def loT (b : zB) : List zTh → zL → Int32
  | [], _ => 0
  | t :: r, q => lo b t.1 q + loT b r q
theorem lostT_loop {b : zB} (ok : okB b) : ∀ (r : List zTh) (i fuel : Nat) (a : Int32) (g : zG), rS (g 0) b → b.2.1.drop i = r → i ≤ b.2.1.length → r.length < fuel → ∃ g', f_X7_lostAtThings_4 fuel a (nI i) g = some (a + sm (loT b r) b.1, g') ∧ kp g g' := by
  have h8 := ok.2.1
  intro r
  induction r with
  | nil =>
    intro i fuel a g hS hd hi hf
    obtain ⟨n, rfl⟩ : ∃ n, fuel = n + 1 := ⟨fuel - 1, by omega⟩
    have hi2 : b.2.1.length ≤ i := List.drop_eq_nil_iff.mp hd
    refine ⟨g, ?_, kp_rf g⟩
    show f_X7_lostAtThings_4_b (f_X7_lostAtThings_4 n) a (nI i) g = _
    unfold f_X7_lostAtThings_4_b
    rw [z1 (by decide) (by decide), tn1, hS.2.1, if_pos ((nI_leI (by omega) (by omega)).mpr hi2), sm_none (f := loT b []) (fun q _ => rfl), Int32.add_zero]
  | cons t r ih =>
    intro i fuel a g hS hd hi hf
    obtain ⟨n, rfl⟩ : ∃ n, fuel = n + 1 := ⟨fuel - 1, by omega⟩
    obtain ⟨e1, e2, e3⟩ := drop_cons hd
    rw [List.length_cons] at hf
    obtain ⟨g1, k1, k2⟩ := lostM_ev ok t.1 hS
    have hS1 : rS (g1 0) b := by rw [kp_0 k2]; exact hS
    obtain ⟨g', j1, j2⟩ := ih (i + 1) n (a + sm (lo b t.1) b.1) g1 hS1 e3 (by omega) (by omega)
    show ∃ g', f_X7_lostAtThings_4_b (f_X7_lostAtThings_4 n) a (nI i) g = _ ∧ _
    unfold f_X7_lostAtThings_4_b
    rw [z1 (by decide) (by decide), tn1, hS.2.1, if_neg (fun q => by have := (nI_leI (by omega) (by omega)).mp q; omega), of_ev0 (by omega), zbind_some, (hS.2.2.2.2 i t e2).1, k1, zbind_some, nIs, j1]
    refine ⟨g', ?_, kp_tr k2 j2⟩
    have : sm (loT b (t :: r)) b.1 = sm (lo b t.1) b.1 + sm (loT b r) b.1 := sm_add (lo b t.1) (loT b r) b.1
    rw [this, Int32.add_assoc]
theorem lostT_ev {b : zB} (ok : okB b) {g : zG} (hS : rS (g 0) b) : ∃ g', f_X7_lostAtThings g = some (sm (loT b b.2.1) b.1, g') ∧ kp g g' := by
  unfold f_X7_lostAtThings
  have h8 := ok.2.1
  have := lostT_loop ok b.2.1 0 zfuel 0 g hS rfl (Nat.zero_le _) (by unfold zfuel; omega)
  rw [Int32.zero_add] at this
  exact this
theorem path_at (c : Int32) : ∀ (th : List zTh) (p h sl : Int32), (path c 1000 th p h sl).1 = 1000 ∨ ∃ t ∈ th, (path c 1000 th p h sl).1 = t.1 := by
  intro th
  induction th with
  | nil => intro p h sl; exact Or.inl rfl
  | cons t r ih =>
    intro p h sl
    have up : ∀ x : zPt, (x.1 = 1000 ∨ ∃ t ∈ r, x.1 = t.1) → (x.1 = 1000 ∨ ∃ q ∈ t :: r, x.1 = q.1) := by
      intro x hx
      rcases hx with hx | ⟨q, hq, e⟩
      · exact Or.inl hx
      · exact Or.inr ⟨q, List.mem_cons_of_mem _ hq, e⟩
    rw [path_cons]
    split
    · exact Or.inl rfl
    · split
      · split
        · exact up _ (ih _ _ _)
        · split
          · exact up _ (ih _ _ _)
          · exact Or.inr ⟨t, List.mem_cons_self, rfl⟩
      · exact Or.inr ⟨t, List.mem_cons_self, rfl⟩
theorem loT_none {b : zB} {q : zL} : ∀ {r : List zTh}, (∀ t ∈ r, ¬ (zE b q).1 = t.1) → loT b r q = 0 := by
  intro r
  induction r with
  | nil => intro _; rfl
  | cons t r ih =>
    intro h
    show lo b t.1 q + loT b r q = 0
    rw [ih (fun x hx => h x (List.mem_cons_of_mem _ hx))]
    unfold lo
    rw [if_neg (fun e => h t List.mem_cons_self e.2)]
    rfl
theorem loT_come {b : zB} {q : zL} (hq : (zE b q).2.2.2 = 0) : ∀ r : List zTh, loT b r q = 0 := by
  intro r
  induction r with
  | nil => rfl
  | cons t r ih =>
    show lo b t.1 q + loT b r q = 0
    rw [ih]
    unfold lo
    rw [if_neg (fun e => e.1 hq)]
    rfl
theorem loT_one {b : zB} {q : zL} (hq : ¬ (zE b q).2.2.2 = 0) : ∀ {r : List zTh}, r.Pairwise (fun a b => a.1 < b.1) → (∃ t ∈ r, (zE b q).1 = t.1) → loT b r q = q.2 := by
  intro r
  induction r with
  | nil => intro _ h; obtain ⟨t, ht, _⟩ := h; cases ht
  | cons t r ih =>
    intro hp h
    rw [List.pairwise_cons] at hp
    show lo b t.1 q + loT b r q = q.2
    by_cases e : (zE b q).1 = t.1
    · rw [loT_none (fun x hx e2 => by
        have := hp.1 x hx
        rw [← e2, e] at this
        exact absurd this (by rw [inlt]; exact Int32.le_refl _))]
      unfold lo
      rw [if_pos ⟨hq, e⟩, Int32.add_zero]
    · obtain ⟨x, hx, ex⟩ := h
      rcases List.mem_cons.mp hx with rfl | hx
      · exact absurd ex e
      · rw [ih hp.2 ⟨x, hx, ex⟩]
        unfold lo
        rw [if_neg (fun h => e h.2), Int32.zero_add]
theorem all_parts {b : zB} (ok : okB b) : sm (fun q => q.2) b.1 - sm (fun q => if cm b q then q.2 else 0) b.1 - sm (lo b 1000) b.1 = sm (loT b b.2.1) b.1 := by
  have e : sm (fun q => q.2) b.1 = (sm (fun q => if cm b q then q.2 else 0) b.1 + sm (lo b 1000) b.1) + sm (loT b b.2.1) b.1 := by
    rw [← sm_add, ← sm_add]
    refine sm_congr (fun q _ => ?_)
    rcases bool_tf (cm b q) with hc | hc
    · have hz := cm_t.mp hc
      rw [loT_come hz, hc, if_pos rfl]
      unfold lo
      rw [if_neg (fun h => h.1 hz), Int32.add_zero, Int32.add_zero]
    · have hz := cm_f.mp hc
      rw [hc, if_neg (by decide), Int32.zero_add]
      by_cases h1 : (zE b q).1 = 1000
      · rw [loT_none (fun t ht e => by
          have := (ok.2.2.2.2.2.1 t ht).2.1
          rw [← e, h1] at this
          exact absurd this (by decide))]
        unfold lo
        rw [if_pos ⟨hz, h1⟩, Int32.add_zero]
      · have hx : ∃ t ∈ b.2.1, (zE b q).1 = t.1 := by
          rcases path_at q.1 b.2.1 0 0 0 with h | h
          · exact absurd h h1
          · exact h
        rw [loT_one hz ok.2.2.2.2.2.2 hx]
        unfold lo
        rw [if_neg (fun h => h1 h.2), Int32.zero_add]
  rw [e]
  generalize sm (fun q => if cm b q then q.2 else 0) b.1 = x
  generalize sm (lo b 1000) b.1 = y
  generalize sm (loT b b.2.1) b.1 = z
  rw [Int32.sub_eq_add_neg, Int32.sub_eq_add_neg]
  have h1 : x + y + z + -x + -y = z + (x + -x) + (y + -y) := by ac_rfl
  rw [h1, Int32.add_right_neg, Int32.add_right_neg, Int32.add_zero, Int32.add_zero]
theorem pm_count {gB gX gY gN : zG} {h : Nat → Option zG} (hR : zRel gB gX gY h gN) (gM : zG) (gR : zG) (gC0 : zG) (x1 : Int32) : ∃ R R', f_X6_count gM gB gR gC0 gX gY x1 = some R ∧ f_X7_count gN x1 = some R' ∧ R.1 = R'.1 ∧ zRel gB gX gY h R'.2 := by
  obtain ⟨b, hs, tx, hA⟩ := zRel_abs hR
  have hA0 := hA
  obtain ⟨h1, h2, h3, h4, h5, h6, h7, h8, h9⟩ := hA
  have hn := h1.1
  obtain ⟨gR', r1, r2⟩ := ray_follow h3 h1 gR
  have fin : ∀ (y : Int32) (a c g : zG), zRel gB gX gY h g → ∃ R R', (some (y, a, c) : Option (Int32 × zG × zG)) = some R ∧ (some (y, g) : Option (Int32 × zG)) = some R' ∧ R.1 = R'.1 ∧ zRel gB gX gY h R'.2 := fun y a c g hz => ⟨_, _, rfl, rfl, rfl, hz⟩
  unfold f_X6_count f_X7_count f_X6_countOfRays
  by_cases e0 : x1 = 0
  · subst e0
    rw [if_pos rfl, if_pos rfl, z0 (by decide) (by decide), tn0, h3.1, h4.1]
    exact fin _ _ _ _ hR
  by_cases e1 : x1 = 1
  · subst e1
    rw [if_neg (by decide), if_pos rfl, if_neg (by decide), if_pos rfl, z1 (by decide) (by decide), tn1, h3.2.1, h4.2.1]
    exact fin _ _ _ _ hR
  rw [if_neg e0, if_neg e1, if_neg e0, if_neg e1]
  by_cases e6 : x1 = 6
  · subst e6
    rw [if_pos rfl, lightAll_ev h3 h1, zbind_some, if_neg (by decide), if_neg (by decide), if_neg (by decide), if_neg (by decide), if_pos rfl, allLines_ev h1 h4, zbind_some, lightAllM_ev h1 h4, zbind_some]
    exact fin _ _ _ _ hR
  rw [if_neg e6]
  by_cases e11 : x1 = 11
  · subst e11
    rw [if_pos rfl, h5.2.1]
    repeat rw [if_neg (by decide)]
    rw [if_pos rfl, h6.1]
    exact fin _ _ _ _ hR
  rw [if_neg e11]
  by_cases e12 : x1 = 12
  · subst e12
    rw [if_pos rfl, h8.2.1]
    repeat rw [if_neg (by decide)]
    rw [if_pos rfl, h9.1]
    exact fin _ _ _ _ hR
  rw [if_neg e12]
  by_cases e20 : x1 = 20
  · subst e20
    rw [if_pos rfl, h3.2.2.1]
    repeat rw [if_neg (by decide)]
    rw [if_pos rfl, z2 (by decide) (by decide), tn2, h4.2.2.1]
    exact fin _ _ _ _ hR
  rw [if_neg e20, r1, zbind_some]
  by_cases e2 : x1 = 2
  · subst e2
    obtain ⟨g', c1, c2⟩ := coming_s h1 h4
    rw [if_pos rfl, linesOn_ev h1 r2, zbind_some, zbind_some, if_pos rfl, c1, zbind_some]
    exact fin _ _ _ _ (zAbs_rel (kp_abs hA0 c2))
  rw [if_neg e2]
  by_cases e3 : x1 = 3
  · subst e3
    obtain ⟨g', c1, c2⟩ := spM_ev h1 h4
    rw [if_pos rfl, spC_ev h1 r2, zbind_some, zbind_some, if_neg (by decide), if_pos rfl, c1, zbind_some]
    exact fin _ _ _ _ (zAbs_rel (kp_abs hA0 c2))
  rw [if_neg e3]
  by_cases e4 : x1 = 4
  · subst e4
    obtain ⟨g', c1, c2⟩ := joinM_ev h1 h4
    obtain ⟨gC', k1⟩ := joinC_ev (gM := gM) h3 h1 r2 gC0
    have hz := zAbs_rel (kq_abs hA0 c2)
    unfold f_X6_oneIf
    rcases bool_tf (jn b) with hj | hj
    · rw [hj, if_pos rfl] at k1 c1
      rw [if_pos rfl, k1, zbind_some]
      dsimp only
      rw [if_neg ne10, zbind_some, zbind_some, if_neg (by decide), if_neg (by decide), if_pos rfl, c1, zbind_some]
      exact fin 1 _ _ _ hz
    · rw [hj, if_neg (by decide)] at k1 c1
      rw [if_pos rfl, k1, zbind_some]
      dsimp only
      rw [if_pos rfl, zbind_some, zbind_some, if_neg (by decide), if_neg (by decide), if_pos rfl, c1, zbind_some]
      exact fin 0 _ _ _ hz
  rw [if_neg e4]
  by_cases e5 : x1 = 5
  · subst e5
    obtain ⟨g', c1, c2⟩ := aswM_ev h1 h4
    obtain ⟨gC', k1⟩ := joinC_ev (gM := gM) h3 h1 r2 gC0
    have hz := zAbs_rel (kq_abs hA0 c2)
    unfold f_X6_oneIf
    rcases bool_tf (jn b) with hj | hj
    · have hfull := setB_full (jn_t.mp hj).2
      have es : f_X4_slopesAreSame gR' = some (if asw b then 1 else 0) := by
        unfold f_X4_slopesAreSame asw
        rw [hj, Bool.true_and]
        cases hl : b.1 with
        | nil =>
          have := (jn_t.mp hj).1
          have h0 := dc_nil (b := b) (by rw [hl]; rfl)
          omega
        | cons q r =>
          have hq0 : b.1[0]? = some q := by rw [hl]; rfl
          have s0 := ((ray_at r2 hq0).2.2 (hfull q (List.mem_of_getElem? hq0))).2
          have := slC_loop h1 r2 hfull s0 r 1 zfuel (by rw [hl]; rfl) (by rw [hl]; simp) (by rw [hl] at hn; simp at hn; unfold zfuel; omega)
          have this : f_X4_slopesAreSame_2 gR' zfuel (1 : Int32) = _ := this
          rw [this]
          have e : sls b (zE b q).2.2.1 (q :: r) = (decide ((zE b q).2.2.1 = (zE b q).2.2.1) && sls b (zE b q).2.2.1 r) := rfl
          simp only [e, decide_true, Bool.true_and]
      rw [hj, if_pos rfl] at k1
      rw [if_pos rfl, k1, zbind_some]
      dsimp only
      rw [if_neg ne10, es, zbind_some]
      rcases bool_tf (asw b) with ha | ha
      · rw [ha, if_pos rfl] at c1
        rw [ha, if_pos rfl, if_neg ne10, if_neg ne10, zbind_some, zbind_some, if_neg (by decide), if_neg (by decide), if_neg (by decide), if_pos rfl, c1, zbind_some]
        exact fin 1 _ _ _ hz
      · rw [ha, if_neg (by decide)] at c1
        rw [ha, if_neg (by decide), if_pos rfl, if_pos rfl, zbind_some, zbind_some, if_neg (by decide), if_neg (by decide), if_neg (by decide), if_pos rfl, c1, zbind_some]
        exact fin 0 _ _ _ hz
    · have ha : asw b = false := by unfold asw; rw [hj, Bool.false_and]
      rw [hj, if_neg (by decide)] at k1
      rw [ha, if_neg (by decide)] at c1
      rw [if_pos rfl, k1, zbind_some]
      dsimp only
      rw [if_pos rfl, if_pos rfl, zbind_some, zbind_some, if_neg (by decide), if_neg (by decide), if_neg (by decide), if_pos rfl, c1, zbind_some]
      exact fin 0 _ _ _ hz
  rw [if_neg e5, if_neg e6]
  by_cases e7 : x1 = 7
  · subst e7
    obtain ⟨g', c1, c2⟩ := coming_s h1 h4
    have hS' : rS (g' 0) b := by rw [kp_0 c2]; exact h4
    rw [if_pos rfl, lightOn_ev h3 h1 r2, zbind_some, zbind_some]
    repeat rw [if_neg (by decide)]
    rw [if_pos rfl, c1, zbind_some, lightIn_ev h1 hS', zbind_some]
    exact fin _ _ _ _ (zAbs_rel (kp_abs hA0 c2))
  rw [if_neg e7]
  by_cases e8 : x1 = 8
  · subst e8
    obtain ⟨g', c1, c2⟩ := lostT_ev h1 h4
    rw [if_pos rfl, lightAll_ev h3 h1, zbind_some, lightOn_ev h3 h1 r2, zbind_some, lostC_ev h3 h1 r2, zbind_some, zbind_some, all_parts h1]
    repeat rw [if_neg (by decide)]
    rw [if_pos rfl, c1, zbind_some]
    exact fin _ _ _ _ (zAbs_rel (kp_abs hA0 c2))
  rw [if_neg e8]
  by_cases e9 : x1 = 9
  · subst e9
    obtain ⟨g', c1, c2⟩ := lostM_ev h1 1000 h4
    rw [if_pos rfl, lostC_ev h3 h1 r2, zbind_some, zbind_some]
    repeat rw [if_neg (by decide)]
    rw [if_pos rfl, c1, zbind_some]
    exact fin _ _ _ _ (zAbs_rel (kp_abs hA0 c2))
  rw [if_neg e9]
  by_cases e10 : x1 = 10
  · subst e10
    obtain ⟨g', c1, c2, c3⟩ := lays_ev h1 h4
    obtain ⟨gC', k1, k2⟩ := gather_ev h3 h1 r2 gC0
    rw [if_pos rfl, k1, zbind_some, zbind_some, k2.1]
    repeat rw [if_neg (by decide)]
    rw [if_pos rfl, c1, zbind_some]
    exact fin _ _ _ _ (zAbs_rel (kq_abs hA0 c3))
  rw [if_neg e10, zbind_some, if_neg e2, if_neg e3, if_neg e4, if_neg e5, if_neg e6, if_neg e7, if_neg e8, if_neg e9, if_neg e10, if_neg e11, if_neg e12, if_neg e20]
  simp only [ite_self]
  exact fin _ _ _ _ hR
/-! ===== the best place and the best strength ===== -/
theorem ones_ev : ∀ m : Fin 256, f_X7_ones (nI m.val) = f_J6_bitCount_0f7a4 (nI m.val) ∧ ¬ (f_J6_bitCount_0f7a4 (nI m.val)).getD 0 < 0 := by decide +kernel
/-- how many lines come to the screen -/
def nOn (b : zB) : Int32 := (f_J6_bitCount_0f7a4 (nI (setB (cm b) b.1))).getD 0
theorem nOn_c (b : zB) : f_J6_bitCount_0f7a4 (nI (setB (cm b) b.1)) = some (nOn b) := by
  obtain ⟨v, hv⟩ : ∃ v, f_J6_bitCount_0f7a4 (nI (setB (cm b) b.1)) = some v := ⟨_, rfl⟩
  unfold nOn
  rw [hv]
  rfl
theorem nOn_m {b : zB} (ok : okB b) : f_X7_ones (nI (setB (cm b) b.1)) = some (nOn b) := by
  rw [← nOn_c]
  exact (ones_ev ⟨_, setB_256 (cm b) ok.1⟩).1
theorem nOn_pos {b : zB} (ok : okB b) : ¬ nOn b < 0 := (ones_ev ⟨_, setB_256 (cm b) ok.1⟩).2
/-- the class's choice and the reference's -/
def ch2 (gH : zG) (be ma le : Int32) : Prop := gH 0 0 = be ∧ gH 1 0 = ma ∧ gH 2 0 = le ∧ ¬ be < 0
def chR (gH : zG) (be ma le : Int32) : Prop := (gH 1 0 = -1 ∧ be = NFO) ∨ ch2 gH be ma le
def btr (be ma le n s : Int32) : Prop := be < 0 ∨ ma < n ∨ (n = ma ∧ ¬ le ≤ s)
theorem offer_take {gH : zG} {x n s : Int32} (hx : ¬ x < 0) : ∃ g', f_X2_offer_24 x n s gH = some g' ∧ ch2 g' x n s := by
  unfold f_X2_offer_24
  rw [zlet_eq, zlet_eq, zlet_eq]
  exact ⟨_, rfl, by simp [gup, upd], by simp [gup, upd], by simp [gup, upd], hx⟩
theorem offer_ev {gH : zG} {be ma le : Int32} (h : chR gH be ma le) {x n s : Int32} (hx : ¬ x < 0) (hn : ¬ n < 0) : ∃ g', f_X2_offer gH x n s = some g' ∧ ((btr be ma le n s ∧ ch2 g' x n s) ∨ (¬ btr be ma le n s ∧ ch2 g' be ma le)) := by
  unfold f_X2_offer btr
  rcases h with ⟨h1, h2⟩ | h
  · have hl : (-1 : Int32) < n := Int32.lt_of_lt_of_le (by decide) (inlt.mp hn)
    obtain ⟨g', e1, e2⟩ := offer_take (gH := gH) (n := n) (s := s) hx
    rw [h1, if_pos hl, e1]
    exact ⟨g', rfl, Or.inl ⟨Or.inl (by rw [h2]; decide), e2⟩⟩
  · obtain ⟨h0, h1, h2, h3⟩ := h
    rw [h1, h2]
    by_cases c1 : ma < n
    · obtain ⟨g', e1, e2⟩ := offer_take (gH := gH) (n := n) (s := s) hx
      rw [if_pos c1, e1]
      exact ⟨g', rfl, Or.inl ⟨Or.inr (Or.inl c1), e2⟩⟩
    · rw [if_neg c1]
      by_cases c2 : n = ma
      · rw [if_pos c2]
        by_cases c3 : le ≤ s
        · rw [if_pos c3]
          refine ⟨gH, rfl, Or.inr ⟨?_, h0, h1, h2, h3⟩⟩
          rintro (q | q | q)
          · exact h3 q
          · exact c1 q
          · exact q.2 c3
        · obtain ⟨g', e1, e2⟩ := offer_take (gH := gH) (n := n) (s := s) hx
          rw [if_neg c3, e1]
          exact ⟨g', rfl, Or.inl ⟨Or.inr (Or.inr ⟨c2, c3⟩), e2⟩⟩
      · rw [if_neg c2]
        refine ⟨gH, rfl, Or.inr ⟨?_, h0, h1, h2, h3⟩⟩
        rintro (q | q | q)
        · exact h3 q
        · exact c1 q
        · exact c2 q.1
theorem offerTrial_ev {gM gT gR gH : zG} {b : zB} (hT : rB gT b) (ok : okB b) {be ma le : Int32} (h : chR gH be ma le) {x : Int32} (hx : ¬ x < 0) : ∃ gR' gH', f_X6_offerTrial gM gT gR gH x = some (gR', gH') ∧ ((btr be ma le (nOn b) (sprd b) ∧ ch2 gH' x (nOn b) (sprd b)) ∨ (¬ btr be ma le (nOn b) (sprd b) ∧ ch2 gH' be ma le)) := by
  obtain ⟨gR', r1, r2⟩ := ray_follow hT ok gR
  obtain ⟨gH', e1, e2⟩ := offer_ev h hx (nOn_pos ok) (s := sprd b)
  unfold f_X6_offerTrial
  rw [r1, zbind_some, linesOn_ev ok r2, zbind_some, nOn_c, zbind_some, spC_ev ok r2, zbind_some, e1, zbind_some]
  exact ⟨gR', gH', rfl, e2⟩
theorem copies_03_loop : ∀ (d k fuel : Nat) (g : zG), k + d = 59 → d < fuel → f_X7_copies_0_3_2 fuel (nI k) g = some (gset g 3 (cpR (g 3) (g 0) k)) := by
  intro d
  induction d with
  | zero =>
    intro k fuel g hk hf
    obtain ⟨n, rfl⟩ : ∃ n, fuel = n + 1 := ⟨fuel - 1, by omega⟩
    have : k = 59 := by omega
    subst this
    show f_X7_copies_0_3_2_b (f_X7_copies_0_3_2 n) (nI 59) g = _
    unfold f_X7_copies_0_3_2_b
    rw [if_pos (show (59 : Int32) ≤ nI 59 from Int32.le_refl _), cpR_end, gset_eq]
  | succ d ih =>
    intro k fuel g hk hf
    obtain ⟨n, rfl⟩ : ∃ n, fuel = n + 1 := ⟨fuel - 1, by omega⟩
    show f_X7_copies_0_3_2_b (f_X7_copies_0_3_2 n) (nI k) g = _
    unfold f_X7_copies_0_3_2_b
    rw [if_neg (c := (59 : Int32) ≤ nI k) (fun q => by have := (nI_leI (a := 59) (b := k) (by decide) (by omega)).mp q; omega), zin_nI (by omega) (by decide), zin_nI (by omega) (by decide), zlet_eq, nI_clamp (by omega), nIs, ih (k + 1) n _ (by omega) (by omega), gset_gup, gup_same, gup_ne _ _ _ (show (0 : Nat) ≠ 3 by decide), cpR_step (g 3) (g 0) (by omega)]
theorem copies_03_ev (g : zG) : f_X7_copies_0_3 g = some (gset g 3 (cpR (g 3) (g 0) 0)) := by
  unfold f_X7_copies_0_3
  exact copies_03_loop 59 0 zfuel g (by omega) (by unfold zfuel; omega)
theorem copies_30_loop : ∀ (d k fuel : Nat) (g : zG), k + d = 59 → d < fuel → f_X7_copies_3_0_2 fuel (nI k) g = some (gset g 0 (cpR (g 0) (g 3) k)) := by
  intro d
  induction d with
  | zero =>
    intro k fuel g hk hf
    obtain ⟨n, rfl⟩ : ∃ n, fuel = n + 1 := ⟨fuel - 1, by omega⟩
    have : k = 59 := by omega
    subst this
    show f_X7_copies_3_0_2_b (f_X7_copies_3_0_2 n) (nI 59) g = _
    unfold f_X7_copies_3_0_2_b
    rw [if_pos (show (59 : Int32) ≤ nI 59 from Int32.le_refl _), cpR_end, gset_eq]
  | succ d ih =>
    intro k fuel g hk hf
    obtain ⟨n, rfl⟩ : ∃ n, fuel = n + 1 := ⟨fuel - 1, by omega⟩
    show f_X7_copies_3_0_2_b (f_X7_copies_3_0_2 n) (nI k) g = _
    unfold f_X7_copies_3_0_2_b
    rw [if_neg (c := (59 : Int32) ≤ nI k) (fun q => by have := (nI_leI (a := 59) (b := k) (by decide) (by omega)).mp q; omega), zin_nI (by omega) (by decide), zin_nI (by omega) (by decide), zlet_eq, nI_clamp (by omega), nIs, ih (k + 1) n _ (by omega) (by omega), gset_gup, gup_same, gup_ne _ _ _ (show (3 : Nat) ≠ 0 by decide), cpR_step (g 0) (g 3) (by omega)]
theorem copies_30_ev (g : zG) : f_X7_copies_3_0 g = some (gset g 0 (cpR (g 0) (g 3) 0)) := by
  unfold f_X7_copies_3_0
  exact copies_30_loop 59 0 zfuel g (by omega) (by unfold zfuel; omega)
theorem copies_02_loop : ∀ (d k fuel : Nat) (g : zG), k + d = 59 → d < fuel → f_X7_copies_0_2_2 fuel (nI k) g = some (gset g 2 (cpR (g 2) (g 0) k)) := by
  intro d
  induction d with
  | zero =>
    intro k fuel g hk hf
    obtain ⟨n, rfl⟩ : ∃ n, fuel = n + 1 := ⟨fuel - 1, by omega⟩
    have : k = 59 := by omega
    subst this
    show f_X7_copies_0_2_2_b (f_X7_copies_0_2_2 n) (nI 59) g = _
    unfold f_X7_copies_0_2_2_b
    rw [if_pos (show (59 : Int32) ≤ nI 59 from Int32.le_refl _), cpR_end, gset_eq]
  | succ d ih =>
    intro k fuel g hk hf
    obtain ⟨n, rfl⟩ : ∃ n, fuel = n + 1 := ⟨fuel - 1, by omega⟩
    show f_X7_copies_0_2_2_b (f_X7_copies_0_2_2 n) (nI k) g = _
    unfold f_X7_copies_0_2_2_b
    rw [if_neg (c := (59 : Int32) ≤ nI k) (fun q => by have := (nI_leI (a := 59) (b := k) (by decide) (by omega)).mp q; omega), zin_nI (by omega) (by decide), zin_nI (by omega) (by decide), zlet_eq, nI_clamp (by omega), nIs, ih (k + 1) n _ (by omega) (by omega), gset_gup, gup_same, gup_ne _ _ _ (show (0 : Nat) ≠ 2 by decide), cpR_step (g 2) (g 0) (by omega)]
theorem copies_02_ev (g : zG) : f_X7_copies_0_2 g = some (gset g 2 (cpR (g 2) (g 0) 0)) := by
  unfold f_X7_copies_0_2
  exact copies_02_loop 59 0 zfuel g (by omega) (by unfold zfuel; omega)
theorem copies_20_loop : ∀ (d k fuel : Nat) (g : zG), k + d = 59 → d < fuel → f_X7_copies_2_0_2 fuel (nI k) g = some (gset g 0 (cpR (g 0) (g 2) k)) := by
  intro d
  induction d with
  | zero =>
    intro k fuel g hk hf
    obtain ⟨n, rfl⟩ : ∃ n, fuel = n + 1 := ⟨fuel - 1, by omega⟩
    have : k = 59 := by omega
    subst this
    show f_X7_copies_2_0_2_b (f_X7_copies_2_0_2 n) (nI 59) g = _
    unfold f_X7_copies_2_0_2_b
    rw [if_pos (show (59 : Int32) ≤ nI 59 from Int32.le_refl _), cpR_end, gset_eq]
  | succ d ih =>
    intro k fuel g hk hf
    obtain ⟨n, rfl⟩ : ∃ n, fuel = n + 1 := ⟨fuel - 1, by omega⟩
    show f_X7_copies_2_0_2_b (f_X7_copies_2_0_2 n) (nI k) g = _
    unfold f_X7_copies_2_0_2_b
    rw [if_neg (c := (59 : Int32) ≤ nI k) (fun q => by have := (nI_leI (a := 59) (b := k) (by decide) (by omega)).mp q; omega), zin_nI (by omega) (by decide), zin_nI (by omega) (by decide), zlet_eq, nI_clamp (by omega), nIs, ih (k + 1) n _ (by omega) (by omega), gset_gup, gup_same, gup_ne _ _ _ (show (2 : Nat) ≠ 0 by decide), cpR_step (g 0) (g 2) (by omega)]
theorem copies_20_ev (g : zG) : f_X7_copies_2_0 g = some (gset g 0 (cpR (g 0) (g 2) 0)) := by
  unfold f_X7_copies_2_0
  exact copies_20_loop 59 0 zfuel g (by omega) (by unfold zfuel; omega)
theorem cpR_rS {s p : Nat → Int32} {b : zB} (ok : okB b) (h : rS p b) : rS (cpR s p 0) b := by
  refine repS_congr (fun j hj => ?_) ok.1 ok.2.1 h
  unfold cpR
  rw [if_pos (by omega)]
/-- what best and tuned leave -/
def kb (g g' : zG) : Prop := ∀ j, j ≠ 0 → j ≠ 3 → j ≠ 8 → j ≠ 9 → j ≠ 10 → j ≠ 11 → g' j = g j
theorem kb_tr {a b c : zG} (h1 : kb a b) (h2 : kb b c) : kb a c := fun j x y z u v w => (h2 j x y z u v w).trans (h1 j x y z u v w)
theorem kb_of {g g' : zG} (h : kp g g') : kb g g' := fun j _ _ z u v w => h j z u v w
theorem kb_abs {gB gX gY gN gN' : zG} {h : Nat → Option zG} {b : zB} {hs : List zB} {tx : List Int32} (hA : zAbs gB gX gY h gN b hs tx) (hk : kb gN gN') (hS : rS (gN' 0) b) : zAbs gB gX gY h gN' b hs tx := by
  obtain ⟨h1, h2, h3, h4, h5, h6, h7, h8, h9⟩ := hA
  have k : ∀ j, j = 1 ∨ j = 4 ∨ j = 5 ∨ j = 6 ∨ j = 7 → gN' j = gN j := fun j hj => hk j (by omega) (by omega) (by omega) (by omega) (by omega) (by omega)
  refine ⟨h1, h2, h3, hS, h5, ?_, by rw [k 5 (by simp)]; exact h7, h8, ?_⟩
  · unfold hisM; rw [k 4 (by simp), k 1 (by simp)]; exact h6
  · unfold txM; rw [k 7 (by simp), k 6 (by simp)]; exact h9
/-- the reference measures a bench -/
theorem meas_ev {b : zB} (ok : okB b) {g : zG} (hS : rS (g 0) b) : ∃ g1 g2, f_X7_coming g (1000 : Int32) = some (nI (setB (cm b) b.1), g1) ∧ f_X7_ones (nI (setB (cm b) b.1)) = some (nOn b) ∧ f_X7_spread g1 = some (sprd b, g2) ∧ kp g g2 := by
  obtain ⟨g1, c1, c2⟩ := coming_s ok hS
  obtain ⟨g2, s1, s2⟩ := spM_ev ok (show rS (g1 0) b by rw [kp_0 c2]; exact hS)
  exact ⟨g1, g2, c1, nOn_m ok, s1, kp_tr c2 s2⟩
theorem nah_0 {p : Int32} {r : List zTh} (h : ∀ t ∈ r, p < t.1) : nah p r = 0 := by
  cases r with
  | nil => rfl
  | cons t r =>
    unfold nah
    rw [if_neg (by rw [inlt]; exact Int32.le_of_lt (h t List.mem_cons_self))]
theorem same_place {p : Int32} : ∀ {th : List zTh} {k : Nat}, th.Pairwise (fun a b => a.1 < b.1) → fidx p th = some k → fidx p (th.eraseIdx k) = none ∧ insT (p, (th.getD k (0, 0, 0, 0, 0)).2) (th.eraseIdx k) = th := by
  intro th
  induction th with
  | nil => intro k _ h; cases h
  | cons x r ih =>
    intro k hp h
    rw [List.pairwise_cons] at hp
    unfold fidx at h
    by_cases hx : x.1 = p
    · rw [if_pos hx] at h
      cases h
      subst hx
      refine ⟨fidx_none_of (fun t ht e => ?_), ?_⟩
      · have := hp.1 t ht
        rw [e] at this
        exact absurd this (by rw [inlt]; exact Int32.le_refl _)
      · have e : nah x.1 r = 0 := nah_0 hp.1
        show insT (x.1, x.2) r = x :: r
        unfold insT
        simp only
        rw [e]
        rfl
    · rw [if_neg hx] at h
      cases hr : fidx p r with
      | none => rw [hr] at h; cases h
      | some j =>
        rw [hr] at h
        cases h
        obtain ⟨i1, i2⟩ := ih hp.2 hr
        obtain ⟨t, t1, t2⟩ := fidx_some hr
        have hxp : x.1 < p := by rw [← t2]; exact hp.1 t (List.mem_of_getElem? t1)
        have e0 : (x :: r).eraseIdx (j + 1) = x :: r.eraseIdx j := rfl
        have e1 : (x :: r).getD (j + 1) (0, 0, 0, 0, 0) = r.getD j (0, 0, 0, 0, 0) := by simp
        rw [e0, e1]
        refine ⟨?_, ?_⟩
        · unfold fidx
          rw [if_neg hx, i1]
          rfl
        · have en : nah p (x :: r.eraseIdx j) = nah p (r.eraseIdx j) + 1 := by rw [nah, if_pos hxp]
          have : insT (p, (r.getD j (0, 0, 0, 0, 0)).2) (x :: r.eraseIdx j) = x :: insT (p, (r.getD j (0, 0, 0, 0, 0)).2) (r.eraseIdx j) := by
            unfold insT
            simp only
            rw [en]
            rfl
          rw [this, i2]
theorem mvB_same {b : zB} (ok : okB b) {p : Int32} {k : Nat} (h : fidx p b.2.1 = some k) : fidx p (b.2.1.eraseIdx k) = none ∧ mvB b k p = b := by
  obtain ⟨h1, h2⟩ := same_place ok.2.2.2.2.2.2 h
  refine ⟨h1, ?_⟩
  unfold mvB
  rw [h2]
theorem pig : ∀ (V : List Int32) (th : List zTh), V.Nodup → (∀ v ∈ V, ∃ t ∈ th, t.1 = v) → V.length ≤ th.length := by
  intro V
  induction V with
  | nil => intro th _ _; exact Nat.zero_le _
  | cons v V ih =>
    intro th hV h
    rw [List.nodup_cons] at hV
    obtain ⟨t, ht, e⟩ := h v List.mem_cons_self
    obtain ⟨l1, l2, rfl⟩ := List.append_of_mem ht
    have := ih (l1 ++ l2) hV.2 (fun w hw => by
      obtain ⟨s, hs, es⟩ := h w (List.mem_cons_of_mem _ hw)
      refine ⟨s, ?_, es⟩
      rcases List.mem_append.mp hs with hs | hs
      · exact List.mem_append_left _ hs
      · rcases List.mem_cons.mp hs with rfl | hs
        · exact absurd (by rw [← e, es]; exact hw) hV.1
        · exact List.mem_append_right _ hs)
    simp at this ⊢
    omega
theorem free_place {th : List zTh} (h : th.length ≤ 8) : ∃ j, 1 ≤ j ∧ j < 100 ∧ fidx (nI (10 * j)) th = none := by
  refine Classical.byContradiction (fun hn => ?_)
  have hall : ∀ j, 1 ≤ j → j < 100 → ∃ t ∈ th, t.1 = nI (10 * j) := by
    intro j h1 h2
    cases hf : fidx (nI (10 * j)) th with
    | none => exact absurd ⟨j, h1, h2, hf⟩ hn
    | some k =>
      obtain ⟨t, t1, t2⟩ := fidx_some hf
      exact ⟨t, List.mem_of_getElem? t1, t2⟩
  have := pig [nI 10, nI 20, nI 30, nI 40, nI 50, nI 60, nI 70, nI 80, nI 90] th (by decide) (fun v hv => by
    simp only [List.mem_cons, List.not_mem_nil, or_false] at hv
    rcases hv with rfl | rfl | rfl | rfl | rfl | rfl | rfl | rfl | rfl
    · exact hall 1 (by omega) (by omega)
    · exact hall 2 (by omega) (by omega)
    · exact hall 3 (by omega) (by omega)
    · exact hall 4 (by omega) (by omega)
    · exact hall 5 (by omega) (by omega)
    · exact hall 6 (by omega) (by omega)
    · exact hall 7 (by omega) (by omega)
    · exact hall 8 (by omega) (by omega)
    · exact hall 9 (by omega) (by omega))
  simp at this
  omega
theorem best_133 (k47 : Int32 → Int32 → Int32 → Int32 → Int32 → Int32 → Int32 → zG → Option (Int32 × zG)) (y1 y2 y3 y4 y5 y6 y7 y8 y9 : Int32) (g : zG) : f_X7_best_133 k47 y1 y2 y3 y4 y5 y6 y7 y8 y9 g = k47 y1 y2 y3 y7 y8 y9 (y7 + 10) g := by
  unfold f_X7_best_133 f_X7_best_138 f_X7_best_152 f_X7_best_166
  simp only [if_neg ne10]
theorem best_137 (k47 : Int32 → Int32 → Int32 → Int32 → Int32 → Int32 → Int32 → zG → Option (Int32 × zG)) (y1 y2 y3 y4 y5 y6 y7 y8 y9 : Int32) (g : zG) : f_X7_best_137 k47 y1 y2 y3 y4 y5 y6 y7 y8 y9 g = k47 y1 y2 y3 y4 y5 y6 (y7 + 10) g := by
  unfold f_X7_best_137 f_X7_best_138 f_X7_best_152 f_X7_best_166
  simp only [if_true]
theorem best_70 {b : zB} (ok : okB b) {g : zG} (hS : rS (g 0) b) (h3 : rS (g 3) b) {k : Nat} (hk : k < b.2.1.length) {to : Int32} (ht : 1 ≤ to ∧ to ≤ 999) (hf : fidx to (b.2.1.eraseIdx k) = none) (k47 : Int32 → Int32 → Int32 → Int32 → Int32 → Int32 → Int32 → zG → Option (Int32 × zG)) (y1 y2 be ma le : Int32) :
    ∃ g', kb g g' ∧ rS (g' 0) b ∧ rS (g' 3) b ∧ ((btr be ma le (nOn (mvB b k to)) (sprd (mvB b k to)) → f_X7_best_70 k47 y1 y2 (nI k) be ma le to g = k47 y1 y2 (nI k) to (nOn (mvB b k to)) (sprd (mvB b k to)) (to + 10) g') ∧ (¬ btr be ma le (nOn (mvB b k to)) (sprd (mvB b k to)) → f_X7_best_70 k47 y1 y2 (nI k) be ma le to g = k47 y1 y2 (nI k) be ma le (to + 10) g')) := by
  have okm := mvB_ok ok hk ht hf
  obtain ⟨g1, m1, m2, m3⟩ := moves_ev hS ok hk hf
  obtain ⟨g2, g3, c1, c2, c3, c4⟩ := meas_ev okm m3
  have e3 : g3 3 = g 3 := by rw [c4 3 (by decide) (by decide) (by decide) (by decide), m2 3 (by decide)]
  refine ⟨gset g3 0 (cpR (g3 0) (g3 3) 0), ?_, ?_, ?_, ?_⟩
  · intro j a1 a2 a3 a4 a5 a6
    rw [gset_ne _ _ a1, c4 j a3 a4 a5 a6, m2 j a1]
  · rw [gset_same, e3]
    exact cpR_rS ok h3
  · rw [gset_ne _ _ (by decide), e3]
    exact h3
  · unfold f_X7_best_70
    rw [m1, zbind_some, c1, zbind_some, c2, zbind_some, c3, zbind_some, copies_30_ev, zbind_some]
    simp only [best_133, best_137]
    unfold btr
    refine ⟨fun h => ?_, fun h => ?_⟩
    · by_cases c1 : be < 0
      · rw [if_pos c1]
      · rw [if_neg c1]
        by_cases c2 : ma < nOn (mvB b k to)
        · rw [if_pos c2]
        · rw [if_neg c2]
          rcases h with h | h | h
          · exact absurd h c1
          · exact absurd h c2
          · rw [if_pos h.1, if_neg h.2]
    · rw [if_neg (fun q => h (Or.inl q)), if_neg (fun q => h (Or.inr (Or.inl q)))]
      by_cases c1 : nOn (mvB b k to) = ma
      · rw [if_pos c1]
        by_cases c2 : le ≤ sprd (mvB b k to)
        · rw [if_pos c2]
        · exact absurd (Or.inr (Or.inr ⟨c1, c2⟩)) h
      · rw [if_neg c1]
theorem place_10 {j : Nat} (h1 : 1 ≤ j) (h2 : j < 100) : (1 : Int32) ≤ nI (10 * j) ∧ nI (10 * j) ≤ (999 : Int32) :=
  ⟨(nI_leI (a := 1) (by decide) (by omega)).mpr (by omega), (nI_leI (b := 999) (by omega) (by decide)).mpr (by omega)⟩
theorem best_sim {gB gM gN : zG} {b : zB} (hB : rB gB b) (ok : okB b) {p : Int32} {k : Nat} (hk : fidx p b.2.1 = some k) (x2 : Int32) : ∀ (d j f1 f2 : Nat) (gT gR gH g : zG) (be ma le : Int32), j + d = 100 → 1 ≤ j → d < f1 → d < f2 → chR gH be ma le → (ch2 gH be ma le ∨ ∃ i, j ≤ i ∧ i < 100 ∧ fidx (nI (10 * i)) b.2.1 = none) → rS (g 0) b → rS (g 3) b → kb gN g →
    ∃ R R', f_X6_best_33 gM gB f1 p x2 (nI (10 * j)) gT gR gH = some R ∧ f_X7_best_47 f2 p x2 (nI k) be ma le (nI (10 * j)) g = some R' ∧ R.1 = R'.1 ∧ kb gN R'.2 ∧ rS (R'.2 0) b := by
  have hkl := fidx_lt hk
  have h8 := ok.2.1
  intro d
  induction d with
  | zero =>
    intro j f1 f2 gT gR gH g be ma le hj h1 hf1 hf2 hc hx hS h3 hkb
    obtain ⟨n1, rfl⟩ : ∃ n, f1 = n + 1 := ⟨f1 - 1, by omega⟩
    obtain ⟨n2, rfl⟩ : ∃ n, f2 = n + 1 := ⟨f2 - 1, by omega⟩
    have hj : j = 100 := by omega
    subst hj
    have hc2 : ch2 gH be ma le := by
      rcases hx with hx | ⟨i, i1, i2, _⟩
      · exact hx
      · omega
    obtain ⟨a0, a1, a2, a3⟩ := hc2
    show ∃ R R', f_X6_best_33_b gM gB (f_X6_best_33 gM gB n1) p x2 (nI (10 * 100)) gT gR gH = some R ∧ f_X7_best_47_b (f_X7_best_47 n2) p x2 (nI k) be ma le (nI (10 * 100)) g = some R' ∧ _
    unfold f_X6_best_33_b f_X7_best_47_b
    rw [if_pos (show (990 : Int32) < nI (10 * 100) from by decide), if_pos (show (1000 : Int32) ≤ nI (10 * 100) from by decide), a0, a1, a2]
    by_cases c0 : x2 = 0
    · rw [if_pos c0, if_pos c0]; exact ⟨_, _, rfl, rfl, rfl, hkb, hS⟩
    · rw [if_neg c0, if_neg c0]
      by_cases c1 : x2 = 1
      · rw [if_pos c1, if_pos c1]; exact ⟨_, _, rfl, rfl, rfl, hkb, hS⟩
      · rw [if_neg c1, if_neg c1]; exact ⟨_, _, rfl, rfl, rfl, hkb, hS⟩
  | succ d ih =>
    intro j f1 f2 gT gR gH g be ma le hj h1 hf1 hf2 hc hx hS h3 hkb
    obtain ⟨n1, rfl⟩ : ∃ n, f1 = n + 1 := ⟨f1 - 1, by omega⟩
    obtain ⟨n2, rfl⟩ : ∃ n, f2 = n + 1 := ⟨f2 - 1, by omega⟩
    have hto := place_10 h1 (show j < 100 by omega)
    have hto0 : ¬ nI (10 * j) < 0 := nI_pos (by omega)
    have e10 : nI (10 * j) + (10 : Int32) = nI (10 * (j + 1)) := by rw [show (10 : Int32) = nI 10 from rfl, nI_add, Nat.mul_add]
    show ∃ R R', f_X6_best_33_b gM gB (f_X6_best_33 gM gB n1) p x2 (nI (10 * j)) gT gR gH = some R ∧ f_X7_best_47_b (f_X7_best_47 n2) p x2 (nI k) be ma le (nI (10 * j)) g = some R' ∧ _
    unfold f_X6_best_33_b f_X7_best_47_b f_X6_offerPlace
    rw [if_neg (c := (990 : Int32) < nI (10 * j)) (fun h => by have := (nI_ltI (a := 990) (by decide) (by omega)).mp h; omega), if_neg (c := (1000 : Int32) ≤ nI (10 * j)) (fun h => by have := (nI_leI (a := 1000) (by decide) (by omega)).mp h; omega)]
    obtain ⟨gT1, t1, t2⟩ := copyFrom_ev gT gB hB ok.1 ok.2.1
    rw [t1, zbind_some, e10]
    have go : ∀ (gT2 : zG), fidx (nI (10 * j)) (b.2.1.eraseIdx k) = none → rB gT2 (mvB b k (nI (10 * j))) → ∃ gR' gH', f_X6_offerTrial gM gT2 gR gH (nI (10 * j)) = some (gR', gH') ∧ ∃ R R', f_X6_best_33 gM gB n1 p x2 (nI (10 * (j + 1))) gT2 gR' gH' = some R ∧ f_X7_best_70 (f_X7_best_47 n2) p x2 (nI k) be ma le (nI (10 * j)) g = some R' ∧ R.1 = R'.1 ∧ kb gN R'.2 ∧ rS (R'.2 0) b := by
      intro gT2 hfr hT2
      have okm := mvB_ok ok hkl hto hfr
      obtain ⟨gR', gH', o1, o2⟩ := offerTrial_ev (gM := gM) (gR := gR) hT2 okm hc hto0
      obtain ⟨g', b1, b2, b3, b4, b5⟩ := best_70 ok hS h3 hkl hto hfr (f_X7_best_47 n2) p x2 be ma le
      refine ⟨gR', gH', o1, ?_⟩
      rcases o2 with ⟨q1, q2⟩ | ⟨q1, q2⟩
      · rw [b4 q1, e10]
        exact ih (j + 1) n1 n2 gT2 gR' gH' g' _ _ _ (by omega) (by omega) (by omega) (by omega) (Or.inr q2) (Or.inl q2) b2 b3 (kb_tr hkb b1)
      · rw [b5 q1, e10]
        exact ih (j + 1) n1 n2 gT2 gR' gH' g' _ _ _ (by omega) (by omega) (by omega) (by omega) (Or.inr q2) (Or.inl q2) b2 b3 (kb_tr hkb b1)
    by_cases hp : nI (10 * j) = p
    · rw [if_pos hp, if_pos hp]
      obtain ⟨s1, s2⟩ := mvB_same ok hk
      obtain ⟨gR', gH', o1, o2⟩ := go gT1 (by rw [hp]; exact s1) (by rw [hp, s2]; exact t2)
      rw [o1, zbind_some, zbind_some]
      exact o2
    · rw [if_neg hp, if_neg hp, at_ev hS h8, zbind_some]
      rcases moveThing_ev t2 h8 p (nI (10 * j)) with ⟨c1, _⟩ | ⟨k', t, c1, c2, c3⟩
      · rw [hk] at c1; cases c1
      · rw [hk] at c1
        cases c1
        rcases c3 with ⟨c3, _⟩ | ⟨_, c3, c4⟩ | ⟨_, c3, g2, c4, c5⟩
        · exact absurd hto c3
        · obtain ⟨k2, hk2⟩ := Option.isSome_iff_exists.mp c3
          have hk2l := fidx_lt hk2
          rw [c4, zbind_some, if_pos NPO_neg, zbind_some, hk2, if_pos (show 0 ≤ ix (some k2) NFO from nI_pos' (by omega))]
          refine ih (j + 1) n1 n2 gT1 gR gH g be ma le (by omega) (by omega) (by omega) (by omega) hc ?_ hS h3 hkb
          rcases hx with hx | ⟨i, i1, i2, i3⟩
          · exact Or.inl hx
          · refine Or.inr ⟨i, ?_, i2, i3⟩
            have : i ≠ j := fun e => by subst e; rw [hk2] at i3; cases i3
            omega
        · have et : t = b.2.1.getD k (0, 0, 0, 0, 0) := by
            have := getD_some (d := ((0 : Int32), (0 : Int32), (0 : Int32), (0 : Int32), (0 : Int32))) hkl
            rw [c2] at this
            exact Option.some.inj this
          subst et
          have hna := nah_le (nI (10 * j)) (b.2.1.eraseIdx k)
          have hl := List.length_eraseIdx_of_lt hkl
          obtain ⟨gR', gH', o1, o2⟩ := go g2 (fidx_erase k c3) c5
          rw [c4, zbind_some, if_neg (nI_pos (by omega)), o1, zbind_some, zbind_some, c3, if_neg (show ¬ 0 ≤ ix none NFO from by decide)]
          exact o2
theorem pm_best {gB gX gY gN : zG} {h : Nat → Option zG} (hR : zRel gB gX gY h gN) (gM : zG) (gT : zG) (gR : zG) (gH : zG) (x1 x2 : Int32) : ∃ R R', f_X6_best gM gB gT gR gH x1 x2 = some R ∧ f_X7_best gN x1 x2 = some R' ∧ R.1 = R'.1 ∧ zRel gB gX gY h R'.2 := by
  obtain ⟨b, hs, tx, hA⟩ := zRel_abs hR
  have hA0 := hA
  obtain ⟨h1, h2, h3, h4, h5, h6, h7, h8, h9⟩ := hA
  unfold f_X6_best f_X7_best f_X2_clear
  rw [indexOf_ev h3 h1.2.1, zbind_some, at_ev h4 h1.2.1, zbind_some]
  cases hf : fidx x1 b.2.1 with
  | none =>
    rw [if_pos (show ix none (-1) < 0 from by decide), if_pos (show ix none NFO < 0 from by decide)]
    exact ⟨_, _, rfl, rfl, rfl, hR⟩
  | some k =>
    have hk := fidx_lt hf
    have hk8 := h1.2.1
    rw [if_neg (show ¬ ix (some k) (-1) < 0 from nI_pos (by omega)), if_neg (show ¬ ix (some k) NFO < 0 from nI_pos (by omega)), within_ev, zbind_some, ite_1, in_ev, zbind_some, ite_1]
    by_cases q : 0 ≤ x2 ∧ x2 ≤ 2
    · rw [if_pos q, if_pos q, zlet_eq, zbind_some, copies_03_ev, zbind_some]
      obtain ⟨j, j1, j2, j3⟩ := free_place h1.2.1
      have hS0 : rS ((gset gN 3 (cpR (gN 3) (gN 0) 0)) 0) b := by rw [gset_ne _ _ (by decide)]; exact h4
      have hS3 : rS ((gset gN 3 (cpR (gN 3) (gN 0) 0)) 3) b := by rw [gset_same]; exact cpR_rS h1 h4
      obtain ⟨R, R', a1, a2, a3, a4, a5⟩ := best_sim (gM := gM) (gN := gN) h3 h1 hf x2 99 1 zfuel zfuel gT gR (gup gH 1 0 (-1)) (gset gN 3 (cpR (gN 3) (gN 0) 0)) NFO 0 0 (by omega) (by omega) (by unfold zfuel; omega) (by unfold zfuel; omega) (Or.inl ⟨by simp [gup, upd], rfl⟩) (Or.inr ⟨j, j1, j2, j3⟩) hS0 hS3 (fun j _ c _ _ _ _ => gset_ne _ _ c)
      exact ⟨R, R', a1, a2, a3, zAbs_rel (kb_abs hA0 a4 a5)⟩
    · rw [if_neg q, if_neg q]
      exact ⟨_, _, rfl, rfl, rfl, hR⟩
/-! the strength -/
def stT (t : zTh) (x : Int32) : zTh := (t.1, t.2.1, t.2.2.1, x, t.2.2.2.2)
def stB (b : zB) (k : Nat) (x : Int32) : zB := (b.1, b.2.1.set k (stT (b.2.1.getD k (0, 0, 0, 0, 0)) x), b.2.2)
theorem stB_self {b : zB} {k : Nat} (hk : k < b.2.1.length) : stB b k (b.2.1.getD k (0, 0, 0, 0, 0)).2.2.2.1 = b := by
  have e : stT (b.2.1.getD k (0, 0, 0, 0, 0)) (b.2.1.getD k (0, 0, 0, 0, 0)).2.2.2.1 = b.2.1[k] := by
    have := getD_some (d := ((0 : Int32), (0 : Int32), (0 : Int32), (0 : Int32), (0 : Int32))) hk
    rw [List.getElem?_eq_getElem hk] at this
    rw [Option.some.inj this]
    rfl
  unfold stB
  rw [e, List.set_getElem_self]
theorem stB_get {b : zB} {k : Nat} {x : Int32} {i : Nat} {q : zTh} (hq : (stB b k x).2.1[i]? = some q) : (i = k ∧ q = stT (b.2.1.getD k (0, 0, 0, 0, 0)) x) ∨ (i ≠ k ∧ b.2.1[i]? = some q) := set_get hq
theorem stB_of {b : zB} {k : Nat} {x v : Int32} {i : Nat} {q : zTh} (hk : k < b.2.1.length) (hq : (stB b k x).2.1[i]? = some q) : (i = k ∧ q = stT (b.2.1.getD k (0, 0, 0, 0, 0)) x ∧ (stB b k v).2.1[k]? = some (stT (b.2.1.getD k (0, 0, 0, 0, 0)) v)) ∨ (i ≠ k ∧ (stB b k v).2.1[i]? = some q) := by
  rcases stB_get hq with ⟨h1, h2⟩ | ⟨h1, h2⟩
  · refine Or.inl ⟨h1, h2, ?_⟩
    unfold stB
    simp [hk]
  · refine Or.inr ⟨h1, ?_⟩
    unfold stB
    simp only
    rw [List.getElem?_set_ne (fun e => h1 e.symm)]
    exact h2
theorem stB_len (b : zB) (k : Nat) (x : Int32) : (stB b k x).2.1.length = b.2.1.length := by unfold stB; simp
theorem stB_c {g : zG} {b : zB} {k : Nat} (hk : k < b.2.1.length) {v : Int32} (h : rB g (stB b k v)) (x : Int32) : rB (gup g 6 k x) (stB b k x) := by
  obtain ⟨h1, h2, h3, h4, h5⟩ := h
  refine ⟨?_, ?_, ?_, ?_, ?_⟩
  · rw [gup_ne _ _ _ (by decide)]; exact h1
  · rw [gup_ne _ _ _ (by decide), h2, stB_len, stB_len]
  · rw [gup_ne _ _ _ (by decide)]; exact h3
  · intro i q hq
    rw [gup_ne _ _ _ (by decide), gup_ne _ _ _ (by decide)]
    exact h4 i q hq
  · intro i q hq
    rw [gup_ne _ _ _ (show (3 : Nat) ≠ 6 by decide), gup_ne _ _ _ (show (4 : Nat) ≠ 6 by decide), gup_ne _ _ _ (show (5 : Nat) ≠ 6 by decide), gup_same, gup_ne _ _ _ (show (7 : Nat) ≠ 6 by decide)]
    unfold upd
    rcases stB_of (v := v) hk hq with ⟨rfl, rfl, e⟩ | ⟨hne, e⟩
    · obtain ⟨a1, a2, a3, a4, a5⟩ := h5 _ _ e
      rw [if_pos rfl]
      exact ⟨a1, a2, a3, rfl, a5⟩
    · rw [if_neg hne]
      exact h5 i q e
theorem stB_m {s : Nat → Int32} {b : zB} (ok : okB b) {k : Nat} (hk : k < b.2.1.length) {v : Int32} (h : rS s (stB b k v)) (x : Int32) : rS (upd s (19 + 5 * k + 3) x) (stB b k x) := by
  obtain ⟨h1, h2, h3, h4, h5⟩ := h
  have hn := ok.1
  refine ⟨?_, ?_, ?_, ?_, ?_⟩
  · unfold upd; rw [if_neg (by omega)]; exact h1
  · unfold upd; rw [if_neg (by omega), h2, stB_len, stB_len]
  · unfold upd; rw [if_neg (by omega)]; exact h3
  · intro i q hq
    have hi : i < b.1.length := (List.getElem?_eq_some_iff.mp hq).1
    unfold upd
    rw [if_neg (by omega), if_neg (by omega)]
    exact h4 i q hq
  · intro i q hq
    unfold upd
    rcases stB_of (v := v) hk hq with ⟨rfl, rfl, e⟩ | ⟨hne, e⟩
    · obtain ⟨a1, a2, a3, a4, a5⟩ := h5 _ _ e
      rw [if_neg (by omega), if_neg (by omega), if_neg (by omega), if_pos rfl, if_neg (by omega)]
      exact ⟨a1, a2, a3, rfl, a5⟩
    · rw [if_neg (by omega), if_neg (by omega), if_neg (by omega), if_neg (by omega), if_neg (by omega)]
      exact h5 i q e
theorem stB_ok {b : zB} (ok : okB b) {k : Nat} (hk : k < b.2.1.length) (h0 : (b.2.1.getD k (0, 0, 0, 0, 0)).2.1 = 0) {x : Int32} (hx : 1 ≤ x ∧ x ≤ 99) : okB (stB b k x) := by
  obtain ⟨a1, a2, a3, a4, a5, a6, a7⟩ := ok
  refine ⟨a1, by rw [stB_len]; exact a2, a3, a4, a5, ?_, ?_⟩
  · intro q hq
    obtain ⟨i, hi, e⟩ := List.mem_iff_getElem.mp hq
    have hq' : (stB b k x).2.1[i]? = some q := by rw [List.getElem?_eq_getElem hi, e]
    rcases stB_get hq' with ⟨rfl, rfl⟩ | ⟨_, e⟩
    · have hT := a6 _ (List.mem_of_getElem? (getD_some (d := ((0 : Int32), (0 : Int32), (0 : Int32), (0 : Int32), (0 : Int32))) hk))
      refine ⟨hT.1, hT.2.1, Or.inl ⟨h0, ?_⟩⟩
      rcases hT.2.2 with h | h
      · exact ⟨h.2.1, hx.1, hx.2, h.2.2.2.2⟩
      · rw [h0] at h; exact absurd h.1 (by decide)
    · exact a6 q (List.mem_of_getElem? e)
  · show (b.2.1.set k (stT (b.2.1.getD k (0, 0, 0, 0, 0)) x)).Pairwise (fun a b => a.1 < b.1)
    have e : (b.2.1.set k (stT (b.2.1.getD k (0, 0, 0, 0, 0)) x)).map Prod.fst = b.2.1.map Prod.fst := by
      apply List.ext_getElem?
      intro i
      rw [List.getElem?_map, List.getElem?_map]
      by_cases hi : i = k
      · subst hi
        rw [List.getElem?_set_self hk, getD_some (d := ((0 : Int32), (0 : Int32), (0 : Int32), (0 : Int32), (0 : Int32))) hk]
        rfl
      · rw [List.getElem?_set_ne (fun e => hi e.symm)]
    have p1 : (b.2.1.map Prod.fst).Pairwise (fun a b => a < b) := List.pairwise_map.mpr a7
    rw [← e] at p1
    exact List.pairwise_map.mp p1
theorem tuned_109 (k43 : Int32 → Int32 → Int32 → Int32 → Int32 → Int32 → zG → Option (Int32 × zG)) (y2 y3 y4 y5 y6 y7 y8 y9 : Int32) (g : zG) : f_X7_tuned_109 k43 y2 y3 y4 y5 y6 y7 y8 y9 g = k43 y2 y3 y7 y8 y9 (y7 + 1) g := by
  unfold f_X7_tuned_109 f_X7_tuned_114 f_X7_tuned_128 f_X7_tuned_142
  simp only [if_neg ne10]
theorem tuned_113 (k43 : Int32 → Int32 → Int32 → Int32 → Int32 → Int32 → zG → Option (Int32 × zG)) (y2 y3 y4 y5 y6 y7 y8 y9 : Int32) (g : zG) : f_X7_tuned_113 k43 y2 y3 y4 y5 y6 y7 y8 y9 g = k43 y2 y3 y4 y5 y6 (y7 + 1) g := by
  unfold f_X7_tuned_113 f_X7_tuned_114 f_X7_tuned_128 f_X7_tuned_142
  simp only [if_true]
theorem tuned_sim {gB gM gN : zG} {b : zB} (ok : okB b) {k : Nat} (hkl : k < b.2.1.length) (h0 : (b.2.1.getD k (0, 0, 0, 0, 0)).2.1 = 0) : ∀ (d j f1 f2 : Nat) (v v' : Int32) (gT gR gH g : zG) (be ma le : Int32), j + d = 100 → 1 ≤ j → d < f1 → d < f2 → chR gH be ma le → (ch2 gH be ma le ∨ j < 100) → rB gT (stB b k v) → rS (g 0) (stB b k v') → kb gN g →
    ∃ R R', f_X6_tuned_55 gM gB f1 (nI k) (nI j) gT gR gH = some R ∧ f_X7_tuned_43 f2 (nI k) (b.2.1.getD k (0, 0, 0, 0, 0)).2.2.2.1 be ma le (nI j) g = some R' ∧ R.1 = R'.1 ∧ kb gN R'.2 ∧ rS (R'.2 0) b := by
  have h8 := ok.2.1
  have e3 : ((19 : Int32) + (5 : Int32) * nI k) + (3 : Int32) = nI (19 + 5 * k + 3) := ofix k 3
  intro d
  induction d with
  | zero =>
    intro j f1 f2 v v' gT gR gH g be ma le hj h1 hf1 hf2 hc hx hT hS hkb
    obtain ⟨n1, rfl⟩ : ∃ n, f1 = n + 1 := ⟨f1 - 1, by omega⟩
    obtain ⟨n2, rfl⟩ : ∃ n, f2 = n + 1 := ⟨f2 - 1, by omega⟩
    have hj : j = 100 := by omega
    subst hj
    have hc2 : ch2 gH be ma le := by
      rcases hx with hx | hx
      · exact hx
      · omega
    obtain ⟨a0, a1, a2, a3⟩ := hc2
    show ∃ R R', f_X6_tuned_55_b gM gB (f_X6_tuned_55 gM gB n1) (nI k) (nI 100) gT gR gH = some R ∧ f_X7_tuned_43_b (f_X7_tuned_43 n2) (nI k) (b.2.1.getD k (0, 0, 0, 0, 0)).2.2.2.1 be ma le (nI 100) g = some R' ∧ _
    unfold f_X6_tuned_55_b f_X7_tuned_43_b
    rw [if_pos (show (99 : Int32) < nI 100 from by decide), if_pos (show (100 : Int32) ≤ nI 100 from by decide), a0, e3, zin_nI (by omega) (by decide), zlet_eq, nI_clamp (by omega)]
    refine ⟨_, _, rfl, rfl, rfl, ?_, ?_⟩
    · intro j a1 a2 a3 a4 a5 a6
      show (gup g 0 (19 + 5 * k + 3) (b.2.1.getD k (0, 0, 0, 0, 0)).2.2.2.1) j = gN j
      rw [gup_ne _ _ _ a1]
      exact hkb j a1 a2 a3 a4 a5 a6
    · show rS (gup g 0 (19 + 5 * k + 3) _ 0) b
      rw [gup_same]
      have := stB_m ok hkl hS (b.2.1.getD k (0, 0, 0, 0, 0)).2.2.2.1
      rw [stB_self hkl] at this
      exact this
  | succ d ih =>
    intro j f1 f2 v v' gT gR gH g be ma le hj h1 hf1 hf2 hc hx hT hS hkb
    obtain ⟨n1, rfl⟩ : ∃ n, f1 = n + 1 := ⟨f1 - 1, by omega⟩
    obtain ⟨n2, rfl⟩ : ∃ n, f2 = n + 1 := ⟨f2 - 1, by omega⟩
    have hj1 : (1 : Int32) ≤ nI j ∧ nI j ≤ (99 : Int32) := ⟨(nI_leI (a := 1) (by decide) (by omega)).mpr (by omega), (nI_leI (b := 99) (by omega) (by decide)).mpr (by omega)⟩
    have okm := stB_ok ok hkl h0 hj1
    have hT2 := stB_c hkl hT (nI j)
    obtain ⟨gR', gH', o1, o2⟩ := offerTrial_ev (gM := gM) (gR := gR) (x := nI j) hT2 okm hc (nI_pos (by omega))
    have hS2 : rS ((gup g 0 (19 + 5 * k + 3) (nI j)) 0) (stB b k (nI j)) := by rw [gup_same]; exact stB_m ok hkl hS (nI j)
    obtain ⟨g2, g3, c1, c2, c3, c4⟩ := meas_ev okm hS2
    have hS3 : rS (g3 0) (stB b k (nI j)) := by rw [kp_0 c4]; exact hS2
    have hk3 : kb gN g3 := fun i a1 a2 a3 a4 a5 a6 => by
      rw [c4 i a3 a4 a5 a6, gup_ne _ _ _ a1]
      exact hkb i a1 a2 a3 a4 a5 a6
    show ∃ R R', f_X6_tuned_55_b gM gB (f_X6_tuned_55 gM gB n1) (nI k) (nI j) gT gR gH = some R ∧ f_X7_tuned_43_b (f_X7_tuned_43 n2) (nI k) (b.2.1.getD k (0, 0, 0, 0, 0)).2.2.2.1 be ma le (nI j) g = some R' ∧ _
    unfold f_X6_tuned_55_b f_X7_tuned_43_b
    rw [if_neg (c := (99 : Int32) < nI j) (fun h => by have := (nI_ltI (a := 99) (by decide) (by omega)).mp h; omega), if_neg (c := (100 : Int32) ≤ nI j) (fun h => by have := (nI_leI (a := 100) (by decide) (by omega)).mp h; omega), e3, zin_nI (show k < 8 by omega) (by decide), zlet_eq, nI_clamp (show k < 2 ^ 31 by omega), o1, zbind_some, zin_nI (show 19 + 5 * k + 3 < 59 by omega) (by decide), zlet_eq, nI_clamp (show 19 + 5 * k + 3 < 2 ^ 31 by omega), c1, zbind_some, c2, zbind_some, c3, zbind_some, nIs]
    simp only [tuned_109, tuned_113, nIs]
    have yes : btr be ma le (nOn (stB b k (nI j))) (sprd (stB b k (nI j))) → ∃ R R', f_X6_tuned_55 gM gB n1 (nI k) (nI (j + 1)) (gup gT 6 k (nI j)) gR' gH' = some R ∧ f_X7_tuned_43 n2 (nI k) (b.2.1.getD k (0, 0, 0, 0, 0)).2.2.2.1 (nI j) (nOn (stB b k (nI j))) (sprd (stB b k (nI j))) (nI (j + 1)) g3 = some R' ∧ R.1 = R'.1 ∧ kb gN R'.2 ∧ rS (R'.2 0) b := by
      intro h
      rcases o2 with ⟨q1, q2⟩ | ⟨q1, q2⟩
      · exact ih (j + 1) n1 n2 (nI j) (nI j) _ _ _ _ _ _ _ (by omega) (by omega) (by omega) (by omega) (Or.inr q2) (Or.inl q2) hT2 hS3 hk3
      · exact absurd h q1
    have no : ¬ btr be ma le (nOn (stB b k (nI j))) (sprd (stB b k (nI j))) → ∃ R R', f_X6_tuned_55 gM gB n1 (nI k) (nI (j + 1)) (gup gT 6 k (nI j)) gR' gH' = some R ∧ f_X7_tuned_43 n2 (nI k) (b.2.1.getD k (0, 0, 0, 0, 0)).2.2.2.1 be ma le (nI (j + 1)) g3 = some R' ∧ R.1 = R'.1 ∧ kb gN R'.2 ∧ rS (R'.2 0) b := by
      intro h
      rcases o2 with ⟨q1, q2⟩ | ⟨q1, q2⟩
      · exact absurd q1 h
      · exact ih (j + 1) n1 n2 (nI j) (nI j) _ _ _ _ _ _ _ (by omega) (by omega) (by omega) (by omega) (Or.inr q2) (Or.inl q2) hT2 hS3 hk3
    by_cases d1 : be < 0
    · rw [if_pos d1]
      exact yes (Or.inl d1)
    · rw [if_neg d1]
      by_cases d2 : ma < nOn (stB b k (nI j))
      · rw [if_pos d2]
        exact yes (Or.inr (Or.inl d2))
      · rw [if_neg d2]
        by_cases d3 : nOn (stB b k (nI j)) = ma
        · rw [if_pos d3]
          by_cases d4 : le ≤ sprd (stB b k (nI j))
          · rw [if_pos d4]
            refine no ?_
            rintro (e | e | e)
            · exact d1 e
            · exact d2 e
            · exact e.2 d4
          · rw [if_neg d4]
            exact yes (Or.inr (Or.inr ⟨d3, d4⟩))
        · rw [if_neg d3]
          refine no ?_
          rintro (e | e | e)
          · exact d1 e
          · exact d2 e
          · exact d3 e.1
theorem pm_tuned {gB gX gY gN : zG} {h : Nat → Option zG} (hR : zRel gB gX gY h gN) (gM : zG) (gT : zG) (gR : zG) (gH : zG) (x1 : Int32) : ∃ R R', f_X6_tuned gM gB gT gR gH x1 = some R ∧ f_X7_tuned gN x1 = some R' ∧ R.1 = R'.1 ∧ zRel gB gX gY h R'.2 := by
  obtain ⟨b, hs, tx, hA⟩ := zRel_abs hR
  have hA0 := hA
  obtain ⟨h1, h2, h3, h4, h5, h6, h7, h8, h9⟩ := hA
  unfold f_X6_tuned f_X7_tuned f_X2_clear
  rw [indexOf_ev h3 h1.2.1, zbind_some, at_ev h4 h1.2.1, zbind_some]
  cases hf : fidx x1 b.2.1 with
  | none =>
    rw [show ix none (-1) = (-1 : Int32) from rfl, hasThing_no h3.2.1 h1.2.1 (lnum_m1 _), zbind_some, if_pos rfl, if_pos (show ix none NFO < 0 from by decide)]
    exact ⟨_, _, rfl, rfl, rfl, hR⟩
  | some k =>
    have hk := fidx_lt hf
    have hk8 := h1.2.1
    obtain ⟨m0, m1, m2, m3, m4⟩ := of_is h4 hk8 hk
    have hg := getD_some (d := ((0 : Int32), (0 : Int32), (0 : Int32), (0 : Int32), (0 : Int32))) hk
    obtain ⟨a1, a2, a3, a4, a5⟩ := h3.2.2.2.2 k _ hg
    have hT := h1.2.2.2.2.2.1 _ (List.mem_of_getElem? hg)
    rw [show ix (some k) (-1) = nI k from rfl, show ix (some k) NFO = nI k from rfl, hasThing_nI h3.2.1 hk8 (by omega), if_pos hk, zbind_some, if_neg ne10, if_neg (nI_pos (by omega)), zin_nI (by omega) (by decide), nI_clamp (by omega), a2, m1, zbind_some, m3, zbind_some]
    rcases hT.2.2 with hp | hp
    · rw [if_pos hp.1, if_neg (c := (b.2.1.getD k (0, 0, 0, 0, 0)).2.1 = 1) (by rw [hp.1]; decide), zlet_eq, zbind_some]
      obtain ⟨gT1, t1, t2⟩ := copyFrom_ev gT gB h3 h1.1 h1.2.1
      rw [t1, zbind_some]
      obtain ⟨R, R', c1, c2, c3, c4, c5⟩ := tuned_sim (gB := gB) (gM := gM) (gN := gN) h1 hk hp.1 99 1 zfuel zfuel _ _ gT1 gR (gup gH 1 0 (-1)) gN NFO 0 0 (by omega) (by omega) (by unfold zfuel; omega) (by unfold zfuel; omega) (Or.inl ⟨by simp [gup, upd], rfl⟩) (Or.inr (by omega)) (by rw [stB_self hk]; exact t2) (by rw [stB_self hk]; exact h4) (fun j _ _ _ _ _ _ => rfl)
      exact ⟨R, R', c1, c2, c3, zAbs_rel (kb_abs hA0 c4 c5)⟩
    · rw [if_neg (c := (b.2.1.getD k (0, 0, 0, 0, 0)).2.1 = 0) (by rw [hp.1]; decide), if_pos hp.1]
      exact ⟨_, _, rfl, rfl, rfl, hR⟩
/-! ===== the share of the light, as a float ===== -/
theorem q_min : FP.Core.b32.qmin = -149 := by decide
theorem q_max : FP.Core.b32.qmax = 104 := by decide
theorem fitsN {c : Nat} {q : Int} (h1 : 2 ^ 23 ≤ c) (h2 : c < 2 ^ 24) (h3 : -149 ≤ q) (h4 : q ≤ 104) : FP.Core.fits FP.Core.b32 (.fin false c q) :=
  ⟨h2, by rw [q_min]; exact h3, by rw [q_max]; exact h4, Or.inr h1⟩
theorem normal {m : Nat} (h0 : 0 < m) (h : m < 2 ^ 24) : ∃ k, k ≤ 23 ∧ 2 ^ 23 ≤ m * 2 ^ k ∧ m * 2 ^ k < 2 ^ 24 := by
  have a1 : 2 ^ m.log2 ≤ m := Nat.log2_self_le (by omega)
  have a2 : m < 2 ^ (m.log2 + 1) := Nat.lt_log2_self
  have a3 : m.log2 ≤ 23 := by
    rcases Nat.lt_or_ge 23 m.log2 with q | q
    · have : 2 ^ 24 ≤ 2 ^ m.log2 := Nat.pow_le_pow_right (by decide) q
      omega
    · exact q
  refine ⟨23 - m.log2, by omega, ?_, ?_⟩
  · have e : 2 ^ 23 = 2 ^ m.log2 * 2 ^ (23 - m.log2) := by rw [← Nat.pow_add]; congr 1; omega
    rw [e]
    exact Nat.mul_le_mul_right _ a1
  · have e : 2 ^ 24 = 2 ^ (m.log2 + 1) * 2 ^ (23 - m.log2) := by rw [← Nat.pow_add]; congr 1; omega
    rw [e]
    exact Nat.mul_lt_mul_of_pos_right a2 (Nat.two_pow_pos _)
theorem zfl_fin {β : Type} {v : UInt32} {s : Bool} {c : Nat} {q : Int} (h : FP.Core.val32 v = .fin s c q) (k : Option β) : zfl v k = k := by
  unfold zfl
  refine if_pos ?_
  have hE : ¬ v.toNat / 8388608 % 256 = 255 := by
    intro e
    unfold FP.Core.val32 FP.Core.decode at h
    have e' : FP.Core.fieldE FP.Core.b32 v.toNat = FP.Core.b32.exps - 1 := e
    rw [if_pos e'] at h
    split at h <;> cases h
  rw [UInt32.le_iff_toNat_le, UInt32.toNat_and]
  have e1 : (0x7fffffff : UInt32).toNat = 2 ^ 31 - 1 := rfl
  have e2 : (0x7f800000 : UInt32).toNat = 2139095040 := rfl
  rw [e1, e2, Nat.and_two_pow_sub_one_eq_mod]
  omega
theorem v0 : FP.Core.val32 FP.fconst0 = .fin false 0 (-149) := by decide +kernel
theorem v1 : FP.Core.val32 FP.fconst1 = .fin false 8388608 (-23) := by decide +kernel
theorem v2 : FP.Core.val32 FP.fconst2 = .fin false 8388608 (-22) := by decide +kernel
theorem v23 : FP.Core.val32 (1258291200 : UInt32) = .fin false 8388608 0 := by decide +kernel
theorem fcmp_val (x y : UInt32) : FP.fcmp x y = FP.Core.order (FP.Core.val32 x) (FP.Core.val32 y) := rfl
theorem cmp_lt {a b : Int} (h : a < b) : compare a b = .lt := by
  show compareOfLessAndEq a b = _
  unfold compareOfLessAndEq
  rw [if_pos h]
theorem cmp_eq {a b : Int} (h : a = b) : compare a b = .eq := by
  show compareOfLessAndEq a b = _
  unfold compareOfLessAndEq
  rw [if_neg (by omega), if_pos h]
theorem cmp_gt {a b : Int} (h : b < a) : compare a b = .gt := by
  show compareOfLessAndEq a b = _
  unfold compareOfLessAndEq
  rw [if_neg (by omega), if_neg (by omega)]
/-- half of a float below 1 -/
theorem cmp1_lt {y : UInt32} {c : Nat} {q : Int} (h : FP.Core.val32 y = .fin false c q) (hc : c < 2 ^ 24) (hq : q < -23) : FP.fcmp y FP.fconst1 = some .lt := by
  rw [fcmp_val, h, v1]
  show some (compare (FP.Core.signed false (FP.Core.inUnits c q (min q (-23)))) (FP.Core.signed false (FP.Core.inUnits 8388608 (-23) (min q (-23))))) = _
  rw [show min q (-23) = q by omega]
  unfold FP.Core.signed FP.Core.inUnits
  rw [if_neg (by decide), if_neg (by decide)]
  refine congrArg some (cmp_lt ?_)
  obtain ⟨d, hd⟩ : ∃ d : Nat, (-23 - q).toNat = d + 1 := ⟨(-23 - q).toNat - 1, by omega⟩
  rw [hd, Int.sub_self, Int.toNat_zero, Nat.pow_zero, Nat.mul_one, Nat.pow_succ]
  have := Nat.two_pow_pos d
  omega
theorem cmp1_ge {y : UInt32} {c : Nat} (h : FP.Core.val32 y = .fin false c (-23)) (hc : 2 ^ 23 ≤ c) : 0 ≤ (Op.cmpValue (FP.fcmp y FP.fconst1) .g) := by
  rw [fcmp_val, h, v1]
  show 0 ≤ Op.cmpValue (some (compare (FP.Core.signed false (FP.Core.inUnits c (-23) (min (-23) (-23)))) (FP.Core.signed false (FP.Core.inUnits 8388608 (-23) (min (-23) (-23)))))) .g
  rw [show min (-23 : Int) (-23) = -23 by decide]
  unfold FP.Core.signed FP.Core.inUnits
  rw [if_neg (by decide), if_neg (by decide), Int.sub_self, Int.toNat_zero, Nat.pow_zero, Nat.mul_one, Nat.mul_one]
  by_cases e : c = 8388608
  · rw [cmp_eq (by omega)]; decide
  · rw [cmp_gt (by omega)]; decide
theorem dbl {y : UInt32} {c : Nat} {q : Int} (h : FP.Core.val32 y = .fin false c q) (h1 : 2 ^ 23 ≤ c) (h2 : c < 2 ^ 24) (h3 : -149 ≤ q) (h4 : q < -23) : FP.Core.val32 (FP.fmul y FP.fconst2) = .fin false c (q + 1) := by
  show FP.Core.val32 (FP.Core.fmul y FP.fconst2) = _
  rw [FP.Core.val32_fmul, h, v2]
  show FP.Core.roundRatio FP.Core.b32 false (c * 8388608) 1 (q + -22) = _
  refine FP.Core.roundRatio_exact FP.Core.good_b32 (by decide) (fitsN h1 h2 (by omega) (by omega)) ?_
  rw [show (q + -22 - (q + 1)).toNat = 0 by omega, show (q + 1 - (q + -22)).toNat = 23 by omega]
  rw [Nat.pow_zero, Nat.mul_one, Nat.mul_one]
/-- what is left of 1.m behind 1 is taken away, in units -/
theorem tail_ev {y : UInt32} {c : Nat} (h : FP.Core.val32 y = .fin false c (-23)) (h1 : 2 ^ 23 ≤ c) (h2 : c < 2 ^ 24) : ∃ (c1 c2 : Nat) (q1 q2 : Int), FP.Core.val32 (FP.fsub y FP.fconst1) = .fin false c1 q1 ∧ FP.Core.val32 (FP.fmul (FP.fsub y FP.fconst1) (1258291200 : UInt32)) = .fin false c2 q2 ∧ FP.f2i (FP.fmul (FP.fsub y FP.fconst1) (1258291200 : UInt32)) = nI (c - 2 ^ 23) := by
  have e1 : FP.Core.val32 (FP.fsub y FP.fconst1) = FP.Core.roundRatio FP.Core.b32 false (c - 2 ^ 23) 1 (-23) := by
    show FP.Core.val32 (FP.Core.fsub y FP.fconst1) = _
    rw [FP.Core.val32_fsub, h, v1]
    have es : FP.Core.sumUnits false c (-23) true 8388608 (-23) (min (-23) (-23)) = ((c - 2 ^ 23 : Nat) : Int) := by
      rw [show min (-23 : Int) (-23) = -23 by decide]
      unfold FP.Core.sumUnits FP.Core.signed FP.Core.inUnits
      rw [if_neg (by decide), if_pos rfl, Int.sub_self, Int.toNat_zero, Nat.pow_zero, Nat.mul_one, Nat.mul_one]
      omega
    show FP.Core.round FP.Core.b32 (.fin (FP.Core.sumSign false true (FP.Core.sumUnits false c (-23) true 8388608 (-23) (min (-23) (-23)))) (FP.Core.sumUnits false c (-23) true 8388608 (-23) (min (-23) (-23))).natAbs (min (-23) (-23))) = _
    rw [es]
    have e2 : FP.Core.sumSign false true ((c - 2 ^ 23 : Nat) : Int) = false := by
      unfold FP.Core.sumSign
      split
      · rfl
      · exact decide_eq_false (by omega)
    rw [e2]
    rfl
  have e2 : ∀ (c1 : Nat) (q1 : Int), FP.Core.val32 (FP.fsub y FP.fconst1) = .fin false c1 q1 → FP.Core.val32 (FP.fmul (FP.fsub y FP.fconst1) (1258291200 : UInt32)) = FP.Core.roundRatio FP.Core.b32 false (c1 * 8388608) 1 (q1 + 0) := by
    intro c1 q1 hv
    show FP.Core.val32 (FP.Core.fmul (FP.fsub y FP.fconst1) (1258291200 : UInt32)) = _
    rw [FP.Core.val32_fmul, hv, v23]
    rfl
  have e3 : ∀ (c2 : Nat) (q2 : Int), FP.Core.val32 (FP.fmul (FP.fsub y FP.fconst1) (1258291200 : UInt32)) = .fin false c2 q2 → FP.f2i (FP.fmul (FP.fsub y FP.fconst1) (1258291200 : UInt32)) = Int32.ofInt (max (-2 ^ 31) (min (2 ^ 31 - 1) (FP.Core.truncate false c2 q2))) := by
    intro c2 q2 hv
    show FP.Core.toI (FP.Core.val32 (FP.fmul (FP.fsub y FP.fconst1) (1258291200 : UInt32))) = _
    rw [hv]
    rfl
  have fin : ∀ m : Nat, m < 2 ^ 23 → Int32.ofInt (max (-2 ^ 31) (min (2 ^ 31 - 1) (m : Int))) = nI m := by
    intro m hm
    rw [show max (-2 ^ 31) (min (2 ^ 31 - 1) (m : Int)) = (m : Int) by omega]
    exact Int32.ofInt_eq_ofNat
  by_cases hm : c - 2 ^ 23 = 0
  · rw [hm] at e1 ⊢
    have r1 : FP.Core.val32 (FP.fsub y FP.fconst1) = .fin false 0 FP.Core.b32.qmin := by rw [e1]; rfl
    have r2 : FP.Core.val32 (FP.fmul (FP.fsub y FP.fconst1) (1258291200 : UInt32)) = .fin false 0 FP.Core.b32.qmin := by rw [e2 _ _ r1, Nat.zero_mul]; rfl
    refine ⟨0, 0, _, _, r1, r2, ?_⟩
    rw [e3 _ _ r2]
    have : FP.Core.truncate false 0 FP.Core.b32.qmin = ((0 : Nat) : Int) := by
      unfold FP.Core.truncate FP.Core.signed
      rw [if_neg (by decide), Nat.zero_mul, Nat.zero_div]
    rw [this]
    exact fin 0 (by decide)
  · obtain ⟨k, k1, k2, k3⟩ := normal (m := c - 2 ^ 23) (by omega) (by omega)
    have r1 : FP.Core.val32 (FP.fsub y FP.fconst1) = .fin false ((c - 2 ^ 23) * 2 ^ k) (-23 - k) := by
      rw [e1]
      refine FP.Core.roundRatio_exact FP.Core.good_b32 (by decide) (fitsN k2 k3 (by omega) (by omega)) ?_
      rw [show (-23 - (-23 - (k : Int))).toNat = k by omega, show (-23 - (k : Int) - -23).toNat = 0 by omega, Nat.pow_zero, Nat.mul_one, Nat.mul_one]
    have r2 : FP.Core.val32 (FP.fmul (FP.fsub y FP.fconst1) (1258291200 : UInt32)) = .fin false ((c - 2 ^ 23) * 2 ^ k) (-k) := by
      rw [e2 _ _ r1]
      refine FP.Core.roundRatio_exact FP.Core.good_b32 (by decide) (fitsN k2 k3 (by omega) (by omega)) ?_
      rw [show (-23 - (k : Int) + 0 - (-(k : Int))).toNat = 0 by omega, show (-(k : Int) - (-23 - (k : Int) + 0)).toNat = 23 by omega, Nat.pow_zero, Nat.mul_one, Nat.mul_one]
    refine ⟨_, _, _, _, r1, r2, ?_⟩
    rw [e3 _ _ r2]
    have : FP.Core.truncate false ((c - 2 ^ 23) * 2 ^ k) (-k) = ((c - 2 ^ 23 : Nat) : Int) := by
      unfold FP.Core.truncate FP.Core.signed
      rw [if_neg (by decide), show (-(k : Int)).toNat = 0 by omega, show (- -(k : Int)).toNat = k by omega, Nat.pow_zero, Nat.mul_one, Nat.mul_div_cancel _ (Nat.two_pow_pos k)]
    rw [this]
    exact fin _ (by omega)
theorem glue {E m : Nat} (hE : E < 128) (hm : m < 2 ^ 23) : (nI E <<< ((23 : Int32) &&& 31)) ||| nI m = nI (E * 2 ^ 23 + m) := by
  have key : ∀ E : Fin 128, (nI E.val <<< ((23 : Int32) &&& 31)) = nI (2 ^ 23 * E.val) := by decide +kernel
  rw [key ⟨E, hE⟩, nI_or, ← Nat.two_pow_add_eq_or_of_lt hm, Nat.mul_comm]
theorem bits_loop {c : Nat} (h1 : 2 ^ 23 ≤ c) (h2 : c < 2 ^ 24) {E : Nat} (hE1 : 1 ≤ E) (hE : E < 128) : ∀ (d fuel : Nat) (y : UInt32) (q : Int), FP.Core.val32 y = .fin false c q → q + d = -23 → -149 ≤ q → d < fuel → f_X6_bitsOf_13 fuel y (nI (E + d)) = some (nI (E * 2 ^ 23 + (c - 2 ^ 23))) := by
  intro d
  induction d with
  | zero =>
    intro fuel y q hy hq hq1 hf
    obtain ⟨n, rfl⟩ : ∃ n, fuel = n + 1 := ⟨fuel - 1, by omega⟩
    have hq : q = -23 := by omega
    subst hq
    obtain ⟨c1, c2, q1, q2, t1, t2, t3⟩ := tail_ev hy h1 h2
    show f_X6_bitsOf_13_b (f_X6_bitsOf_13 n) y (nI E) = _
    unfold f_X6_bitsOf_13_b f_X6_bitsOf_34
    rw [if_pos (cmp1_ge hy h1), zfl_fin t1, zfl_fin t2, t3, glue hE (by omega)]
  | succ d ih =>
    intro fuel y q hy hq hq1 hf
    obtain ⟨n, rfl⟩ : ∃ n, fuel = n + 1 := ⟨fuel - 1, by omega⟩
    have hd := dbl hy h1 h2 hq1 (by omega)
    show f_X6_bitsOf_13_b (f_X6_bitsOf_13 n) y (nI (E + d + 1)) = _
    unfold f_X6_bitsOf_13_b
    rw [cmp1_lt hy h2 (by omega), if_neg (show ¬ 0 ≤ Op.cmpValue (some Ordering.lt) .g from by decide), if_neg (fun h => by have := (nI_leI (a := E + d + 1) (b := 1) (by omega) (by decide)).mp h; omega), zfl_fin hd, pk_m1]
    exact ih n _ (q + 1) hd (by omega) (by omega) (by omega)
theorem bitsOf_ev {x : UInt32} {c : Nat} {q : Int} (h : FP.Core.val32 x = .fin false c q) (h1 : 2 ^ 23 ≤ c) (h2 : c < 2 ^ 24) (h3 : -149 ≤ q) (h4 : q ≤ -23) : f_X6_bitsOf x = some (nI ((q + 150).toNat * 2 ^ 23 + (c - 2 ^ 23))) := by
  have e0 : FP.fcmp x FP.fconst0 = some .gt := by
    rw [fcmp_val, h, v0]
    show some (compare (FP.Core.signed false (FP.Core.inUnits c q (min q (-149)))) (FP.Core.signed false (FP.Core.inUnits 0 (-149) (min q (-149))))) = _
    unfold FP.Core.signed FP.Core.inUnits
    rw [if_neg (by decide), if_neg (by decide), Nat.zero_mul]
    refine congrArg some (cmp_gt ?_)
    have := Nat.mul_pos (show 0 < c by omega) (Nat.two_pow_pos (q - min q (-149)).toNat)
    omega
  unfold f_X6_bitsOf
  rw [e0, if_pos (show 0 < Op.cmpValue (some Ordering.gt) .l from by decide)]
  have := bits_loop h1 h2 (E := (q + 150).toNat) (by omega) (by omega) (-23 - q).toNat zfuel x q h (by omega) h3 (by unfold zfuel; omega)
  rw [show (q + 150).toNat + (-23 - q).toNat = 127 by omega] at this
  exact this
theorem f2ib_ev {x : UInt32} {c : Nat} {q : Int} (h : FP.Core.val32 x = .fin false c q) (h1 : 2 ^ 23 ≤ c) (h2 : c < 2 ^ 24) (h3 : -149 ≤ q) : f_Jxf58ca_floatToIntBits_5c35a x = some (nI ((q + 150).toNat * 2 ^ 23 + (c - 2 ^ 23))) := by
  have e0 : FP.fcmp x x = some .eq := by
    rw [fcmp_val, h]
    show some (compare _ _) = _
    exact congrArg some (cmp_eq rfl)
  unfold f_Jxf58ca_floatToIntBits_5c35a f_Jxf58ca_isNaN_12338
  rw [e0, if_pos (show Op.cmpValue (some Ordering.eq) .l = 0 from by decide), zbind_some, if_pos rfl]
  have hx : x = FP.Core.of32 (.fin false c q) := by
    rw [← h]
    exact (FP.Core.of32_val32 (by rw [h]; intro e; cases e)).symm
  have he : FP.Core.encode FP.Core.b32 (.fin false c q) = (q + 150).toNat * 2 ^ 23 + (c - 2 ^ 23) := by
    unfold FP.Core.encode
    have hn : ¬ c < FP.Core.b32.tails := by
      have : FP.Core.b32.tails = 2 ^ 23 := by decide
      omega
    rw [if_neg hn, q_min]
    show (false.toNat * 256 + ((q - -149).toNat + 1)) * 2 ^ 23 + (c - 2 ^ 23) = _
    rw [show (q - -149).toNat + 1 = (q + 150).toNat by omega]
    simp
  rw [hx]
  unfold FP.Core.of32
  rw [he]
  rfl
/-- a whole number as a float -/
theorem i2f_ev {n : Nat} (h0 : 0 < n) (h : n < 2 ^ 24) : ∃ k : Nat, k ≤ 23 ∧ FP.Core.val32 (FP.i2f (nI n)) = .fin false (n * 2 ^ k) (-k) := by
  obtain ⟨k, k1, k2, k3⟩ := normal h0 h
  refine ⟨k, k1, ?_⟩
  show FP.Core.val32 (FP.Core.i2f (nI n)) = _
  rw [FP.Core.val32_i2f, nI_toInt (by omega)]
  have e : FP.Core.ofInt (n : Int) = .fin false n 0 := by
    unfold FP.Core.ofInt
    rw [decide_eq_false (by omega), Int.natAbs_natCast]
  rw [e]
  show FP.Core.roundRatio FP.Core.b32 false n 1 0 = _
  refine FP.Core.roundRatio_exact FP.Core.good_b32 (by decide) (fitsN k2 k3 (by omega) (by omega)) ?_
  rw [show (0 - (-(k : Int))).toNat = k by omega, show (-(k : Int) - 0).toNat = 0 by omega, Nat.pow_zero, Nat.mul_one, Nat.mul_one]
theorem i2f_0 : FP.Core.val32 (FP.i2f (nI 0)) = .fin false 0 (-149) := by decide +kernel
theorem fdiv_0 {b : Nat} (hb0 : 0 < b) (hb : b < 2 ^ 24) : FP.Core.val32 (FP.fdiv (FP.i2f (nI 0)) (FP.i2f (nI b))) = .fin false 0 (-149) := by
  obtain ⟨j, j1, j2⟩ := i2f_ev hb0 hb
  show FP.Core.val32 (FP.Core.fdiv (FP.i2f (nI 0)) (FP.i2f (nI b))) = _
  rw [FP.Core.val32_fdiv, i2f_0, j2]
  have hp := Nat.mul_pos hb0 (Nat.two_pow_pos j)
  show (if b * 2 ^ j = 0 then _ else FP.Core.roundRatio FP.Core.b32 (false != false) 0 (b * 2 ^ j) _) = _
  rw [if_neg (by omega)]
  unfold FP.Core.roundRatio
  rw [if_pos rfl, q_min]
  rfl
theorem fdiv_ev {a b : Nat} (ha : 0 < a) (hab : a ≤ b) (hb : b < 2 ^ 13) : ∃ (c : Nat) (q : Int), FP.Core.val32 (FP.fdiv (FP.i2f (nI a)) (FP.i2f (nI b))) = .fin false c q ∧ 2 ^ 23 ≤ c ∧ c < 2 ^ 24 ∧ -149 ≤ q ∧ q ≤ -23 := by
  have hb0 : 0 < b := by omega
  obtain ⟨k, k1, k2⟩ := i2f_ev ha (show a < 2 ^ 24 by omega)
  obtain ⟨j, j1, j2⟩ := i2f_ev hb0 (show b < 2 ^ 24 by omega)
  have hv : FP.Core.val32 (FP.fdiv (FP.i2f (nI a)) (FP.i2f (nI b))) = FP.Core.roundRatio FP.Core.b32 false a b 0 := by
    show FP.Core.val32 (FP.Core.fdiv (FP.i2f (nI a)) (FP.i2f (nI b))) = _
    rw [FP.Core.val32_fdiv, k2, j2]
    have hp := Nat.mul_pos hb0 (Nat.two_pow_pos j)
    show (if b * 2 ^ j = 0 then _ else FP.Core.roundRatio FP.Core.b32 (false != false) (a * 2 ^ k) (b * 2 ^ j) (-(k : Int) - -(j : Int))) = _
    rw [if_neg (by omega)]
    refine FP.Core.roundRatio_congr (f := FP.Core.b32) (s := false) hp hb0 ?_
    rcases Nat.le_total k j with h | h
    · rw [show (-(k : Int) - -(j : Int) - 0).toNat = j - k by omega, show (0 - (-(k : Int) - -(j : Int))).toNat = 0 by omega, Nat.pow_zero, Nat.mul_one]
      have e : 2 ^ j = 2 ^ k * 2 ^ (j - k) := by rw [← Nat.pow_add]; congr 1; omega
      rw [e]
      ac_rfl
    · rw [show (-(k : Int) - -(j : Int) - 0).toNat = 0 by omega, show (0 - (-(k : Int) - -(j : Int))).toNat = k - j by omega, Nat.pow_zero, Nat.mul_one]
      have e : 2 ^ k = 2 ^ j * 2 ^ (k - j) := by rw [← Nat.pow_add]; congr 1; omega
      rw [e]
      ac_rfl
  rw [hv]
  obtain ⟨l1, l2⟩ := FP.Core.leading_spec ha hb0
  have L0 : FP.Core.leading a b ≤ 0 := by
    rcases Int.lt_or_le 0 (FP.Core.leading a b) with h | h
    · exfalso
      apply l1
      unfold FP.Core.Below
      rw [show (-FP.Core.leading a b).toNat = 0 by omega, Nat.pow_zero, Nat.mul_one]
      obtain ⟨d, hd⟩ : ∃ d : Nat, (FP.Core.leading a b).toNat = d + 1 := ⟨(FP.Core.leading a b).toNat - 1, by omega⟩
      rw [hd, Nat.pow_succ]
      have := Nat.mul_le_mul_left b (Nat.two_pow_pos d)
      have e : b * (2 ^ d * 2) = 2 * (b * 2 ^ d) := by ac_rfl
      omega
    · exact h
  have L1 : -13 ≤ FP.Core.leading a b := by
    rcases Int.lt_or_le (FP.Core.leading a b) (-13) with h | h
    · exfalso
      unfold FP.Core.Below at l2
      rw [show (FP.Core.leading a b + 1).toNat = 0 by omega, Nat.pow_zero, Nat.mul_one] at l2
      have h13 : 2 ^ 13 ≤ 2 ^ (-(FP.Core.leading a b + 1)).toNat := Nat.pow_le_pow_right (by decide) (by omega)
      have := Nat.mul_le_mul ha h13
      omega
    · exact h
  have hQ : FP.Core.quantum FP.Core.b32 a b 0 = FP.Core.leading a b - 23 := by
    unfold FP.Core.quantum
    rw [q_min]
    have : ((FP.Core.b32.p : Nat) : Int) = 24 := rfl
    rw [this]
    omega
  have n1 := FP.Core.nearest_units_le (f := FP.Core.b32) ha hb0 0
  have n2 : 2 ^ 23 ≤ FP.Core.nearest (FP.Core.unitsNum a 0 (FP.Core.quantum FP.Core.b32 a b 0)) (FP.Core.unitsDen b 0 (FP.Core.quantum FP.Core.b32 a b 0)) := by
    refine FP.Core.nearest_ge (FP.Core.unitsDen_pos hb0 ..) ?_
    refine Nat.le_of_not_lt (fun h => ?_)
    rw [FP.Core.units_below, hQ] at h
    apply l1
    rw [show FP.Core.leading a b - 23 - 0 + ((23 : Nat) : Int) = FP.Core.leading a b by omega] at h
    exact h
  have n1' : FP.Core.nearest (FP.Core.unitsNum a 0 (FP.Core.quantum FP.Core.b32 a b 0)) (FP.Core.unitsDen b 0 (FP.Core.quantum FP.Core.b32 a b 0)) ≤ 2 ^ 24 := n1
  unfold FP.Core.roundRatio FP.Core.roundAt
  rw [if_neg (by omega)]
  by_cases hL : FP.Core.leading a b = 0
  · have hab2 : a = b := by
      unfold FP.Core.Below at l1
      rw [hL] at l1
      simp at l1
      omega
    have hM : FP.Core.nearest (FP.Core.unitsNum a 0 (FP.Core.quantum FP.Core.b32 a b 0)) (FP.Core.unitsDen b 0 (FP.Core.quantum FP.Core.b32 a b 0)) = 2 ^ 23 := by
      rw [hQ, hL, hab2]
      unfold FP.Core.unitsNum FP.Core.unitsDen
      rw [show (0 - (0 - 23 : Int)).toNat = 23 by decide, show ((0 : Int) - 23 - 0).toNat = 0 by decide, Nat.pow_zero, Nat.mul_one, Nat.mul_comm]
      exact FP.Core.nearest_exact (2 ^ 23) hb0
    rw [hM, hQ, hL]
    refine ⟨2 ^ 23, -23, ?_, by decide, by decide, by decide, by decide⟩
    unfold FP.Core.settle FP.Core.bound
    rw [if_pos (show 2 ^ 23 < 2 ^ FP.Core.b32.p from by decide), if_pos (by rw [q_max]; decide)]
    rfl
  · generalize FP.Core.nearest (FP.Core.unitsNum a 0 (FP.Core.quantum FP.Core.b32 a b 0)) (FP.Core.unitsDen b 0 (FP.Core.quantum FP.Core.b32 a b 0)) = M at n1' n2 ⊢
    rw [hQ]
    have hp : 2 ^ FP.Core.b32.p = 2 ^ 24 := rfl
    unfold FP.Core.settle FP.Core.bound
    rw [hp]
    by_cases hM : M < 2 ^ 24
    · rw [if_pos hM, if_pos (by rw [q_max]; omega)]
      exact ⟨M, _, rfl, n2, hM, by omega, by omega⟩
    · rw [if_neg hM, if_pos (by rw [q_max]; omega)]
      exact ⟨2 ^ 23, FP.Core.leading a b - 23 + 1, rfl, by decide, by decide, by omega, by omega⟩
theorem sm_le {f f' : zL → Int32} : ∀ ls : List zL, (∀ q ∈ ls, 0 ≤ (f q).toInt ∧ (f q).toInt ≤ (f' q).toInt ∧ (f' q).toInt ≤ 999) → ls.length ≤ 8 → (sm f ls).toInt ≤ (sm f' ls).toInt := by
  intro ls
  induction ls with
  | nil => intro _ _; exact Int.le_refl _
  | cons q r ih =>
    intro h hl
    rw [List.length_cons] at hl
    have hr := fun x hx => h x (List.mem_cons_of_mem q hx)
    obtain ⟨a1, a2, a3⟩ := h q List.mem_cons_self
    have b1 := sm_bd (f := f) r (fun x hx => by have := hr x hx; omega) (by omega)
    have b2 := sm_bd (f := f') r (fun x hx => by have := hr x hx; omega) (by omega)
    have i := ih hr (by omega)
    have e : (sm f (q :: r)).toInt = (f q).toInt + (sm f r).toInt := iadd (by omega) (by omega)
    have e' : (sm f' (q :: r)).toInt = (f' q).toInt + (sm f' r).toInt := iadd (by omega) (by omega)
    rw [e, e']
    omega
theorem nI_toNat {x : Int32} (h : 0 ≤ x.toInt) : x = nI x.toInt.toNat := by
  have := x.toInt_lt
  apply Int32.toInt_inj.mp
  rw [nI_toInt (by omega)]
  omega
theorem pm_share {gB gX gY gN : zG} {h : Nat → Option zG} (hR : zRel gB gX gY h gN) (gM : zG) (gR : zG) : ∃ R R', f_X6_share gM gB gR = some R ∧ f_X7_share gN = some R' ∧ R.1 = R'.1 ∧ zRel gB gX gY h R'.2 := by
  obtain ⟨b, hs, tx, hA⟩ := zRel_abs hR
  have hA0 := hA
  obtain ⟨h1, h2, h3, h4, h5, h6, h7, h8, h9⟩ := hA
  have hn := h1.1
  obtain ⟨gR', r1, r2⟩ := ray_follow h3 h1 gR
  obtain ⟨gN', n1, n2⟩ := coming_s h1 h4
  have hS' : rS (gN' 0) b := by rw [kp_0 n2]; exact h4
  have hz := zAbs_rel (kp_abs hA0 n2)
  have okl := h1.2.2.2.2.1
  have bA := sm_bd (f := fun q => if cm b q then q.2 else 0) b.1 (fun q hq => by
    have := okL_bd (okl q hq)
    split
    · exact this
    · exact ⟨by decide, by decide⟩) hn
  have bB := sm_bd (f := fun q => q.2) b.1 (fun q hq => okL_bd (okl q hq)) hn
  have bAB := sm_le (f := fun q => if cm b q then q.2 else 0) (f' := fun q => q.2) b.1 (fun q hq => by
    have := okL_bd (okl q hq)
    split
    · exact ⟨this.1, Int.le_refl _, this.2⟩
    · exact ⟨by decide, by rw [Int32.toInt_zero]; exact this.1, this.2⟩) hn
  unfold f_X6_share f_X7_share f_X7_share_30
  rw [lightAll_ev h3 h1, zbind_some, r1, zbind_some, lightOn_ev h3 h1 r2, zbind_some, allLines_ev h1 h4, zbind_some, lightAllM_ev h1 h4, zbind_some, n1, zbind_some, lightIn_ev h1 hS', zbind_some]
  generalize sm (fun q => if cm b q then q.2 else 0) b.1 = sA at bA bAB ⊢
  generalize sm (fun q => q.2) b.1 = sB at bB bAB ⊢
  have eA := nI_toNat bA.1
  have eB := nI_toNat bB.1
  by_cases hB0 : sB = 0
  · subst hB0
    have hA0 : sA.toInt.toNat = 0 := by rw [Int32.toInt_zero] at bAB; omega
    rw [hA0] at eA
    rw [if_neg (show ¬ (0 : Int32) < 0 from by decide), if_pos rfl, eA, show (1 : Int32) = nI 1 from rfl, zfl_fin (fdiv_0 (b := 1) (by decide) (by decide)), if_pos rfl]
    exact ⟨_, _, rfl, rfl, rfl, hz⟩
  · have hBp : 0 < sB.toInt := by
      rcases Int.lt_or_le 0 sB.toInt with h | h
      · exact h
      · exact absurd (Int32.toInt_inj.mp (by rw [Int32.toInt_zero]; omega)) hB0
    rw [if_pos (show 0 < sB from by rw [ilt, Int32.toInt_zero]; exact hBp), if_neg hB0, if_neg hB0]
    by_cases hAz : sA.toInt.toNat = 0
    · have fz := fdiv_0 (b := sB.toInt.toNat) (by omega) (by omega)
      have eA0 : sA = nI 0 := by rw [← hAz]; exact eA
      rw [← eA0, ← eB] at fz
      have fx : FP.fdiv (FP.i2f sA) (FP.i2f sB) = FP.fconst0 := FP.Core.val32_inj (by rw [fz]; intro e; cases e) (by rw [fz, v0])
      have e1 : f_X6_bitsOf FP.fconst0 = some 0 := by
        unfold f_X6_bitsOf
        rw [if_neg (show ¬ 0 < Op.cmpValue (FP.fcmp FP.fconst0 FP.fconst0) .l from by decide +kernel)]
      have e2 : f_Jxf58ca_floatToIntBits_5c35a FP.fconst0 = some 0 := by
        unfold f_Jxf58ca_floatToIntBits_5c35a f_Jxf58ca_isNaN_12338
        rw [if_pos (show Op.cmpValue (FP.fcmp FP.fconst0 FP.fconst0) .l = 0 from by decide +kernel), zbind_some, if_pos rfl]
        rfl
      rw [zfl_fin fz, zfl_fin fz, fx, e1, zbind_some, e2, zbind_some]
      exact ⟨_, _, rfl, rfl, rfl, hz⟩
    · obtain ⟨c, q, f1, f2, f3, f4, f5⟩ := fdiv_ev (a := sA.toInt.toNat) (b := sB.toInt.toNat) (by omega) (by omega) (by omega)
      rw [← eA, ← eB] at f1
      rw [zfl_fin f1, zfl_fin f1, bitsOf_ev f1 f2 f3 f4 f5, zbind_some, f2ib_ev f1 f2 f3 f4, zbind_some]
      exact ⟨_, _, rfl, rfl, rfl, hz⟩
/-! ===== orders as texts ===== -/
def ch (tx : List Int32) (p : Nat) : Int32 := tx.getD p 0
theorem gup_at (g : zG) (k i : Nat) (v : Int32) : gup g k i v k i = v := by simp [gup, upd]
theorem ch_in {tx : List Int32} {p : Nat} (h : p < tx.length) : tx[p]? = some (ch tx p) := getD_some h
theorem ch_out {tx : List Int32} {p : Nat} (h : tx.length ≤ p) : ch tx p = 0 := by
  unfold ch
  rw [List.getD_eq_getElem?_getD, List.getElem?_eq_none h]
  rfl
theorem ch_lt {tx : List Int32} {p : Nat} (h : ¬ ch tx p = 0) : p < tx.length := by
  rcases Nat.lt_or_ge p tx.length with q | q
  · exact q
  · exact absurd (ch_out q) h
def kx (g g' : zG) : Prop := g' 0 = g 0 ∧ g' 1 = g 1
theorem kx_rf (g : zG) : kx g g := ⟨rfl, rfl⟩
theorem kx_tr {a b c : zG} (h1 : kx a b) (h2 : kx b c) : kx a c := ⟨h2.1.trans h1.1, h2.2.trans h1.2⟩
theorem kx_tx {g g' : zG} {tx : List Int32} (h : kx g g') (ht : txC g tx) : txC g' tx := by
  obtain ⟨h1, h2, h3⟩ := ht
  exact ⟨h1, by rw [h.2]; exact h2, fun i x hx => by rw [h.1]; exact h3 i x hx⟩
theorem signAt_ev {g : zG} {tx : List Int32} (ht : txC g tx) {p : Nat} (hp : p < 2 ^ 31) : f_X5_signAt g (nI p) = some (ch tx p) := by
  obtain ⟨h1, h2, h3⟩ := ht
  unfold f_X5_signAt
  rw [if_neg (nI_pos hp), h2]
  by_cases h : p < tx.length
  · obtain ⟨a1, a2, a3⟩ := h3 p _ (ch_in h)
    rw [if_neg (c := nI tx.length ≤ nI p) (fun q => by have := (nI_leI (by omega) hp).mp q; omega), if_neg (c := (60 : Int32) ≤ nI p) (fun q => by have := (nI_leI (a := 60) (by decide) hp).mp q; omega), zin_nI (by omega) (by decide), nI_clamp hp, a1]
    exact if_pos ⟨Int32.le_trans (by decide) a2, Int32.lt_of_le_of_lt a3 (by decide)⟩
  · rw [if_pos (c := nI tx.length ≤ nI p) ((nI_leI (by omega) hp).mpr (by omega)), ch_out (by omega)]
theorem isAt_ev {g : zG} {tx : List Int32} (h60 : tx.length ≤ 60) (ht : txM g tx) {p : Nat} (hp : p < 2 ^ 31) (hg : g 14 0 = nI p) {lo hi : Int32} (hlo : ¬ lo ≤ 0) : f_X7_isAt g lo hi = some (if lo ≤ ch tx p ∧ ch tx p ≤ hi then 1 else 0) := by
  obtain ⟨h2, h3⟩ := ht
  unfold f_X7_isAt
  rw [hg, h2]
  by_cases h : p < tx.length
  · rw [if_neg (c := nI tx.length ≤ nI p) (fun q => by have := (nI_leI (by omega) hp).mp q; omega), zin_nI (by omega) (by decide), nI_clamp hp, h3 p _ (ch_in h), in_ev, zbind_some, ite_1]
    split <;> rfl
  · rw [if_pos (c := nI tx.length ≤ nI p) ((nI_leI (by omega) hp).mpr (by omega)), ch_out (by omega), if_neg (c := lo ≤ 0 ∧ 0 ≤ hi) (fun q => hlo q.1)]
/-- the digits from a position on -/
def pn (tx : List Int32) : Nat → Nat → Int32 → Int32 × Nat
  | 0, p, v => (v, p)
  | n + 1, p, v => if 48 ≤ ch tx p ∧ ch tx p ≤ 57 then pn tx n (p + 1) (v * 10 + ch tx p - 48) else (v, p)
theorem dig_ne {c : Int32} (h : 48 ≤ c ∧ c ≤ 57) : ¬ c = 0 := fun e => by rw [e] at h; exact absurd h.1 (by decide)
theorem pn_pos (tx : List Int32) : ∀ (n p : Nat) (v : Int32), p ≤ (pn tx n p v).2 ∧ (p ≤ tx.length → (pn tx n p v).2 ≤ tx.length) := by
  intro n
  induction n with
  | zero => intro p v; exact ⟨Nat.le_refl _, fun h => h⟩
  | succ n ih =>
    intro p v
    unfold pn
    by_cases h : 48 ≤ ch tx p ∧ ch tx p ≤ 57
    · rw [if_pos h]
      have hl := ch_lt (dig_ne h)
      obtain ⟨i1, i2⟩ := ih (p + 1) (v * 10 + ch tx p - 48)
      exact ⟨by omega, fun _ => i2 (by omega)⟩
    · rw [if_neg h]
      exact ⟨Nat.le_refl _, fun h => h⟩
theorem num_c {tx : List Int32} {x : Nat} (hx : x < 3) : ∀ (n d p fuel : Nat) (v : Int32) (g : zG), txC g tx → g 4 0 = nI p → p ≤ tx.length → d + n = 4 → n < fuel → ∃ g', f_X5_readNumber_15 fuel (nI x) (nI d) v g = some (if d + ((pn tx n p v).2 - p) = 0 then 0 else 1, g') ∧ kx g g' ∧ g' 2 = g 2 ∧ g' 4 0 = nI (pn tx n p v).2 ∧ g' 3 x = (pn tx n p v).1 ∧ (∀ j, j ≠ x → g' 3 j = g 3 j) := by
  have fin : ∀ (d p : Nat) (v : Int32) (g : zG), d ≤ 4 → g 4 0 = nI p → ∃ g', f_X5_readNumber_71 (nI x) (nI d) v g = some (if d = 0 then 0 else 1, g') ∧ kx g g' ∧ g' 2 = g 2 ∧ g' 4 0 = nI p ∧ g' 3 x = v ∧ (∀ j, j ≠ x → g' 3 j = g 3 j) := by
    intro d p v g hd hg
    refine ⟨gup g 3 x v, ?_, ⟨gup_ne _ _ _ (by decide), gup_ne _ _ _ (by decide)⟩, gup_ne _ _ _ (by decide), ?_, gup_at _ _ _ _, ?_⟩
    · unfold f_X5_readNumber_71
      rw [zin_nI hx (by decide), zlet_eq, nI_clamp (by omega)]
      by_cases h : d = 0
      · rw [if_pos h, if_pos (by rw [h]; exact Int32.le_refl _)]
      · rw [if_neg h, if_neg (nI_nle (by omega) (by omega))]
    · rw [gup_ne _ _ _ (by decide)]; exact hg
    · intro j hj
      rw [gup_same]
      unfold upd
      rw [if_neg hj]
  intro n
  induction n with
  | zero =>
    intro d p fuel v g ht hg hp hd hf
    obtain ⟨m, rfl⟩ : ∃ m, fuel = m + 1 := ⟨fuel - 1, by omega⟩
    have hd : d = 4 := by omega
    subst hd
    obtain ⟨g', e1, e2⟩ := fin 4 p v g (by omega) hg
    show ∃ g', f_X5_readNumber_15_b (f_X5_readNumber_15 m) (nI x) (nI 4) v g = some (if 4 + (p - p) = 0 then 0 else 1, g') ∧ kx g g' ∧ g' 2 = g 2 ∧ g' 4 0 = nI p ∧ g' 3 x = v ∧ (∀ j, j ≠ x → g' 3 j = g 3 j)
    unfold f_X5_readNumber_15_b
    rw [if_pos (show (4 : Int32) ≤ nI 4 from by decide), e1]
    refine ⟨g', ?_, e2⟩
    rw [if_neg (by omega), if_neg (by omega)]
  | succ n ih =>
    intro d p fuel v g ht hg hp hd hf
    obtain ⟨m, rfl⟩ : ∃ m, fuel = m + 1 := ⟨fuel - 1, by omega⟩
    have h60 := ht.1
    show ∃ g', f_X5_readNumber_15_b (f_X5_readNumber_15 m) (nI x) (nI d) v g = _ ∧ _
    unfold f_X5_readNumber_15_b
    rw [if_neg (c := (4 : Int32) ≤ nI d) (fun q => by have := (nI_leI (a := 4) (by decide) (by omega)).mp q; omega), hg, signAt_ev ht (by omega), zbind_some, within_ev, zbind_some, ite_1, zbind_some, zlet_eq, nIs, nIs]
    unfold pn
    by_cases h : 48 ≤ ch tx p ∧ ch tx p ≤ 57
    · rw [if_pos h, if_pos h]
      have hl := ch_lt (dig_ne h)
      have kk : kx g (gup g 4 0 (nI (p + 1))) := ⟨gup_ne _ _ _ (by decide), gup_ne _ _ _ (by decide)⟩
      obtain ⟨g', e1, e2, e3, e4, e5, e6⟩ := ih (d + 1) (p + 1) m (v * 10 + ch tx p - 48) (gup g 4 0 (nI (p + 1))) (kx_tx kk ht) (gup_at _ _ _ _) (by omega) (by omega) (by omega)
      have hpos := (pn_pos tx n (p + 1) (v * 10 + ch tx p - 48)).1
      refine ⟨g', ?_, kx_tr kk e2, ?_, e4, e5, ?_⟩
      · rw [e1, if_neg (by omega), if_neg (by omega)]
      · rw [e3, gup_ne _ _ _ (by decide)]
      · intro j hj
        rw [e6 j hj, gup_ne _ _ _ (by decide)]
    · rw [if_neg h, if_neg h]
      obtain ⟨g', e1, e2⟩ := fin d p v g (by omega) hg
      refine ⟨g', ?_, e2⟩
      rw [e1, Nat.sub_self, Nat.add_zero]
theorem readNum_c {tx : List Int32} {x : Nat} (hx : x < 3) {p : Nat} {g : zG} (ht : txC g tx) (hg : g 4 0 = nI p) (hp : p ≤ tx.length) : ∃ g', f_X5_readNumber g (nI x) = some (if (pn tx 4 p 0).2 = p then 0 else 1, g') ∧ kx g g' ∧ g' 2 = g 2 ∧ g' 4 0 = nI (pn tx 4 p 0).2 ∧ g' 3 x = (pn tx 4 p 0).1 ∧ (∀ j, j ≠ x → g' 3 j = g 3 j) := by
  unfold f_X5_readNumber
  rw [if_neg (nI_pos (by omega)), if_pos (c := nI x < (3 : Int32)) ((nI_ltI (b := 3) (by omega) (by decide)).mpr hx)]
  obtain ⟨g', e1, e2⟩ := num_c hx 4 0 p zfuel 0 g ht hg hp (by omega) (by unfold zfuel; omega)
  have e1 : f_X5_readNumber_15 zfuel (nI x) (0 : Int32) (0 : Int32) g = _ := e1
  refine ⟨g', ?_, e2⟩
  rw [e1]
  have hpos := (pn_pos tx 4 p 0).1
  by_cases h : (pn tx 4 p 0).2 = p
  · rw [if_pos (by omega), if_pos h]
  · rw [if_neg (by omega), if_neg h]
/-- the reference's reading leaves all but spot and told -/
def kt (g g' : zG) : Prop := ∀ j, j ≠ 14 → j ≠ 20 → g' j = g j
theorem kt_rf (g : zG) : kt g g := fun _ _ _ => rfl
theorem kt_tr {a b c : zG} (h1 : kt a b) (h2 : kt b c) : kt a c := fun j x y => (h2 j x y).trans (h1 j x y)
theorem kt_tx {g g' : zG} {tx : List Int32} (h : kt g g') (ht : txM g tx) : txM g' tx := by
  obtain ⟨h2, h3⟩ := ht
  exact ⟨by rw [h 7 (by decide) (by decide)]; exact h2, fun i x hx => by rw [h 6 (by decide) (by decide)]; exact h3 i x hx⟩
theorem num_m {tx : List Int32} (h60 : tx.length ≤ 60) {x : Nat} (hx : x < 3) {s : Nat} : ∀ (n d p fuel : Nat) (v : Int32) (g : zG), txM g tx → g 14 0 = nI p → g 20 x = v → p = s + d → p ≤ tx.length → d + n = 4 → n < fuel → ∃ g', f_X7_numbered_12 fuel (nI x) (nI s) g = some (if (pn tx n p v).2 = s then 0 else 1, g') ∧ kt g g' ∧ g' 14 0 = nI (pn tx n p v).2 ∧ g' 20 x = (pn tx n p v).1 ∧ (∀ j, j ≠ x → g' 20 j = g 20 j) := by
  have fin : ∀ (p : Nat) (v : Int32) (g : zG), s ≤ p → p ≤ tx.length → g 14 0 = nI p → g 20 x = v → ∃ g', f_X7_numbered_74 (nI s) g = some (if p = s then 0 else 1, g') ∧ kt g g' ∧ g' 14 0 = nI p ∧ g' 20 x = v ∧ (∀ j, j ≠ x → g' 20 j = g 20 j) := by
    intro p v g hs hp hg h20
    refine ⟨g, ?_, kt_rf g, hg, h20, fun j _ => rfl⟩
    unfold f_X7_numbered_74
    rw [hg]
    by_cases h : p = s
    · rw [if_pos h, if_pos ((nI_leI (by omega) (by omega)).mpr (by omega))]
    · rw [if_neg h, if_neg (fun q => by have := (nI_leI (by omega) (by omega)).mp q; omega)]
  intro n
  induction n with
  | zero =>
    intro d p fuel v g ht hg h20 hps hp hd hf
    obtain ⟨m, rfl⟩ : ∃ m, fuel = m + 1 := ⟨fuel - 1, by omega⟩
    obtain ⟨g', e1, e2⟩ := fin p v g (by omega) hp hg h20
    show ∃ g', f_X7_numbered_12_b (f_X7_numbered_12 m) (nI x) (nI s) g = some (if p = s then 0 else 1, g') ∧ kt g g' ∧ g' 14 0 = nI p ∧ g' 20 x = v ∧ (∀ j, j ≠ x → g' 20 j = g 20 j)
    unfold f_X7_numbered_12_b
    have e4 : nI p - nI s = nI 4 := by
      rw [show p = 4 + s by omega, ← nI_add]
      exact Int32.add_sub_cancel _ _
    rw [isAt_ev h60 ht (by omega) hg (by decide), zbind_some, ite_1, hg, e4, if_pos (show (4 : Int32) ≤ nI 4 from by decide), e1]
    split
    · exact ⟨g', rfl, e2⟩
    · exact ⟨g', rfl, e2⟩
  | succ n ih =>
    intro d p fuel v g ht hg h20 hps hp hd hf
    obtain ⟨m, rfl⟩ : ∃ m, fuel = m + 1 := ⟨fuel - 1, by omega⟩
    have ed : nI p - nI s = nI d := by
      rw [show p = d + s by omega, ← nI_add]
      exact Int32.add_sub_cancel _ _
    show ∃ g', f_X7_numbered_12_b (f_X7_numbered_12 m) (nI x) (nI s) g = _ ∧ _
    unfold f_X7_numbered_12_b pn
    rw [isAt_ev h60 ht (by omega) hg (by decide), zbind_some, ite_1, hg, ed, if_neg (c := (4 : Int32) ≤ nI d) (fun q => by have := (nI_leI (a := 4) (by decide) (by omega)).mp q; omega)]
    by_cases h : 48 ≤ ch tx p ∧ ch tx p ≤ 57
    · have hl := ch_lt (dig_ne h)
      rw [if_pos h, if_pos h, zin_nI hx (by decide), zin_nI (show p < 60 by omega) (by decide), zin_nI hx (by decide), zlet_eq, zlet_eq, nI_clamp (show x < 2 ^ 31 by omega), nI_clamp (show p < 2 ^ 31 by omega), h20, ht.2 p _ (ch_in hl), gup_ne _ _ _ (show (14 : Nat) ≠ 20 by decide), hg, nIs, Int32.mul_comm 10 v]
      have kk : kt g (gup (gup g 20 x (v * 10 + ch tx p - 48)) 14 0 (nI (p + 1))) := fun j a b => by rw [gup_ne _ _ _ a, gup_ne _ _ _ b]
      obtain ⟨g', e1, e2, e3, e4, e5⟩ := ih (d + 1) (p + 1) m (v * 10 + ch tx p - 48) _ (kt_tx kk ht) (gup_at _ _ _ _) (by rw [gup_ne _ _ _ (by decide), gup_at]) (by omega) (by omega) (by omega) (by omega)
      refine ⟨g', e1, kt_tr kk e2, e3, e4, ?_⟩
      intro j hj
      rw [e5 j hj, gup_ne _ _ _ (by decide), gup_same]
      unfold upd
      rw [if_neg hj]
    · rw [if_neg h, if_neg h]
      obtain ⟨g', e1, e2⟩ := fin p v g (by omega) hp hg h20
      exact ⟨g', e1, e2⟩
theorem numbered_ev {tx : List Int32} (h60 : tx.length ≤ 60) {x : Nat} (hx : x < 3) {p : Nat} {g : zG} (ht : txM g tx) (hg : g 14 0 = nI p) (hp : p ≤ tx.length) : ∃ g', f_X7_numbered g (nI x) = some (if (pn tx 4 p 0).2 = p then 0 else 1, g') ∧ kt g g' ∧ g' 14 0 = nI (pn tx 4 p 0).2 ∧ g' 20 x = (pn tx 4 p 0).1 ∧ (∀ j, j ≠ x → g' 20 j = g 20 j) := by
  have kk : kt g (gup g 20 x 0) := fun j a b => gup_ne _ _ _ b
  unfold f_X7_numbered
  rw [zin_nI hx (by decide), zlet_eq, nI_clamp (by omega), hg]
  obtain ⟨g', e1, e2, e3, e4, e5⟩ := num_m h60 hx (s := p) 4 0 p zfuel 0 (gup g 20 x 0) (kt_tx kk ht) (by rw [gup_ne _ _ _ (by decide)]; exact hg) (gup_at _ _ _ _) (by omega) hp (by omega) (by unfold zfuel; omega)
  refine ⟨g', e1, kt_tr kk e2, e3, e4, ?_⟩
  intro j hj
  rw [e5 j hj, gup_same]
  unfold upd
  rw [if_neg hj]
theorem sign_ev {tx : List Int32} (h60 : tx.length ≤ 60) {p : Nat} {g : zG} (ht : txM g tx) (hg : g 14 0 = nI p) (hp : p ≤ tx.length) {c : Int32} (hc : ¬ c ≤ 0) : ∃ g', f_X7_sign g c = some (if ch tx p = c then 1 else 0, g') ∧ kt g g' ∧ g' 14 0 = nI (if ch tx p = c then p + 1 else p) ∧ g' 20 = g 20 := by
  unfold f_X7_sign
  rw [isAt_ev h60 ht (by omega) hg hc, zbind_some, ite_1, zlet_eq, zlet_eq, hg, Int32.add_zero, nIs]
  by_cases h : ch tx p = c
  · rw [if_pos (c := c ≤ ch tx p ∧ ch tx p ≤ c) ⟨by rw [h]; exact Int32.le_refl _, by rw [h]; exact Int32.le_refl _⟩, if_pos (c := c ≤ ch tx p ∧ ch tx p ≤ c) ⟨by rw [h]; exact Int32.le_refl _, by rw [h]; exact Int32.le_refl _⟩, zbl_1, if_pos h, if_pos h]
    exact ⟨_, rfl, fun j a _ => gup_ne _ _ _ a, gup_at _ _ _ _, gup_ne _ _ _ (by decide)⟩
  · have hn : ¬ (c ≤ ch tx p ∧ ch tx p ≤ c) := fun q => h (Int32.le_antisymm q.2 q.1)
    rw [if_neg hn, if_neg hn, zbl_0, if_neg h, if_neg h]
    exact ⟨_, rfl, fun j a _ => gup_ne _ _ _ a, gup_at _ _ _ _, gup_ne _ _ _ (by decide)⟩
theorem readSign_ev {tx : List Int32} {p : Nat} {g : zG} (ht : txC g tx) (hg : g 4 0 = nI p) (hp : p ≤ tx.length) (c : Int32) : ∃ g', f_X5_readSign g c = some (if ch tx p = c then 1 else 0, g') ∧ kx g g' ∧ g' 2 = g 2 ∧ g' 4 0 = nI (if ch tx p = c then p + 1 else p) ∧ g' 3 = g 3 := by
  have h60 := ht.1
  unfold f_X5_readSign
  rw [hg, signAt_ev ht (by omega), zbind_some, zlet_eq, nIs]
  by_cases h : ch tx p = c
  · rw [if_pos h, if_pos h, if_pos h]
    exact ⟨_, rfl, ⟨gup_ne _ _ _ (by decide), gup_ne _ _ _ (by decide)⟩, gup_ne _ _ _ (by decide), gup_at _ _ _ _, gup_ne _ _ _ (by decide)⟩
  · rw [if_neg h, if_neg h, if_neg h]
    exact ⟨g, rfl, kx_rf g, rfl, hg, rfl⟩
/-- so many numbers, each but the last one followed by ',', the last one by ';' -/
def pr (tx : List Int32) : Nat → Nat → Option (List Int32) × Nat
  | 0, p => (none, p)
  | n + 1, p => if (pn tx 4 p 0).2 = p then (none, p) else if ch tx (pn tx 4 p 0).2 = (if n = 0 then 59 else 44) then (if n = 0 then (some [(pn tx 4 p 0).1], (pn tx 4 p 0).2 + 1) else ((pr tx n ((pn tx 4 p 0).2 + 1)).1.map ((pn tx 4 p 0).1 :: ·), (pr tx n ((pn tx 4 p 0).2 + 1)).2)) else (none, (pn tx 4 p 0).2)
theorem pr_pos (tx : List Int32) : ∀ (n p : Nat), p ≤ (pr tx n p).2 ∧ (p ≤ tx.length → (pr tx n p).2 ≤ tx.length) := by
  intro n
  induction n with
  | zero => intro p; exact ⟨Nat.le_refl _, fun h => h⟩
  | succ n ih =>
    intro p
    obtain ⟨p1, p2⟩ := pn_pos tx 4 p 0
    unfold pr
    split
    · exact ⟨Nat.le_refl _, fun h => h⟩
    · split
      · rename_i hc
        have hl : (pn tx 4 p 0).2 < tx.length := ch_lt (fun e => by rw [e] at hc; split at hc <;> exact absurd hc (by decide))
        split
        · exact ⟨by show p ≤ (pn tx 4 p 0).2 + 1; omega, fun _ => hl⟩
        · obtain ⟨i1, i2⟩ := ih ((pn tx 4 p 0).2 + 1)
          exact ⟨by show p ≤ (pr tx n ((pn tx 4 p 0).2 + 1)).2; omega, fun _ => i2 (by omega)⟩
      · exact ⟨p1, p2⟩
theorem read_c {tx : List Int32} {due : Nat} (hdue : due ≤ 3) : ∀ (n k p fuel : Nat) (g : zG), txC g tx → g 4 0 = nI p → p ≤ tx.length → k + n = due → 1 ≤ n → n < fuel → ∃ g', f_X5_readOrder_40 fuel (nI due) (nI k) g = some (if (pr tx n p).1.isSome then 1 else 0, g') ∧ kx g g' ∧ g' 2 = g 2 ∧ g' 4 0 = nI (pr tx n p).2 ∧ (∀ j, j < k → g' 3 j = g 3 j) ∧ (∀ vs, (pr tx n p).1 = some vs → ∀ (i : Nat) (v : Int32), vs[i]? = some v → g' 3 (k + i) = v) := by
  intro n
  induction n with
  | zero => intro k p fuel g ht hg hp hk hn hf; omega
  | succ n ih =>
    intro k p fuel g ht hg hp hk hn hf
    obtain ⟨m, rfl⟩ : ∃ m, fuel = m + 1 := ⟨fuel - 1, by omega⟩
    obtain ⟨g1, a1, a2, a3, a4, a5, a6⟩ := readNum_c (x := k) (by omega) ht hg hp
    obtain ⟨q1, q2⟩ := pn_pos tx 4 p 0
    have ht1 := kx_tx a2 ht
    obtain ⟨g2, s1, s2, s3, s4, s5⟩ := readSign_ev ht1 a4 (q2 hp) (if n = 0 then 59 else 44)
    have key : f_X5_readOrder_73 (f_X5_readOrder_40 m) (nI due) (nI k) (if n = 0 then 59 else 44) g1 = if ch tx (pn tx 4 p 0).2 = (if n = 0 then 59 else 44) then f_X5_readOrder_40 m (nI due) (nI (k + 1)) g2 else some (0, g2) := by
      unfold f_X5_readOrder_73
      rw [s1, zbind_some, ite_1, nIs]
    have hb : f_X5_readOrder_40_b (f_X5_readOrder_40 m) (nI due) (nI k) g = if (pn tx 4 p 0).2 = p then some (0, g1) else if ch tx (pn tx 4 p 0).2 = (if n = 0 then 59 else 44) then f_X5_readOrder_40 m (nI due) (nI (k + 1)) g2 else some (0, g2) := by
      unfold f_X5_readOrder_40_b
      obtain ⟨due', rfl⟩ : ∃ d, due = d + 1 := ⟨due - 1, by omega⟩
      rw [if_neg (c := nI (due' + 1) ≤ nI k) (fun q => by have := (nI_leI (by omega) (by omega)).mp q; omega), if_neg (c := (3 : Int32) ≤ nI k) (fun q => by have := (nI_leI (a := 3) (by decide) (by omega)).mp q; omega), a1, zbind_some, nI_pred]
      by_cases hv : (pn tx 4 p 0).2 = p
      · rw [if_pos hv, if_pos hv, if_pos rfl]
      · rw [if_neg hv, if_neg hv, if_neg ne10, ← key]
        by_cases hn0 : n = 0
        · rw [if_pos (c := nI k = nI due') (congrArg nI (by omega)), if_pos hn0]
        · rw [if_neg (c := nI k = nI due') (fun e => by have := (nI_eq (by omega) (by omega)).mp e; omega), if_neg hn0]
    show ∃ g', f_X5_readOrder_40_b (f_X5_readOrder_40 m) (nI due) (nI k) g = _ ∧ _
    rw [hb]
    unfold pr
    by_cases hv : (pn tx 4 p 0).2 = p
    · rw [if_pos hv, if_pos hv]
      refine ⟨g1, rfl, a2, a3, by rw [a4, hv], fun j hj => a6 j (by omega), fun vs h => by cases h⟩
    · rw [if_neg hv, if_neg hv]
      by_cases hc : ch tx (pn tx 4 p 0).2 = (if n = 0 then 59 else 44)
      · rw [if_pos hc, if_pos hc]
        rw [if_pos hc] at s4
        have hl : (pn tx 4 p 0).2 < tx.length := ch_lt (fun e => by rw [e] at hc; split at hc <;> exact absurd hc (by decide))
        by_cases hn0 : n = 0
        · subst hn0
          rw [if_pos rfl]
          obtain ⟨m2, rfl⟩ : ∃ m2, m = m2 + 1 := ⟨m - 1, by omega⟩
          have he : f_X5_readOrder_40 (m2 + 1) (nI due) (nI (k + 1)) g2 = some (1, g2) := by
            show f_X5_readOrder_40_b (f_X5_readOrder_40 m2) (nI due) (nI (k + 1)) g2 = _
            unfold f_X5_readOrder_40_b
            rw [if_pos (c := nI due ≤ nI (k + 1)) ((nI_leI (by omega) (by omega)).mpr (by omega))]
          rw [he]
          refine ⟨g2, rfl, kx_tr a2 s2, s3.trans a3, s4, ?_, ?_⟩
          · intro j hj
            rw [s5]
            exact a6 j (by omega)
          · intro vs h i v hi
            cases h
            cases i with
            | zero =>
              simp at hi
              rw [s5, Nat.add_zero, a5, hi]
            | succ i => simp at hi
        · rw [if_neg hn0]
          obtain ⟨g3, i1, i2, i3, i4, i5, i6⟩ := ih (k + 1) ((pn tx 4 p 0).2 + 1) m g2 (kx_tx s2 ht1) s4 (by omega) (by omega) (by omega) (by omega)
          refine ⟨g3, ?_, kx_tr a2 (kx_tr s2 i2), i3.trans (s3.trans a3), i4, ?_, ?_⟩
          · rw [i1]
            simp only [Option.isSome_map]
          · intro j hj
            rw [i5 j (by omega), s5]
            exact a6 j (by omega)
          · intro vs h i v hi
            obtain ⟨ws, hw, rfl⟩ := Option.map_eq_some_iff.mp h
            cases i with
            | zero =>
              simp at hi
              rw [Nat.add_zero, i5 k (by omega), s5, a5, hi]
            | succ i =>
              rw [List.getElem?_cons_succ] at hi
              have := i6 ws hw i v hi
              rw [show k + (i + 1) = k + 1 + i by omega]
              exact this
      · rw [if_neg hc, if_neg hc]
        rw [if_neg hc] at s4
        refine ⟨g2, rfl, kx_tr a2 s2, s3.trans a3, s4, ?_, fun vs h => by cases h⟩
        intro j hj
        rw [s5]
        exact a6 j (by omega)
theorem reads_98_0 (g : zG) : f_X7_reads_98 0 g = some (0, g) := by
  unfold f_X7_reads_98
  rw [if_pos rfl]
theorem reads_60_0 (n : Nat) (x y : Int32) (g : zG) : f_X7_reads_60 (n + 1) x 0 y g = some (0, g) := by
  show f_X7_reads_60_b (f_X7_reads_60 n) x 0 y g = _
  unfold f_X7_reads_60_b
  rw [reads_98_0, if_pos rfl]
  split <;> rfl
theorem read_m {tx : List Int32} (h60 : tx.length ≤ 60) {due : Nat} (hdue : due ≤ 3) : ∀ (n k p fuel : Nat) (g : zG), txM g tx → g 14 0 = nI p → p ≤ tx.length → k + n = due → 1 ≤ n → n < fuel → ∃ y g1 g', f_X7_numbered g (nI k) = some (y, g1) ∧ f_X7_reads_60 fuel (nI due) y (nI (k + 1)) g1 = some (if (pr tx n p).1.isSome then 1 else 0, g') ∧ kt g g' ∧ g' 14 0 = nI (pr tx n p).2 ∧ (∀ j, j < k → g' 20 j = g 20 j) ∧ (∀ vs, (pr tx n p).1 = some vs → ∀ (i : Nat) (v : Int32), vs[i]? = some v → g' 20 (k + i) = v) := by
  intro n
  induction n with
  | zero => intro k p fuel g ht hg hp hk hn hf; omega
  | succ n ih =>
    intro k p fuel g ht hg hp hk hn hf
    obtain ⟨m, rfl⟩ : ∃ m, fuel = m + 1 := ⟨fuel - 1, by omega⟩
    obtain ⟨m, rfl⟩ : ∃ m', m = m' + 1 := ⟨m - 1, by omega⟩
    obtain ⟨g1, a1, a2, a4, a5, a6⟩ := numbered_ev h60 (x := k) (by omega) ht hg hp
    obtain ⟨q1, q2⟩ := pn_pos tx 4 p 0
    have ht1 := kt_tx a2 ht
    unfold pr
    by_cases hv : (pn tx 4 p 0).2 = p
    · rw [if_pos hv] at a1
      rw [if_pos hv]
      refine ⟨_, g1, g1, a1, ?_, a2, by rw [a4, hv], fun j hj => a6 j (by omega), fun vs h => by cases h⟩
      rw [reads_60_0]
      rfl
    · rw [if_neg hv] at a1
      rw [if_neg hv]
      by_cases hn0 : n = 0
      · subst hn0
        obtain ⟨g2, s1, s2, s4, s5⟩ := sign_ev h60 ht1 a4 (q2 hp) (c := 59) (by decide)
        have he : f_X7_reads_60 (m + 1 + 1) (nI due) 1 (nI (k + 1)) g1 = some (if ch tx (pn tx 4 p 0).2 = 59 then 1 else 0, g2) := by
          show f_X7_reads_60_b (f_X7_reads_60 (m + 1)) (nI due) 1 (nI (k + 1)) g1 = _
          unfold f_X7_reads_60_b f_X7_reads_98
          rw [if_pos (c := nI due ≤ nI (k + 1)) ((nI_leI (by omega) (by omega)).mpr (by omega)), if_neg ne10, s1, zbind_some, ite_1]
          split <;> rfl
        rw [if_pos (rfl : (0 : Nat) = 0), if_pos (rfl : (0 : Nat) = 0)]
        refine ⟨_, g1, g2, a1, ?_, kt_tr a2 s2, ?_, ?_, ?_⟩
        · rw [he]
          by_cases hc : ch tx (pn tx 4 p 0).2 = 59
          · rw [if_pos hc, if_pos hc]; rfl
          · rw [if_neg hc, if_neg hc]; rfl
        · rw [s4]
          by_cases hc : ch tx (pn tx 4 p 0).2 = 59
          · rw [if_pos hc, if_pos hc]
          · rw [if_neg hc, if_neg hc]
        · intro j hj
          rw [s5]
          exact a6 j (by omega)
        · intro vs h i v hi
          by_cases hc : ch tx (pn tx 4 p 0).2 = 59
          · rw [if_pos hc] at h
            cases h
            cases i with
            | zero =>
              simp at hi
              rw [s5, Nat.add_zero, a5, hi]
            | succ i => simp at hi
          · rw [if_neg hc] at h
            cases h
      · obtain ⟨g2, s1, s2, s4, s5⟩ := sign_ev h60 ht1 a4 (q2 hp) (c := 44) (by decide)
        have hb : ∀ f : Nat, f_X7_reads_60 (f + 1) (nI due) 1 (nI (k + 1)) g1 = if ch tx (pn tx 4 p 0).2 = 44 then (zbind (f_X7_numbered g2 (nI (k + 1))) (fun R13 => if R13.1 = 0 then f_X7_reads_60 f (nI due) 0 (nI (k + 1 + 1)) R13.2 else f_X7_reads_60 f (nI due) 1 (nI (k + 1 + 1)) R13.2)) else f_X7_reads_60 f (nI due) 0 (nI (k + 1 + 1)) g2 := by
          intro f
          show f_X7_reads_60_b (f_X7_reads_60 f) (nI due) 1 (nI (k + 1)) g1 = _
          unfold f_X7_reads_60_b
          rw [if_neg (c := nI due ≤ nI (k + 1)) (fun q => by have := (nI_leI (by omega) (by omega)).mp q; omega), if_neg ne10, s1, zbind_some, ite_1, nIs]
        rw [if_neg hn0, if_neg hn0]
        by_cases hc : ch tx (pn tx 4 p 0).2 = 44
        · rw [if_pos hc]
          rw [if_pos hc] at s4
          have hl : (pn tx 4 p 0).2 < tx.length := ch_lt (fun e => by rw [e] at hc; exact absurd hc (by decide))
          obtain ⟨y, g3, g4, i1, i2, i3, i4, i5, i6⟩ := ih (k + 1) ((pn tx 4 p 0).2 + 1) (m + 1) g2 (kt_tx s2 ht1) s4 (by omega) (by omega) (by omega) (by omega)
          have hy : y = 0 ∨ y = 1 := by
            obtain ⟨g5, b1, -⟩ := numbered_ev h60 (x := k + 1) (by omega) (kt_tx s2 ht1) s4 (show (pn tx 4 p 0).2 + 1 ≤ tx.length by omega)
            rw [b1] at i1
            have := (Prod.mk.inj (Option.some.inj i1)).1
            rw [← this]
            split
            · exact Or.inl rfl
            · exact Or.inr rfl
          refine ⟨_, g1, g4, a1, ?_, kt_tr a2 (kt_tr s2 i3), i4, ?_, ?_⟩
          · rw [hb, if_pos hc, i1, zbind_some]
            rcases hy with rfl | rfl
            · rw [if_pos rfl, i2]
              simp only [Option.isSome_map]
            · rw [if_neg ne10, i2]
              simp only [Option.isSome_map]
          · intro j hj
            rw [i5 j (by omega), s5]
            exact a6 j (by omega)
          · intro vs h i v hi
            obtain ⟨ws, hw, rfl⟩ := Option.map_eq_some_iff.mp h
            cases i with
            | zero =>
              simp at hi
              rw [Nat.add_zero, i5 k (by omega), s5, a5, hi]
            | succ i =>
              rw [List.getElem?_cons_succ] at hi
              have := i6 ws hw i v hi
              rw [show k + (i + 1) = k + 1 + i by omega]
              exact this
        · rw [if_neg hc]
          rw [if_neg hc] at s4
          refine ⟨_, g1, g2, a1, ?_, kt_tr a2 s2, s4, ?_, fun vs h => by cases h⟩
          · rw [hb, if_neg hc, reads_60_0]
            rfl
          · intro j hj
            rw [s5]
            exact a6 j (by omega)
/-! ===== reading an order ===== -/
def dueN (L : Int32) : Nat := if L = 100 then 3 else if L = 108 then 2 else if L = 115 then 2 else if L = 117 then 3 else if L = 120 then 1 else 0
theorem numC_ev (L : Int32) : f_X5_numbersOf L = some (nI (dueN L)) := by
  unfold f_X5_numbersOf dueN
  by_cases h1 : L = 100
  · rw [if_pos h1, if_pos h1]; rfl
  rw [if_neg h1, if_neg h1]
  by_cases h2 : L = 108
  · rw [if_pos h2, if_pos h2]; rfl
  rw [if_neg h2, if_neg h2]
  by_cases h3 : L = 115
  · rw [if_pos h3, if_pos h3]; rfl
  rw [if_neg h3, if_neg h3]
  by_cases h4 : L = 117
  · rw [if_pos h4, if_pos h4]; rfl
  rw [if_neg h4, if_neg h4]
  by_cases h5 : L = 120
  · rw [if_pos h5, if_pos h5]; rfl
  rw [if_neg h5, if_neg h5]
  rfl
theorem numM_ev (L : Int32) : f_X7_numbersOf L = some (nI (dueN L)) := by
  unfold f_X7_numbersOf dueN
  by_cases h1 : L = 100
  · subst h1; decide
  rw [if_neg h1, if_neg h1]
  by_cases h2 : L = 108
  · subst h2; decide
  rw [if_neg h2, if_neg h2]
  by_cases h3 : L = 115
  · subst h3; decide
  rw [if_neg h3, if_neg h3]
  by_cases h4 : L = 117
  · rw [if_pos h4, if_pos h4]; rfl
  rw [if_neg h4, if_neg h4]
  by_cases h5 : L = 120
  · rw [if_pos h5, if_pos h5]; rfl
  rw [if_neg h5, if_neg h5]
  rfl
theorem dueN_le (L : Int32) : dueN L ≤ 3 := by
  unfold dueN
  split
  · omega
  · split
    · omega
    · split
      · omega
      · split
        · omega
        · split <;> omega
theorem dueN_in {L : Int32} (h : ¬ dueN L = 0) : 33 ≤ L ∧ L ≤ 126 := by
  unfold dueN at h
  by_cases h1 : L = 100
  · subst h1; decide
  rw [if_neg h1] at h
  by_cases h2 : L = 108
  · subst h2; decide
  rw [if_neg h2] at h
  by_cases h3 : L = 115
  · subst h3; decide
  rw [if_neg h3] at h
  by_cases h4 : L = 117
  · subst h4; decide
  rw [if_neg h4] at h
  by_cases h5 : L = 120
  · subst h5; decide
  rw [if_neg h5] at h
  exact absurd rfl h
def prO (tx : List Int32) (p : Nat) : Option (List Int32) × Nat := if dueN (ch tx p) = 0 then (none, p) else pr tx (dueN (ch tx p)) (p + 1)
theorem prO_pos {tx : List Int32} {p : Nat} (hp : p ≤ tx.length) : p ≤ (prO tx p).2 ∧ (prO tx p).2 ≤ tx.length ∧ ((prO tx p).1.isSome → p < (prO tx p).2) := by
  unfold prO
  by_cases h : dueN (ch tx p) = 0
  · rw [if_pos h]
    exact ⟨Nat.le_refl _, hp, fun e => by cases e⟩
  · rw [if_neg h]
    have hl : p < tx.length := ch_lt (fun e => by rw [e] at h; exact h (by decide))
    obtain ⟨h1, h2⟩ := pr_pos tx (dueN (ch tx p)) (p + 1)
    exact ⟨by omega, h2 (by omega), fun _ => by omega⟩
theorem ch_char {tx : List Int32} {g : zG} (ht : txC g tx) (p : Nat) : 0 ≤ ch tx p ∧ ch tx p < 65536 := by
  rcases Nat.lt_or_ge p tx.length with h | h
  · obtain ⟨a1, a2, a3⟩ := ht.2.2 p _ (ch_in h)
    exact ⟨Int32.le_trans (by decide) a2, Int32.lt_of_le_of_lt a3 (by decide)⟩
  · rw [ch_out h]
    decide
theorem order_c {tx : List Int32} {p : Nat} {g : zG} (ht : txC g tx) (hp : p ≤ tx.length) : ∃ g', f_X5_readOrder g (nI p) = some (if (prO tx p).1.isSome then 1 else 0, g') ∧ kx g g' ∧ g' 2 0 = ch tx p ∧ g' 4 0 = nI (prO tx p).2 ∧ (∀ vs, (prO tx p).1 = some vs → ∀ (i : Nat) (v : Int32), vs[i]? = some v → g' 3 i = v) := by
  have h60 := ht.1
  unfold f_X5_readOrder prO
  have k1 : kx g (gup g 4 0 (nI p)) := ⟨gup_ne _ _ _ (by decide), gup_ne _ _ _ (by decide)⟩
  rw [zlet_eq, signAt_ev (kx_tx k1 ht) (by omega), zbind_some]
  have zc : ∀ {β : Type} (k : Option β), zch (ch tx p) k = k := fun k => if_pos (ch_char ht p)
  rw [zc, zlet_eq, gup_at, numC_ev, zbind_some, zlet_eq, gup_ne _ _ _ (show (4 : Nat) ≠ 2 by decide), gup_at, nIs]
  have hd3 := dueN_le (ch tx p)
  by_cases h : dueN (ch tx p) = 0
  · rw [if_pos h, h, if_pos (show nI 0 = 0 from rfl)]
    exact ⟨_, rfl, ⟨by rw [gup_ne _ _ _ (by decide)]; exact k1.1, by rw [gup_ne _ _ _ (by decide)]; exact k1.2⟩, gup_at _ _ _ _, by rw [gup_ne _ _ _ (by decide), gup_at], fun vs h => by cases h⟩
  · have hl : p < tx.length := ch_lt (fun e => by rw [e] at h; exact h (by decide))
    rw [if_neg h, if_neg (c := nI (dueN (ch tx p)) = 0) (nI_ne0 (by omega) (by omega))]
    have k2 : kx g (gup (gup (gup g 4 0 (nI p)) 2 0 (ch tx p)) 4 0 (nI (p + 1))) := ⟨by rw [gup_ne _ _ _ (by decide), gup_ne _ _ _ (by decide)]; exact k1.1, by rw [gup_ne _ _ _ (by decide), gup_ne _ _ _ (by decide)]; exact k1.2⟩
    obtain ⟨g', e1, e2, e3, e4, e5, e6⟩ := read_c hd3 (dueN (ch tx p)) 0 (p + 1) zfuel _ (kx_tx k2 ht) (gup_at _ _ _ _) (by omega) (by omega) (by omega) (by unfold zfuel; omega)
    have e1 : f_X5_readOrder_40 zfuel (nI (dueN (ch tx p))) (0 : Int32) (gup (gup (gup g 4 0 (nI p)) 2 0 (ch tx p)) 4 0 (nI (p + 1))) = _ := e1
    refine ⟨g', e1, kx_tr k2 e2, ?_, e4, ?_⟩
    · rw [e3, gup_ne _ _ _ (by decide), gup_at]
    · intro vs hv i v hi
      have := e6 vs hv i v hi
      rw [Nat.zero_add] at this
      exact this
def ko (g g' : zG) : Prop := ∀ j, j ≠ 14 → j ≠ 19 → j ≠ 20 → g' j = g j
theorem ko_tx {g g' : zG} {tx : List Int32} (h : ko g g') (ht : txM g tx) : txM g' tx := by
  obtain ⟨h2, h3⟩ := ht
  exact ⟨by rw [h 7 (by decide) (by decide) (by decide)]; exact h2, fun i x hx => by rw [h 6 (by decide) (by decide) (by decide)]; exact h3 i x hx⟩
theorem order_m {tx : List Int32} (h60 : tx.length ≤ 60) {p : Nat} {g : zG} (ht : txM g tx) (hg : g 14 0 = nI p) (hp : p ≤ tx.length) : ∃ g', f_X7_reads g = some (if (prO tx p).1.isSome then 1 else 0, g') ∧ ko g g' ∧ g' 14 0 = nI (prO tx p).2 ∧ (∀ vs, (prO tx p).1 = some vs → g' 19 0 = ch tx p ∧ ∀ (i : Nat) (v : Int32), vs[i]? = some v → g' 20 i = v) := by
  have key : ∀ s : Int32, dueN s = dueN (ch tx p) → (¬ dueN (ch tx p) = 0 → s = ch tx p) → ∃ g', f_X7_reads_25 s g = some (if (prO tx p).1.isSome then 1 else 0, g') ∧ ko g g' ∧ g' 14 0 = nI (prO tx p).2 ∧ (∀ vs, (prO tx p).1 = some vs → g' 19 0 = ch tx p ∧ ∀ (i : Nat) (v : Int32), vs[i]? = some v → g' 20 i = v) := by
    intro s hs hs2
    have hd3 := dueN_le (ch tx p)
    unfold f_X7_reads_25 prO
    rw [zlet_eq, gup_at, numM_ev, zbind_some, hs, zlet_eq, gup_ne _ _ _ (show (14 : Nat) ≠ 19 by decide), hg, nIs]
    by_cases h : dueN (ch tx p) = 0
    · rw [if_pos h, h, if_pos (show nI 0 = 0 from rfl)]
      exact ⟨_, rfl, fun j _ b _ => gup_ne _ _ _ b, by rw [gup_ne _ _ _ (by decide)]; exact hg, fun vs h => by cases h⟩
    · have hl : p < tx.length := ch_lt (fun e => by rw [e] at h; exact h (by decide))
      rw [if_neg h, if_neg (c := nI (dueN (ch tx p)) = 0) (nI_ne0 (by omega) (by omega))]
      have k2 : ko g (gup (gup g 19 0 s) 14 0 (nI (p + 1))) := fun j a b _ => by rw [gup_ne _ _ _ a, gup_ne _ _ _ b]
      obtain ⟨y, g1, g', e1, e2, e3, e4, e5, e6⟩ := read_m h60 hd3 (dueN (ch tx p)) 0 (p + 1) zfuel _ (ko_tx k2 ht) (gup_at _ _ _ _) (by omega) (by omega) (by omega) (by unfold zfuel; omega)
      have e1 : f_X7_numbered (gup (gup g 19 0 s) 14 0 (nI (p + 1))) (0 : Int32) = some (y, g1) := e1
      have e2 : f_X7_reads_60 zfuel (nI (dueN (ch tx p))) y (1 : Int32) g1 = _ := e2
      rw [e1, zbind_some, e2]
      refine ⟨g', rfl, ?_, e4, ?_⟩
      · intro j a b c
        rw [e3 j a c]
        exact k2 j a b c
      · intro vs hv
        refine ⟨?_, ?_⟩
        · rw [e3 19 (by decide) (by decide), gup_ne _ _ _ (by decide), gup_at]
          exact hs2 h
        · intro i v hi
          have := e6 vs hv i v hi
          rw [Nat.zero_add] at this
          exact this
  unfold f_X7_reads
  rw [isAt_ev h60 ht (by omega) hg (by decide), zbind_some, ite_1, hg]
  by_cases h : 33 ≤ ch tx p ∧ ch tx p ≤ 126
  · have hl : p < tx.length := ch_lt (fun e => by rw [e] at h; exact absurd h.1 (by decide))
    rw [if_pos h, zin_nI (by omega) (by decide), nI_clamp (by omega), ht.2 p _ (ch_in hl)]
    exact key _ rfl (fun _ => rfl)
  · rw [if_neg h]
    have h0 : dueN (ch tx p) = 0 := Classical.byContradiction (fun q => h (dueN_in q))
    exact key 0 (by rw [h0]; decide) (fun q => absurd h0 q)
/-! ===== doing an order ===== -/
def ordA (L : Int32) (a : Nat → Int32) (b : zB) : Int32 × Option zB := if L = 100 then aPrism (a 0) (a 1) (a 2) (-1) b else if L = 108 then aLine (a 0) (a 1) b else if L = 115 then aSlit (a 0) (-(a 1)) (a 1) b else if L = 117 then aPrism (a 0) (a 1) (a 2) 1 b else aTake (a 0) b
theorem ordA_ok {L : Int32} {a : Nat → Int32} {b b' : zB} (ok : okB b) (h : (ordA L a b).2 = some b') : okB b' := by
  unfold ordA at h
  split at h
  · exact aPrism_ok ok h
  · split at h
    · exact aLine_ok ok h
    · split at h
      · exact aSlit_ok ok h
      · split at h
        · exact aPrism_ok ok h
        · exact aTake_ok ok h
theorem ordA_congr {L : Int32} {a a' : Nat → Int32} {b : zB} (h : ∀ i, i < dueN L → a i = a' i) (h0 : ¬ dueN L = 0) : ordA L a b = ordA L a' b := by
  unfold ordA
  unfold dueN at h h0
  by_cases h1 : L = 100
  · rw [if_pos h1] at h
    rw [if_pos h1, if_pos h1, h 0 (by omega), h 1 (by omega), h 2 (by omega)]
  rw [if_neg h1] at h h0
  rw [if_neg h1, if_neg h1]
  by_cases h2 : L = 108
  · rw [if_pos h2] at h
    rw [if_pos h2, if_pos h2, h 0 (by omega), h 1 (by omega)]
  rw [if_neg h2] at h h0
  rw [if_neg h2, if_neg h2]
  by_cases h3 : L = 115
  · rw [if_pos h3] at h
    rw [if_pos h3, if_pos h3, h 0 (by omega), h 1 (by omega)]
  rw [if_neg h3] at h h0
  rw [if_neg h3, if_neg h3]
  by_cases h4 : L = 117
  · rw [if_pos h4] at h
    rw [if_pos h4, if_pos h4, h 0 (by omega), h 1 (by omega), h 2 (by omega)]
  rw [if_neg h4] at h h0
  rw [if_neg h4, if_neg h4]
  by_cases h5 : L = 120
  · rw [if_pos h5] at h
    rw [h 0 (by omega)]
  rw [if_neg h5] at h0
  exact absurd rfl h0
theorem do_c {gM gT gX : zG} {b : zB} (ok : okB b) (hT : rB gT b) : ∃ g', f_X6_doOrder gM gT gX = some ((ordA (gX 2 0) (gX 3) b).1, g') ∧ (match (ordA (gX 2 0) (gX 3) b).2 with
  | none => (ordA (gX 2 0) (gX 3) b).1 < 0
  | some b' => ¬ (ordA (gX 2 0) (gX 3) b).1 < 0 ∧ rB g' b') := by
  unfold f_X6_doOrder ordA
  rw [z0 (by decide) (by decide), z1 (by decide) (by decide), z2 (by decide) (by decide), tn0, tn1, tn2, zbind_eta, zbind_eta, zbind_eta, zbind_eta, zbind_eta]
  by_cases h1 : gX 2 0 = 100
  · rw [if_pos h1, if_pos h1]
    exact cPrism _ _ _ _ ok gT hT
  rw [if_neg h1, if_neg h1]
  by_cases h2 : gX 2 0 = 108
  · rw [if_pos h2, if_pos h2]
    exact cLine _ _ ok gT hT
  rw [if_neg h2, if_neg h2]
  by_cases h3 : gX 2 0 = 115
  · rw [if_pos h3, if_pos h3]
    exact cSlit _ _ _ ok gT hT
  rw [if_neg h3, if_neg h3]
  by_cases h4 : gX 2 0 = 117
  · rw [if_pos h4, if_pos h4]
    exact cPrism _ _ _ _ ok gT hT
  rw [if_neg h4, if_neg h4]
  exact cTake _ ok gT hT
theorem do_m {g : zG} {b : zB} (ok : okB b) (hS : rS (g 0) b) (hr : ¬ g 5 0 = 0) : (match (ordA (g 19 0) (g 20) b).2 with
  | none => f_X7_calls g = some ((ordA (g 19 0) (g 20) b).1, g)
  | some b' => ∃ g', f_X7_calls g = some ((ordA (g 19 0) (g 20) b).1, g') ∧ (∀ j, j ≠ 0 → g' j = g j) ∧ rS (g' 0) b') := by
  have hc := changes_runs hr
  unfold f_X7_calls ordA
  rw [z0 (by decide) (by decide), z0 (by decide) (by decide), z0 (by decide) (by decide), z0 (by decide) (by decide), z0 (by decide) (by decide), z1 (by decide) (by decide), z1 (by decide) (by decide), z1 (by decide) (by decide), z1 (by decide) (by decide), z1 (by decide) (by decide), z2 (by decide) (by decide), z2 (by decide) (by decide), tn0, tn1, tn2, zbind_eta, zbind_eta, zbind_eta, zbind_eta, zbind_eta]
  by_cases h1 : g 19 0 = 100
  · rw [if_pos h1, if_pos h1]
    exact mPrism _ _ _ _ ok g g hS hc rfl
  rw [if_neg h1, if_neg h1]
  by_cases h2 : g 19 0 = 108
  · rw [if_pos h2, if_pos h2]
    exact mLine _ _ ok g g hS hc rfl
  rw [if_neg h2, if_neg h2]
  by_cases h3 : g 19 0 = 115
  · rw [if_pos h3, if_pos h3]
    exact mSlit _ _ _ ok g g hS hc rfl
  rw [if_neg h3, if_neg h3]
  by_cases h4 : g 19 0 = 117
  · rw [if_pos h4, if_pos h4]
    exact mPrism _ _ _ _ ok g g hS hc rfl
  rw [if_neg h4, if_neg h4]
  exact mTake _ ok g g hS hc rfl
theorem bench_of (b : zB) : ∃ g, rB g b := by
  refine ⟨fun j i => if j = 0 then (b.1.getD i (0, 0)).1 else if j = 1 then (b.1.getD i (0, 0)).2 else if j = 2 then nI b.1.length else if j = 3 then (b.2.1.getD i (0, 0, 0, 0, 0)).1 else if j = 4 then (b.2.1.getD i (0, 0, 0, 0, 0)).2.1 else if j = 5 then (b.2.1.getD i (0, 0, 0, 0, 0)).2.2.1 else if j = 6 then (b.2.1.getD i (0, 0, 0, 0, 0)).2.2.2.1 else if j = 7 then (b.2.1.getD i (0, 0, 0, 0, 0)).2.2.2.2 else if j = 8 then nI b.2.1.length else b.2.2, ?_, ?_, ?_, ?_, ?_⟩
  · simp
  · simp
  · simp
  · intro i t hi
    simp [List.getD_eq_getElem?_getD, hi]
  · intro i t hi
    simp [List.getD_eq_getElem?_getD, hi]
theorem ord_sign {b : zB} (ok : okB b) (L : Int32) (a : Nat → Int32) : (∀ x, ordA L a b = (x, none) → x < 0) ∧ (∀ x b', ordA L a b = (x, some b') → ¬ x < 0) := by
  obtain ⟨gT, hT⟩ := bench_of b
  obtain ⟨g', -, hd⟩ := do_c (gM := gT) (gX := fun j => if j = 2 then (fun _ => L) else a) ok hT
  have hd2 : (match (ordA L a b).2 with
    | none => (ordA L a b).1 < 0
    | some b' => ¬ (ordA L a b).1 < 0 ∧ rB g' b') := hd
  refine ⟨fun x hx => ?_, fun x b' hx => ?_⟩
  · rw [hx] at hd2
    exact hd2
  · rw [hx] at hd2
    exact hd2.1
/-! ===== doing all orders ===== -/
abbrev zRes : Type := Option (Nat × Int32 × Int32) × Nat × zB
def ndx (vs : List Int32) (i : Nat) : Int32 := vs.getD i 0
def plA (tx : List Int32) : Nat → zB → Nat → Nat → zRes
  | 0, b, _, k => (none, k, b)
  | n + 1, b, p, k => if tx.length ≤ p then (none, k, b) else match (prO tx p).1 with
    | none => (some (p, 1, nI (prO tx p).2 - nI p), k, b)
    | some vs => match (ordA (ch tx p) (ndx vs) b).2 with
      | none => (some (p, 2, (ordA (ch tx p) (ndx vs) b).1), k, b)
      | some b' => plA tx n b' (prO tx p).2 (k + 1)
theorem pr_len (tx : List Int32) : ∀ (n p : Nat) (vs : List Int32), (pr tx n p).1 = some vs → vs.length = n := by
  intro n
  induction n with
  | zero => intro p vs h; cases h
  | succ n ih =>
    intro p vs h
    unfold pr at h
    split at h
    · cases h
    · split at h
      · split at h
        · rename_i hn
          cases h
          rw [hn]
          rfl
        · obtain ⟨ws, hw, rfl⟩ := Option.map_eq_some_iff.mp h
          rw [List.length_cons, ih _ _ hw]
      · cases h
theorem prO_due {tx : List Int32} {p : Nat} {vs : List Int32} (h : (prO tx p).1 = some vs) : ¬ dueN (ch tx p) = 0 ∧ vs.length = dueN (ch tx p) := by
  unfold prO at h
  split at h
  · cases h
  · rename_i hd
    exact ⟨hd, pr_len tx _ _ _ h⟩
theorem args_of {tx : List Int32} {p : Nat} {vs : List Int32} {b : zB} (h : (prO tx p).1 = some vs) {a : Nat → Int32} (ha : ∀ (i : Nat) (v : Int32), vs[i]? = some v → a i = v) : ordA (ch tx p) a b = ordA (ch tx p) (ndx vs) b := by
  obtain ⟨h1, h2⟩ := prO_due h
  refine ordA_congr (fun i hi => ?_) h1
  exact ha i _ (getD_some (d := 0) (by omega))
theorem plA_end {tx : List Int32} (n : Nat) (b : zB) {p : Nat} (k : Nat) (hl : tx.length ≤ p) : plA tx (n + 1) b p k = (none, k, b) := by
  show (if tx.length ≤ p then _ else _) = _
  rw [if_pos hl]
theorem plA_none {tx : List Int32} (n : Nat) (b : zB) {p : Nat} (k : Nat) (hl : ¬ tx.length ≤ p) (ho : (prO tx p).1 = none) : plA tx (n + 1) b p k = (some (p, 1, nI (prO tx p).2 - nI p), k, b) := by
  show (if tx.length ≤ p then _ else _) = _
  rw [if_neg hl]
  simp only [ho]
theorem plA_bad {tx : List Int32} (n : Nat) (b : zB) {p : Nat} (k : Nat) (hl : ¬ tx.length ≤ p) {vs : List Int32} (ho : (prO tx p).1 = some vs) {a : Int32} (h : ordA (ch tx p) (ndx vs) b = (a, none)) : plA tx (n + 1) b p k = (some (p, 2, a), k, b) := by
  show (if tx.length ≤ p then _ else _) = _
  rw [if_neg hl]
  simp only [ho, h]
theorem plA_good {tx : List Int32} (n : Nat) (b : zB) {p : Nat} (k : Nat) (hl : ¬ tx.length ≤ p) {vs : List Int32} (ho : (prO tx p).1 = some vs) {a : Int32} {b' : zB} (h : ordA (ch tx p) (ndx vs) b = (a, some b')) : plA tx (n + 1) b p k = plA tx n b' (prO tx p).2 (k + 1) := by
  show (if tx.length ≤ p then _ else _) = _
  rw [if_neg hl]
  simp only [ho, h]
def resC (o : zRes) (gM gT : zG) : Prop := match o.1 with
  | none => gM 8 0 = 0 ∧ gM 10 0 = nI o.2.1 ∧ rB gT o.2.2
  | some f => gM 7 0 = nI f.1 ∧ gM 8 0 = f.2.1 ∧ gM 9 0 = f.2.2
theorem play_c {gB : zG} {tx : List Int32} : ∀ (n : Nat) (b : zB) (p k fuel : Nat) (gM gT gX : zG), okB b → rB gT b → txC gX tx → p ≤ tx.length → tx.length < p + n → k ≤ p → n < fuel → gM 8 0 = 0 → gM 10 0 = nI k → ∃ gM' gT' gX', f_X6_tryText_23 gB fuel (nI p) gM gT gX = some (gM', gT', gX') ∧ resC (plA tx n b p k) gM' gT' ∧ kx gX gX' := by
  intro n
  induction n with
  | zero => intro b p k fuel gM gT gX ok hT ht hp hn hk hf h8 h10; omega
  | succ n ih =>
    intro b p k fuel gM gT gX ok hT ht hp hn hk hf h8 h10
    obtain ⟨m, rfl⟩ : ∃ m, fuel = m + 1 := ⟨fuel - 1, by omega⟩
    have h60 := ht.1
    show ∃ gM' gT' gX', f_X6_tryText_23_b gB (f_X6_tryText_23 gB m) (nI p) gM gT gX = _ ∧ _
    unfold f_X6_tryText_23_b
    rw [h10, ht.2.1]
    by_cases hl : tx.length ≤ p
    · rw [plA_end n b k hl, if_pos (c := nI tx.length ≤ nI p) ((nI_leI (by omega) (by omega)).mpr hl)]
      have : ∃ gM' gT' gX', (some (gM, gT, gX) : Option (zG × zG × zG)) = some (gM', gT', gX') ∧ resC (none, k, b) gM' gT' ∧ kx gX gX' := ⟨gM, gT, gX, rfl, ⟨h8, h10, hT⟩, kx_rf gX⟩
      split
      · exact this
      · exact this
    · rw [if_neg (c := (60 : Int32) ≤ nI k) (fun q => by have := (nI_leI (a := 60) (by decide) (by omega)).mp q; omega), if_neg (c := nI tx.length ≤ nI p) (fun q => hl ((nI_leI (by omega) (by omega)).mp q))]
      obtain ⟨gX', r1, r2, r3, r4, r5⟩ := order_c ht hp
      obtain ⟨p1, p2, p3⟩ := prO_pos hp
      rw [r1, zbind_some]
      dsimp only
      rw [ite_1, r4]
      cases ho : (prO tx p).1 with
      | none =>
        rw [if_neg (by simp), plA_none n b k hl ho]
        unfold f_X6_noteFault
        rw [zlet_eq, zlet_eq, zlet_eq, zbind_some]
        refine ⟨_, _, _, rfl, ⟨?_, ?_, ?_⟩, r2⟩
        · rw [gup_ne _ _ _ (by decide), gup_ne _ _ _ (by decide), gup_at]
        · rw [gup_ne _ _ _ (by decide), gup_at]
        · rw [gup_at]
      | some vs =>
        rw [if_pos (by simp)]
        have p3 := p3 (by rw [ho]; rfl)
        obtain ⟨gT', d1, d2⟩ := do_c (gM := gM) (gX := gX') ok hT
        have ea := args_of (b := b) ho (a := gX' 3) (r5 vs ho)
        rw [r3, ea] at d1 d2
        rcases hr : ordA (ch tx p) (ndx vs) b with ⟨a, _ | b'⟩
        · rw [hr] at d1 d2
          have d2 : a < 0 := d2
          rw [plA_bad n b k hl ho hr, d1, zbind_some]
          dsimp only
          rw [if_neg (c := 0 ≤ a) (inle.mpr d2)]
          unfold f_X6_noteFault
          rw [zlet_eq, zlet_eq, zlet_eq, zbind_some]
          refine ⟨_, _, _, rfl, ⟨?_, ?_, ?_⟩, r2⟩
          · rw [gup_ne _ _ _ (by decide), gup_ne _ _ _ (by decide), gup_at]
          · rw [gup_ne _ _ _ (by decide), gup_at]
          · rw [gup_at]
        · have okr := ordA_ok (L := ch tx p) (a := ndx vs) (b := b) (b' := b') ok (by rw [hr])
          rw [hr] at d1 d2
          have d2 : ¬ a < 0 ∧ rB gT' b' := d2
          rw [plA_good n b k hl ho hr, d1, zbind_some]
          dsimp only
          rw [if_pos (c := 0 ≤ a) (inlt.mp d2.1), zlet_eq, nIs]
          obtain ⟨gM2, gT2, gX2, i1, i2, i3⟩ := ih b' (prO tx p).2 (k + 1) m (gup gM 10 0 (nI (k + 1))) gT' gX' okr d2.2 (kx_tx r2 ht) p2 (by omega) (by omega) (by omega) (by rw [gup_ne _ _ _ (by decide)]; exact h8) (gup_at _ _ _ _)
          exact ⟨gM2, gT2, gX2, i1, i2, kx_tr r2 i3⟩
/-- what plays leaves -/
def ky (g g' : zG) : Prop := ∀ j, j ≠ 0 → j ≠ 5 → j < 14 ∨ 20 < j → g' j = g j
theorem ky_tr {a b c : zG} (h1 : ky a b) (h2 : ky b c) : ky a c := fun j x y z => (h2 j x y z).trans (h1 j x y z)
theorem ky_tx {g g' : zG} {tx : List Int32} (h : ky g g') (ht : txM g tx) : txM g' tx := by
  obtain ⟨h2, h3⟩ := ht
  exact ⟨by rw [h 7 (by decide) (by decide) (by omega)]; exact h2, fun i x hx => by rw [h 6 (by decide) (by decide) (by omega)]; exact h3 i x hx⟩
def resM (o : zRes) (y : Int32) (g : zG) : Prop := match o.1 with
  | none => y = 1 ∧ g 18 0 = nI o.2.1 ∧ rS (g 0) o.2.2
  | some f => y = 0 ∧ g 15 0 = nI f.1 ∧ g 16 0 = f.2.1 ∧ g 17 0 = f.2.2
theorem plays_end (n : Nat) (g : zG) : f_X7_plays_22 (n + 1) 0 g = some (0, gup g 5 0 0) := by
  show f_X7_plays_22_b (f_X7_plays_22 n) 0 g = _
  unfold f_X7_plays_22_b f_X7_plays_124
  rw [zlet_eq, zbl_0, if_pos rfl]
  split <;> rfl
theorem play_m {tx : List Int32} (h60 : tx.length ≤ 60) : ∀ (n : Nat) (b : zB) (p k fuel : Nat) (g : zG), okB b → rS (g 0) b → txM g tx → p ≤ tx.length → tx.length < p + n → n + 1 < fuel → g 14 0 = nI p → g 18 0 = nI k → ¬ g 5 0 = 0 → ∃ y g', f_X7_plays_22 fuel 1 g = some (y, g') ∧ resM (plA tx n b p k) y g' ∧ ky g g' ∧ g' 5 0 = 0 := by
  intro n
  induction n with
  | zero => intro b p k fuel g ok hS ht hp hn hf hg h18 hr; omega
  | succ n ih =>
    intro b p k fuel g ok hS ht hp hn hf hg h18 hr
    obtain ⟨m, rfl⟩ : ∃ m, fuel = m + 1 := ⟨fuel - 1, by omega⟩
    obtain ⟨m, rfl⟩ : ∃ m', m = m' + 1 := ⟨m - 1, by omega⟩
    show ∃ y g', f_X7_plays_22_b (f_X7_plays_22 (m + 1)) 1 g = _ ∧ _
    unfold f_X7_plays_22_b
    rw [hg, ht.1, if_neg ne10]
    by_cases hl : tx.length ≤ p
    · rw [plA_end n b k hl, if_pos (c := nI tx.length ≤ nI p) ((nI_leI (by omega) (by omega)).mpr hl)]
      unfold f_X7_plays_124
      rw [zlet_eq, zbl_1]
      refine ⟨_, _, rfl, ⟨rfl, ?_, ?_⟩, ?_, gup_at _ _ _ _⟩
      · rw [gup_ne _ _ _ (by decide)]; exact h18
      · rw [gup_ne _ _ _ (by decide)]; exact hS
      · intro j _ b _
        exact gup_ne _ _ _ b
    · rw [if_neg (c := nI tx.length ≤ nI p) (fun q => hl ((nI_leI (by omega) (by omega)).mp q)), zlet_eq]
      have k0 : ky g (gup g 15 0 (nI p)) := fun j _ _ c => gup_ne _ _ _ (by omega)
      obtain ⟨g1, r1, r2, r4, r5⟩ := order_m h60 (ky_tx k0 ht) (g := gup g 15 0 (nI p)) (p := p) (by rw [gup_ne _ _ _ (by decide)]; exact hg) hp
      obtain ⟨p1, p2, p3⟩ := prO_pos hp
      have k1 : ky g g1 := fun j a b c => by rw [r2 j (by omega) (by omega) (by omega)]; exact k0 j a b c
      have h15 : g1 15 0 = nI p := by rw [r2 15 (by decide) (by decide) (by decide), gup_at]
      have h18' : g1 18 0 = nI k := by rw [r2 18 (by decide) (by decide) (by decide), gup_ne _ _ _ (by decide)]; exact h18
      have h5' : ¬ g1 5 0 = 0 := by rw [r2 5 (by decide) (by decide) (by decide), gup_ne _ _ _ (by decide)]; exact hr
      have hS1 : rS (g1 0) b := by rw [r2 0 (by decide) (by decide) (by decide), gup_ne _ _ _ (by decide)]; exact hS
      have h6 : ∀ (gg : zG) (j : Nat), j ≠ 16 → j ≠ 17 → j ≠ 18 → ∀ (x y z : Int32), gup (gup (gup gg 16 0 x) 17 0 y) 18 0 z j = gg j := fun gg j a b c x y z => by rw [gup_ne _ _ _ c, gup_ne _ _ _ b, gup_ne _ _ _ a]
      rw [r1, zbind_some]
      dsimp only
      rw [ite_1]
      cases ho : (prO tx p).1 with
      | none =>
        rw [if_neg (by simp), if_neg (by simp), plA_none n b k hl ho]
        unfold f_X7_plays_62 f_X7_plays_75 f_X7_plays_76 f_X7_plays_87 f_X7_plays_108
        rw [if_pos rfl, if_pos rfl, zlet_eq, if_pos rfl, zlet_eq, zlet_eq, plays_end, gup_ne _ _ _ (show (14 : Nat) ≠ 16 by decide), gup_ne _ _ _ (show (15 : Nat) ≠ 16 by decide), r4, h15]
        refine ⟨_, _, rfl, ⟨rfl, ?_, ?_, ?_⟩, ?_, gup_at _ _ _ _⟩
        · rw [gup_ne _ _ _ (by decide), h6 g1 15 (by decide) (by decide) (by decide)]; exact h15
        · rw [gup_ne _ _ _ (by decide), gup_ne _ _ _ (by decide), gup_ne _ _ _ (by decide), gup_at]
        · rw [gup_ne _ _ _ (by decide), gup_ne _ _ _ (by decide), gup_at]
        · intro j a b c
          rw [gup_ne _ _ _ b, h6 g1 j (by omega) (by omega) (by omega)]
          exact k1 j a b c
      | some vs =>
        rw [if_pos (by simp), if_pos (by simp)]
        have p3 := p3 (by rw [ho]; rfl)
        obtain ⟨r6, r7⟩ := r5 vs ho
        have d := do_m ok hS1 h5'
        have ea := args_of (b := b) ho (a := g1 20) r7
        rw [r6, ea] at d
        have sg := ord_sign ok (ch tx p) (ndx vs)
        rcases hr2 : ordA (ch tx p) (ndx vs) b with ⟨a, _ | b'⟩
        · rw [hr2] at d
          have d : f_X7_calls g1 = some (a, g1) := d
          have ha := sg.1 a hr2
          rw [plA_bad n b k hl ho hr2, d, zbind_some]
          dsimp only
          unfold f_X7_plays_62 f_X7_plays_75 f_X7_plays_76 f_X7_plays_87 f_X7_plays_108
          rw [if_neg ne10, if_pos ha, if_neg ne10, zlet_eq, if_neg ne10, zlet_eq, zlet_eq, plays_end]
          refine ⟨_, _, rfl, ⟨rfl, ?_, ?_, ?_⟩, ?_, gup_at _ _ _ _⟩
          · rw [gup_ne _ _ _ (by decide), h6 g1 15 (by decide) (by decide) (by decide)]; exact h15
          · rw [gup_ne _ _ _ (by decide), gup_ne _ _ _ (by decide), gup_ne _ _ _ (by decide), gup_at]
          · rw [gup_ne _ _ _ (by decide), gup_ne _ _ _ (by decide), gup_at]
          · intro j a b c
            rw [gup_ne _ _ _ b, h6 g1 j (by omega) (by omega) (by omega)]
            exact k1 j a b c
        · have okr := ordA_ok (L := ch tx p) (a := ndx vs) (b := b) (b' := b') ok (by rw [hr2])
          rw [hr2] at d
          have ha := sg.2 a b' hr2
          obtain ⟨g2, d1, d2, d3⟩ := d
          have d1 : f_X7_calls g1 = some (a, g2) := d1
          rw [plA_good n b k hl ho hr2, d1, zbind_some]
          dsimp only
          unfold f_X7_plays_62 f_X7_plays_76 f_X7_plays_87 f_X7_plays_108
          rw [if_neg ne10, if_neg ha, if_neg ne10, zlet_eq, if_neg ne10, zlet_eq, zlet_eq]
          have e18 : gup (gup g2 16 0 2) 17 0 a 18 0 + 1 = nI (k + 1) := by
            rw [gup_ne _ _ _ (by decide), gup_ne _ _ _ (by decide), d2 18 (by decide), h18', nIs]
          rw [e18]
          have k2 : ky g (gup (gup (gup g2 16 0 2) 17 0 a) 18 0 (nI (k + 1))) := fun j x y z => by
            rw [h6 g2 j (by omega) (by omega) (by omega), d2 j x]
            exact k1 j x y z
          obtain ⟨y, g3, i1, i2, i3, i4⟩ := ih b' (prO tx p).2 (k + 1) (m + 1) _ okr (by rw [h6 g2 0 (by decide) (by decide) (by decide)]; exact d3) (ky_tx k2 ht) p2 (by omega) (by omega) (by rw [h6 g2 14 (by decide) (by decide) (by decide), d2 14 (by decide)]; exact r4) (gup_at _ _ _ _) (by rw [h6 g2 5 (by decide) (by decide) (by decide), d2 5 (by decide)]; exact h5')
          exact ⟨y, g3, i1, i2, ky_tr k2 i3, i4⟩
theorem try_ev {gB gM gT gX : zG} {b : zB} {tx : List Int32} (hB : rB gB b) (ok : okB b) (ht : txC gX tx) : ∃ gM' gT' gX', f_X6_tryText gM gB gT gX = some (gM', gT', gX') ∧ resC (plA tx 61 b 0 0) gM' gT' ∧ kx gX gX' := by
  obtain ⟨gT1, t1, t2⟩ := copyFrom_ev gT gB hB ok.1 ok.2.1
  have h60 := ht.1
  unfold f_X6_tryText
  rw [t1, zbind_some, zlet_eq, zlet_eq]
  exact play_c 61 b 0 0 zfuel _ gT1 gX ok t2 ht (Nat.zero_le _) (by omega) (Nat.le_refl _) (by unfold zfuel; omega) (by rw [gup_ne _ _ _ (by decide), gup_at]) (gup_at _ _ _ _)
theorem plays_ev {g : zG} {b : zB} {tx : List Int32} (hS : rS (g 0) b) (ok : okB b) (h60 : tx.length ≤ 60) (ht : txM g tx) : ∃ y g', f_X7_plays g = some (y, g') ∧ resM (plA tx 61 b 0 0) y g' ∧ ky g g' ∧ g' 5 0 = 0 := by
  unfold f_X7_plays
  rw [zlet_eq, zlet_eq, zlet_eq, zlet_eq]
  have k0 : ky g (gup (gup (gup (gup g 5 0 1) 14 0 0) 15 0 0) 18 0 0) := fun j _ y z => by
    rw [gup_ne _ _ _ (by omega), gup_ne _ _ _ (by omega), gup_ne _ _ _ (by omega), gup_ne _ _ _ y]
  have e0 : (gup (gup (gup (gup g 5 0 1) 14 0 0) 15 0 0) 18 0 0) 0 = g 0 := by
    rw [gup_ne _ _ _ (by decide), gup_ne _ _ _ (by decide), gup_ne _ _ _ (by decide), gup_ne _ _ _ (by decide)]
  have e5 : (gup (gup (gup (gup g 5 0 1) 14 0 0) 15 0 0) 18 0 0) 5 0 = 1 := by
    rw [gup_ne _ _ _ (by decide), gup_ne _ _ _ (by decide), gup_ne _ _ _ (by decide), gup_at]
  have e14 : (gup (gup (gup (gup g 5 0 1) 14 0 0) 15 0 0) 18 0 0) 14 0 = nI 0 := by
    rw [gup_ne _ _ _ (by decide), gup_ne _ _ _ (by decide), gup_at]
    rfl
  have e18 : (gup (gup (gup (gup g 5 0 1) 14 0 0) 15 0 0) 18 0 0) 18 0 = nI 0 := gup_at _ _ _ _
  generalize gup (gup (gup (gup g 5 0 1) 14 0 0) 15 0 0) 18 0 0 = g1 at k0 e0 e5 e14 e18 ⊢
  obtain ⟨y, g', i1, i2, i3, i4⟩ := play_m h60 61 b 0 0 zfuel g1 ok (by rw [e0]; exact hS) (ky_tx k0 ht) (Nat.zero_le _) (by omega) (by unfold zfuel; omega) e14 e18 (by rw [e5]; decide)
  exact ⟨y, g', i1, i2, ky_tr k0 i3, i4⟩
/-- the two faults' reasons are not 0 -/
theorem plA_why (tx : List Int32) : ∀ (n : Nat) (b : zB) (p k : Nat) (f : Nat × Int32 × Int32), (plA tx n b p k).1 = some f → ¬ f.2.1 = 0 := by
  intro n
  induction n with
  | zero => intro b p k f h; cases h
  | succ n ih =>
    intro b p k f h
    unfold plA at h
    split at h
    · cases h
    · split at h
      · cases h; decide
      · split at h
        · cases h; decide
        · exact ih _ _ _ _ h
theorem plA_ok (tx : List Int32) : ∀ (n : Nat) (b : zB) (p k : Nat), okB b → okB (plA tx n b p k).2.2 ∧ (p ≤ tx.length → k ≤ p → (plA tx n b p k).2.1 ≤ tx.length) := by
  intro n
  induction n with
  | zero => intro b p k h; exact ⟨h, fun h1 h2 => Nat.le_trans h2 h1⟩
  | succ n ih =>
    intro b p k h
    unfold plA
    split
    · exact ⟨h, fun h1 h2 => Nat.le_trans h2 h1⟩
    · split
      · exact ⟨h, fun h1 h2 => Nat.le_trans h2 h1⟩
      · rename_i vs ho
        split
        · exact ⟨h, fun h1 h2 => Nat.le_trans h2 h1⟩
        · rename_i b' hb
          obtain ⟨i1, i2⟩ := ih b' (prO tx p).2 (k + 1) (ordA_ok h hb)
          refine ⟨i1, fun h1 h2 => ?_⟩
          obtain ⟨p1, p2, p3⟩ := prO_pos h1
          have := p3 (by rw [ho]; rfl)
          exact i2 p2 (by omega)
theorem pm_fault {gB gX gY gN : zG} {h : Nat → Option zG} (hR : zRel gB gX gY h gN) (gM : zG) (gT : zG) (x1 : Int32) : ∃ R R', f_X6_fault gM gB gT gX x1 = some R ∧ f_X7_fault gN x1 = some R' ∧ R.1 = R'.1 ∧ zRel gB R.2.2.2 gY h R'.2 := by
  obtain ⟨b, hs, tx, hA⟩ := zRel_abs hR
  have hA0 := hA
  obtain ⟨h1, h2, h3, h4, h5, h6, h7, h8, h9⟩ := hA
  unfold f_X6_fault f_X7_fault
  rw [within_ev, zbind_some, ite_1, in_ev, zbind_some, ite_1]
  by_cases q : 0 ≤ x1 ∧ x1 ≤ 2
  · rw [if_pos q, if_pos q, copies_02_ev, zbind_some]
    obtain ⟨gM', gT', gX', t1, t2, t3⟩ := try_ev (gM := gM) (gT := gT) h3 h1 h8
    have hS0 : rS ((gset gN 2 (cpR (gN 2) (gN 0) 0)) 0) b := by rw [gset_ne _ _ (by decide)]; exact h4
    have ht0 : txM (gset gN 2 (cpR (gN 2) (gN 0) 0)) tx := ⟨by rw [gset_ne _ _ (by decide)]; exact h9.1, fun i x hx => by rw [gset_ne _ _ (by decide)]; exact h9.2 i x hx⟩
    obtain ⟨y, g', i1, i2, i3, i4⟩ := plays_ev hS0 h1 h8.1 ht0
    rw [t1, zbind_some, i1, zbind_some, copies_20_ev, zbind_some]
    dsimp only
    have e2 : g' 2 = cpR (gN 2) (gN 0) 0 := by rw [i3 2 (by decide) (by decide) (by omega), gset_same]
    have hz : zRel gB gX' gY h (gset g' 0 (cpR (g' 0) (g' 2) 0)) := by
      have kk : ∀ j, j = 1 ∨ j = 4 ∨ j = 6 ∨ j = 7 → (gset g' 0 (cpR (g' 0) (g' 2) 0)) j = gN j := fun j hj => by
        rw [gset_ne _ _ (by omega), i3 j (by omega) (by omega) (by omega), gset_ne _ _ (by omega)]
      refine zAbs_rel (b := b) (hs := hs) (tx := tx) ⟨h1, h2, h3, ?_, h5, ?_, ?_, kx_tx t3 h8, ?_⟩
      · rw [gset_same, e2]
        exact cpR_rS h1 (cpR_rS h1 h4)
      · unfold hisM; rw [kk 4 (by simp), kk 1 (by simp)]; exact h6
      · rw [gset_ne _ _ (by decide)]; exact i4
      · unfold txM; rw [kk 7 (by simp), kk 6 (by simp)]; exact h9
    have keep : ∀ j, j ≠ 0 → (gset g' 0 (cpR (g' 0) (g' 2) 0)) j = g' j := fun j hj => gset_ne _ _ hj
    generalize gset g' 0 (cpR (g' 0) (g' 2) 0) = g2 at hz keep ⊢
    have why := plA_why tx 61 b 0 0
    generalize plA tx 61 b 0 0 = o at t2 i2 why
    obtain ⟨f, k, b'⟩ := o
    cases f with
    | none =>
      obtain ⟨a1, a2, a3⟩ := t2
      obtain ⟨c1, c2, c3⟩ := i2
      rw [if_pos a1, c1, if_neg ne10]
      exact ⟨_, _, rfl, rfl, rfl, hz⟩
    | some f =>
      obtain ⟨a1, a2, a3⟩ := t2
      obtain ⟨c1, c2, c3, c4⟩ := i2
      have hw := why f rfl
      rw [if_neg (by rw [a2]; exact hw), c1, if_pos rfl, keep 15 (by decide), keep 16 (by decide), keep 17 (by decide), a1, a2, a3, c2, c3, c4]
      rcases upto2 q with rfl | rfl | rfl
      · rw [if_pos rfl, if_pos rfl]
        exact ⟨_, _, rfl, rfl, rfl, hz⟩
      · rw [if_neg (by decide), if_pos rfl, if_neg (by decide), if_pos rfl]
        exact ⟨_, _, rfl, rfl, rfl, hz⟩
      · rw [if_neg (by decide), if_neg (by decide), if_neg (by decide), if_neg (by decide)]
        exact ⟨_, _, rfl, rfl, rfl, hz⟩
  · rw [if_neg q, if_neg q]
    exact ⟨_, _, rfl, rfl, rfl, hR⟩
theorem pm_play {gB gX gY gN : zG} {h : Nat → Option zG} (hR : zRel gB gX gY h gN) (gM : zG) (gT : zG) : ∃ R R', f_X6_play gM gB gT gX gY h = some R ∧ f_X7_play gN = some R' ∧ R.1 = R'.1 ∧ zRel R.2.2.1 R.2.2.2.2.1 R.2.2.2.2.2.1 R.2.2.2.2.2.2 R'.2 := by
  obtain ⟨b, hs, tx, hA⟩ := zRel_abs hR
  have hA0 := hA
  obtain ⟨h1, h2, h3, h4, h5, h6, h7, h8, h9⟩ := hA
  unfold f_X6_play f_X7_play
  rw [copies_02_ev, zbind_some]
  obtain ⟨gM', gT', gX', t1, t2, t3⟩ := try_ev (gM := gM) (gT := gT) h3 h1 h8
  have hS0 : rS ((gset gN 2 (cpR (gN 2) (gN 0) 0)) 0) b := by rw [gset_ne _ _ (by decide)]; exact h4
  have ht0 : txM (gset gN 2 (cpR (gN 2) (gN 0) 0)) tx := ⟨by rw [gset_ne _ _ (by decide)]; exact h9.1, fun i x hx => by rw [gset_ne _ _ (by decide)]; exact h9.2 i x hx⟩
  obtain ⟨y, g', i1, i2, i3, i4⟩ := plays_ev hS0 h1 h8.1 ht0
  rw [t1, zbind_some, i1, zbind_some, copies_20_ev, zbind_some]
  dsimp only
  have e2 : g' 2 = cpR (gN 2) (gN 0) 0 := by rw [i3 2 (by decide) (by decide) (by omega), gset_same]
  have kk : ∀ j, j = 1 ∨ j = 4 ∨ j = 6 ∨ j = 7 → (gset g' 0 (cpR (g' 0) (g' 2) 0)) j = gN j := fun j hj => by
    rw [gset_ne _ _ (by omega), i3 j (by omega) (by omega) (by omega), gset_ne _ _ (by omega)]
  have hS2 : rS ((gset g' 0 (cpR (g' 0) (g' 2) 0)) 0) b := by
    rw [gset_same, e2]
    exact cpR_rS h1 (cpR_rS h1 h4)
  have hM2 : hisM (gset g' 0 (cpR (g' 0) (g' 2) 0)) hs := by unfold hisM; rw [kk 4 (by simp), kk 1 (by simp)]; exact h6
  have h52 : (gset g' 0 (cpR (g' 0) (g' 2) 0)) 5 0 = 0 := by rw [gset_ne _ _ (by decide)]; exact i4
  have ht2 : txM (gset g' 0 (cpR (g' 0) (g' 2) 0)) tx := by unfold txM; rw [kk 7 (by simp), kk 6 (by simp)]; exact h9
  generalize gset g' 0 (cpR (g' 0) (g' 2) 0) = g2 at hS2 hM2 h52 ht2 ⊢
  have hX' := kx_tx t3 h8
  have why := plA_why tx 61 b 0 0
  have okp := plA_ok tx 61 b 0 0 h1
  cases hf : (plA tx 61 b 0 0).1 with
  | some f =>
    have hw := why f hf
    unfold resC at t2
    unfold resM at i2
    rw [hf] at t2 i2
    obtain ⟨a1, a2, a3⟩ := t2
    obtain ⟨c1, c2, c3, c4⟩ := i2
    rw [if_neg (by rw [a2]; exact hw), keepTrial_neg _ _ _ _ _ (show (-1000000002 : Int32) < 0 from by decide), zbind_some, c1, if_pos rfl]
    exact ⟨_, _, rfl, rfl, rfl, zAbs_rel (b := b) (hs := hs) (tx := tx) ⟨h1, h2, h3, hS2, h5, hM2, h52, hX', ht2⟩⟩
  | none =>
    unfold resC at t2
    unfold resM at i2
    rw [hf] at t2 i2
    obtain ⟨a1, a2, a3⟩ := t2
    obtain ⟨c1, c2, c3⟩ := i2
    have h60 := h8.1
    have hk := okp.2 (Nat.zero_le _) (Nat.le_refl _)
    obtain ⟨gB', gY', h', k1, k2, k3⟩ := keepTrial_ev gM' (gB := gB) (gT := gT') (gY := gY) (h := h) (a := nI (plA tx 61 b 0 0).2.1) (nI_pos (by omega)) h5 h3 h1 a3 okp.1
    obtain ⟨g3, d1, d2, d3⟩ := changes_push h52 hM2 h5.1 h2 hS2 h1
    have ht3 : txM g3 tx := by unfold txM; rw [d2 7 (by decide) (by decide), d2 6 (by decide) (by decide)]; exact ht2
    obtain ⟨y2, g4, j1, j2, j3, j4⟩ := plays_ev (g := g3) (by rw [d2 0 (by decide) (by decide)]; exact hS2) h1 h60 ht3
    unfold resM at j2
    rw [hf] at j2
    obtain ⟨l1, l2, l3⟩ := j2
    rw [if_pos a1, a2, k1, zbind_some, c1, if_neg ne10, d1, zbind_some, j1, zbind_some]
    dsimp only
    rw [l1, if_neg ne10, l2]
    refine ⟨_, _, rfl, rfl, rfl, ?_⟩
    refine zAbs_rel (b := (plA tx 61 b 0 0).2.2) (hs := pushH hs b) (tx := tx) ⟨okp.1, pushH_ok h2 h1, k2, l3, k3, ?_, j4, hX', ?_⟩
    · show hisM g4 _
      unfold hisM
      rw [j3 4 (by decide) (by decide) (by omega), j3 1 (by decide) (by decide) (by omega)]
      exact d3
    · exact ky_tx j3 ht3
