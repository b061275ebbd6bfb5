/-! ===== questions on lines ===== -/
theorem ne20 : ¬ (2 : Int32) = 0 := by decide
theorem ne21 : ¬ (2 : Int32) = 1 := by decide
theorem bool_tf (x : Bool) : x = true ∨ x = false := by cases x <;> simp
/-- what a question may change of the reference: place, height, slope, why -/
def kp (g g' : zG) : Prop := ∀ j, j ≠ 8 → j ≠ 9 → j ≠ 10 → j ≠ 11 → g' j = g j
theorem kp_rf (g : zG) : kp g g := fun _ _ _ _ _ => rfl
theorem kp_tr {a b c : zG} (h1 : kp a b) (h2 : kp b c) : kp a c := fun j x y z u => (h2 j x y z u).trans (h1 j x y z u)
theorem kp_0 {g g' : zG} (h : kp g g') : g' 0 = g 0 := h 0 (by decide) (by decide) (by decide) (by decide)
theorem kp_abs {gB gX gY gN gN' : zG} {h : Nat → Option zG} {b : zB} {hs : List zB} {tx : List Int32} (hA : zAbs gB gX gY h gN b hs tx) (hk : kp gN gN') : zAbs gB gX gY h gN' b hs tx :=
  zAbs_keep hA (fun j hj => hk j (by omega) (by omega) (by omega) (by omega))
/-- where a line of a bench ends -/
def zE (b : zB) (q : zL) : zPt := pth q.1 b.2.1 1000
theorem hasLine_no {g : zG} {n : Nat} (h : g 2 0 = nI n) (hn : n ≤ 8) {x : Int32} (hx : lnum n x = none) : f_X0_hasLine g x = some 0 := by
  rw [hasLine_ev h hn, hx]; rfl
theorem hasLine_yes {g : zG} {n : Nat} (h : g 2 0 = nI n) (hn : n ≤ 8) {x : Int32} {k : Nat} (hx : lnum n x = some k) : f_X0_hasLine g x = some 1 := by
  rw [hasLine_ev h hn, hx]; rfl
theorem isLine_no {g : zG} {n : Nat} (h : g 0 0 = nI n) (hn : n ≤ 8) {x : Int32} (hx : lnum n x = none) : f_X7_isLine g x = some 0 := by
  rw [isLine_ev h hn, hx]; rfl
theorem isLine_yes {g : zG} {n : Nat} (h : g 0 0 = nI n) (hn : n ≤ 8) {x : Int32} {k : Nat} (hx : lnum n x = some k) : f_X7_isLine g x = some 1 := by
  rw [isLine_ev h hn, hx]; rfl
theorem hasThing_no {g : zG} {n : Nat} (h : g 8 0 = nI n) (hn : n ≤ 8) {x : Int32} (hx : lnum n x = none) : f_X0_hasThing g x = some 0 := by
  rw [hasThing_ev h hn, hx]; rfl
theorem hasThing_yes {g : zG} {n : Nat} (h : g 8 0 = nI n) (hn : n ≤ 8) {x : Int32} {k : Nat} (hx : lnum n x = some k) : f_X0_hasThing g x = some 1 := by
  rw [hasThing_ev h hn, hx]; rfl
theorem comes_ev {gR : zG} {l : Nat} (hl : l < 8) {y : Int32} (h : gR 3 l = y) : f_X4_comes gR (nI l) = some (if y = 0 then 1 else 0) := by
  unfold f_X4_comes
  rw [if_neg (nI_pos (by omega)), if_neg (c := (8 : Int32) ≤ nI l) (by rw [l8 (by omega)]; omega), zin_nI hl (by decide), nI_clamp (by omega), h]
  by_cases q : y = 0
  · rw [if_pos q, if_pos q]
  · rw [if_neg q, if_neg q]
theorem path_rng (c u : Int32) : ∀ (th : List zTh) (p h sl : Int32), (path c u th p h sl).2.2.2 = 0 → -999 ≤ (path c u th p h sl).2.1 ∧ (path c u th p h sl).2.1 ≤ 999 := by
  have pe : ∀ (p h sl : Int32), (pend u p h sl).2.2.2 = 0 → -999 ≤ (pend u p h sl).2.1 ∧ (pend u p h sl).2.1 ≤ 999 := by
    intro p h sl
    unfold pend
    intro q
    simp only at q ⊢
    by_cases c : -999 ≤ h + fdI (sl * (u - p)) 1000 ∧ h + fdI (sl * (u - p)) 1000 ≤ 999
    · exact c
    · rw [if_neg c] at q
      exact absurd q (by decide)
  intro th
  induction th with
  | nil => exact pe
  | cons t r ih =>
    intro p h sl
    unfold path
    split
    · exact pe p h sl
    · split
      · split
        · exact ih _ _ _
        · split
          · exact ih _ _ _
          · intro q; exact absurd q ne10
      · intro q; exact absurd q ne20
theorem pth_rng {c u : Int32} {th : List zTh} (h : (pth c th u).2.2.2 = 0) : -999 ≤ (pth c th u).2.1 ∧ (pth c th u).2.1 ≤ 999 := path_rng c u th 0 0 0 h
/-- why is 0, 1 or 2 -/
theorem path_why (c u : Int32) : ∀ (th : List zTh) (p h sl : Int32), (path c u th p h sl).2.2.2 = 0 ∨ (path c u th p h sl).2.2.2 = 1 ∨ (path c u th p h sl).2.2.2 = 2 := by
  have pe : ∀ (p h sl : Int32), (pend u p h sl).2.2.2 = 0 ∨ (pend u p h sl).2.2.2 = 1 ∨ (pend u p h sl).2.2.2 = 2 := by
    intro p h sl
    unfold pend
    simp only
    split
    · exact Or.inl rfl
    · exact Or.inr (Or.inr rfl)
  intro th
  induction th with
  | nil => exact pe
  | cons t r ih =>
    intro p h sl
    unfold path
    split
    · exact pe p h sl
    · split
      · split
        · exact ih _ _ _
        · split
          · exact ih _ _ _
          · exact Or.inr (Or.inl rfl)
      · exact Or.inr (Or.inr rfl)
theorem wpos {gB : zG} {b : zB} (ok : okB b) : ¬ b.2.2 ≤ 0 := by
  rw [inle]
  exact Int32.lt_of_lt_of_le (by decide) ok.2.2.1
theorem cellOf_ev {gB : zG} {b : zB} (hB : rB gB b) (ok : okB b) (y : Int32) : f_X0_cellOf gB y = some (fdI y b.2.2) := by
  unfold f_X0_cellOf
  have h1 := wpos (gB := gB) ok
  have h2 := inle.mp h1
  rw [ilt, Int32.toInt_zero] at h2
  rw [hB.2.2.1, if_neg h1, floorDiv_ev h2, zbind_some]
theorem cell_ev {g : zG} {b : zB} (hS : rS (g 0) b) (ok : okB b) {y : Int32} (hg : g 9 0 = y) (hy : -999 ≤ y ∧ y ≤ 999) : f_X7_cell g = some (fdI y b.2.2) := by
  unfold f_X7_cell
  have h1 : (1 : Int) ≤ b.2.2.toInt := ile_c ok.2.2.1
  have h2 : b.2.2.toInt ≤ (500 : Int) := ile_c ok.2.2.2.1
  have h3 : (-999 : Int) ≤ y.toInt := ile_c hy.1
  rw [z2 (by decide) (by decide), tn2, hS.2.2.1, hg, floor_ev (by omega) (by omega), zbind_some]
theorem upto7 {x : Int32} (h : 0 ≤ x ∧ x ≤ 7) : x = 0 ∨ x = 1 ∨ x = 2 ∨ x = 3 ∨ x = 4 ∨ x = 5 ∨ x = 6 ∨ x = 7 := by
  obtain ⟨j, hj, rfl⟩ := i32_nI (n := 7) h.1 h.2 (by decide)
  rcases (show j = 0 ∨ j = 1 ∨ j = 2 ∨ j = 3 ∨ j = 4 ∨ j = 5 ∨ j = 6 ∨ j = 7 by omega) with rfl | rfl | rfl | rfl | rfl | rfl | rfl | rfl <;> decide
theorem upto6 {x : Int32} (h : 0 ≤ x ∧ x ≤ 6) : x = 0 ∨ x = 1 ∨ x = 2 ∨ x = 3 ∨ x = 4 ∨ x = 5 ∨ x = 6 := by
  obtain ⟨j, hj, rfl⟩ := i32_nI (n := 6) h.1 h.2 (by decide)
  rcases (show j = 0 ∨ j = 1 ∨ j = 2 ∨ j = 3 ∨ j = 4 ∨ j = 5 ∨ j = 6 by omega) with rfl | rfl | rfl | rfl | rfl | rfl | rfl <;> decide
theorem upto2 {x : Int32} (h : 0 ≤ x ∧ x ≤ 2) : x = 0 ∨ x = 1 ∨ x = 2 := by
  obtain ⟨j, hj, rfl⟩ := i32_nI (n := 2) h.1 h.2 (by decide)
  rcases (show j = 0 ∨ j = 1 ∨ j = 2 by omega) with rfl | rfl | rfl <;> decide
theorem pm_lineOf {gB gX gY gN : zG} {h : Nat → Option zG} (hR : zRel gB gX gY h gN) (gM : zG) (gR : zG) (x1 x2 : Int32) : ∃ R R', f_X6_lineOf gM gB gR x1 x2 = some R ∧ f_X7_lineOf gN x1 x2 = some R' ∧ R.1 = R'.1 ∧ zRel gB gX gY h R'.2 := by
  obtain ⟨b, hs, tx, hA⟩ := zRel_abs hR
  have hA0 := hA
  obtain ⟨h1, h2, h3, h4, h5, h6, h7, h8, h9⟩ := hA
  have hn := h1.1
  unfold f_X6_lineOf f_X7_lineOf
  cases hL : lnum b.1.length x1 with
  | none =>
    rw [hasLine_no h3.1 hn hL, zbind_some, if_pos rfl, isLine_no h4.1 hn hL, zbind_some, if_pos rfl]
    exact ⟨_, _, rfl, rfl, rfl, hR⟩
  | some l =>
    obtain ⟨hl, rfl⟩ := lnum_some (by omega) hL
    rw [hasLine_yes h3.1 hn hL, zbind_some, if_neg ne10, isLine_yes h4.1 hn hL, zbind_some, if_neg ne10, within_ev, zbind_some, ite_1, in_ev, zbind_some, ite_1]
    by_cases q : 0 ≤ x2 ∧ x2 ≤ 7
    · rw [if_pos q, if_pos q]
      obtain ⟨t, ht⟩ : ∃ t, b.1[l]? = some t := ⟨_, List.getElem?_eq_getElem hl⟩
      obtain ⟨gR', r1, r2, r3⟩ := follow_ev h3 h1.2.1 hn h1.2.2.2.2.2.1 gR
      obtain ⟨gN', n1, n2⟩ := follows_ev h4 h1 ht (u := 1000) (by decide)
      obtain ⟨a1, a2, a3⟩ := r2 l t hl ht
      obtain ⟨c1, c2⟩ := h3.2.2.2.1 l t ht
      have hz : zRel gB gX gY h gN' := zAbs_rel (kp_abs hA0 n2.1)
      have hS' : rS (gN' 0) b := by rw [kp_0 n2.1]; exact h4
      obtain ⟨m0, m8, m9, m10, m11⟩ := n2
      have z8 : ∀ {β : Type} (k : Option β), zin (nI l) 8 k = k := fun k => zin_nI (by omega) (by decide)
      have cl : (nI l).toNatClampNeg = l := nI_clamp (by omega)
      have ln := lightOf_ev hS' hn ht
      have cn := colour_ev hS' hn ht
      have ce := fun (hy : (pth t.1 b.2.1 1000).2.2.2 = 0) => cell_ev hS' h1 m9 (pth_rng hy)
      have cB := cellOf_ev h3 h1
      rw [r1, zbind_some, comes_ev (by omega) a2, zbind_some, n1, zbind_some]
      have k1 : ∀ (y : Int32) (z : zG), (∃ R R', (some (y, gR') : Option (Int32 × zG)) = some R ∧ (some (y, gN') : Option (Int32 × zG)) = some R' ∧ R.1 = R'.1 ∧ zRel gB gX gY h R'.2) := fun y z => ⟨_, _, rfl, rfl, rfl, hz⟩
      by_cases hy : (pth t.1 b.2.1 1000).2.2.2 = 0
      · rw [if_pos hy]
        rcases upto7 q with rfl | rfl | rfl | rfl | rfl | rfl | rfl | rfl
        · rw [if_pos rfl, z8, cl, c1]
          rw [if_pos (by decide)]
          unfold f_X7_lineOf_63
          rw [if_pos rfl, cn, zbind_some]
          exact k1 _ gN
        · rw [if_neg (by decide), if_pos rfl, z8, cl, c2]
          rw [if_pos (by decide)]
          unfold f_X7_lineOf_63
          rw [if_neg (by decide), if_pos rfl, ln, zbind_some]
          exact k1 _ gN
        · rw [if_neg (by decide), if_neg (by decide), if_pos rfl]
          unfold f_X6_oneIf
          rw [if_neg ne10, zbind_some]
          rw [if_pos (by decide)]
          unfold f_X7_lineOf_63
          rw [if_neg (by decide), if_neg (by decide), if_pos rfl, m11, if_pos hy]
          exact k1 _ gN
        · rw [if_neg (by decide), if_neg (by decide), if_neg (by decide), if_pos rfl, if_neg ne10, z8, cl, (a3 hy).1]
          rw [if_neg (by decide), if_neg (by decide)]
          unfold f_X7_lineOf_45 f_X7_lineOf_57 f_X7_lineOf_63
          rw [m11, if_pos hy, if_pos rfl, if_neg (by decide), if_neg (by decide), if_neg (by decide), if_pos rfl, m9]
          exact k1 _ gN
        · rw [if_neg (by decide), if_neg (by decide), if_neg (by decide), if_neg (by decide), if_pos rfl, if_neg ne10, z8, cl, (a3 hy).2]
          rw [if_neg (by decide), if_neg (by decide)]
          unfold f_X7_lineOf_45 f_X7_lineOf_57 f_X7_lineOf_63
          rw [m11, if_pos hy, if_pos rfl, if_neg (by decide), if_neg (by decide), if_neg (by decide), if_neg (by decide), if_pos rfl, m10]
          exact k1 _ gN
        · rw [if_neg (by decide), if_neg (by decide), if_neg (by decide), if_neg (by decide), if_neg (by decide), if_pos rfl, if_neg ne10, z8, cl, (a3 hy).1, cB, zbind_some]
          rw [if_neg (by decide), if_neg (by decide)]
          unfold f_X7_lineOf_45 f_X7_lineOf_57 f_X7_lineOf_63
          rw [m11, if_pos hy, if_pos rfl, if_neg (by decide), if_neg (by decide), if_neg (by decide), if_neg (by decide), if_neg (by decide), if_pos rfl, ce hy, zbind_some]
          exact k1 _ gN
        · rw [if_neg (by decide), if_neg (by decide), if_neg (by decide), if_neg (by decide), if_neg (by decide), if_neg (by decide), if_pos rfl, if_neg ne10]
          rw [if_neg (by decide), if_pos (by decide)]
          unfold f_X7_lineOf_45 f_X7_lineOf_57 f_X7_lineOf_63
          rw [m11, if_pos hy, if_neg (by decide)]
          exact k1 _ gN
        · rw [if_neg (by decide), if_neg (by decide), if_neg (by decide), if_neg (by decide), if_neg (by decide), if_neg (by decide), if_neg (by decide), if_neg ne10]
          rw [if_neg (by decide), if_pos (by decide)]
          unfold f_X7_lineOf_45 f_X7_lineOf_57 f_X7_lineOf_63
          rw [m11, if_pos hy, if_neg (by decide)]
          exact k1 _ gN
      · rw [if_neg hy]
        rcases upto7 q with rfl | rfl | rfl | rfl | rfl | rfl | rfl | rfl
        · rw [if_pos rfl, z8, cl, c1]
          rw [if_pos (by decide)]
          unfold f_X7_lineOf_63
          rw [if_pos rfl, cn, zbind_some]
          exact k1 _ gN
        · rw [if_neg (by decide), if_pos rfl, z8, cl, c2]
          rw [if_pos (by decide)]
          unfold f_X7_lineOf_63
          rw [if_neg (by decide), if_pos rfl, ln, zbind_some]
          exact k1 _ gN
        · rw [if_neg (by decide), if_neg (by decide), if_pos rfl]
          unfold f_X6_oneIf
          rw [if_pos rfl, zbind_some]
          rw [if_pos (by decide)]
          unfold f_X7_lineOf_63
          rw [if_neg (by decide), if_neg (by decide), if_pos rfl, m11, if_neg hy]
          exact k1 _ gN
        · rw [if_neg (by decide), if_neg (by decide), if_neg (by decide), if_pos rfl, if_pos rfl]
          rw [if_neg (by decide), if_neg (by decide)]
          unfold f_X7_lineOf_45 f_X7_lineOf_57 f_X7_lineOf_63
          rw [m11, if_neg hy, if_neg (by decide)]
          exact k1 _ gN
        · rw [if_neg (by decide), if_neg (by decide), if_neg (by decide), if_neg (by decide), if_pos rfl, if_pos rfl]
          rw [if_neg (by decide), if_neg (by decide)]
          unfold f_X7_lineOf_45 f_X7_lineOf_57 f_X7_lineOf_63
          rw [m11, if_neg hy, if_neg (by decide)]
          exact k1 _ gN
        · rw [if_neg (by decide), if_neg (by decide), if_neg (by decide), if_neg (by decide), if_neg (by decide), if_pos rfl, if_pos rfl]
          rw [if_neg (by decide), if_neg (by decide)]
          unfold f_X7_lineOf_45 f_X7_lineOf_57 f_X7_lineOf_63
          rw [m11, if_neg hy, if_neg (by decide)]
          exact k1 _ gN
        · rw [if_neg (by decide), if_neg (by decide), if_neg (by decide), if_neg (by decide), if_neg (by decide), if_neg (by decide), if_pos rfl, if_pos rfl, z8, cl, a1]
          rw [if_neg (by decide), if_pos (by decide)]
          unfold f_X7_lineOf_45 f_X7_lineOf_57 f_X7_lineOf_63
          rw [m11, if_neg hy, if_pos rfl, if_neg (by decide), if_neg (by decide), if_neg (by decide), if_neg (by decide), if_neg (by decide), if_neg (by decide), if_pos rfl, m8]
          exact k1 _ gN
        · rw [if_neg (by decide), if_neg (by decide), if_neg (by decide), if_neg (by decide), if_neg (by decide), if_neg (by decide), if_neg (by decide), if_pos rfl, z8, cl, a2]
          rw [if_neg (by decide), if_pos (by decide)]
          unfold f_X7_lineOf_45 f_X7_lineOf_57 f_X7_lineOf_63
          rw [m11, if_neg hy, if_pos rfl, if_neg (by decide), if_neg (by decide), if_neg (by decide), if_neg (by decide), if_neg (by decide), if_neg (by decide), if_neg (by decide)]
          exact k1 _ gN
    · rw [if_neg q, if_neg q]
      exact ⟨_, _, rfl, rfl, rfl, hR⟩
/-! ===== the height of a line at a place, and slits that let one line through ===== -/
def hgt (b : zB) (q : zL) (u : Int32) : Int32 := if (pth q.1 b.2.1 u).2.2.2 = 0 then (pth q.1 b.2.1 u).2.1 else NFO
theorem heightAt_ev {gB gM gR : zG} {b : zB} (hB : rB gB b) (ok : okB b) {l : Nat} {q : zL} (hl : b.1[l]? = some q) (u : Int32) : ∃ gR', f_X6_heightAt gM gB gR (nI l) u = some (hgt b q u, gR') := by
  have hk := (List.getElem?_eq_some_iff.mp hl).1
  have hn := ok.1
  obtain ⟨g', e1, w1, w2, w3, w4, w5⟩ := followLine_ev hB ok.2.1 ok.1 ok.2.2.2.2.2.1 hl u gR
  unfold f_X6_heightAt hgt
  rw [e1, zbind_some, comes_ev (by omega) w4, zbind_some, ite_1]
  by_cases hy : (pth q.1 b.2.1 u).2.2.2 = 0
  · rw [if_pos hy, if_pos hy, zin_nI (by omega) (by decide), nI_clamp (by omega), (w5 hy).1]
    exact ⟨_, rfl⟩
  · rw [if_neg hy, if_neg hy]
    exact ⟨_, rfl⟩
theorem pm_height {gB gX gY gN : zG} {h : Nat → Option zG} (hR : zRel gB gX gY h gN) (gM : zG) (gR : zG) (x1 x2 : Int32) : ∃ R R', f_X6_height gM gB gR x1 x2 = some R ∧ f_X7_height gN x1 x2 = some R' ∧ R.1 = R'.1 ∧ zRel gB gX gY h R'.2 := by
  obtain ⟨b, hs, tx, hA⟩ := zRel_abs hR
  have hA0 := hA
  obtain ⟨h1, h2, h3, h4, h5, h6, h7, h8, h9⟩ := hA
  have hn := h1.1
  unfold f_X6_height f_X7_height
  cases hL : lnum b.1.length x1 with
  | none =>
    rw [hasLine_no h3.1 hn hL, zbind_some, if_pos rfl, isLine_no h4.1 hn hL, zbind_some, if_pos rfl]
    exact ⟨_, _, rfl, rfl, rfl, hR⟩
  | some l =>
    obtain ⟨hl, rfl⟩ := lnum_some (by omega) hL
    rw [hasLine_yes h3.1 hn hL, zbind_some, if_neg ne10, isLine_yes h4.1 hn hL, zbind_some, if_neg ne10, within_ev, zbind_some, ite_1, in_ev, zbind_some, ite_1]
    by_cases q : 0 ≤ x2 ∧ x2 ≤ 1000
    · rw [if_pos q, if_pos q]
      obtain ⟨t, ht⟩ : ∃ t, b.1[l]? = some t := ⟨_, List.getElem?_eq_getElem hl⟩
      obtain ⟨gR', r1⟩ := heightAt_ev (gM := gM) (gR := gR) h3 h1 ht x2
      obtain ⟨gN', n1, n2⟩ := follows_ev h4 h1 ht q
      have hz : zRel gB gX gY h gN' := zAbs_rel (kp_abs hA0 n2.1)
      rw [r1, zbind_some, n1, zbind_some, n2.2.2.2.2, n2.2.2.1]
      unfold hgt
      by_cases hy : (pth t.1 b.2.1 x2).2.2.2 = 0
      · rw [if_pos hy, if_pos hy]
        exact ⟨_, _, rfl, rfl, rfl, hz⟩
      · rw [if_neg hy, if_neg hy]
        exact ⟨_, _, rfl, rfl, rfl, hz⟩
    · rw [if_neg q, if_neg q]
      exact ⟨_, _, rfl, rfl, rfl, hR⟩
/-- another line has the same height -/
def lkB (b : zB) (l : Nat) (u y : Int32) : Nat → List zL → Bool
  | _, [] => false
  | i, q :: r => (decide (i ≠ l) && decide (hgt b q u = y)) || lkB b l u y (i + 1) r
theorem NFO_out {y : Int32} (h : -999 ≤ y ∧ y ≤ 999) : ¬ NFO = y := by
  intro e
  subst e
  exact absurd h.1 (by decide)
theorem alone_c {gB gM : zG} {b : zB} (hB : rB gB b) (ok : okB b) {l : Nat} (hl : l < 8) (u y : Int32) : ∀ (r : List zL) (i fuel : Nat) (gR : zG), b.1.drop i = r → i ≤ b.1.length → r.length < fuel → ∃ gR', f_X6_alone_58 gM gB fuel (nI l) u y (nI i) gR = some (if lkB b l u y i r then NPO else y, gR') := by
  have hn := ok.1
  intro r
  induction r with
  | nil =>
    intro i fuel gR hd hi hf
    obtain ⟨n, rfl⟩ : ∃ n, fuel = n + 1 := ⟨fuel - 1, by omega⟩
    have hi2 : b.1.length ≤ i := List.drop_eq_nil_iff.mp hd
    refine ⟨gR, ?_⟩
    show f_X6_alone_58_b gM gB (f_X6_alone_58 gM gB n) (nI l) u y (nI i) gR = _
    unfold f_X6_alone_58_b
    rw [hasLine_nI hB.1 hn (by omega), if_neg (c := i < b.1.length) (by omega), zbind_some, if_pos rfl]
    split <;> rfl
  | cons q r ih =>
    intro i fuel gR hd hi hf
    obtain ⟨n, rfl⟩ : ∃ n, fuel = n + 1 := ⟨fuel - 1, by omega⟩
    obtain ⟨e1, e2, e3⟩ := drop_cons hd
    rw [List.length_cons] at hf
    show ∃ gR', f_X6_alone_58_b gM gB (f_X6_alone_58 gM gB n) (nI l) u y (nI i) gR = _
    unfold f_X6_alone_58_b
    rw [if_neg (c := (8 : Int32) ≤ nI i) (by rw [l8 (by omega)]; omega), hasLine_nI hB.1 hn (by omega), if_pos e1, zbind_some, if_neg ne10, nIs]
    unfold lkB
    by_cases hil : i = l
    · subst hil
      rw [if_pos rfl]
      simpa using ih (i + 1) n gR e3 (by omega) (by omega)
    · rw [if_neg (c := nI i = nI l) (fun h => hil ((nI_eq (by omega) (by omega)).mp h))]
      obtain ⟨gR', k1⟩ := heightAt_ev (gM := gM) (gR := gR) hB ok e2 u
      rw [k1, zbind_some]
      by_cases hy : hgt b q u = y
      · rw [if_pos hy]
        exact ⟨gR', by simp [hil, hy]; rfl⟩
      · rw [if_neg hy]
        simpa [hil, hy] using ih (i + 1) n gR' e3 (by omega) (by omega)
theorem alone_m {b : zB} (ok : okB b) {l : Nat} (hl : l < 8) {u y : Int32} (hu : 0 ≤ u ∧ u ≤ 1000) (hy : -999 ≤ y ∧ y ≤ 999) (hf0 : fidx u b.2.1 = none) : ∀ (r : List zL) (i fuel : Nat) (a : Bool) (g : zG), rS (g 0) b → b.1.drop i = r → i ≤ b.1.length → r.length < fuel → ∃ g', f_X7_alone_49 fuel (nI l) u 1 y (if a then 1 else 0) (nI i) g = some (if a || lkB b l u y i r then NPO else y, g') ∧ kp g g' := by
  have hn := ok.1
  intro r
  induction r with
  | nil =>
    intro i fuel a g hS hd hi hf
    obtain ⟨n, rfl⟩ : ∃ n, fuel = n + 1 := ⟨fuel - 1, by omega⟩
    have hi2 : b.1.length ≤ i := List.drop_eq_nil_iff.mp hd
    refine ⟨g, ?_, kp_rf g⟩
    show f_X7_alone_49_b (f_X7_alone_49 n) (nI l) u 1 y (if a then 1 else 0) (nI i) g = _
    unfold f_X7_alone_49_b f_X7_alone_111
    rw [z0 (by decide) (by decide), tn0, hS.1, if_pos ((nI_leI (by omega) (by omega)).mpr hi2), at_ev hS ok.2.1, hf0, zbind_some, if_neg (show ¬ 0 ≤ ix none NFO from by decide), if_neg ne10]
    cases a <;> rfl
  | cons q r ih =>
    intro i fuel a g hS hd hi hf
    obtain ⟨n, rfl⟩ : ∃ n, fuel = n + 1 := ⟨fuel - 1, by omega⟩
    obtain ⟨e1, e2, e3⟩ := drop_cons hd
    rw [List.length_cons] at hf
    obtain ⟨g1, k1, k2⟩ := follows_ev hS ok e2 hu
    have hS1 : rS (g1 0) b := by rw [kp_0 k2.1]; exact hS
    have key : ∀ a' : Bool, (a' = (a || (decide (i ≠ l) && decide (hgt b q u = y)))) → ∃ g', f_X7_alone_49 n (nI l) u 1 y (if a' then 1 else 0) (nI (i + 1)) g1 = some (if a || lkB b l u y i (q :: r) then NPO else y, g') ∧ kp g g' := by
      intro a' ha
      obtain ⟨g', j1, j2⟩ := ih (i + 1) n a' g1 hS1 e3 (by omega) (by omega)
      refine ⟨g', ?_, kp_tr k2.1 j2⟩
      have e : lkB b l u y i (q :: r) = ((decide (i ≠ l) && decide (hgt b q u = y)) || lkB b l u y (i + 1) r) := rfl
      rw [j1, ha, e, Bool.or_assoc]
    show ∃ g', f_X7_alone_49_b (f_X7_alone_49 n) (nI l) u 1 y (if a then 1 else 0) (nI i) g = _ ∧ _
    unfold f_X7_alone_49_b f_X7_alone_98
    rw [z0 (by decide) (by decide), tn0, hS.1, if_neg (fun q => by have := (nI_leI (by omega) (by omega)).mp q; omega), if_neg ne10, k1, zbind_some, nIs]
    cases a with
    | true =>
      rw [if_pos rfl, if_neg ne10]
      exact key true rfl
    | false =>
      rw [if_pos (show (if (false : Bool) = true then (1 : Int32) else 0) = 0 from rfl)]
      by_cases hil : i = l
      · subst hil
        rw [if_pos rfl]
        have := key false (by simp)
        simpa using this
      · rw [if_neg (c := nI i = nI l) (fun h => hil ((nI_eq (by omega) (by omega)).mp h)), k2.2.2.2.2, k2.2.2.1]
        by_cases hw : (pth q.1 b.2.1 u).2.2.2 = 0
        · rw [if_pos hw]
          have eh : hgt b q u = (pth q.1 b.2.1 u).2.1 := by unfold hgt; rw [if_pos hw]
          by_cases hh : (pth q.1 b.2.1 u).2.1 = y
          · rw [if_pos hh]
            exact key true (by rw [eh]; simp [hil, hh])
          · rw [if_neg hh]
            have := key false (by rw [eh]; simp [hh])
            simpa using this
        · rw [if_neg hw]
          have eh : hgt b q u = NFO := by unfold hgt; rw [if_neg hw]
          have := key false (by rw [eh]; simp [NFO_out hy])
          simpa using this
theorem alone_m0 {b : zB} (ok : okB b) {u : Int32} (hf0 : fidx u b.2.1 = none) (n : Nat) (l y i : Int32) {g : zG} (hS : rS (g 0) b) : f_X7_alone_49 (n + 1) l u 0 y 0 i g = some (NFO, g) := by
  show f_X7_alone_49_b (f_X7_alone_49 n) l u 0 y 0 i g = _
  unfold f_X7_alone_49_b f_X7_alone_111
  rw [z0 (by decide) (by decide), at_ev hS ok.2.1, hf0, zbind_some, if_neg (show ¬ 0 ≤ ix none NFO from by decide), if_pos rfl, if_pos rfl, if_pos rfl]
  split <;> rfl
/-- with a thing at the place the answer is NOT_POSSIBLE -/
theorem alone_mN {b : zB} (ok : okB b) {u : Int32} (hu : 0 ≤ u ∧ u ≤ 1000) {k : Nat} (hf0 : fidx u b.2.1 = some k) (l c y : Int32) : ∀ (r : List zL) (i fuel : Nat) (a : Int32) (g : zG), rS (g 0) b → b.1.drop i = r → i ≤ b.1.length → r.length < fuel → ∃ g', f_X7_alone_49 fuel l u c y a (nI i) g = some (NPO, g') ∧ kp g g' := by
  have hn := ok.1
  have hk := fidx_lt hf0
  have h8 := ok.2.1
  have fin : ∀ (a : Int32) (g : zG), rS (g 0) b → f_X7_alone_111 u c y a g = some (NPO, g) := by
    intro a g hS
    unfold f_X7_alone_111
    rw [at_ev hS ok.2.1, hf0, zbind_some, if_pos (show 0 ≤ ix (some k) NFO from nI_pos' (by omega))]
    rfl
  intro r
  induction r with
  | nil =>
    intro i fuel a g hS hd hi hf
    obtain ⟨n, rfl⟩ : ∃ n, fuel = n + 1 := ⟨fuel - 1, by omega⟩
    have hi2 : b.1.length ≤ i := List.drop_eq_nil_iff.mp hd
    refine ⟨g, ?_, kp_rf g⟩
    show f_X7_alone_49_b (f_X7_alone_49 n) l u c y a (nI i) g = _
    unfold f_X7_alone_49_b
    rw [z0 (by decide) (by decide), tn0, hS.1, if_pos ((nI_leI (by omega) (by omega)).mpr hi2), fin a g hS]
  | cons q r ih =>
    intro i fuel a g hS hd hi hf
    obtain ⟨n, rfl⟩ : ∃ n, fuel = n + 1 := ⟨fuel - 1, by omega⟩
    obtain ⟨e1, e2, e3⟩ := drop_cons hd
    rw [List.length_cons] at hf
    obtain ⟨g1, k1, k2⟩ := follows_ev hS ok e2 hu
    have hS1 : rS (g1 0) b := by rw [kp_0 k2.1]; exact hS
    have key : ∀ a' : Int32, ∃ g', f_X7_alone_49 n l u c y a' (nI (i + 1)) g1 = some (NPO, g') ∧ kp g g' := by
      intro a'
      obtain ⟨g', j1, j2⟩ := ih (i + 1) n a' g1 hS1 e3 (by omega) (by omega)
      exact ⟨g', j1, kp_tr k2.1 j2⟩
    show ∃ g', f_X7_alone_49_b (f_X7_alone_49 n) l u c y a (nI i) g = _ ∧ _
    unfold f_X7_alone_49_b f_X7_alone_98
    rw [z0 (by decide) (by decide), tn0, hS.1, if_neg (fun q => by have := (nI_leI (by omega) (by omega)).mp q; omega), nIs]
    by_cases hc : c = 0
    · rw [if_pos hc, fin a g hS]
      exact ⟨g, rfl, kp_rf g⟩
    · rw [if_neg hc, k1, zbind_some]
      split
      · split
        · exact key _
        · split
          · split
            · exact key _
            · exact key _
          · exact key _
      · exact key _
theorem pm_alone {gB gX gY gN : zG} {h : Nat → Option zG} (hR : zRel gB gX gY h gN) (gM : zG) (gR : zG) (x1 x2 : Int32) : ∃ R R', f_X6_alone gM gB gR x1 x2 = some R ∧ f_X7_alone gN x1 x2 = some R' ∧ R.1 = R'.1 ∧ zRel gB gX gY h R'.2 := by
  obtain ⟨b, hs, tx, hA⟩ := zRel_abs hR
  have hA0 := hA
  obtain ⟨h1, h2, h3, h4, h5, h6, h7, h8, h9⟩ := hA
  have hn := h1.1
  unfold f_X6_alone f_X7_alone
  cases hL : lnum b.1.length x1 with
  | none =>
    rw [hasLine_no h3.1 hn hL, zbind_some, if_pos rfl, isLine_no h4.1 hn hL, zbind_some, if_pos rfl]
    exact ⟨_, _, rfl, rfl, rfl, hR⟩
  | some l =>
    obtain ⟨hl, rfl⟩ := lnum_some (by omega) hL
    rw [hasLine_yes h3.1 hn hL, zbind_some, if_neg ne10, isLine_yes h4.1 hn hL, zbind_some, if_neg ne10, within_ev, zbind_some, ite_1, isPlace_ev, zbind_some, ite_1]
    by_cases q : 1 ≤ x2 ∧ x2 ≤ 999
    · rw [if_pos q, if_pos q]
      have hu := place_rng q
      obtain ⟨t, ht⟩ : ∃ t, b.1[l]? = some t := ⟨_, List.getElem?_eq_getElem hl⟩
      obtain ⟨gN', n1, n2⟩ := follows_ev h4 h1 ht hu
      have hS' : rS (gN' 0) b := by rw [kp_0 n2.1]; exact h4
      rw [indexOf_ev h3 h1.2.1, zbind_some, n1, zbind_some]
      unfold f_X7_alone_36
      cases hf : fidx x2 b.2.1 with
      | some k =>
        have hk := fidx_lt hf
        have hk8 := h1.2.1
        rw [if_neg (show ¬ ix (some k) (-1) < 0 from nI_pos (by omega))]
        have fin : ∀ c : Int32, ∃ R R', (some ((-1000000002 : Int32), gR) : Option (Int32 × zG)) = some R ∧ f_X7_alone_49 zfuel (nI l) x2 c (gN' 9 0) (0 : Int32) (0 : Int32) gN' = some R' ∧ R.1 = R'.1 ∧ zRel gB gX gY h R'.2 := by
          intro c
          obtain ⟨g', j1, j2⟩ := alone_mN h1 hu hf (nI l) c (gN' 9 0) b.1 0 zfuel 0 gN' hS' rfl (Nat.zero_le _) (by unfold zfuel; omega)
          exact ⟨_, _, rfl, j1, rfl, zAbs_rel (kp_abs hA0 (kp_tr n2.1 j2))⟩
        split
        · exact fin 1
        · exact fin 0
      | none =>
        rw [if_pos (show ix none (-1) < 0 from by decide)]
        obtain ⟨gR', r1⟩ := heightAt_ev (gM := gM) (gR := gR) h3 h1 ht x2
        rw [r1, zbind_some, n2.2.2.2.2]
        by_cases hy : (pth t.1 b.2.1 x2).2.2.2 = 0
        · have eh : hgt b t x2 = (pth t.1 b.2.1 x2).2.1 := by unfold hgt; rw [if_pos hy]
          have hr := pth_rng hy
          rw [if_pos hy, eh, n2.2.2.1, if_neg (fun e => NFO_out hr e.symm)]
          obtain ⟨gR'', c1⟩ := alone_c (gM := gM) h3 h1 (show l < 8 by omega) x2 (pth t.1 b.2.1 x2).2.1 b.1 0 zfuel gR' rfl (Nat.zero_le _) (by unfold zfuel; omega)
          obtain ⟨g', m1, m2⟩ := alone_m h1 (show l < 8 by omega) hu hr hf b.1 0 zfuel false gN' hS' rfl (Nat.zero_le _) (by unfold zfuel; omega)
          have m1' : f_X7_alone_49 zfuel (nI l) x2 1 (pth t.1 b.2.1 x2).2.1 0 0 gN' = _ := m1
          have c1' : f_X6_alone_58 gM gB zfuel (nI l) x2 (pth t.1 b.2.1 x2).2.1 0 gR' = _ := c1
          rw [c1', m1', Bool.false_or]
          exact ⟨_, _, rfl, rfl, rfl, zAbs_rel (kp_abs hA0 (kp_tr n2.1 m2))⟩
        · have eh : hgt b t x2 = NFO := by unfold hgt; rw [if_neg hy]
          rw [if_neg hy, eh, if_pos (show (NFO, gR').1 = -1000000004 from rfl), show zfuel = 999 + 1 from rfl, alone_m0 h1 hf 999 (nI l) (gN' 9 0) 0 hS']
          exact ⟨_, _, rfl, rfl, rfl, zAbs_rel (kp_abs hA0 n2.1)⟩
    · rw [if_neg q, if_neg q]
      exact ⟨_, _, rfl, rfl, rfl, hR⟩
