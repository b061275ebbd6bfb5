/-! ===== a thing: the lines that come to it, the light that is lost at it ===== -/
theorem path_cons (c u : Int32) (t : zTh) (r : List zTh) (p h sl : Int32) : path c u (t :: r) p h sl = (if u ≤ t.1 then pend u p h sl else
      if -999 ≤ h + fdI (sl * (t.1 - p)) 1000 ∧ h + fdI (sl * (t.1 - p)) 1000 ≤ 999 then
        (if t.2.1 = 0 then path c u r t.1 (h + fdI (sl * (t.1 - p)) 1000) (sl + bnd t c) else
          if t.2.2.1 ≤ h + fdI (sl * (t.1 - p)) 1000 ∧ h + fdI (sl * (t.1 - p)) 1000 ≤ t.2.2.2.1 then path c u r t.1 (h + fdI (sl * (t.1 - p)) 1000) sl else (t.1, h + fdI (sl * (t.1 - p)) 1000, sl, 1))
      else (t.1, h + fdI (sl * (t.1 - p)) 1000, sl, 2)) := rfl
theorem path_gt (c : Int32) {p : Int32} (hp : p < 1000) : ∀ (th : List zTh) (a h sl : Int32), (∀ t ∈ th, p < t.1) → p < (path c 1000 th a h sl).1 := by
  intro th
  induction th with
  | nil => intro a h sl _; exact hp
  | cons t r ih =>
    intro a h sl ht
    have h1 := ht t List.mem_cons_self
    have h2 := fun q hq => ht q (List.mem_cons_of_mem _ hq)
    rw [path_cons]
    split
    · exact hp
    · split
      · split
        · exact ih _ _ _ h2
        · split
          · exact ih _ _ _ h2
          · exact h1
      · exact h1
theorem nle1000 {t : zTh} (h : okT t) : ¬ (1000 : Int32) ≤ t.1 := fun q => absurd (Int32.le_trans q h.2.1) (by decide)
theorem split_ev (c p : Int32) (hp : p < 1000) : ∀ (th : List zTh) (a h sl : Int32), (∀ t ∈ th, okT t) → th.Pairwise (fun a b => a.1 < b.1) → (∃ t ∈ th, t.1 = p) → ((path c p th a h sl).2.2.2 = 0 ↔ ((path c 1000 th a h sl).2.2.2 = 0 ∨ ¬ (path c 1000 th a h sl).1 ≤ p ∨ ((path c 1000 th a h sl).1 = p ∧ (path c 1000 th a h sl).2.2.2 = 1))) := by
  intro th
  induction th with
  | nil =>
    intro a h sl _ _ hx
    obtain ⟨t, ht, _⟩ := hx
    cases ht
  | cons t r ih =>
    intro a h sl hok hpw hx
    rw [List.pairwise_cons] at hpw
    have ht := nle1000 (hok t List.mem_cons_self)
    have hok2 := fun q hq => hok q (List.mem_cons_of_mem _ hq)
    rw [path_cons, path_cons, if_neg ht]
    by_cases hpt : t.1 = p
    · subst hpt
      rw [if_pos (Int32.le_refl _)]
      have gt := fun a h sl => path_gt c hp r a h sl hpw.1
      unfold pend
      by_cases hr : -999 ≤ h + fdI (sl * (t.1 - a)) 1000 ∧ h + fdI (sl * (t.1 - a)) 1000 ≤ 999
      · rw [if_pos hr, if_pos hr]
        refine ⟨fun _ => ?_, fun _ => rfl⟩
        split
        · exact Or.inr (Or.inl (inle.mpr (gt _ _ _)))
        · split
          · exact Or.inr (Or.inl (inle.mpr (gt _ _ _)))
          · exact Or.inr (Or.inr ⟨rfl, rfl⟩)
      · rw [if_neg hr, if_neg hr]
        constructor
        · intro q; exact absurd q ne20
        · rintro (q | q | q)
          · exact absurd q ne20
          · exact absurd (Int32.le_refl _) q
          · exact absurd q.2 ne21
    · have hx2 : ∃ q ∈ r, q.1 = p := by
        obtain ⟨q, hq, e⟩ := hx
        rcases List.mem_cons.mp hq with rfl | hq
        · exact absurd e hpt
        · exact ⟨q, hq, e⟩
      have hlt : t.1 < p := by
        obtain ⟨q, hq, e⟩ := hx2
        rw [← e]
        exact hpw.1 q hq
      have hle : t.1 ≤ p := Int32.le_of_lt hlt
      rw [if_neg (inle.mpr hlt)]
      by_cases hr : -999 ≤ h + fdI (sl * (t.1 - a)) 1000 ∧ h + fdI (sl * (t.1 - a)) 1000 ≤ 999
      · rw [if_pos hr, if_pos hr]
        by_cases hk : t.2.1 = 0
        · rw [if_pos hk, if_pos hk]
          exact ih _ _ _ hok2 hpw.2 hx2
        · rw [if_neg hk, if_neg hk]
          by_cases hs : t.2.2.1 ≤ h + fdI (sl * (t.1 - a)) 1000 ∧ h + fdI (sl * (t.1 - a)) 1000 ≤ t.2.2.2.1
          · rw [if_pos hs, if_pos hs]
            exact ih _ _ _ hok2 hpw.2 hx2
          · rw [if_neg hs, if_neg hs]
            constructor
            · intro q; exact absurd q ne10
            · rintro (q | q | q)
              · exact absurd q ne10
              · exact absurd hle q
              · exact absurd q.1 hpt
      · rw [if_neg hr, if_neg hr]
        constructor
        · intro q; exact absurd q ne20
        · rintro (q | q | q)
          · exact absurd q ne20
          · exact absurd hle q
          · exact absurd q.1 hpt
theorem linesAt_loop {gB gR : zG} {b : zB} (hB : rB gB b) (ok : okB b) (hr : rayC gR b) (p : Int32) (f : zL → Bool) (hf0 : ∀ q, f q = true ↔ ((zE b q).2.2.2 = 0 ∨ ¬ (zE b q).1 ≤ p ∨ ((zE b q).1 = p ∧ (zE b q).2.2.2 = 1))) : ∀ (r : List zL) (i fuel m : Nat), b.1.drop i = r → i ≤ b.1.length → r.length < fuel → m < 2 ^ i → f_X4_linesAt_5 gR gB fuel p (nI m) (nI i) = some (nI (m + 2 ^ i * setB f r)) := by
  have hn := ok.1
  intro r
  induction r with
  | nil =>
    intro i fuel m hd hi hf hm
    obtain ⟨n, rfl⟩ : ∃ n, fuel = n + 1 := ⟨fuel - 1, by omega⟩
    have hi2 : b.1.length ≤ i := List.drop_eq_nil_iff.mp hd
    show f_X4_linesAt_5_b gR gB (f_X4_linesAt_5 gR gB n) p (nI m) (nI i) = _
    unfold f_X4_linesAt_5_b
    rw [hasLine_nI hB.1 hn (by omega), if_neg (c := i < b.1.length) (by omega), zbind_some, if_pos rfl, show setB f [] = 0 from rfl, Nat.mul_zero, Nat.add_zero]
    split <;> rfl
  | cons q r ih =>
    intro i fuel m hd hi hf hm
    obtain ⟨n, rfl⟩ : ∃ n, fuel = n + 1 := ⟨fuel - 1, by omega⟩
    obtain ⟨e1, e2, e3⟩ := drop_cons hd
    rw [List.length_cons] at hf
    obtain ⟨w1, w2, -⟩ := ray_at hr e2
    have cl : (nI i).toNatClampNeg = i := nI_clamp (by omega)
    have z8 : ∀ {β : Type} (k : Option β), zin (nI i) 8 k = k := fun k => zin_nI (by omega) (by decide)
    have yes : f q = true → f_X4_linesAt_87 gR gB (f_X4_linesAt_5 gR gB n) p (nI m) (nI i) = some (nI (m + 2 ^ i * setB f (q :: r))) := by
      intro h
      unfold f_X4_linesAt_87
      rw [nIs, or_bit (by omega) hm, ih (i + 1) n _ e3 (by omega) (by omega) (pw2 hm), setB_t h]
    have no : f q = false → f_X4_linesAt_5 gR gB n p (nI m) (nI i + 1) = some (nI (m + 2 ^ i * setB f (q :: r))) := by
      intro h
      rw [nIs, ih (i + 1) n _ e3 (by omega) (by omega) (pw2' hm), setB_f h]
    have k1 : f q = true → f_X4_linesAt_41 gR gB (f_X4_linesAt_5 gR gB n) p (nI m) (nI i) = some (nI (m + 2 ^ i * setB f (q :: r))) := by
      intro h
      unfold f_X4_linesAt_41 f_X4_linesAt_46 f_X4_linesAt_74 f_X4_linesAt_75
      rw [z8, z8]
      simp only [if_neg ne10, ite_self]
      exact yes h
    show f_X4_linesAt_5_b gR gB (f_X4_linesAt_5 gR gB n) p (nI m) (nI i) = _
    unfold f_X4_linesAt_5_b
    rw [if_neg (c := (8 : Int32) ≤ nI i) (by rw [l8 (by omega)]; omega), hasLine_nI hB.1 hn (by omega), if_pos e1, zbind_some, if_neg ne10]
    rcases bool_tf (cm b q) with hc | hc
    · rw [ray_yes hr ok e2 hc, zbind_some, if_neg ne10]
      exact k1 ((hf0 q).mpr (Or.inl (cm_t.mp hc)))
    · rw [ray_no hr ok e2 hc, zbind_some, if_pos rfl, z8, cl, w1]
      have hc' := cm_f.mp hc
      by_cases hp : (zE b q).1 ≤ p
      · rw [if_pos hp]
        unfold f_X4_linesAt_46 f_X4_linesAt_74 f_X4_linesAt_75
        rw [z8, z8, cl, w1, w2]
        by_cases h1 : (zE b q).1 = p
        · rw [if_pos h1]
          by_cases h2 : (zE b q).2.2.2 = 1
          · rw [if_pos h2, if_pos rfl, if_neg ne10]
            exact yes ((hf0 q).mpr (Or.inr (Or.inr ⟨h1, h2⟩)))
          · rw [if_neg h2, if_pos rfl, if_pos rfl]
            refine no ?_
            rcases bool_tf (f q) with h | h
            · rcases (hf0 q).mp h with h | h | h
              · exact absurd h hc'
              · exact absurd hp h
              · exact absurd h.2 h2
            · exact h
        · rw [if_neg h1, if_pos rfl, if_pos rfl]
          refine no ?_
          rcases bool_tf (f q) with h | h
          · rcases (hf0 q).mp h with h | h | h
            · exact absurd h hc'
            · exact absurd hp h
            · exact absurd h.1 h1
          · exact h
      · rw [if_neg hp]
        exact k1 ((hf0 q).mpr (Or.inr (Or.inl hp)))
theorem linesAt_ev {gB gR : zG} {b : zB} (hB : rB gB b) (ok : okB b) (hr : rayC gR b) {t : zTh} (ht : t ∈ b.2.1) : f_X4_linesAt gR gB t.1 = some (nI (setB (fun q => decide ((pth q.1 b.2.1 t.1).2.2.2 = 0)) b.1)) := by
  unfold f_X4_linesAt
  have hn := ok.1
  have hp : t.1 < 1000 := Int32.lt_of_le_of_lt (ok.2.2.2.2.2.1 t ht).2.1 (by decide)
  have := linesAt_loop hB ok hr t.1 (fun q => decide ((pth q.1 b.2.1 t.1).2.2.2 = 0)) (fun q => by
    rw [decide_eq_true_iff]
    exact split_ev q.1 t.1 hp b.2.1 0 0 0 ok.2.2.2.2.2.1 ok.2.2.2.2.2.2 ⟨t, ht, rfl⟩) b.1 0 zfuel 0 rfl (Nat.zero_le _) (by unfold zfuel; omega) (by decide)
  rw [Nat.zero_add, Nat.pow_zero, Nat.one_mul] at this
  exact this
theorem turn_ev {gB gM : zG} {b : zB} (hB : rB gB b) (ok : okB b) {k : Nat} {t : zTh} (ht : b.2.1[k]? = some t) : f_X6_turnOfThing gM gB (nI k) = some (if t.2.1 = 1 then -1000000004 else if t.2.2.2.2 = 1 then 1 else 2) := by
  have hk := (List.getElem?_eq_some_iff.mp ht).1
  have h8 := ok.2.1
  have hT := ok.2.2.2.2.2.1 t (List.mem_of_getElem? ht)
  obtain ⟨a1, a2, a3, a4, a5⟩ := hB.2.2.2.2 k t ht
  unfold f_X6_turnOfThing
  rw [hasThing_nI hB.2.1 h8 (by omega), if_pos hk, zbind_some, if_neg ne10, zin_nI (by omega) (by decide), zin_nI (by omega) (by decide), nI_clamp (by omega), a2]
  rcases hT.2.2 with h | h
  · rw [if_pos h.1, a5 h.1, if_neg (c := t.2.1 = 1) (by rw [h.1]; decide)]
    split <;> rfl
  · rw [if_neg (by rw [h.1]; decide), if_pos h.1]
theorem pm_thing {gB gX gY gN : zG} {h : Nat → Option zG} (hR : zRel gB gX gY h gN) (gM : zG) (gR : zG) (x1 x2 : Int32) : ∃ R R', f_X6_thing gM gB gR x1 x2 = some R ∧ f_X7_thing gN x1 x2 = some R' ∧ R.1 = R'.1 ∧ zRel gB gX gY h R'.2 := by
  obtain ⟨b, hs, tx, hA⟩ := zRel_abs hR
  have hA0 := hA
  obtain ⟨h1, h2, h3, h4, h5, h6, h7, h8, h9⟩ := hA
  have hn := h1.1
  have hn2 := h1.2.1
  unfold f_X6_thing f_X7_thing
  by_cases hx : x1 < 0
  · rw [if_pos hx, if_pos hx]
    exact ⟨_, _, rfl, rfl, rfl, hR⟩
  · rw [if_neg hx, if_neg hx, within_ev, zbind_some, ite_1, in_ev, zbind_some, ite_1]
    by_cases q : 0 ≤ x2 ∧ x2 ≤ 6
    · rw [if_pos q, if_pos q, z1 (by decide) (by decide), tn1, h4.2.1]
      obtain ⟨k, hk, rfl⟩ := nI_of hx
      rw [hasThing_nI h3.2.1 hn2 hk, zbind_some]
      by_cases hkl : k < b.2.1.length
      · rw [if_pos hkl, if_neg ne10, if_pos (c := nI k < nI b.2.1.length) ((nI_ltI hk (by omega)).mpr hkl)]
        obtain ⟨t, ht⟩ : ∃ t, b.2.1[k]? = some t := ⟨_, List.getElem?_eq_getElem hkl⟩
        have htm := List.mem_of_getElem? ht
        obtain ⟨gR', r1, r2⟩ := ray_follow h3 h1 gR
        obtain ⟨a1, a2, a3, a4, a5⟩ := h3.2.2.2.2 k t ht
        obtain ⟨m0, m1, m2, m3, m4⟩ := of_is h4 hn2 hkl
        have et : b.2.1.getD k (0, 0, 0, 0, 0) = t := by
          have := getD_some (d := ((0 : Int32), (0 : Int32), (0 : Int32), (0 : Int32), (0 : Int32))) hkl
          rw [ht] at this
          exact (Option.some.inj this).symm
        rw [et] at m0 m1 m2 m3 m4
        have z8 : ∀ {β : Type} (j : Option β), zin (nI k) 8 j = j := fun j => zin_nI (by omega) (by decide)
        have cl : (nI k).toNatClampNeg = k := nI_clamp hk
        have fin : ∀ (y : Int32), (∃ R R', (some (y, gR') : Option (Int32 × zG)) = some R ∧ (some (y, gN) : Option (Int32 × zG)) = some R' ∧ R.1 = R'.1 ∧ zRel gB gX gY h R'.2) := fun y => ⟨_, _, rfl, rfl, rfl, hR⟩
        rw [r1, zbind_some]
        rcases upto6 q with rfl | rfl | rfl | rfl | rfl | rfl | rfl
        · rw [if_pos rfl, z8, cl, a1, if_neg (by decide), if_neg (by decide), if_neg (by decide), m0, zbind_some]
          exact fin _
        · rw [if_neg (by decide), if_pos rfl, z8, cl, a2, if_neg (by decide), if_neg (by decide), if_neg (by decide), m1, zbind_some]
          exact fin _
        · rw [if_neg (by decide), if_neg (by decide), if_pos rfl, z8, cl, a3, if_neg (by decide), if_neg (by decide), if_neg (by decide), m2, zbind_some]
          exact fin _
        · rw [if_neg (by decide), if_neg (by decide), if_neg (by decide), if_pos rfl, z8, cl, a4, if_neg (by decide), if_neg (by decide), if_neg (by decide), m3, zbind_some]
          exact fin _
        · rw [if_neg (by decide), if_neg (by decide), if_neg (by decide), if_neg (by decide), if_pos rfl, turn_ev h3 h1 ht, zbind_some, if_pos rfl, m1, zbind_some, m4, zbind_some]
          by_cases hk1 : t.2.1 = 1
          · rw [if_pos hk1, if_pos hk1]
            exact fin _
          · rw [if_neg hk1, if_neg hk1]
            by_cases ht1 : t.2.2.2.2 = 1
            · rw [if_pos ht1, if_pos ht1]
              exact fin _
            · rw [if_neg ht1, if_neg ht1]
              exact fin _
        · obtain ⟨gN', c1, c2⟩ := coming_ev h1 (place_rng ⟨(h1.2.2.2.2.2.1 t htm).1, (h1.2.2.2.2.2.1 t htm).2.1⟩) h4
          rw [if_neg (by decide), if_neg (by decide), if_neg (by decide), if_neg (by decide), if_neg (by decide), if_pos rfl, z8, cl, a1, linesAt_ev h3 h1 r2 htm, zbind_some, if_neg (by decide), if_pos rfl, m0, zbind_some, c1, zbind_some]
          exact ⟨_, _, rfl, rfl, rfl, zAbs_rel (kp_abs hA0 c2)⟩
        · obtain ⟨gN', c1, c2⟩ := lostM_ev h1 t.1 h4
          rw [if_neg (by decide), if_neg (by decide), if_neg (by decide), if_neg (by decide), if_neg (by decide), if_neg (by decide), z8, cl, a1, lostC_ev h3 h1 r2, zbind_some, if_neg (by decide), if_neg (by decide), if_pos rfl, m0, zbind_some, c1, zbind_some]
          exact ⟨_, _, rfl, rfl, rfl, zAbs_rel (kp_abs hA0 c2)⟩
      · rw [if_neg hkl, if_pos rfl, if_neg (c := nI k < nI b.2.1.length) (fun h => hkl ((nI_ltI hk (by omega)).mp h))]
        exact ⟨_, _, rfl, rfl, rfl, hR⟩
    · rw [if_neg q, if_neg q]
      exact ⟨_, _, rfl, rfl, rfl, hR⟩
/-! ===== the spread ===== -/
def spF (b : zB) : List zL → Int32 → Int32 → Int32 × Int32
  | [], a, c => (a, c)
  | q :: r, a, c => if cm b q then spF b r (if (zE b q).2.1 < a then (zE b q).2.1 else a) (if c < (zE b q).2.1 then (zE b q).2.1 else c) else spF b r a c
theorem spF_t {b : zB} {q : zL} (h : cm b q = true) (r : List zL) (a c : Int32) : spF b (q :: r) a c = spF b r (if (zE b q).2.1 < a then (zE b q).2.1 else a) (if c < (zE b q).2.1 then (zE b q).2.1 else c) := by
  show (if cm b q then _ else _) = _
  rw [h, if_pos rfl]
theorem spF_f {b : zB} {q : zL} (h : cm b q = false) (r : List zL) (a c : Int32) : spF b (q :: r) a c = spF b r a c := by
  show (if cm b q then _ else _) = _
  rw [h, if_neg (by decide)]
theorem spF_eq (b : zB) : ∀ r : List zL, spF b r 999 (-999) = spF b r 1000 (-1000) ∨ (spF b r 999 (-999) = (999, -999) ∧ spF b r 1000 (-1000) = (1000, -1000)) := by
  intro r
  induction r with
  | nil => exact Or.inr ⟨rfl, rfl⟩
  | cons q r ih =>
    rcases bool_tf (cm b q) with hc | hc
    · left
      obtain ⟨h1, h2⟩ : -999 ≤ (zE b q).2.1 ∧ (zE b q).2.1 ≤ 999 := pth_rng (cm_t.mp hc)
      rw [spF_t hc, spF_t hc, if_pos (c := (zE b q).2.1 < 1000) (Int32.lt_of_le_of_lt h2 (by decide)), if_pos (c := -1000 < (zE b q).2.1) (Int32.lt_of_lt_of_le (by decide) h1)]
      have e1 : (if (zE b q).2.1 < 999 then (zE b q).2.1 else 999) = (zE b q).2.1 := by
        by_cases h : (zE b q).2.1 < 999
        · rw [if_pos h]
        · rw [if_neg h]; exact Int32.le_antisymm (inlt.mp h) h2
      have e2 : (if -999 < (zE b q).2.1 then (zE b q).2.1 else -999) = (zE b q).2.1 := by
        by_cases h : -999 < (zE b q).2.1
        · rw [if_pos h]
        · rw [if_neg h]; exact Int32.le_antisymm h1 (inlt.mp h)
      rw [e1, e2]
    · rw [spF_f hc, spF_f hc]
      exact ih
def sprd (b : zB) : Int32 := if (spF b b.1 999 (-999)).1 ≤ (spF b b.1 999 (-999)).2 then (spF b b.1 999 (-999)).2 - (spF b b.1 999 (-999)).1 else 0
theorem sprd_m (b : zB) : sprd b = if (spF b b.1 1000 (-1000)).1 ≤ (spF b b.1 1000 (-1000)).2 then (spF b b.1 1000 (-1000)).2 - (spF b b.1 1000 (-1000)).1 else 0 := by
  unfold sprd
  rcases spF_eq b b.1 with h | ⟨h, h'⟩
  · rw [h]
  · rw [h, h', if_neg (by decide), if_neg (by decide)]
theorem spC_loop {gR : zG} {b : zB} (ok : okB b) (hr : rayC gR b) : ∀ (r : List zL) (i fuel : Nat) (a c : Int32), b.1.drop i = r → i ≤ b.1.length → r.length < fuel → f_X4_spread_10 gR fuel a c (nI i) = some (if (spF b r a c).1 ≤ (spF b r a c).2 then (spF b r a c).2 - (spF b r a c).1 else 0) := by
  have hn := ok.1
  intro r
  induction r with
  | nil =>
    intro i fuel a c hd hi hf
    obtain ⟨n, rfl⟩ : ∃ n, fuel = n + 1 := ⟨fuel - 1, by omega⟩
    have hi2 : b.1.length ≤ i := List.drop_eq_nil_iff.mp hd
    have e : f_X4_spread_60 gR a c = some (if (spF b [] a c).1 ≤ (spF b [] a c).2 then (spF b [] a c).2 - (spF b [] a c).1 else 0) := by
      unfold f_X4_spread_60 spF
      simp only
      split <;> rfl
    show f_X4_spread_10_b gR (f_X4_spread_10 gR n) a c (nI i) = _
    unfold f_X4_spread_10_b
    rw [has_nI hr.2 hn (by omega), if_neg (c := i < b.1.length) (by omega), zbind_some, if_pos rfl, e]
    split <;> rfl
  | cons q r ih =>
    intro i fuel a c hd hi hf
    obtain ⟨n, rfl⟩ : ∃ n, fuel = n + 1 := ⟨fuel - 1, by omega⟩
    obtain ⟨e1, e2, e3⟩ := drop_cons hd
    rw [List.length_cons] at hf
    show f_X4_spread_10_b gR (f_X4_spread_10 gR n) a c (nI i) = _
    unfold f_X4_spread_10_b
    rw [if_neg (c := (8 : Int32) ≤ nI i) (by rw [l8 (by omega)]; omega), has_nI hr.2 hn (by omega), if_pos e1, zbind_some, if_neg ne10, nIs]
    rcases bool_tf (cm b q) with hc | hc
    · rw [ray_yes hr ok e2 hc, zbind_some, if_neg ne10, zin_nI (by omega) (by decide), zin_nI (by omega) (by decide), nI_clamp (by omega), ((ray_at hr e2).2.2 hc).1, ih (i + 1) n _ _ e3 (by omega) (by omega), spF_t hc]
    · rw [ray_no hr ok e2 hc, zbind_some, if_pos rfl, ih (i + 1) n _ _ e3 (by omega) (by omega), spF_f hc]
theorem spC_ev {gR : zG} {b : zB} (ok : okB b) (hr : rayC gR b) : f_X4_spread gR = some (sprd b) := by
  unfold f_X4_spread sprd
  have hn := ok.1
  exact spC_loop ok hr b.1 0 zfuel 999 (-999) rfl (Nat.zero_le _) (by unfold zfuel; omega)
theorem spM_loop {b : zB} (ok : okB b) : ∀ (r : List zL) (i fuel : Nat) (a c : Int32) (g : zG), rS (g 0) b → b.1.drop i = r → i ≤ b.1.length → r.length < fuel → ∃ g', f_X7_spread_10 fuel a c (nI i) g = some (if (spF b r a c).1 ≤ (spF b r a c).2 then (spF b r a c).2 - (spF b r a c).1 else 0, g') ∧ kp g g' := by
  have hn := ok.1
  intro r
  induction r with
  | nil =>
    intro i fuel a c g hS hd hi hf
    obtain ⟨n, rfl⟩ : ∃ n, fuel = n + 1 := ⟨fuel - 1, by omega⟩
    have hi2 : b.1.length ≤ i := List.drop_eq_nil_iff.mp hd
    refine ⟨g, ?_, kp_rf g⟩
    show f_X7_spread_10_b (f_X7_spread_10 n) a c (nI i) g = _
    unfold f_X7_spread_10_b spF
    rw [z0 (by decide) (by decide), tn0, hS.1, if_pos ((nI_leI (by omega) (by omega)).mpr hi2)]
    simp only
    split <;> rfl
  | cons q r ih =>
    intro i fuel a c g hS hd hi hf
    obtain ⟨n, rfl⟩ : ∃ n, fuel = n + 1 := ⟨fuel - 1, by omega⟩
    obtain ⟨e1, e2, e3⟩ := drop_cons hd
    rw [List.length_cons] at hf
    obtain ⟨g1, k1, k2⟩ := follows_ev hS ok e2 (u := 1000) (by decide)
    have hS1 : rS (g1 0) b := by rw [kp_0 k2.1]; exact hS
    have key := fun a c => ih (i + 1) n a c g1 hS1 e3 (by omega) (by omega)
    show ∃ g', f_X7_spread_10_b (f_X7_spread_10 n) a c (nI i) g = _ ∧ _
    unfold f_X7_spread_10_b f_X7_spread_50 f_X7_spread_51
    rw [z0 (by decide) (by decide), tn0, hS.1, if_neg (fun q => by have := (nI_leI (by omega) (by omega)).mp q; omega), k1, zbind_some, nIs, k2.2.2.2.2, k2.2.2.1]
    have ez : pth q.1 b.2.1 1000 = zE b q := rfl
    rw [ez]
    rcases bool_tf (cm b q) with hc | hc
    · rw [if_pos (cm_t.mp hc), if_pos (cm_t.mp hc), if_pos (cm_t.mp hc), spF_t hc]
      obtain ⟨g', j1, j2⟩ := key (if (zE b q).2.1 < a then (zE b q).2.1 else a) (if c < (zE b q).2.1 then (zE b q).2.1 else c)
      refine ⟨g', ?_, kp_tr k2.1 j2⟩
      rw [← j1]
      by_cases ha : (zE b q).2.1 < a
      · rw [if_neg (inle.mpr ha), if_pos ha]
        by_cases hcc : c < (zE b q).2.1
        · rw [if_neg (inle.mpr hcc), if_pos hcc]
        · rw [if_pos (inlt.mp hcc), if_neg hcc]
      · rw [if_pos (inlt.mp ha), if_neg ha]
        by_cases hcc : c < (zE b q).2.1
        · rw [if_neg (inle.mpr hcc), if_pos hcc]
        · rw [if_pos (inlt.mp hcc), if_neg hcc]
    · rw [if_neg (cm_f.mp hc), if_neg (cm_f.mp hc), spF_f hc]
      obtain ⟨g', j1, j2⟩ := key a c
      exact ⟨g', j1, kp_tr k2.1 j2⟩
theorem spM_ev {b : zB} (ok : okB b) {g : zG} (hS : rS (g 0) b) : ∃ g', f_X7_spread g = some (sprd b, g') ∧ kp g g' := by
  unfold f_X7_spread
  have hn := ok.1
  rw [sprd_m]
  exact spM_loop ok b.1 0 zfuel 1000 (-1000) g hS rfl (Nat.zero_le _) (by unfold zfuel; omega)
