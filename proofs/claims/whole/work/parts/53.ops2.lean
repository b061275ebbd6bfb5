/-! ===== moves, the setting, undo, and what needs no rays ===== -/
def mvB (b : zB) (k : Nat) (to : Int32) : zB := (b.1, insT (to, (b.2.1.getD k (0, 0, 0, 0, 0)).2) (b.2.1.eraseIdx k), b.2.2)
theorem mvB_ok {b : zB} (ok : okB b) {k : Nat} (hk : k < b.2.1.length) {to : Int32} (ht : 1 ≤ to ∧ to ≤ 999) (hf : fidx to (b.2.1.eraseIdx k) = none) : okB (mvB b k to) := by
  have ok1 := okB_del ok k
  obtain ⟨a1, a2, a3, a4, a5, a6, a7⟩ := ok1
  have hT := ok.2.2.2.2.2.1 _ (List.mem_of_getElem? (getD_some (d := ((0 : Int32), (0 : Int32), (0 : Int32), (0 : Int32), (0 : Int32))) hk))
  refine ⟨a1, ?_, a3, a4, a5, ?_, pw_ins _ a7 hf⟩
  · show (insT _ _).length ≤ 8
    have := ok.2.1
    rw [insT_len, List.length_eraseIdx_of_lt hk]; omega
  · intro q hq
    rcases mem_ins hq with rfl | hq
    · exact ⟨ht.1, ht.2, hT.2.2⟩
    · exact a6 q hq
theorem of_is {g : zG} {b : zB} (hS : rS (g 0) b) {k : Nat} (h8 : b.2.1.length ≤ 8) (hk : k < b.2.1.length) : f_X7_of g (nI k) (0 : Int32) = some (b.2.1.getD k (0, 0, 0, 0, 0)).1 ∧ f_X7_of g (nI k) (1 : Int32) = some (b.2.1.getD k (0, 0, 0, 0, 0)).2.1 ∧ f_X7_of g (nI k) (2 : Int32) = some (b.2.1.getD k (0, 0, 0, 0, 0)).2.2.1 ∧ f_X7_of g (nI k) (3 : Int32) = some (b.2.1.getD k (0, 0, 0, 0, 0)).2.2.2.1 ∧ f_X7_of g (nI k) (4 : Int32) = some (b.2.1.getD k (0, 0, 0, 0, 0)).2.2.2.2 := by
  obtain ⟨h1, h2, h3, h4, h5⟩ := hS.2.2.2.2 k _ (getD_some (d := ((0 : Int32), (0 : Int32), (0 : Int32), (0 : Int32), (0 : Int32))) hk)
  have k8 : k < 8 := by omega
  refine ⟨(of_ev (j := 0) k8 (by omega)).trans (congrArg some h1), (of_ev (j := 1) k8 (by omega)).trans (congrArg some h2), (of_ev (j := 2) k8 (by omega)).trans (congrArg some h3), (of_ev (j := 3) k8 (by omega)).trans (congrArg some h4), (of_ev (j := 4) k8 (by omega)).trans (congrArg some h5)⟩
theorem moves_ev {g : zG} {b : zB} (hS : rS (g 0) b) (ok : okB b) {k : Nat} (hk : k < b.2.1.length) {to : Int32} (hf : fidx to (b.2.1.eraseIdx k) = none) : ∃ g', f_X7_moves g (nI k) to = some (nI (nah to (b.2.1.eraseIdx k)), g') ∧ (∀ j, j ≠ 0 → g' j = g j) ∧ rS (g' 0) (mvB b k to) := by
  obtain ⟨h0, h1, h2, h3, h4⟩ := of_is hS ok.2.1 hk
  have ok1 := okB_del ok k
  have hl := List.length_eraseIdx_of_lt hk
  have hn := ok.2.1
  unfold f_X7_moves
  rw [h1, zbind_some, h2, zbind_some, h3, zbind_some, h4, zbind_some, takesOut_ev hS ok.2.1 hk, zbind_some]
  have r1 : rS ((gset g 0 (mvD (upd (g 0) 1 (nI (b.2.1.length - 1))) (19 + 5 * k) (19 + 5 * (b.2.1.length - 1)))) 0) (b.1, b.2.1.eraseIdx k, b.2.2) := by
    rw [gset_same]
    exact repS_del hS ok.1 hk
  have hk1 : ∀ j, j ≠ 0 → (gset g 0 (mvD (upd (g 0) 1 (nI (b.2.1.length - 1))) (19 + 5 * k) (19 + 5 * (b.2.1.length - 1)))) j = g j := fun j hj => gset_ne _ _ hj
  generalize gset g 0 (mvD (upd (g 0) 1 (nI (b.2.1.length - 1))) (19 + 5 * k) (19 + 5 * (b.2.1.length - 1))) = g1 at r1 hk1
  have hna := nah_le to (b.2.1.eraseIdx k)
  rw [opens_ev r1 (by show (b.2.1.eraseIdx k).length < 8; omega) (srt_of ok1.2.2.2.2.2.2) (fidx_none hf), zbind_some]
  have r2 := repS_ins r1 ok1.1 (by show (b.2.1.eraseIdx k).length < 8; omega) (to, (b.2.1.getD k (0, 0, 0, 0, 0)).2)
  have es := sets_ev (g := gup (gset g1 0 (mvU (g1 0) (19 + 5 * nah to (b.2.1.eraseIdx k)) (19 + 5 * (b.2.1.eraseIdx k).length))) 0 1 (nI ((b.2.1.eraseIdx k).length + 1))) (k := nah to (b.2.1.eraseIdx k)) (by omega) (to, (b.2.1.getD k (0, 0, 0, 0, 0)).2)
  simp only at es ⊢
  rw [es, zbind_some]
  refine ⟨_, rfl, ?_, ?_⟩
  · intro j hj
    rw [gset_ne _ _ hj, gup_ne _ _ _ hj, gset_ne _ _ hj, hk1 j hj]
  · rw [gset_same, gup_same, gset_same]
    exact r2
def aMove (p to : Int32) (b : zB) : Int32 × Option zB := match fidx p b.2.1 with
  | none => (INV, none)
  | some k => if 1 ≤ to ∧ to ≤ 999 then (match fidx to b.2.1 with
    | some _ => (NPO, none)
    | none => (nI (nah to (b.2.1.eraseIdx k)), some (mvB b k to))) else (INV, none)
theorem aMove_cases (p to : Int32) (b : zB) : (fidx p b.2.1 = none ∧ aMove p to b = (INV, none)) ∨ (∃ k, fidx p b.2.1 = some k ∧ ((¬ (1 ≤ to ∧ to ≤ 999) ∧ aMove p to b = (INV, none)) ∨ ((1 ≤ to ∧ to ≤ 999) ∧ (fidx to b.2.1).isSome ∧ aMove p to b = (NPO, none)) ∨ ((1 ≤ to ∧ to ≤ 999) ∧ fidx to b.2.1 = none ∧ aMove p to b = (nI (nah to (b.2.1.eraseIdx k)), some (mvB b k to))))) := by
  unfold aMove
  cases hf : fidx p b.2.1 with
  | none => exact Or.inl ⟨rfl, rfl⟩
  | some k =>
    refine Or.inr ⟨k, rfl, ?_⟩
    by_cases q : 1 ≤ to ∧ to ≤ 999
    · simp only [if_pos q]
      cases hf2 : fidx to b.2.1 with
      | none => exact Or.inr (Or.inr ⟨q, rfl, rfl⟩)
      | some k2 => exact Or.inr (Or.inl ⟨q, rfl, rfl⟩)
    · simp only [if_neg q]
      exact Or.inl ⟨q, trivial⟩
theorem aMove_ok {p to : Int32} {b b' : zB} (ok : okB b) (h : (aMove p to b).2 = some b') : okB b' := by
  rcases aMove_cases p to b with ⟨_, e⟩ | ⟨k, hk, ⟨_, e⟩ | ⟨_, _, e⟩ | ⟨h1, h2, e⟩⟩ <;> rw [e] at h <;> cases h
  exact mvB_ok ok (fidx_lt hk) h1 (fidx_erase k h2)
theorem cMove (p to : Int32) {b : zB} (ok : okB b) : opC (fun g => f_X0_moveThing g p to) b (aMove p to b) := by
  intro g hg
  have hn := ok.2.1
  rcases aMove_cases p to b with ⟨c1, e⟩ | ⟨k, hk, c⟩
  · rcases moveThing_ev hg hn p to with ⟨_, h2⟩ | ⟨k, t, h1, _⟩
    · rw [e]; exact ⟨g, h2, INV_neg⟩
    · rw [c1] at h1; cases h1
  · have hkl := fidx_lt hk
    rcases moveThing_ev hg hn p to with ⟨h1, _⟩ | ⟨k', t, h1, ht, h2⟩
    · rw [hk] at h1; cases h1
    · rw [hk] at h1
      cases h1
      have et : t = b.2.1.getD k (0, 0, 0, 0, 0) := by
        have := getD_some (d := ((0 : Int32), (0 : Int32), (0 : Int32), (0 : Int32), (0 : Int32))) hkl
        rw [ht] at this
        exact Option.some.inj this
      subst et
      rcases c with ⟨c1, e⟩ | ⟨c1, c2, e⟩ | ⟨c1, c2, e⟩
      · rcases h2 with ⟨_, h3⟩ | ⟨h3, _⟩ | ⟨h3, _⟩
        · rw [e]; exact ⟨g, h3, INV_neg⟩
        · exact absurd h3 c1
        · exact absurd h3 c1
      · rcases h2 with ⟨h3, _⟩ | ⟨_, _, h3⟩ | ⟨_, h3, _⟩
        · exact absurd c1 h3
        · rw [e]; exact ⟨g, h3, NPO_neg⟩
        · rw [h3] at c2; cases c2
      · rcases h2 with ⟨h3, _⟩ | ⟨_, h3, _⟩ | ⟨_, _, g', h3, h4⟩
        · exact absurd c1 h3
        · rw [c2] at h3; cases h3
        · have hna := nah_le to (b.2.1.eraseIdx k)
          have hl := List.length_eraseIdx_of_lt hkl
          rw [e]; exact ⟨g', h3, nI_pos (by omega), h4⟩
theorem mMove (p to : Int32) {b : zB} (ok : okB b) : opM (fun g => f_X7_move g p to) b (aMove p to b) := by
  intro g g1 hS hc h0
  have hn := ok.2.1
  have e1 : f_X7_move g p to = zbind (some (ix (fidx p b.2.1) NFO)) (fun R1 => (if R1 < 0 then (some ((-1000000001 : Int32), g)) else (if ¬ (1 ≤ to ∧ to ≤ 999) then (some ((-1000000001 : Int32), g)) else (if ix (fidx to b.2.1) NFO < 0 then (zbind (f_X7_moves g1 R1 to) (fun R8 => (some (R8.1, R8.2)))) else (some ((-1000000002 : Int32), g)))))) := by
    unfold f_X7_move
    rw [at_ev hS hn, zbind_some, zbind_some, isPlace_ev, zbind_some, ite_1, at_ev hS hn, zbind_some, hc, zbind_some]
    split
    · rfl
    · by_cases q : 1 ≤ to ∧ to ≤ 999
      · rw [if_pos q, if_neg (c := ¬ (1 ≤ to ∧ to ≤ 999)) (fun h => h q)]
      · rw [if_neg q, if_pos (c := ¬ (1 ≤ to ∧ to ≤ 999)) q]
  rw [zbind_some] at e1
  rcases aMove_cases p to b with ⟨c1, e⟩ | ⟨k, hk, c⟩
  · rw [e]
    show f_X7_move g p to = _
    rw [e1, c1, if_pos (show ix none NFO < 0 from by decide)]
    rfl
  · have hkl := fidx_lt hk
    rw [hk, show ix (some k) NFO = nI k from rfl, if_neg (nI_pos (by omega))] at e1
    rcases c with ⟨c1, e⟩ | ⟨c1, c2, e⟩ | ⟨c1, c2, e⟩
    · rw [e]
      show f_X7_move g p to = _
      rw [e1, if_pos c1]
      rfl
    · obtain ⟨k2, hk2⟩ := Option.isSome_iff_exists.mp c2
      have := fidx_lt hk2
      rw [e]
      show f_X7_move g p to = _
      rw [e1, if_neg (fun h => h c1), hk2, show ix (some k2) NFO = nI k2 from rfl, if_neg (nI_pos (by omega))]
      rfl
    · obtain ⟨g', h1, h2, h3⟩ := moves_ev (g := g1) (by rw [h0]; exact hS) ok hkl (fidx_erase k c2)
      rw [e]
      show ∃ g', f_X7_move g p to = _ ∧ _
      refine ⟨g', ?_, h2, h3⟩
      rw [e1, if_neg (fun h => h c1), c2, if_pos (show ix none NFO < 0 from by decide), zbind_eta, h1]
-- the setting
def aSet (x v : Int32) (b : zB) : Int32 × Option zB := if x = 0 ∧ 1 ≤ v ∧ v ≤ 500 then (b.2.2, some (b.1, b.2.1, v)) else (INV, none)
theorem aSet_ok {x v : Int32} {b b' : zB} (ok : okB b) (h : (aSet x v b).2 = some b') : okB b' := by
  unfold aSet at h
  split at h
  · rename_i hq
    cases h
    obtain ⟨a1, a2, a3, a4, a5, a6, a7⟩ := ok
    exact ⟨a1, a2, hq.2.1, hq.2.2, a5, a6, a7⟩
  · cases h
theorem cSet (x v : Int32) {b : zB} (ok : okB b) : opC (fun g => f_X0_changeSetting g x v) b (aSet x v b) := by
  intro g hg
  show ∃ g', f_X0_changeSetting g x v = some ((aSet x v b).1, g') ∧ (match (aSet x v b).2 with
    | none => (aSet x v b).1 < 0
    | some b' => ¬ (aSet x v b).1 < 0 ∧ rB g' b')
  unfold f_X0_changeSetting
  rw [within_ev, zbind_some, ite_1]
  by_cases q1 : x = 0
  · rw [if_pos q1]
    by_cases q2 : 1 ≤ v ∧ v ≤ 500
    · have e : aSet x v b = (b.2.2, some (b.1, b.2.1, v)) := if_pos ⟨q1, q2⟩
      rw [if_pos q2, e, zlet_eq, hg.2.2.1]
      refine ⟨_, rfl, ?_, ?_, ?_, ?_, ?_, ?_⟩
      · have h1 := ok.2.2.1
        show ¬ b.2.2 < 0
        rw [ilt]; rw [ile] at h1
        have e1 : (1 : Int32).toInt = 1 := rfl
        have e0 : (0 : Int32).toInt = 0 := rfl
        omega
      · simpa [gup] using hg.1
      · simpa [gup] using hg.2.1
      · simp [gup, upd]
      · intro i t ht
        simpa [gup] using hg.2.2.2.1 i t ht
      · intro i t ht
        simpa [gup] using hg.2.2.2.2 i t ht
    · have e : aSet x v b = (INV, none) := if_neg (fun q => q2 q.2)
      rw [if_neg q2, e]
      exact ⟨g, rfl, INV_neg⟩
  · have e : aSet x v b = (INV, none) := if_neg (fun q => q1 q.1)
    rw [if_neg q1, e]
    exact ⟨g, rfl, INV_neg⟩
theorem mSet (x v : Int32) {b : zB} (ok : okB b) : opM (fun g => f_X7_set g x v) b (aSet x v b) := by
  intro g g1 hS hc h0
  show match (aSet x v b).2 with
    | none => f_X7_set g x v = some ((aSet x v b).1, g)
    | some b' => ∃ g', f_X7_set g x v = some ((aSet x v b).1, g') ∧ (∀ j, j ≠ 0 → g' j = g1 j) ∧ rS (g' 0) b'
  unfold f_X7_set
  rw [in_ev, zbind_some, ite_1]
  by_cases q1 : x = 0
  · rw [if_pos q1]
    by_cases q2 : 1 ≤ v ∧ v ≤ 500
    · have e : aSet x v b = (b.2.2, some (b.1, b.2.1, v)) := if_pos ⟨q1, q2⟩
      rw [if_pos q2, e, hc, zbind_some, z2 (by decide) (by decide), z2 (by decide) (by decide), zlet_eq, tn2, h0, hS.2.2.1]
      refine ⟨_, rfl, ?_, ?_, ?_, ?_, ?_, ?_⟩
      · intro j hj
        exact gup_ne _ _ _ hj
      · rw [gup_same, h0]; exact hS.1
      · rw [gup_same, h0]; exact hS.2.1
      · rw [gup_same]; simp [upd]
      · intro i t ht
        have hi := (List.getElem?_eq_some_iff.mp ht).1
        rw [gup_same, pk_un (by omega), pk_un (by omega), h0]
        exact hS.2.2.2.1 i t ht
      · intro i t ht
        rw [gup_same, pk_un (by omega), pk_un (by omega), pk_un (by omega), pk_un (by omega), pk_un (by omega), h0]
        exact hS.2.2.2.2 i t ht
    · have e : aSet x v b = (INV, none) := if_neg (fun q => q2 q.2)
      rw [if_neg q2, e]
      rfl
  · have e : aSet x v b = (INV, none) := if_neg (fun q => q1 q.1)
    rw [if_neg q1, e]
    rfl
theorem pm_line {gB gX gY gN : zG} {h : Nat → Option zG} (hR : zRel gB gX gY h gN) (gM : zG) (gT : zG) (x1 x2 : Int32) : ∃ R R', f_X6_line gM gB gT gY h x1 x2 = some R ∧ f_X7_line gN x1 x2 = some R' ∧ R.1 = R'.1 ∧ zRel R.2.1 gX R.2.2.2.1 R.2.2.2.2 R'.2 :=
  pm_chg hR gM gT (fun _ ok => cLine x1 x2 ok) (fun _ ok => mLine x1 x2 ok) (fun _ ok _ h => aLine_ok ok h)
theorem pm_dim {gB gX gY gN : zG} {h : Nat → Option zG} (hR : zRel gB gX gY h gN) (gM : zG) (gT : zG) (x1 x2 : Int32) : ∃ R R', f_X6_dim gM gB gT gY h x1 x2 = some R ∧ f_X7_dim gN x1 x2 = some R' ∧ R.1 = R'.1 ∧ zRel R.2.1 gX R.2.2.2.1 R.2.2.2.2 R'.2 :=
  pm_chg hR gM gT (fun _ ok => cDim x1 x2 ok) (fun _ ok => mDim x1 x2 ok) (fun _ ok _ h => aDim_ok ok h)
theorem pm_prism {gB gX gY gN : zG} {h : Nat → Option zG} (hR : zRel gB gX gY h gN) (gM : zG) (gT : zG) (x1 x2 x3 x4 : Int32) : ∃ R R', f_X6_prism gM gB gT gY h x1 x2 x3 x4 = some R ∧ f_X7_prism gN x1 x2 x3 x4 = some R' ∧ R.1 = R'.1 ∧ zRel R.2.1 gX R.2.2.2.1 R.2.2.2.2 R'.2 :=
  pm_chg hR gM gT (fun _ ok => cPrism x1 x2 x3 x4 ok) (fun _ ok => mPrism x1 x2 x3 x4 ok) (fun _ ok _ h => aPrism_ok ok h)
theorem pm_slit {gB gX gY gN : zG} {h : Nat → Option zG} (hR : zRel gB gX gY h gN) (gM : zG) (gT : zG) (x1 x2 x3 : Int32) : ∃ R R', f_X6_slit gM gB gT gY h x1 x2 x3 = some R ∧ f_X7_slit gN x1 x2 x3 = some R' ∧ R.1 = R'.1 ∧ zRel R.2.1 gX R.2.2.2.1 R.2.2.2.2 R'.2 :=
  pm_chg hR gM gT (fun _ ok => cSlit x1 x2 x3 ok) (fun _ ok => mSlit x1 x2 x3 ok) (fun _ ok _ h => aSlit_ok ok h)
theorem pm_take {gB gX gY gN : zG} {h : Nat → Option zG} (hR : zRel gB gX gY h gN) (gM : zG) (gT : zG) (x1 : Int32) : ∃ R R', f_X6_take gM gB gT gY h x1 = some R ∧ f_X7_take gN x1 = some R' ∧ R.1 = R'.1 ∧ zRel R.2.1 gX R.2.2.2.1 R.2.2.2.2 R'.2 :=
  pm_chg hR gM gT (fun _ ok => cTake x1 ok) (fun _ ok => mTake x1 ok) (fun _ ok _ h => aTake_ok ok h)
theorem pm_move {gB gX gY gN : zG} {h : Nat → Option zG} (hR : zRel gB gX gY h gN) (gM : zG) (gT : zG) (x1 x2 : Int32) : ∃ R R', f_X6_move gM gB gT gY h x1 x2 = some R ∧ f_X7_move gN x1 x2 = some R' ∧ R.1 = R'.1 ∧ zRel R.2.1 gX R.2.2.2.1 R.2.2.2.2 R'.2 :=
  pm_chg hR gM gT (fun _ ok => cMove x1 x2 ok) (fun _ ok => mMove x1 x2 ok) (fun _ ok _ h => aMove_ok ok h)
theorem pm_set {gB gX gY gN : zG} {h : Nat → Option zG} (hR : zRel gB gX gY h gN) (gM : zG) (gT : zG) (x1 x2 : Int32) : ∃ R R', f_X6_set gM gB gT gY h x1 x2 = some R ∧ f_X7_set gN x1 x2 = some R' ∧ R.1 = R'.1 ∧ zRel R.2.1 gX R.2.2.2.1 R.2.2.2.2 R'.2 :=
  pm_chg hR gM gT (fun _ ok => cSet x1 x2 ok) (fun _ ok => mSet x1 x2 ok) (fun _ ok _ h => aSet_ok ok h)
