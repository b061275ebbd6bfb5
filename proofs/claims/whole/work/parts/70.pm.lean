theorem pm_line {gB gX gY gN : zG} {h : Nat → Option zG} (hR : zRel gB gX gY h gN) (gM : zG) (gT : zG) (x1 x2 : Int32) : ∃ R R', f_X6_line gM gB gT gY h x1 x2 = some R ∧ f_X7_line gN x1 x2 = some R' ∧ R.1 = R'.1 ∧ zRel R.2.1 gX R.2.2.2.1 R.2.2.2.2 R'.2 := by
  sorry
theorem pm_dim {gB gX gY gN : zG} {h : Nat → Option zG} (hR : zRel gB gX gY h gN) (gM : zG) (gT : zG) (x1 x2 : Int32) : ∃ R R', f_X6_dim gM gB gT gY h x1 x2 = some R ∧ f_X7_dim gN x1 x2 = some R' ∧ R.1 = R'.1 ∧ zRel R.2.1 gX R.2.2.2.1 R.2.2.2.2 R'.2 := by
  sorry
theorem pm_prism {gB gX gY gN : zG} {h : Nat → Option zG} (hR : zRel gB gX gY h gN) (gM : zG) (gT : zG) (x1 x2 x3 x4 : Int32) : ∃ R R', f_X6_prism gM gB gT gY h x1 x2 x3 x4 = some R ∧ f_X7_prism gN x1 x2 x3 x4 = some R' ∧ R.1 = R'.1 ∧ zRel R.2.1 gX R.2.2.2.1 R.2.2.2.2 R'.2 := by
  sorry
theorem pm_slit {gB gX gY gN : zG} {h : Nat → Option zG} (hR : zRel gB gX gY h gN) (gM : zG) (gT : zG) (x1 x2 x3 : Int32) : ∃ R R', f_X6_slit gM gB gT gY h x1 x2 x3 = some R ∧ f_X7_slit gN x1 x2 x3 = some R' ∧ R.1 = R'.1 ∧ zRel R.2.1 gX R.2.2.2.1 R.2.2.2.2 R'.2 := by
  sorry
theorem pm_take {gB gX gY gN : zG} {h : Nat → Option zG} (hR : zRel gB gX gY h gN) (gM : zG) (gT : zG) (x1 : Int32) : ∃ R R', f_X6_take gM gB gT gY h x1 = some R ∧ f_X7_take gN x1 = some R' ∧ R.1 = R'.1 ∧ zRel R.2.1 gX R.2.2.2.1 R.2.2.2.2 R'.2 := by
  sorry
theorem pm_move {gB gX gY gN : zG} {h : Nat → Option zG} (hR : zRel gB gX gY h gN) (gM : zG) (gT : zG) (x1 x2 : Int32) : ∃ R R', f_X6_move gM gB gT gY h x1 x2 = some R ∧ f_X7_move gN x1 x2 = some R' ∧ R.1 = R'.1 ∧ zRel R.2.1 gX R.2.2.2.1 R.2.2.2.2 R'.2 := by
  sorry
theorem pm_set {gB gX gY gN : zG} {h : Nat → Option zG} (hR : zRel gB gX gY h gN) (gM : zG) (gT : zG) (x1 x2 : Int32) : ∃ R R', f_X6_set gM gB gT gY h x1 x2 = some R ∧ f_X7_set gN x1 x2 = some R' ∧ R.1 = R'.1 ∧ zRel R.2.1 gX R.2.2.2.1 R.2.2.2.2 R'.2 := by
  sorry
theorem pm_lineOf {gB gX gY gN : zG} {h : Nat → Option zG} (hR : zRel gB gX gY h gN) (gM : zG) (gR : zG) (x1 x2 : Int32) : ∃ R R', f_X6_lineOf gM gB gR x1 x2 = some R ∧ f_X7_lineOf gN x1 x2 = some R' ∧ R.1 = R'.1 ∧ zRel gB gX gY h R'.2 := by
  sorry
theorem pm_thing {gB gX gY gN : zG} {h : Nat → Option zG} (hR : zRel gB gX gY h gN) (gM : zG) (gR : zG) (x1 x2 : Int32) : ∃ R R', f_X6_thing gM gB gR x1 x2 = some R ∧ f_X7_thing gN x1 x2 = some R' ∧ R.1 = R'.1 ∧ zRel gB gX gY h R'.2 := by
  sorry
theorem pm_height {gB gX gY gN : zG} {h : Nat → Option zG} (hR : zRel gB gX gY h gN) (gM : zG) (gR : zG) (x1 x2 : Int32) : ∃ R R', f_X6_height gM gB gR x1 x2 = some R ∧ f_X7_height gN x1 x2 = some R' ∧ R.1 = R'.1 ∧ zRel gB gX gY h R'.2 := by
  sorry
theorem pm_light {gB gX gY gN : zG} {h : Nat → Option zG} (hR : zRel gB gX gY h gN) (gM : zG) (gR : zG) (gC : zG) (x1 : Int32) : ∃ R R', f_X6_light gM gB gR gC x1 = some R ∧ f_X7_light gN x1 = some R' ∧ R.1 = R'.1 ∧ zRel gB gX gY h R'.2 := by
  sorry
theorem pm_bright {gB gX gY gN : zG} {h : Nat → Option zG} (hR : zRel gB gX gY h gN) (gM : zG) (gR : zG) (gC : zG) (x1 x2 : Int32) : ∃ R R', f_X6_bright gM gB gR gC x1 x2 = some R ∧ f_X7_bright gN x1 x2 = some R' ∧ R.1 = R'.1 ∧ zRel gB gX gY h R'.2 := by
  sorry
theorem pm_bending {gB gX gY gN : zG} {h : Nat → Option zG} (hR : zRel gB gX gY h gN) (gM : zG) (x1 x2 : Int32) : ∃ R R', f_X6_bending gM x1 x2 = some R ∧ f_X7_bending gN x1 x2 = some R' ∧ R = R' ∧ zRel gB gX gY h gN := by
  sorry
theorem pm_best {gB gX gY gN : zG} {h : Nat → Option zG} (hR : zRel gB gX gY h gN) (gM : zG) (gT : zG) (gR : zG) (gH : zG) (x1 x2 : Int32) : ∃ R R', f_X6_best gM gB gT gR gH x1 x2 = some R ∧ f_X7_best gN x1 x2 = some R' ∧ R.1 = R'.1 ∧ zRel gB gX gY h R'.2 := by
  sorry
theorem pm_alone {gB gX gY gN : zG} {h : Nat → Option zG} (hR : zRel gB gX gY h gN) (gM : zG) (gR : zG) (x1 x2 : Int32) : ∃ R R', f_X6_alone gM gB gR x1 x2 = some R ∧ f_X7_alone gN x1 x2 = some R' ∧ R.1 = R'.1 ∧ zRel gB gX gY h R'.2 := by
  sorry
theorem pm_tuned {gB gX gY gN : zG} {h : Nat → Option zG} (hR : zRel gB gX gY h gN) (gM : zG) (gT : zG) (gR : zG) (gH : zG) (x1 : Int32) : ∃ R R', f_X6_tuned gM gB gT gR gH x1 = some R ∧ f_X7_tuned gN x1 = some R' ∧ R.1 = R'.1 ∧ zRel gB gX gY h R'.2 := by
  sorry
theorem pm_share {gB gX gY gN : zG} {h : Nat → Option zG} (hR : zRel gB gX gY h gN) (gM : zG) (gR : zG)  : ∃ R R', f_X6_share gM gB gR  = some R ∧ f_X7_share gN  = some R' ∧ R.1 = R'.1 ∧ zRel gB gX gY h R'.2 := by
  sorry
theorem pm_count {gB gX gY gN : zG} {h : Nat → Option zG} (hR : zRel gB gX gY h gN) (gM : zG) (gR : zG) (gC : zG) (x1 : Int32) : ∃ R R', f_X6_count gM gB gR gC gX gY x1 = some R ∧ f_X7_count gN x1 = some R' ∧ R.1 = R'.1 ∧ zRel gB gX gY h R'.2 := by
  sorry
theorem pm_undo {gB gX gY gN : zG} {h : Nat → Option zG} (hR : zRel gB gX gY h gN) (gM : zG)  : ∃ R R', f_X6_undo gM gB gY h  = some R ∧ f_X7_undo gN  = some R' ∧ R.1 = R'.1 ∧ zRel R.2.1 gX R.2.2 h R'.2 := by
  sorry
theorem pm_type {gB gX gY gN : zG} {h : Nat → Option zG} (hR : zRel gB gX gY h gN) (gM : zG) (x1 : Int32) : ∃ R R', f_X6_type gM gX x1 = some R ∧ f_X7_type gN x1 = some R' ∧ R.1 = R'.1 ∧ zRel gB R.2 gY h R'.2 := by
  sorry
theorem pm_clearText {gB gX gY gN : zG} {h : Nat → Option zG} (hR : zRel gB gX gY h gN) (gM : zG)  : ∃ R R', f_X6_clearText gM gX  = some R ∧ f_X7_clearText gN  = some R' ∧ R.1 = R'.1 ∧ zRel gB R.2 gY h R'.2 := by
  sorry
theorem pm_fault {gB gX gY gN : zG} {h : Nat → Option zG} (hR : zRel gB gX gY h gN) (gM : zG) (gT : zG) (x1 : Int32) : ∃ R R', f_X6_fault gM gB gT gX x1 = some R ∧ f_X7_fault gN x1 = some R' ∧ R.1 = R'.1 ∧ zRel gB R.2.2.2 gY h R'.2 := by
  sorry
theorem pm_play {gB gX gY gN : zG} {h : Nat → Option zG} (hR : zRel gB gX gY h gN) (gM : zG) (gT : zG)  : ∃ R R', f_X6_play gM gB gT gX gY h  = some R ∧ f_X7_play gN  = some R' ∧ R.1 = R'.1 ∧ zRel R.2.2.1 R.2.2.2.2.1 R.2.2.2.2.2.1 R.2.2.2.2.2.2 R'.2 := by
  sorry
