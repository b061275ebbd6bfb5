/-! ===== undo, type, clearText, bending ===== -/
/-- cells k0.. of a block taken from another -/
def cpR (s p : Nat → Int32) (k0 : Nat) : Nat → Int32 := fun x => if k0 ≤ x ∧ x < 59 then p x else s x
theorem cpR_end (s p : Nat → Int32) : cpR s p 59 = s := by
  funext x
  unfold cpR
  rw [if_neg (by omega)]
theorem cpR_step (s p : Nat → Int32) {k : Nat} (h : k < 59) : cpR (upd s k (p k)) p (k + 1) = cpR s p k := by
  funext x
  unfold cpR upd
  by_cases h1 : k + 1 ≤ x ∧ x < 59
  · rw [if_pos h1, if_pos (by omega)]
  · rw [if_neg h1]
    by_cases h2 : x = k
    · subst h2
      rw [if_pos rfl, if_pos (by omega)]
    · rw [if_neg h2, if_neg (by omega)]
theorem undo_loop {m : Nat} (hm : m < 4) : ∀ (d k fuel : Nat) (g : zG), g 4 0 = nI m → k + d = 59 → d < fuel → f_X7_undo_22 fuel (nI k) g = some (nI m, gset g 0 (cpR (g 0) (fun j => g 1 (59 * m + j)) k)) := by
  intro d
  induction d with
  | zero =>
    intro k fuel g hg hk hf
    obtain ⟨n, rfl⟩ : ∃ n, fuel = n + 1 := ⟨fuel - 1, by omega⟩
    show f_X7_undo_22_b (f_X7_undo_22 n) (nI k) g = _
    unfold f_X7_undo_22_b
    have : k = 59 := by omega
    subst this
    rw [if_pos (show (59 : Int32) ≤ nI 59 from Int32.le_refl _), hg, cpR_end, gset_eq]
  | succ d ih =>
    intro k fuel g hg hk hf
    obtain ⟨n, rfl⟩ : ∃ n, fuel = n + 1 := ⟨fuel - 1, by omega⟩
    show f_X7_undo_22_b (f_X7_undo_22 n) (nI k) g = _
    unfold f_X7_undo_22_b
    have ei : (59 : Int32) * nI m + nI k = nI (59 * m + k) := by rw [show (59 : Int32) = nI 59 from rfl, pk_mul, nI_add]
    rw [if_neg (c := (59 : Int32) ≤ nI k) (fun q => by have := (nI_leI (a := 59) (b := k) (by decide) (by omega)).mp q; omega), hg, ei, zin_nI (by omega) (by decide), zin_nI (by omega) (by decide), zlet_eq, nI_clamp (by omega), nI_clamp (by omega), nIs, ih (k + 1) n _ (by rw [gup_ne _ _ _ (by omega)]; exact hg) (by omega) (by omega), gset_gup, gup_same, gup_ne _ _ _ (show (1 : Nat) ≠ 0 by omega)]
    have e := cpR_step (g 0) (fun j => g 1 (59 * m + j)) (k := k) (by omega)
    rw [e]
theorem pm_undo {gB gX gY gN : zG} {h : Nat → Option zG} (hR : zRel gB gX gY h gN) (gM : zG) : ∃ R R', f_X6_undo gM gB gY h = some R ∧ f_X7_undo gN = some R' ∧ R.1 = R'.1 ∧ zRel R.2.1 gX R.2.2 h R'.2 := by
  obtain ⟨b, hs, tx, hA⟩ := zRel_abs hR
  obtain ⟨h1, h2, h3, h4, h5, h6, h7, h8, h9⟩ := hA
  unfold f_X6_undo f_X3_takeLatest f_X7_undo
  rw [h5.2.1, h6.1]
  by_cases h0 : hs.length = 0
  · rw [h0, if_pos (show nI 0 - (1 : Int32) < 0 from by decide), zbind_some, if_pos rfl, if_pos (show nI 0 = 0 from rfl)]
    exact ⟨_, _, rfl, rfl, rfl, hR⟩
  · obtain ⟨m, hm⟩ : ∃ m, hs.length = m + 1 := ⟨hs.length - 1, by omega⟩
    have hl := h5.1
    have hm4 : m < 4 := by omega
    rw [hm, nI_pred, if_neg (nI_pos (by omega)), if_pos (c := nI m < (4 : Int32)) ((nI_ltI (b := 4) (by omega) (by decide)).mpr hm4), nI_clamp (by omega)]
    obtain ⟨q, hq⟩ : ∃ q, hs[m]? = some q := ⟨hs[m]'(by omega), List.getElem?_eq_getElem (by omega)⟩
    have okq := h2 q (List.mem_of_getElem? hq)
    obtain ⟨g, g1, g2⟩ := h5.2.2 m q hq
    obtain ⟨gB', e1, e2⟩ := copyFrom_ev gB g g2 okq.1 okq.2.1
    rw [g1]
    simp only
    rw [e1, zbind_some, zbind_some, if_neg ne10, if_neg (nI_ne0 (by omega) (by omega)), zlet_eq]
    rw [show (0 : Int32) = nI 0 from rfl, undo_loop hm4 59 0 zfuel _ (by rw [gup_same]; rfl) (by omega) (by unfold zfuel; omega)]
    refine ⟨_, _, rfl, rfl, ?_, ?_⟩
    · show gup gY 1 0 (nI m) 1 0 = nI m
      simp [gup, upd]
    · have len : (hs.take m).length = m := by rw [List.length_take]; omega
      have get : ∀ (i : Nat) (q : zB), (hs.take m)[i]? = some q → i < m ∧ hs[i]? = some q := by
        intro i q hq
        have hi := (List.getElem?_eq_some_iff.mp hq).1
        rw [len] at hi
        rw [List.getElem?_take_of_lt hi] at hq
        exact ⟨hi, hq⟩
      refine zAbs_rel (b := q) (hs := hs.take m) (tx := tx) ⟨okq, fun q hq => h2 q (List.mem_of_mem_take hq), e2, ?_, ⟨by rw [len]; omega, ?_, ?_⟩, ⟨?_, ?_⟩, ?_, h8, ?_⟩
      · refine repS_congr (fun j hj => ?_) okq.1 okq.2.1 (h6.2 m q hq)
        simp only [gset_same]
        unfold cpR
        rw [if_pos (by omega)]
        exact congrFun (gup_ne gN _ _ (by decide)) _
      · rw [len]
        show gup gY 1 0 (nI m) 1 0 = nI m
        simp [gup, upd]
      · intro i q hq
        exact h5.2.2 i q (get i q hq).2
      · rw [len]
        simp [gset, gup, upd]
      · intro i q hq
        have := h6.2 i q (get i q hq).2
        simpa [gset, gup] using this
      · simpa [gset, gup] using h7
      · refine ⟨?_, fun i x hx => ?_⟩
        · simpa [gset, gup] using h9.1
        · simpa [gset, gup] using h9.2 i x hx
theorem i32_nI {x : Int32} {n : Nat} (h0 : 0 ≤ x) (h : x ≤ nI n) (hn : n < 2 ^ 31) : ∃ j : Nat, j ≤ n ∧ x = nI j := by
  obtain ⟨j, hj, rfl⟩ := nI_of (inlt.mpr h0)
  exact ⟨j, (nI_leI hj hn).mp h, rfl⟩
theorem ge32_0 {x : Int32} (h : 32 ≤ x) : 0 ≤ x := Int32.le_trans (by decide) h
theorem pm_type {gB gX gY gN : zG} {h : Nat → Option zG} (hR : zRel gB gX gY h gN) (gM : zG) (x1 : Int32) : ∃ R R', f_X6_type gM gX x1 = some R ∧ f_X7_type gN x1 = some R' ∧ R.1 = R'.1 ∧ zRel gB R.2 gY h R'.2 := by
  obtain ⟨b, hs, tx, hA⟩ := zRel_abs hR
  obtain ⟨h1, h2, h3, h4, h5, h6, h7, h8, h9⟩ := hA
  unfold f_X6_type f_X7_type
  rw [within_ev, zbind_some, ite_1, in_ev, zbind_some, ite_1]
  by_cases q1 : 32 ≤ x1 ∧ x1 ≤ 126
  · rw [if_pos q1, if_pos q1]
    obtain ⟨j, hj, rfl⟩ := i32_nI (n := 126) (ge32_0 q1.1) q1.2 (by decide)
    have ec : ((nI j).toUInt32 % 65536).toInt32 = nI j := by
      rw [pk_char, pk_tn (by omega), Nat.mod_eq_of_lt (by omega)]
    have hn := h8.1
    unfold f_X5_append
    rw [ec, h8.2.1, h9.1, if_neg (nI_pos (by omega))]
    by_cases q2 : tx.length = 60
    · rw [if_neg (c := nI tx.length < (60 : Int32)) (fun q => by have := (nI_ltI (b := 60) (by omega) (by decide)).mp q; omega), zbind_some, if_pos rfl, if_pos (show nI tx.length = (60 : Int32) from by rw [q2]; rfl)]
      exact ⟨_, _, rfl, rfl, rfl, hR⟩
    · rw [if_pos (c := nI tx.length < (60 : Int32)) ((nI_ltI (b := 60) (by omega) (by decide)).mpr (by omega)), if_neg (c := nI tx.length = (60 : Int32)) (fun q => q2 ((nI_eq (a := tx.length) (b := 60) (by omega) (by decide)).mp q)), zin_nI (by omega) (by decide), zin_nI (by omega) (by decide), nI_clamp (by omega)]
      have ez : ∀ {β : Type} (k : Option β), zch (nI j) k = k := fun k => if_pos ⟨nI_pos' (by omega), (nI_ltI (b := 65536) (by omega) (by decide)).mpr (by omega)⟩
      rw [ez, zlet_eq, zlet_eq, zbind_some, if_neg ne10, zlet_eq, zlet_eq]
      have ea : gup gX 0 tx.length (nI j) 1 0 = nI tx.length := by rw [gup_ne _ _ _ (by decide)]; exact h8.2.1
      have eb : gup gN 6 tx.length (nI j) 7 0 = nI tx.length := by rw [gup_ne _ _ _ (by decide)]; exact h9.1
      rw [ea, eb, nIs]
      refine ⟨_, _, rfl, rfl, ?_, ?_⟩
      · simp [gup, upd]
      · have kN : ∀ i, i ≠ 6 → i ≠ 7 → gup (gup gN 6 tx.length (nI j)) 7 0 (nI (tx.length + 1)) i = gN i := by
          intro i i6 i7
          rw [gup_ne _ _ _ i7, gup_ne _ _ _ i6]
        refine zAbs_rel (b := b) (hs := hs) (tx := tx ++ [nI j]) ⟨h1, h2, h3, ?_, h5, ?_, ?_, ⟨by rw [List.length_append]; simp; omega, ?_, ?_⟩, ⟨?_, ?_⟩⟩
        · show rS (gup (gup gN 6 tx.length (nI j)) 7 0 (nI (tx.length + 1)) 0) b
          rw [kN 0 (by decide) (by decide)]; exact h4
        · show hisM (gup (gup gN 6 tx.length (nI j)) 7 0 (nI (tx.length + 1))) hs
          unfold hisM
          rw [kN 4 (by decide) (by decide), kN 1 (by decide) (by decide)]; exact h6
        · show gup (gup gN 6 tx.length (nI j)) 7 0 (nI (tx.length + 1)) 5 0 = 0
          rw [kN 5 (by decide) (by decide)]; exact h7
        · simp [gup, upd]
        · intro i x hx
          rcases snoc_get hx with ⟨hi, hx⟩ | ⟨rfl, rfl⟩
          · have := h8.2.2 i x hx
            have hne : i ≠ tx.length := by omega
            simpa [gup, upd, hne] using this
          · refine ⟨by simp [gup, upd], q1.1, q1.2⟩
        · simp [gup, upd]
        · intro i x hx
          rcases snoc_get hx with ⟨hi, hx⟩ | ⟨rfl, rfl⟩
          · have := h9.2 i x hx
            have hne : i ≠ tx.length := by omega
            simpa [gup, upd, hne] using this
          · simp [gup, upd]
  · rw [if_neg q1, if_neg q1]
    exact ⟨_, _, rfl, rfl, rfl, hR⟩
theorem pm_clearText {gB gX gY gN : zG} {h : Nat → Option zG} (hR : zRel gB gX gY h gN) (gM : zG) : ∃ R R', f_X6_clearText gM gX = some R ∧ f_X7_clearText gN = some R' ∧ R.1 = R'.1 ∧ zRel gB R.2 gY h R'.2 := by
  obtain ⟨b, hs, tx, hA⟩ := zRel_abs hR
  obtain ⟨h1, h2, h3, h4, h5, h6, h7, h8, h9⟩ := hA
  unfold f_X6_clearText f_X7_clearText
  rw [zlet_eq, zlet_eq]
  refine ⟨_, _, rfl, rfl, ?_, ?_⟩
  · show gX 1 0 = gN 7 0
    rw [h8.2.1, h9.1]
  · refine zAbs_rel (b := b) (hs := hs) (tx := []) ⟨h1, h2, h3, ?_, h5, ?_, ?_, ⟨by simp, ?_, fun i x hx => by simp at hx⟩, ⟨?_, fun i x hx => by simp at hx⟩⟩
    · show rS (gup gN 7 0 0 0) b
      rw [gup_ne _ _ _ (by decide)]; exact h4
    · show hisM (gup gN 7 0 0) hs
      unfold hisM
      rw [gup_ne _ _ _ (by decide), gup_ne _ _ _ (by decide)]; exact h6
    · show gup gN 7 0 0 5 0 = 0
      rw [gup_ne _ _ _ (by decide)]; exact h7
    · simp [gup, upd]; rfl
    · simp [gup, upd]; rfl
theorem bends_ev {gl c : Int32} (hc : 380 ≤ c ∧ c ≤ 780) : f_X7_bends gl c = some (bg gl c) := by
  have h1 := hc.1
  have h2 := hc.2
  rw [ile] at h1 h2
  have e1 : (380 : Int32).toInt = 380 := rfl
  have e2 : (780 : Int32).toInt = 780 := rfl
  rw [e1] at h1
  rw [e2] at h2
  have e : ((780 : Int32) - c).toInt = 780 - c.toInt := by rw [isub (by rw [e2]; omega) (by rw [e2]; omega), e2]
  unfold f_X7_bends bg
  rw [fdI_nonneg (v := 780 - c) (d := 8) (by decide) (by omega), fdI_nonneg (v := 780 - c) (d := 3) (by decide) (by omega)]
  split <;> rfl
theorem pm_bending {gB gX gY gN : zG} {h : Nat → Option zG} (hR : zRel gB gX gY h gN) (gM : zG) (x1 x2 : Int32) : ∃ R R', f_X6_bending gM x1 x2 = some R ∧ f_X7_bending gN x1 x2 = some R' ∧ R = R' ∧ zRel gB gX gY h gN := by
  unfold f_X6_bending f_X7_bending
  rw [within_ev, zbind_some, ite_1, in_ev, zbind_some, ite_1, within_ev, zbind_some, ite_1, in_ev, zbind_some, ite_1]
  by_cases q1 : 0 ≤ x1 ∧ x1 ≤ 1
  · rw [if_pos q1, if_pos q1]
    by_cases q2 : 380 ≤ x2 ∧ x2 ≤ 780
    · rw [if_pos q2, if_pos q2, bendingOf_ev, bends_ev q2, zbind_some]
      exact ⟨_, _, rfl, rfl, rfl, hR⟩
    · rw [if_neg q2, if_neg q2]
      exact ⟨_, _, rfl, rfl, rfl, hR⟩
  · rw [if_neg q1, if_neg q1]
    exact ⟨_, _, rfl, rfl, rfl, hR⟩
