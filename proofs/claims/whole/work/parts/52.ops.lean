/-! ===== the seven changes ===== -/
theorem zbind_eta {α β : Type} (o : Option (α × β)) : (zbind o (fun R => some (R.1, R.2))) = o := by cases o <;> rfl
theorem srt_of {p : Int32} : ∀ {th : List zTh}, th.Pairwise (fun a b => a.1 < b.1) → srt p th := by
  intro th
  induction th with
  | nil => intro _ i t h; simp at h
  | cons t r ih =>
    intro h i q hq
    rw [List.pairwise_cons] at h
    cases i with
    | zero =>
      simp at hq
      subst hq
      unfold nah
      split
      · simp_all
      · simp_all
    | succ i =>
      rw [List.getElem?_cons_succ] at hq
      have h1 := ih h.2 i q hq
      have h2 := h.1 q (List.mem_of_getElem? hq)
      unfold nah
      by_cases ht : t.1 < p
      · rw [if_pos ht, h1]; omega
      · rw [if_neg ht]
        constructor
        · intro h3
          exact absurd (Int32.lt_trans h2 h3) ht
        · intro h3; omega
theorem mem_ins {t q : zTh} {th : List zTh} (h : q ∈ insT t th) : q = t ∨ q ∈ th := by
  unfold insT at h
  rcases List.mem_append.mp h with h | h
  · exact Or.inr (List.mem_of_mem_take h)
  · rcases List.mem_cons.mp h with h | h
    · exact Or.inl h
    · exact Or.inr (List.mem_of_mem_drop h)
theorem pw_ins (t : zTh) : ∀ {th : List zTh}, th.Pairwise (fun a b => a.1 < b.1) → fidx t.1 th = none → (insT t th).Pairwise (fun a b => a.1 < b.1) := by
  intro th
  induction th with
  | nil => intro _ _; simp [insT, nah]
  | cons x r ih =>
    intro h hf
    have hne := fidx_none hf
    rw [List.pairwise_cons] at h
    by_cases hx : x.1 < t.1
    · have e2 : insT t (x :: r) = x :: insT t r := by
        unfold insT
        rw [nah, if_pos hx]
        simp
      rw [e2, List.pairwise_cons]
      refine ⟨fun q hq => ?_, ih h.2 (fidx_none_of (fun q hq => hne q (List.mem_cons_of_mem _ hq)))⟩
      rcases mem_ins hq with rfl | hq
      · exact hx
      · exact h.1 q hq
    · have e2 : insT t (x :: r) = t :: x :: r := by
        unfold insT
        rw [nah, if_neg hx]
        simp
      have hlt : t.1 < x.1 := by
        have h1 := inlt.mp hx
        rcases Int32.le_iff_lt_or_eq.mp h1 with h2 | h2
        · exact h2
        · exact absurd h2.symm (hne x List.mem_cons_self)
      rw [e2, List.pairwise_cons, List.pairwise_cons]
      refine ⟨fun q hq => ?_, h⟩
      rcases List.mem_cons.mp hq with rfl | hq
      · exact hlt
      · exact Int32.lt_trans hlt (h.1 q hq)
theorem some_pair {α β : Type} {a a' : α} {b : β} (h : a = a') : some (a, b) = some (a', b) := by rw [h]
theorem INV_neg : INV < 0 := by decide
theorem LIM_neg : LIM < 0 := by decide
theorem NPO_neg : NPO < 0 := by decide
-- lines
def aLine (c v : Int32) (b : zB) : Int32 × Option zB := if (380 ≤ c ∧ c ≤ 780) ∧ 1 ≤ v ∧ v ≤ 999 then (if b.1.length = 8 then (LIM, none) else (nI b.1.length, some (b.1 ++ [(c, v)], b.2))) else (INV, none)
theorem aLine_ok {c v : Int32} {b b' : zB} (ok : okB b) (h : (aLine c v b).2 = some b') : okB b' := by
  unfold aLine at h
  split at h
  · rename_i hq
    split at h
    · cases h
    · cases h
      obtain ⟨a1, a2, a3, a4, a5, a6, a7⟩ := ok
      refine ⟨?_, a2, a3, a4, ?_, a6, a7⟩
      · rw [List.length_append]; simp; omega
      · intro t ht
        rcases List.mem_append.mp ht with ht | ht
        · exact a5 t ht
        · rw [List.mem_singleton.mp ht]; exact ⟨hq.1.1, hq.1.2, hq.2.1, hq.2.2⟩
  · cases h
theorem cLine (c v : Int32) {b : zB} (ok : okB b) : opC (fun g => f_X0_addLine g c v) b (aLine c v b) := by
  intro g hg
  rcases addLine_ev hg ok.1 c v with ⟨h1, h2⟩ | ⟨h1, h2, h3⟩ | ⟨h1, h2, g', h3, h4⟩
  · have e : aLine c v b = (INV, none) := if_neg h1
    rw [e]; exact ⟨g, h2, INV_neg⟩
  · have e : aLine c v b = (LIM, none) := by unfold aLine; unfold okc at h1; rw [if_pos h1, if_pos h2]
    rw [e]; exact ⟨g, h3, LIM_neg⟩
  · have e : aLine c v b = (nI b.1.length, some (b.1 ++ [(c, v)], b.2)) := by unfold aLine; unfold okc at h1; rw [if_pos h1, if_neg (by omega)]
    rw [e]; exact ⟨g', h3, nI_pos (by omega), h4⟩
theorem lnix (k : Nat) : (3 : Int32) + (2 : Int32) * nI k = nI (3 + 2 * k) := by
  rw [show (3 : Int32) = nI 3 from rfl, show (2 : Int32) = nI 2 from rfl, pk_mul, nI_add]
theorem mLine (c v : Int32) {b : zB} (ok : okB b) : opM (fun g => f_X7_line g c v) b (aLine c v b) := by
  intro g g1 hS hc h0
  show match (aLine c v b).2 with
    | none => f_X7_line g c v = some ((aLine c v b).1, g)
    | some b' => ∃ g', f_X7_line g c v = some ((aLine c v b).1, g') ∧ (∀ j, j ≠ 0 → g' j = g1 j) ∧ rS (g' 0) b'
  have hn := ok.1
  unfold aLine f_X7_line
  rw [in_ev, in_ev, zbind_some, ite_1]
  by_cases q1 : 380 ≤ c ∧ c ≤ 780
  · rw [if_pos q1, zbind_some, ite_1]
    by_cases q2 : 1 ≤ v ∧ v ≤ 999
    · rw [if_pos q2, if_pos ⟨q1, q2⟩, z0 (by decide) (by decide), tn0, hS.1]
      by_cases q3 : b.1.length = 8
      · rw [if_pos q3, if_pos (show nI b.1.length = (8 : Int32) from by rw [q3]; rfl)]
        rfl
      · rw [if_neg q3, if_neg (c := nI b.1.length = (8 : Int32)) (fun q => q3 ((nI_eq (a := b.1.length) (b := 8) (by omega) (by decide)).mp q))]
        show ∃ g', _ = some (nI b.1.length, g') ∧ _
        rw [hc, zbind_some, lnix, show nI (3 + 2 * b.1.length) + (1 : Int32) = nI (3 + 2 * b.1.length + 1) from nI_1 _, zin_nI (by omega) (by decide), zlet_eq, zin_nI (by omega) (by decide), zlet_eq, z0 (by decide) (by decide), z0 (by decide) (by decide), zlet_eq, nI_clamp (by omega), nI_clamp (by omega)]
        refine ⟨_, rfl, ?_, ?_⟩
        · intro j hj
          simp [gup, hj]
        · have e : ∀ x, (gup (gup (gup g1 0 (3 + 2 * b.1.length) c) 0 (3 + 2 * b.1.length + 1) v) 0 0 (gup (gup g1 0 (3 + 2 * b.1.length) c) 0 (3 + 2 * b.1.length + 1) v 0 0 + 1)) 0 x = if x = 0 then nI (b.1.length + 1) else if x = 3 + 2 * b.1.length + 1 then v else if x = 3 + 2 * b.1.length then c else g 0 x := by
            intro x
            simp only [gup_same, upd, h0]
            split
            · rw [if_neg (by omega), if_neg (by omega), hS.1, nI_1]
            · rfl
          refine ⟨?_, ?_, ?_, ?_, ?_⟩
          · rw [e, if_pos rfl, List.length_append]; rfl
          · rw [e, if_neg (by omega), if_neg (by omega), if_neg (by omega)]; exact hS.2.1
          · rw [e, if_neg (by omega), if_neg (by omega), if_neg (by omega)]; exact hS.2.2.1
          · intro i t ht
            rcases snoc_get ht with ⟨hi, ht⟩ | ⟨rfl, rfl⟩
            · rw [e, e, if_neg (by omega), if_neg (by omega), if_neg (by omega), if_neg (by omega), if_neg (by omega), if_neg (by omega)]
              exact hS.2.2.2.1 i t ht
            · rw [e, e, if_neg (by omega), if_neg (by omega), if_pos (by trivial), if_neg (by omega), if_pos (by trivial)]
              exact ⟨rfl, rfl⟩
          · intro i t ht
            have hi := (List.getElem?_eq_some_iff.mp ht).1
            simp only [e]
            rw [if_neg (by omega), if_neg (by omega), if_neg (by omega), if_neg (by omega), if_neg (by omega), if_neg (by omega), if_neg (by omega), if_neg (by omega), if_neg (by omega), if_neg (by omega), if_neg (by omega), if_neg (by omega), if_neg (by omega), if_neg (by omega), if_neg (by omega)]
            exact hS.2.2.2.2 i t ht
    · rw [if_neg q2, if_neg (fun q => q2 q.2)]
      rfl
  · rw [if_neg q1, if_neg (fun q => q1 q.1)]
    rfl
-- dim
def aDim (x v : Int32) (b : zB) : Int32 × Option zB := match lnum b.1.length x with
  | none => (INV, none)
  | some k => if 1 ≤ v ∧ v ≤ 999 then ((b.1.getD k (0, 0)).2, some (b.1.set k ((b.1.getD k (0, 0)).1, v), b.2)) else (INV, none)
theorem getD_some {α : Type} {l : List α} {k : Nat} {d : α} (h : k < l.length) : l[k]? = some (l.getD k d) := by
  rw [List.getD_eq_getElem?_getD, List.getElem?_eq_getElem h]; rfl
theorem okL_pos {t : zL} (h : okL t) : ¬ t.2 < 0 := by
  have := h.2.2.1
  rw [ilt]; rw [ile] at this
  have e1 : (1 : Int32).toInt = 1 := rfl
  have e0 : (0 : Int32).toInt = 0 := rfl
  omega
theorem set_get {α : Type} {l : List α} {k i : Nat} {a t : α} (h : (l.set k a)[i]? = some t) : (i = k ∧ t = a) ∨ (i ≠ k ∧ l[i]? = some t) := by
  rw [List.getElem?_set] at h
  split at h
  · split at h
    · cases h; exact Or.inl ⟨by omega, rfl⟩
    · cases h
  · exact Or.inr ⟨by omega, h⟩
theorem aDim_ok {x v : Int32} {b b' : zB} (ok : okB b) (h : (aDim x v b).2 = some b') : okB b' := by
  unfold aDim at h
  cases hk : lnum b.1.length x with
  | none => rw [hk] at h; cases h
  | some k =>
    rw [hk] at h
    simp only at h
    split at h
    · rename_i hq
      cases h
      obtain ⟨a1, a2, a3, a4, a5, a6, a7⟩ := ok
      have kk := lnum_some (by omega) hk
      refine ⟨?_, a2, a3, a4, ?_, a6, a7⟩
      · rw [List.length_set]; exact a1
      · intro t ht
        obtain ⟨i, hi⟩ := List.mem_iff_getElem?.mp ht
        rcases set_get hi with ⟨rfl, rfl⟩ | ⟨_, hi⟩
        · have := a5 _ (List.mem_of_getElem? (getD_some (d := ((0 : Int32), (0 : Int32))) kk.1))
          exact ⟨this.1, this.2.1, hq.1, hq.2⟩
        · exact a5 t (List.mem_of_getElem? hi)
    · cases h
theorem cDim (x v : Int32) {b : zB} (ok : okB b) : opC (fun g => f_X0_changeLight g x v) b (aDim x v b) := by
  intro g hg
  show ∃ g', f_X0_changeLight g x v = some ((aDim x v b).1, g') ∧ (match (aDim x v b).2 with
    | none => (aDim x v b).1 < 0
    | some b' => ¬ (aDim x v b).1 < 0 ∧ rB g' b')
  unfold f_X0_changeLight aDim
  rw [hasLine_ev hg.1 ok.1, zbind_some]
  cases hk : lnum b.1.length x with
  | none => exact ⟨g, rfl, INV_neg⟩
  | some k =>
    obtain ⟨h1, rfl⟩ := lnum_some (by have := ok.1; omega) hk
    have hn := ok.1
    rw [show (some k).isSome = true from rfl, if_pos rfl, if_neg ne10, within_ev, zbind_some, ite_1]
    show ∃ g', _ ∧ _
    by_cases q : 1 ≤ v ∧ v ≤ 999
    · simp only [if_pos q]
      rw [zin_nI (by omega) (by decide), zin_nI (by omega) (by decide), zlet_eq, nI_clamp (by omega)]
      have hg1 := hg.2.2.2.1 k _ (getD_some (d := ((0 : Int32), (0 : Int32))) h1)
      refine ⟨_, by rw [hg1.2], okL_pos (ok.2.2.2.2.1 _ (List.mem_of_getElem? (getD_some (d := ((0 : Int32), (0 : Int32))) h1))), ?_, ?_, ?_, ?_, ?_⟩
      · simpa [gup] using hg.1
      · simpa [gup] using hg.2.1
      · simpa [gup] using hg.2.2.1
      · intro i t ht
        rcases set_get ht with ⟨rfl, rfl⟩ | ⟨hi, ht⟩
        · simpa [gup, upd] using hg1.1
        · simpa [gup, upd, hi] using hg.2.2.2.1 i t ht
      · intro i t ht
        simpa [gup] using hg.2.2.2.2 i t ht
    · simp only [if_neg q]
      exact ⟨g, rfl, INV_neg⟩
theorem mDim (x v : Int32) {b : zB} (ok : okB b) : opM (fun g => f_X7_dim g x v) b (aDim x v b) := by
  intro g g1 hS hc h0
  show match (aDim x v b).2 with
    | none => f_X7_dim g x v = some ((aDim x v b).1, g)
    | some b' => ∃ g', f_X7_dim g x v = some ((aDim x v b).1, g') ∧ (∀ j, j ≠ 0 → g' j = g1 j) ∧ rS (g' 0) b'
  have hn := ok.1
  unfold aDim f_X7_dim
  rw [isLine_ev hS.1 ok.1, zbind_some]
  cases hk : lnum b.1.length x with
  | none => rfl
  | some k =>
    obtain ⟨h1, rfl⟩ := lnum_some (by omega) hk
    rw [show (some k).isSome = true from rfl, if_pos rfl, if_neg ne10, in_ev, zbind_some, ite_1]
    by_cases q : 1 ≤ v ∧ v ≤ 999
    · simp only [if_pos q]
      have hg1 := hS.2.2.2.1 k _ (getD_some (d := ((0 : Int32), (0 : Int32))) h1)
      have e : f_X7_lightOf g1 (nI k) = some ((b.1.getD k (0, 0)).2) := by
        unfold f_X7_lightOf
        rw [lnix, show nI (3 + 2 * k) + (1 : Int32) = nI (3 + 2 * k + 1) from nI_1 _, zin_nI (by omega) (by decide), nI_clamp (by omega), h0, hg1.2]
      rw [hc, zbind_some, e, zbind_some, lnix, show nI (3 + 2 * k) + (1 : Int32) = nI (3 + 2 * k + 1) from nI_1 _, zin_nI (by omega) (by decide), zlet_eq, nI_clamp (by omega)]
      refine ⟨_, rfl, ?_, ?_⟩
      · intro j hj
        exact gup_ne _ _ _ hj
      · have ev : ∀ y, (gup g1 0 (3 + 2 * k + 1) v) 0 y = if y = 3 + 2 * k + 1 then v else g 0 y := by
          intro y
          rw [gup_same, h0]; rfl
        refine ⟨?_, ?_, ?_, ?_, ?_⟩
        · rw [ev, if_neg (by omega), List.length_set]; exact hS.1
        · rw [ev, if_neg (by omega)]; exact hS.2.1
        · rw [ev, if_neg (by omega)]; exact hS.2.2.1
        · intro i t ht
          rcases set_get ht with ⟨rfl, rfl⟩ | ⟨hi, ht⟩
          · rw [ev, ev, if_neg (by omega), if_pos rfl]
            exact ⟨hg1.1, rfl⟩
          · rw [ev, ev, if_neg (by omega), if_neg (by omega)]
            exact hS.2.2.2.1 i t ht
        · intro i t ht
          have hi := (List.getElem?_eq_some_iff.mp ht).1
          simp only [ev]
          rw [if_neg (by omega), if_neg (by omega), if_neg (by omega), if_neg (by omega), if_neg (by omega)]
          exact hS.2.2.2.2 i t ht
    · simp only [if_neg q]
      rfl
-- things laid
def aLay (t : zTh) (b : zB) : Int32 × Option zB := match fidx t.1 b.2.1 with
  | some _ => (NPO, none)
  | none => if b.2.1.length = 8 then (LIM, none) else (nI (b.2.1.length + 1), some (b.1, insT t b.2.1, b.2.2))
theorem aLay_ok {t : zTh} {b b' : zB} (ht : okT t) (ok : okB b) (h : (aLay t b).2 = some b') : okB b' := by
  unfold aLay at h
  cases hf : fidx t.1 b.2.1 with
  | some k => rw [hf] at h; cases h
  | none =>
    rw [hf] at h
    simp only at h
    split at h
    · cases h
    · cases h
      obtain ⟨a1, a2, a3, a4, a5, a6, a7⟩ := ok
      refine ⟨a1, ?_, a3, a4, a5, ?_, pw_ins t a7 hf⟩
      · show (insT t b.2.1).length ≤ 8
        rw [insT_len]; omega
      · intro q hq
        rcases mem_ins hq with rfl | hq
        · exact ht
        · exact a6 q hq
theorem cLay (t t' : zTh) (h1 : t.1 = t'.1 ∧ t.2.1 = t'.2.1 ∧ t.2.2.1 = t'.2.2.1 ∧ t.2.2.2.1 = t'.2.2.2.1 ∧ (t'.2.1 = 0 → t.2.2.2.2 = t'.2.2.2.2)) {b : zB} (ok : okB b) : opC (fun g => f_X0_addThing g t.1 t.2.1 t.2.2.1 t.2.2.2.1 t.2.2.2.2) b (aLay t' b) := by
  intro g hg
  rcases addThing_ev hg ok.2.1 t t' h1 with ⟨a1, a2⟩ | ⟨a1, a2, a3⟩ | ⟨a1, a2, g', a3, a4⟩
  · obtain ⟨k, hk⟩ := Option.isSome_iff_exists.mp a1
    have e : aLay t' b = (NPO, none) := by unfold aLay; rw [← h1.1, hk]
    rw [e]; exact ⟨g, a2, NPO_neg⟩
  · have e : aLay t' b = (LIM, none) := by unfold aLay; rw [← h1.1, a1]; simp only; rw [if_pos a2]
    rw [e]; exact ⟨g, a3, LIM_neg⟩
  · have e : aLay t' b = (nI (b.2.1.length + 1), some (b.1, insT t' b.2.1, b.2.2)) := by unfold aLay; rw [← h1.1, a1]; simp only; rw [if_neg (by omega)]
    rw [e]; exact ⟨g', a3, nI_pos (by omega), a4⟩
theorem mLay (t : zTh) {b : zB} (ok : okB b) : opM (fun g => f_X7_lays g t.1 t.2.1 t.2.2.1 t.2.2.2.1 t.2.2.2.2) b (aLay t b) := by
  intro g g1 hS hc h0
  show match (aLay t b).2 with
    | none => f_X7_lays g t.1 t.2.1 t.2.2.1 t.2.2.2.1 t.2.2.2.2 = some ((aLay t b).1, g)
    | some b' => ∃ g', f_X7_lays g t.1 t.2.1 t.2.2.1 t.2.2.2.1 t.2.2.2.2 = some ((aLay t b).1, g') ∧ (∀ j, j ≠ 0 → g' j = g1 j) ∧ rS (g' 0) b'
  have hn := ok.2.1
  unfold aLay f_X7_lays
  rw [at_ev hS hn, zbind_some]
  cases hf : fidx t.1 b.2.1 with
  | some k =>
    have := fidx_lt hf
    rw [show ix (some k) NFO = nI k from rfl, if_neg (nI_pos (by omega))]
    rfl
  | none =>
    rw [if_pos (show ix none NFO < 0 from by decide), z1 (by decide) (by decide), tn1, hS.2.1]
    show match (if b.2.1.length = 8 then ((LIM, none) : Int32 × Option zB) else (nI (b.2.1.length + 1), some (b.1, insT t b.2.1, b.2.2))).2 with
      | none => _
      | some b' => _
    by_cases q3 : b.2.1.length = 8
    · rw [if_pos q3, if_pos (show nI b.2.1.length = (8 : Int32) from by rw [q3]; rfl)]
      rfl
    · rw [if_neg q3, if_neg (c := nI b.2.1.length = (8 : Int32)) (fun q => q3 ((nI_eq (a := b.2.1.length) (b := 8) (by omega) (by decide)).mp q))]
      show ∃ g', _ = some (nI (b.2.1.length + 1), g') ∧ _
      have hk := nah_le t.1 b.2.1
      rw [hc, zbind_some, opens_ev (by rw [h0]; exact hS) (by omega) (srt_of ok.2.2.2.2.2.2) (fidx_none hf), zbind_some, sets_ev (by omega), zbind_some, z1 (by decide) (by decide)]
      have r := repS_ins hS ok.1 (by omega) t
      have e : (gset (gup (gset g1 0 (mvU (g1 0) (19 + 5 * nah t.1 b.2.1) (19 + 5 * b.2.1.length))) 0 1 (nI (b.2.1.length + 1))) 0 (putT ((gup (gset g1 0 (mvU (g1 0) (19 + 5 * nah t.1 b.2.1) (19 + 5 * b.2.1.length))) 0 1 (nI (b.2.1.length + 1))) 0) (nah t.1 b.2.1) t)) 0 = putT (upd (mvU (g 0) (19 + 5 * nah t.1 b.2.1) (19 + 5 * b.2.1.length)) 1 (nI (b.2.1.length + 1))) (nah t.1 b.2.1) t := by
        rw [gset_same, gup_same, gset_same, h0]
      refine ⟨_, some_pair ?_, ?_, ?_⟩
      rotate_left
      · intro j hj
        rw [gset_ne _ _ hj]
        exact (gup_ne _ _ _ hj).trans (gset_ne _ _ hj)
      · rw [e]; exact r
      · rw [e, r.2.1, insT_len]
def aPrism (p gl s tu : Int32) (b : zB) : Int32 × Option zB := if (0 ≤ gl ∧ gl ≤ 1) ∧ (tu = 1 ∨ tu = -1) ∧ (1 ≤ p ∧ p ≤ 999) ∧ (1 ≤ s ∧ s ≤ 99) then aLay (p, 0, gl, s, tu) b else (INV, none)
theorem in01 {x : Int32} : (0 ≤ x ∧ x ≤ 1) ↔ (x = 0 ∨ x = 1) := by
  constructor
  · rintro ⟨h1, h2⟩
    rw [ile] at h1 h2
    have e1 : (1 : Int32).toInt = 1 := rfl
    have e0 : (0 : Int32).toInt = 0 := rfl
    rcases (show x.toInt = 0 ∨ x.toInt = 1 by omega) with h | h
    · exact Or.inl (Int32.toInt_inj.mp (h.trans e0.symm))
    · exact Or.inr (Int32.toInt_inj.mp (h.trans e1.symm))
  · rintro (rfl | rfl) <;> decide
theorem aPrism_ok {p gl s tu : Int32} {b b' : zB} (ok : okB b) (h : (aPrism p gl s tu b).2 = some b') : okB b' := by
  unfold aPrism at h
  split at h
  · rename_i hq
    exact aLay_ok ⟨hq.2.2.1.1, hq.2.2.1.2, Or.inl ⟨rfl, in01.mp hq.1, hq.2.2.2.1, hq.2.2.2.2, hq.2.1⟩⟩ ok h
  · cases h
theorem cPrism (p gl s tu : Int32) {b : zB} (ok : okB b) : opC (fun g => f_X0_addPrism g p gl s tu) b (aPrism p gl s tu b) := by
  intro g hg
  have no : ∀ (P : Prop), ¬ ((0 ≤ gl ∧ gl ≤ 1) ∧ (tu = 1 ∨ tu = -1) ∧ (1 ≤ p ∧ p ≤ 999) ∧ (1 ≤ s ∧ s ≤ 99)) → f_X0_addPrism g p gl s tu = some ((-1000000001 : Int32), g) → ∃ g', (fun g => f_X0_addPrism g p gl s tu) g = some ((aPrism p gl s tu b).1, g') ∧ (match (aPrism p gl s tu b).2 with
      | none => (aPrism p gl s tu b).1 < 0
      | some b' => ¬ (aPrism p gl s tu b).1 < 0 ∧ rB g' b') := by
    intro _ h1 h2
    have e : aPrism p gl s tu b = (INV, none) := if_neg h1
    rw [e]
    exact ⟨g, h2, INV_neg⟩
  by_cases q1 : 0 ≤ gl ∧ gl ≤ 1
  · by_cases q2 : tu = 1 ∨ tu = -1
    · have e0 : f_X0_addPrism g p gl s tu = f_X0_addPrism_26 p gl s tu (1 : Int32) g := by
        unfold f_X0_addPrism
        rw [within_ev, zbind_some, ite_1, if_pos q1]
        rcases q2 with rfl | rfl
        · rw [if_pos rfl]; rfl
        · rw [if_neg (by decide), if_pos rfl]; rfl
      by_cases q3 : 1 ≤ p ∧ p ≤ 999
      · by_cases q4 : 1 ≤ s ∧ s ≤ 99
        · have e1 : f_X0_addPrism_26 p gl s tu (1 : Int32) g = f_X0_addThing g p 0 gl s tu := by
            unfold f_X0_addPrism_26
            rw [if_neg ne10, within_ev, zbind_some, ite_1, if_pos q3, within_ev, zbind_some, ite_1, if_pos q4, zbind_eta]
          have e : aPrism p gl s tu b = aLay (p, 0, gl, s, tu) b := if_pos ⟨q1, q2, q3, q4⟩
          rw [e]
          obtain ⟨g', k1, k2⟩ := cLay (p, 0, gl, s, tu) (p, 0, gl, s, tu) ⟨rfl, rfl, rfl, rfl, fun _ => rfl⟩ ok g hg
          exact ⟨g', by show f_X0_addPrism g p gl s tu = _; rw [e0, e1]; exact k1, k2⟩
        · refine no True (fun q => q4 q.2.2.2) ?_
          rw [e0]
          unfold f_X0_addPrism_26
          rw [if_neg ne10, within_ev, zbind_some, ite_1, if_pos q3, within_ev, zbind_some, ite_1, if_neg q4]
      · refine no True (fun q => q3 q.2.2.1) ?_
        rw [e0]
        unfold f_X0_addPrism_26
        rw [if_neg ne10, within_ev, zbind_some, ite_1, if_neg q3]
    · refine no True (fun q => q2 q.2.1) ?_
      unfold f_X0_addPrism
      rw [within_ev, zbind_some, ite_1, if_pos q1, if_neg (fun q => q2 (Or.inl q)), if_neg (fun q => q2 (Or.inr q))]
      rfl
  · refine no True (fun q => q1 q.1) ?_
    unfold f_X0_addPrism
    rw [within_ev, zbind_some, ite_1, if_neg q1]
    rfl
theorem isPlace_ev (p : Int32) : f_X7_isPlace p = some (if 1 ≤ p ∧ p ≤ 999 then 1 else 0) := by
  unfold f_X7_isPlace
  rw [in_ev, zbind_some]
  split
  · exact zbl_1
  · exact zbl_0
theorem mPrism (p gl s tu : Int32) {b : zB} (ok : okB b) : opM (fun g => f_X7_prism g p gl s tu) b (aPrism p gl s tu b) := by
  intro g g1 hS hc h0
  show match (aPrism p gl s tu b).2 with
    | none => f_X7_prism g p gl s tu = some ((aPrism p gl s tu b).1, g)
    | some b' => ∃ g', f_X7_prism g p gl s tu = some ((aPrism p gl s tu b).1, g') ∧ (∀ j, j ≠ 0 → g' j = g1 j) ∧ rS (g' 0) b'
  have e0 : f_X7_prism g p gl s tu = if (0 ≤ gl ∧ gl ≤ 1) ∧ (tu = 1 ∨ tu = -1) ∧ (1 ≤ p ∧ p ≤ 999) ∧ (1 ≤ s ∧ s ≤ 99) then f_X7_lays g p 0 gl s tu else some (INV, g) := by
    unfold f_X7_prism
    rw [isPlace_ev, zbind_some, ite_1, in_ev, zbind_some, ite_1, in_ev, zbind_some, ite_1]
    by_cases q3 : 1 ≤ p ∧ p ≤ 999
    · rw [if_pos q3]
      by_cases q1 : 0 ≤ gl ∧ gl ≤ 1
      · rw [if_pos q1]
        by_cases q4 : 1 ≤ s ∧ s ≤ 99
        · rw [if_pos q4]
          by_cases q2 : tu = 1 ∨ tu = -1
          · rw [show (if (0 ≤ gl ∧ gl ≤ 1) ∧ (tu = 1 ∨ tu = -1) ∧ (1 ≤ p ∧ p ≤ 999) ∧ (1 ≤ s ∧ s ≤ 99) then f_X7_lays g p 0 gl s tu else some (INV, g)) = f_X7_lays g p 0 gl s tu from if_pos ⟨q1, q2, q3, q4⟩]
            unfold f_X7_prism_41
            rw [zbind_eta]
            by_cases t1 : tu = 1
            · rw [if_pos t1]
            · rw [if_neg t1, if_pos (q2.resolve_left t1)]
          · rw [if_neg (fun q => q2 (Or.inl q)), if_neg (fun q => q2 (Or.inr q)), if_neg (fun q => q2 q.2.1)]; rfl
        · rw [if_neg q4, if_neg (fun q => q4 q.2.2.2)]; rfl
      · rw [if_neg q1, if_neg (fun q => q1 q.1)]; rfl
    · rw [if_neg q3, if_neg (fun q => q3 q.2.2.1)]; rfl
  rw [e0]
  by_cases hq : (0 ≤ gl ∧ gl ≤ 1) ∧ (tu = 1 ∨ tu = -1) ∧ (1 ≤ p ∧ p ≤ 999) ∧ (1 ≤ s ∧ s ≤ 99)
  · have eA : aPrism p gl s tu b = aLay (p, 0, gl, s, tu) b := if_pos hq
    rw [eA, if_pos hq]
    exact mLay (p, 0, gl, s, tu) ok g g1 hS hc h0
  · have eA : aPrism p gl s tu b = (INV, none) := if_neg hq
    rw [eA, if_neg hq]
def aSlit (p lo up : Int32) (b : zB) : Int32 × Option zB := if (-9999 ≤ lo ∧ lo ≤ 9999) ∧ (lo ≤ up ∧ up ≤ 9999) ∧ (1 ≤ p ∧ p ≤ 999) then aLay (p, 1, lo, up, 0) b else (INV, none)
theorem aSlit_ok {p lo up : Int32} {b b' : zB} (ok : okB b) (h : (aSlit p lo up b).2 = some b') : okB b' := by
  unfold aSlit at h
  split at h
  · rename_i hq
    exact aLay_ok ⟨hq.2.2.1, hq.2.2.2, Or.inr ⟨rfl, rfl⟩⟩ ok h
  · cases h
theorem cSlit (p lo up : Int32) {b : zB} (ok : okB b) : opC (fun g => f_X0_addSlit g p lo up) b (aSlit p lo up b) := by
  intro g hg
  have e0 : f_X0_addSlit g p lo up = if (-9999 ≤ lo ∧ lo ≤ 9999) ∧ (lo ≤ up ∧ up ≤ 9999) ∧ (1 ≤ p ∧ p ≤ 999) then f_X0_addThing g p 1 lo up 1 else some (INV, g) := by
    unfold f_X0_addSlit f_X0_addSlit_28 f_X0_addSlit_29
    rw [within_ev, zbind_some, ite_1, within_ev, zbind_some, ite_1, within_ev, zbind_some, ite_1, zbind_eta, if_pos rfl, if_neg ne10]
    by_cases q1 : -9999 ≤ lo ∧ lo ≤ 9999
    · rw [if_pos q1]
      by_cases q2 : lo ≤ up ∧ up ≤ 9999
      · rw [if_pos q2]
        by_cases q3 : 1 ≤ p ∧ p ≤ 999
        · rw [if_pos q3, if_pos ⟨q1, q2, q3⟩]
        · rw [if_neg q3, if_neg (fun q => q3 q.2.2)]; rfl
      · rw [if_neg q2, if_neg (fun q => q2 q.2.1)]; rfl
    · rw [if_neg q1, if_neg (fun q => q1 q.1)]; rfl
  show ∃ g', f_X0_addSlit g p lo up = some ((aSlit p lo up b).1, g') ∧ (match (aSlit p lo up b).2 with
    | none => (aSlit p lo up b).1 < 0
    | some b' => ¬ (aSlit p lo up b).1 < 0 ∧ rB g' b')
  rw [e0]
  by_cases hq : (-9999 ≤ lo ∧ lo ≤ 9999) ∧ (lo ≤ up ∧ up ≤ 9999) ∧ (1 ≤ p ∧ p ≤ 999)
  · have eA : aSlit p lo up b = aLay (p, 1, lo, up, 0) b := if_pos hq
    rw [eA, if_pos hq]
    exact cLay (p, 1, lo, up, 1) (p, 1, lo, up, 0) ⟨rfl, rfl, rfl, rfl, fun q => absurd q (show ¬ (1 : Int32) = 0 by decide)⟩ ok g hg
  · have eA : aSlit p lo up b = (INV, none) := if_neg hq
    rw [eA, if_neg hq]
    exact ⟨g, rfl, INV_neg⟩
theorem mSlit (p lo up : Int32) {b : zB} (ok : okB b) : opM (fun g => f_X7_slit g p lo up) b (aSlit p lo up b) := by
  intro g g1 hS hc h0
  show match (aSlit p lo up b).2 with
    | none => f_X7_slit g p lo up = some ((aSlit p lo up b).1, g)
    | some b' => ∃ g', f_X7_slit g p lo up = some ((aSlit p lo up b).1, g') ∧ (∀ j, j ≠ 0 → g' j = g1 j) ∧ rS (g' 0) b'
  have e0 : f_X7_slit g p lo up = if (-9999 ≤ lo ∧ lo ≤ 9999) ∧ (lo ≤ up ∧ up ≤ 9999) ∧ (1 ≤ p ∧ p ≤ 999) then f_X7_lays g p 1 lo up 0 else some (INV, g) := by
    unfold f_X7_slit
    rw [isPlace_ev, zbind_some, ite_1, in_ev, zbind_some, ite_1, in_ev, zbind_some, ite_1, zbind_eta]
    by_cases q3 : 1 ≤ p ∧ p ≤ 999
    · rw [if_pos q3]
      by_cases q1 : -9999 ≤ lo ∧ lo ≤ 9999
      · rw [if_pos q1]
        by_cases q2 : lo ≤ up ∧ up ≤ 9999
        · rw [if_pos q2, if_pos ⟨q1, q2, q3⟩]
        · rw [if_neg q2, if_neg (fun q => q2 q.2.1)]; rfl
      · rw [if_neg q1, if_neg (fun q => q1 q.1)]; rfl
    · rw [if_neg q3, if_neg (fun q => q3 q.2.2)]; rfl
  rw [e0]
  by_cases hq : (-9999 ≤ lo ∧ lo ≤ 9999) ∧ (lo ≤ up ∧ up ≤ 9999) ∧ (1 ≤ p ∧ p ≤ 999)
  · have eA : aSlit p lo up b = aLay (p, 1, lo, up, 0) b := if_pos hq
    rw [eA, if_pos hq]
    exact mLay (p, 1, lo, up, 0) ok g g1 hS hc h0
  · have eA : aSlit p lo up b = (INV, none) := if_neg hq
    rw [eA, if_neg hq]
-- take
def aTake (p : Int32) (b : zB) : Int32 × Option zB := match fidx p b.2.1 with
  | none => (INV, none)
  | some k => (nI (b.2.1.length - 1), some (b.1, b.2.1.eraseIdx k, b.2.2))
theorem okB_del {b : zB} (ok : okB b) (k : Nat) : okB (b.1, b.2.1.eraseIdx k, b.2.2) := by
  obtain ⟨a1, a2, a3, a4, a5, a6, a7⟩ := ok
  refine ⟨a1, ?_, a3, a4, a5, fun t ht => a6 t (List.mem_of_mem_eraseIdx ht), a7.sublist (List.eraseIdx_sublist _ _)⟩
  have := (List.eraseIdx_sublist b.2.1 k).length_le
  show (b.2.1.eraseIdx k).length ≤ 8
  omega
theorem aTake_ok {p : Int32} {b b' : zB} (ok : okB b) (h : (aTake p b).2 = some b') : okB b' := by
  unfold aTake at h
  cases hf : fidx p b.2.1 with
  | none => rw [hf] at h; cases h
  | some k => rw [hf] at h; cases h; exact okB_del ok k
theorem cTake (p : Int32) {b : zB} (ok : okB b) : opC (fun g => f_X0_removeThing g p) b (aTake p b) := by
  intro g hg
  rcases removeThing_ev hg ok.2.1 p with ⟨h1, h2⟩ | ⟨k, h1, g', h2, h3⟩
  · have e : aTake p b = (INV, none) := by unfold aTake; rw [h1]
    rw [e]; exact ⟨g, h2, INV_neg⟩
  · have e : aTake p b = (nI (b.2.1.length - 1), some (b.1, b.2.1.eraseIdx k, b.2.2)) := by unfold aTake; rw [h1]
    have := ok.2.1
    rw [e]; exact ⟨g', h2, nI_pos (by omega), h3⟩
theorem mTake (p : Int32) {b : zB} (ok : okB b) : opM (fun g => f_X7_take g p) b (aTake p b) := by
  intro g g1 hS hc h0
  show match (aTake p b).2 with
    | none => f_X7_take g p = some ((aTake p b).1, g)
    | some b' => ∃ g', f_X7_take g p = some ((aTake p b).1, g') ∧ (∀ j, j ≠ 0 → g' j = g1 j) ∧ rS (g' 0) b'
  have hn := ok.2.1
  unfold aTake f_X7_take
  rw [at_ev hS hn, zbind_some]
  cases hf : fidx p b.2.1 with
  | none =>
    rw [if_neg (show ¬ 0 ≤ ix none NFO from by decide)]
    rfl
  | some k =>
    have hk := fidx_lt hf
    rw [show ix (some k) NFO = nI k from rfl, if_pos (nI_pos' (by omega))]
    show ∃ g', _ = some (nI (b.2.1.length - 1), g') ∧ _
    rw [hc, zbind_some, takesOut_ev (by rw [h0]; exact hS) hn hk, zbind_some, z1 (by decide) (by decide), h0]
    have r := repS_del hS ok.1 hk
    refine ⟨_, some_pair ?_, ?_, ?_⟩
    rotate_left
    · intro j hj
      exact gset_ne _ _ hj
    · rw [gset_same]; exact r
    · rw [gset_same, tn1, r.2.1, List.length_eraseIdx_of_lt hk]
