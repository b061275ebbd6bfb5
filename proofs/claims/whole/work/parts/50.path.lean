/-! ===== how a line goes: the class's side ===== -/
def bg (glass c : Int32) : Int32 := if glass = 0 then 500 + fdI (780 - c) 8 else 600 + fdI (780 - c) 3
def bnd (t : zTh) (c : Int32) : Int32 := if t.2.2.2.2 = 1 then fdI (t.2.2.2.1 * bg t.2.2.1 c) 100 else -(fdI (t.2.2.2.1 * bg t.2.2.1 c) 100)
abbrev zPt : Type := Int32 × Int32 × Int32 × Int32
def pend (u p h sl : Int32) : zPt := (u, h + fdI (sl * (u - p)) 1000, sl, if -999 ≤ h + fdI (sl * (u - p)) 1000 ∧ h + fdI (sl * (u - p)) 1000 ≤ 999 then 0 else 2)
def path (c u : Int32) : List zTh → Int32 → Int32 → Int32 → zPt
  | [], p, h, sl => pend u p h sl
  | t :: r, p, h, sl => if u ≤ t.1 then pend u p h sl else
      if -999 ≤ h + fdI (sl * (t.1 - p)) 1000 ∧ h + fdI (sl * (t.1 - p)) 1000 ≤ 999 then
        (if t.2.1 = 0 then path c u r t.1 (h + fdI (sl * (t.1 - p)) 1000) (sl + bnd t c) else
          if t.2.2.1 ≤ h + fdI (sl * (t.1 - p)) 1000 ∧ h + fdI (sl * (t.1 - p)) 1000 ≤ t.2.2.2.1 then path c u r t.1 (h + fdI (sl * (t.1 - p)) 1000) sl else (t.1, h + fdI (sl * (t.1 - p)) 1000, sl, 1))
      else (t.1, h + fdI (sl * (t.1 - p)) 1000, sl, 2)
theorem bendingOf_ev (gl c : Int32) : f_X6_bendingOf gl c = some (bg gl c) := by
  unfold f_X6_bendingOf bg
  by_cases h : gl = 0
  · rw [if_pos h, if_pos h, floorDiv_ev (by decide), zbind_some]
  · rw [if_neg h, if_neg h, floorDiv_ev (by decide), zbind_some]
theorem rise_ev (sl d : Int32) : f_X4_rise sl d = some (fdI (sl * d) 1000) := by
  unfold f_X4_rise
  rw [floorDiv_ev (by decide), zbind_some]
theorem isBeyond_ev (h : Int32) : f_X0_isBeyond h = some (if -999 ≤ h ∧ h ≤ 999 then 0 else 1) := by
  unfold f_X0_isBeyond
  rw [within_ev, zbind_some, ite_1]
  by_cases q : -999 ≤ h ∧ h ≤ 999
  · rw [if_pos q, if_pos q]
  · rw [if_neg q, if_neg q]
theorem bendAt_ev {g : zG} {ls : List zL} {th : List zTh} {w : Int32} (h : repB g ls th w) (hl : th.length ≤ 8) {k : Nat} {t : zTh} (ht : th[k]? = some t) (c : Int32) : f_X0_bendAt g (nI k) c = some (if t.2.1 = 0 then bnd t c else 0) := by
  have hk := (List.getElem?_eq_some_iff.mp ht).1
  obtain ⟨a1, a2, a3, a4, a5⟩ := h.2.2.2.2 k t ht
  unfold f_X0_bendAt
  rw [hasThing_nI h.2.1 hl (by omega), if_pos hk, zbind_some, if_neg ne10]
  simp only [zin_nI (show k < 8 by omega) (show 8 < 2 ^ 31 by decide), nI_clamp (show k < 2 ^ 31 by omega)]
  rw [a2]
  by_cases hq : t.2.1 = 0
  · rw [if_pos hq, if_pos hq, a3, a4, bendingOf_ev, zbind_some, floorDiv_ev (by decide), zbind_some, a5 hq]
    unfold bnd
    split <;> rfl
  · rw [if_neg hq, if_neg hq]
theorem whyLostAt_ev {g : zG} {ls : List zL} {th : List zTh} {w : Int32} (h : repB g ls th w) (hl : th.length ≤ 8) {k : Nat} {t : zTh} (ht : th[k]? = some t) (hk01 : t.2.1 = 0 ∨ t.2.1 = 1) (y : Int32) :
    f_X0_whyLostAt g (nI k) y = some (if -999 ≤ y ∧ y ≤ 999 then (if t.2.1 = 0 then 0 else if t.2.2.1 ≤ y ∧ y ≤ t.2.2.2.1 then 0 else 1) else 2) := by
  have hk := (List.getElem?_eq_some_iff.mp ht).1
  obtain ⟨a1, a2, a3, a4, a5⟩ := h.2.2.2.2 k t ht
  unfold f_X0_whyLostAt
  rw [isBeyond_ev, zbind_some]
  by_cases q : -999 ≤ y ∧ y ≤ 999
  · rw [if_pos q, if_pos q, if_pos rfl, hasThing_nI h.2.1 hl (by omega), if_pos hk, zbind_some, if_neg ne10, zin_nI (by omega) (by decide), nI_clamp (by omega), a2]
    rcases hk01 with e | e
    · rw [e, if_neg (by decide), if_pos rfl]
      rfl
    · rw [e, if_pos rfl, if_neg (by decide)]
      unfold f_X0_whyLostAt_32
      rw [if_neg ne10, zin_nI (by omega) (by decide), zin_nI (by omega) (by decide), nI_clamp (by omega), a3, a4, within_ev, zbind_some, ite_1]
      split <;> rfl
  · rw [if_neg q, if_neg q, if_neg ne10]
/-- what following line l writes -/
def wrR (g g' : zG) (l : Nat) (q : zPt) : Prop := (∀ j, 4 ≤ j → g' j = g j) ∧ (∀ j x, x ≠ l → g' j x = g j x) ∧ g' 2 l = q.1 ∧ g' 3 l = q.2.2.2 ∧ (q.2.2.2 = 0 → g' 0 l = q.2.1 ∧ g' 1 l = q.2.2.1)
theorem finish_ev {g : zG} {l : Nat} (hl : l < 8) (p y : Int32) : f_X4_finish g (nI l) p y = some (gup (gup g 2 l p) 3 l y) := by
  unfold f_X4_finish
  rw [within07 hl, zbind_some, if_neg ne10]
  simp only [zin_nI hl (show 8 < 2 ^ 31 by decide), zlet_eq, nI_clamp (show l < 2 ^ 31 by omega)]
theorem wr_fin (g : zG) (l : Nat) (p h sl y : Int32) (hy : y ≠ 0) : wrR g (gup (gup g 2 l p) 3 l y) l (p, h, sl, y) := by
  refine ⟨?_, ?_, ?_, ?_, fun q => absurd q hy⟩
  · intro j hj
    rw [gup_ne _ _ _ (by omega), gup_ne _ _ _ (by omega)]
  · intro j x hx
    unfold gup
    split <;> (try split) <;> simp [upd, hx]
  · rw [gup_ne _ _ _ (by decide), gup_same]; simp [upd]
  · rw [gup_same]; simp [upd]
theorem wr_end (g : zG) (l : Nat) (p h sl y : Int32) : wrR g (gup (gup (gup (gup g 0 l h) 1 l sl) 2 l p) 3 l y) l (p, h, sl, y) := by
  refine ⟨?_, ?_, ?_, ?_, fun _ => ⟨?_, ?_⟩⟩
  · intro j hj
    rw [gup_ne _ _ _ (by omega), gup_ne _ _ _ (by omega), gup_ne _ _ _ (by omega), gup_ne _ _ _ (by omega)]
  · intro j x hx
    unfold gup
    split <;> (try split) <;> (try split) <;> (try split) <;> simp [upd, hx]
  · rw [gup_ne _ _ _ (by decide), gup_same]; simp [upd]
  · rw [gup_same]; simp [upd]
  · rw [gup_ne _ _ _ (by decide), gup_ne _ _ _ (by decide), gup_ne _ _ _ (by decide), gup_same]; simp [upd]
  · rw [gup_ne _ _ _ (by decide), gup_ne _ _ _ (by decide), gup_same]; simp [upd]
theorem followEnd_ev {gB g : zG} {l : Nat} (hl : l < 8) (u p h sl : Int32) : ∃ g', f_X4_followLine_129 gB (nI l) u p h sl g = some g' ∧ wrR g g' l (pend u p h sl) := by
  unfold f_X4_followLine_129 pend
  rw [rise_ev, zbind_some, zin_nI hl (by decide), zlet_eq, zin_nI hl (by decide), zlet_eq, nI_clamp (by omega), isBeyond_ev, zbind_some]
  by_cases q : -999 ≤ h + fdI (sl * (u - p)) 1000 ∧ h + fdI (sl * (u - p)) 1000 ≤ 999
  · rw [if_pos q, if_pos rfl, if_pos q, finish_ev hl, zbind_some]
    exact ⟨_, rfl, wr_end g l u _ sl 0⟩
  · rw [if_neg q, if_neg ne10, if_neg q, finish_ev hl, zbind_some]
    exact ⟨_, rfl, wr_end g l u _ sl 2⟩
theorem followLine_loop {gB : zG} {ls : List zL} {th : List zTh} {w : Int32} (hB : repB gB ls th w) (h8 : th.length ≤ 8) (hok : ∀ t ∈ th, okT t) {l : Nat} (hl : l < 8) (u c : Int32) (g : zG) :
    ∀ (r : List zTh) (i fuel : Nat) (p h sl : Int32), th.drop i = r → i ≤ th.length → r.length < fuel → ∃ g', f_X4_followLine_29 gB fuel (nI l) u c p h sl (nI i) g = some g' ∧ wrR g g' l (path c u r p h sl) := by
  intro r
  induction r with
  | nil =>
    intro i fuel p h sl hd hi hf
    obtain ⟨n, rfl⟩ : ∃ n, fuel = n + 1 := ⟨fuel - 1, by omega⟩
    have hi2 : th.length ≤ i := List.drop_eq_nil_iff.mp hd
    obtain ⟨g', h1, h2⟩ := followEnd_ev (gB := gB) (g := g) hl u p h sl
    refine ⟨g', ?_, h2⟩
    show f_X4_followLine_29_b gB (f_X4_followLine_29 gB n) (nI l) u c p h sl (nI i) g = _
    unfold f_X4_followLine_29_b
    rw [hasThing_nI hB.2.1 h8 (by omega), if_neg (c := i < th.length) (by omega), zbind_some, if_pos rfl, h1]
    split <;> rfl
  | cons t r ih =>
    intro i fuel p h sl hd hi hf
    obtain ⟨n, rfl⟩ : ∃ n, fuel = n + 1 := ⟨fuel - 1, by omega⟩
    obtain ⟨h1, h2, h3⟩ := drop_cons hd
    have htok := hok t (List.mem_of_getElem? h2)
    have hk01 : t.2.1 = 0 ∨ t.2.1 = 1 := htok.2.2.elim (fun q => Or.inl q.1) (fun q => Or.inr q.1)
    show ∃ g', f_X4_followLine_29_b gB (f_X4_followLine_29 gB n) (nI l) u c p h sl (nI i) g = some g' ∧ _
    unfold f_X4_followLine_29_b
    rw [if_neg (c := (8 : Int32) ≤ nI i) (by rw [l8 (by omega)]; omega), hasThing_nI hB.2.1 h8 (by omega), if_pos h1, zbind_some, if_neg ne10]
    simp only [zin_nI (show i < 8 by omega) (show 8 < 2 ^ 31 by decide), nI_clamp (show i < 2 ^ 31 by omega)]
    rw [(hB.2.2.2.2 i t h2).1]
    unfold path
    by_cases hu : u ≤ t.1
    · rw [if_pos hu, if_pos hu]
      exact followEnd_ev hl u p h sl
    · rw [if_neg hu, if_neg hu, rise_ev, zbind_some, whyLostAt_ev hB h8 h2 hk01, zbind_some]
      by_cases q : -999 ≤ h + fdI (sl * (t.1 - p)) 1000 ∧ h + fdI (sl * (t.1 - p)) 1000 ≤ 999
      · rw [if_pos q, if_pos q]
        by_cases qk : t.2.1 = 0
        · rw [if_pos qk, if_pos qk, if_pos rfl, bendAt_ev hB h8 h2, if_pos qk, zbind_some, nIs]
          exact ih (i + 1) n _ _ _ h3 (by omega) (by rw [List.length_cons] at hf; omega)
        · rw [if_neg qk, if_neg qk]
          by_cases qs : t.2.2.1 ≤ h + fdI (sl * (t.1 - p)) 1000 ∧ h + fdI (sl * (t.1 - p)) 1000 ≤ t.2.2.2.1
          · rw [if_pos qs, if_pos qs, if_pos rfl, bendAt_ev hB h8 h2, if_neg qk, zbind_some, nIs, Int32.add_zero]
            exact ih (i + 1) n _ _ _ h3 (by omega) (by rw [List.length_cons] at hf; omega)
          · rw [if_neg qs, if_neg qs, if_neg ne10, finish_ev hl, zbind_some]
            exact ⟨_, rfl, wr_fin g l _ _ _ 1 (by decide)⟩
      · rw [if_neg q, if_neg q, if_neg (by decide), finish_ev hl, zbind_some]
        exact ⟨_, rfl, wr_fin g l _ _ _ 2 (by decide)⟩
def pth (c : Int32) (th : List zTh) (u : Int32) : zPt := path c u th 0 0 0
theorem followLine_ev {gB : zG} {ls : List zL} {th : List zTh} {w : Int32} (hB : repB gB ls th w) (h8 : th.length ≤ 8) (hn : ls.length ≤ 8) (hok : ∀ t ∈ th, okT t) {l : Nat} {q : zL} (hl : ls[l]? = some q) (u : Int32) (g : zG) :
    ∃ g', f_X4_followLine g gB (nI l) u = some g' ∧ wrR g g' l (pth q.1 th u) := by
  have hk := (List.getElem?_eq_some_iff.mp hl).1
  unfold f_X4_followLine
  rw [hasLine_nI hB.1 hn (by omega), if_pos hk, zbind_some, if_neg ne10, zin_nI (by omega) (by decide), nI_clamp (by omega), (hB.2.2.2.1 l q hl).1]
  exact followLine_loop hB h8 hok (by omega) u q.1 g th 0 zfuel 0 0 0 rfl (Nat.zero_le _) (by unfold zfuel; omega)
/-- the rays behind following a bench to a place -/
def rayR (gR : zG) (ls : List zL) (th : List zTh) (u : Int32) (m : Nat) : Prop := ∀ (l : Nat) (q : zL), l < m → ls[l]? = some q → gR 2 l = (pth q.1 th u).1 ∧ gR 3 l = (pth q.1 th u).2.2.2 ∧ ((pth q.1 th u).2.2.2 = 0 → gR 0 l = (pth q.1 th u).2.1 ∧ gR 1 l = (pth q.1 th u).2.2.1)
theorem follow_loop {gB : zG} {ls : List zL} {th : List zTh} {w : Int32} (hB : repB gB ls th w) (h8 : th.length ≤ 8) (hn : ls.length ≤ 8) (hok : ∀ t ∈ th, okT t) : ∀ (d i fuel : Nat) (g : zG), i + d = ls.length → d < fuel → rayR g ls th 1000 i → ∃ g', f_X4_follow_2 gB fuel (nI i) g = some g' ∧ rayR g' ls th 1000 ls.length ∧ g' 4 0 = nI ls.length := by
  have fin : ∀ g : zG, rayR g ls th 1000 ls.length → ∃ g', f_X4_follow_31 gB g = some g' ∧ rayR g' ls th 1000 ls.length ∧ g' 4 0 = nI ls.length := by
    intro g hg
    refine ⟨gup g 4 0 (nI ls.length), ?_, ?_, ?_⟩
    · unfold f_X4_follow_31
      rw [zlet_eq, hB.1]
    · intro l q hl hq
      have := hg l q hl hq
      simpa [gup] using this
    · simp [gup, upd]
  intro d
  induction d with
  | zero =>
    intro i fuel g hi hf hg
    obtain ⟨n, rfl⟩ : ∃ n, fuel = n + 1 := ⟨fuel - 1, by omega⟩
    have hi : i = ls.length := by omega
    subst hi
    obtain ⟨g', h1, h2⟩ := fin g hg
    refine ⟨g', ?_, h2⟩
    show f_X4_follow_2_b gB (f_X4_follow_2 gB n) (nI ls.length) g = _
    unfold f_X4_follow_2_b
    rw [hasLine_nI hB.1 hn (by omega), if_neg (c := ls.length < ls.length) (by omega), zbind_some, if_pos rfl, h1]
    split <;> rfl
  | succ d ih =>
    intro i fuel g hi hf hg
    obtain ⟨n, rfl⟩ : ∃ n, fuel = n + 1 := ⟨fuel - 1, by omega⟩
    have hil : i < ls.length := by omega
    obtain ⟨g1, h1, w1, w2, w3, w4, w5⟩ := followLine_ev hB h8 hn hok (List.getElem?_eq_getElem hil) 1000 g
    show ∃ g', f_X4_follow_2_b gB (f_X4_follow_2 gB n) (nI i) g = some g' ∧ _
    unfold f_X4_follow_2_b
    rw [if_neg (c := (8 : Int32) ≤ nI i) (by rw [l8 (by omega)]; omega), hasLine_nI hB.1 hn (by omega), if_pos hil, zbind_some, if_neg ne10, h1, zbind_some, nIs]
    refine ih (i + 1) n g1 (by omega) (by omega) ?_
    intro l q hl hq
    by_cases e : l = i
    · subst e
      rw [List.getElem?_eq_getElem hil] at hq
      cases hq
      exact ⟨w3, w4, w5⟩
    · rw [w2 2 l e, w2 3 l e, w2 0 l e, w2 1 l e]
      exact hg l q (by omega) hq
theorem follow_ev {gB : zG} {ls : List zL} {th : List zTh} {w : Int32} (hB : repB gB ls th w) (h8 : th.length ≤ 8) (hn : ls.length ≤ 8) (hok : ∀ t ∈ th, okT t) (g : zG) : ∃ g', f_X4_follow g gB = some g' ∧ rayR g' ls th 1000 ls.length ∧ g' 4 0 = nI ls.length := by
  unfold f_X4_follow
  exact follow_loop hB h8 hn hok ls.length 0 zfuel g (by omega) (by unfold zfuel; omega) (fun l q hl => absurd hl (by omega))
