/-! ===== the abstract state, and the class's bench over it ===== -/
abbrev zL : Type := Int32 × Int32
abbrev zTh : Type := Int32 × Int32 × Int32 × Int32 × Int32
def repB (g : zG) (ls : List zL) (th : List zTh) (w : Int32) : Prop :=
  g 2 0 = nI ls.length ∧ g 8 0 = nI th.length ∧ g 9 0 = w ∧ (∀ (i : Nat) (t : zL), ls[i]? = some t → g 0 i = t.1 ∧ g 1 i = t.2) ∧
  (∀ (i : Nat) (t : zTh), th[i]? = some t → g 3 i = t.1 ∧ g 4 i = t.2.1 ∧ g 5 i = t.2.2.1 ∧ g 6 i = t.2.2.2.1 ∧ (t.2.1 = 0 → g 7 i = t.2.2.2.2))
def okT (t : zTh) : Prop := 1 ≤ t.1 ∧ t.1 ≤ 999 ∧ ((t.2.1 = 0 ∧ (t.2.2.1 = 0 ∨ t.2.2.1 = 1) ∧ 1 ≤ t.2.2.2.1 ∧ t.2.2.2.1 ≤ 99 ∧ (t.2.2.2.2 = 1 ∨ t.2.2.2.2 = -1)) ∨ (t.2.1 = 1 ∧ t.2.2.2.2 = 0))
def okL (t : zL) : Prop := 380 ≤ t.1 ∧ t.1 ≤ 780 ∧ 1 ≤ t.2 ∧ t.2 ≤ 999
def okV (ls : List zL) (th : List zTh) (w : Int32) : Prop := ls.length ≤ 8 ∧ th.length ≤ 8 ∧ 1 ≤ w ∧ w ≤ 500 ∧ (∀ t ∈ ls, okL t) ∧ (∀ t ∈ th, okT t) ∧ th.Pairwise (fun a b => a.1 < b.1)
theorem lnum_ge {n k : Nat} (h : n ≤ k) (hk : k < 2 ^ 31) : lnum n (nI k) = none := by
  unfold lnum
  rw [if_neg]
  intro q
  have := (nI_ltI hk (by omega)).mp q.2
  omega
theorem lnum_is {n k : Nat} (hn : n < 2 ^ 31) (hk : k < 2 ^ 31) : (lnum n (nI k)).isSome = decide (k < n) := by
  by_cases h : k < n
  · rw [lnum_nI h hn, decide_eq_true h]; rfl
  · rw [lnum_ge (by omega) hk, decide_eq_false h]; rfl
theorem hasThing_nI {g : zG} {n k : Nat} (h : g 8 0 = nI n) (hn : n ≤ 8) (hk : k < 2 ^ 31) : f_X0_hasThing g (nI k) = some (if k < n then 1 else 0) := by
  rw [hasThing_ev h hn, lnum_is (by omega) hk]
  simp
theorem hasLine_nI {g : zG} {n k : Nat} (h : g 2 0 = nI n) (hn : n ≤ 8) (hk : k < 2 ^ 31) : f_X0_hasLine g (nI k) = some (if k < n then 1 else 0) := by
  rw [hasLine_ev h hn, lnum_is (by omega) hk]
  simp
theorem l8 {i : Nat} (h : i < 2 ^ 31) : (8 : Int32) ≤ nI i ↔ 8 ≤ i := nI_leI (a := 8) (by decide) h
theorem nIs (i : Nat) : nI i + (1 : Int32) = nI (i + 1) := nI_1 i
theorem ne10 : ¬ (1 : Int32) = 0 := by decide
/-- the first thing at a place -/
def fidx (p : Int32) : List zTh → Option Nat
  | [] => none
  | t :: r => if t.1 = p then some 0 else (fidx p r).map (· + 1)
/-- how many things are ahead of a place -/
def nah (p : Int32) : List zTh → Nat
  | [] => 0
  | t :: r => if t.1 < p then nah p r + 1 else 0
theorem fidx_some {p : Int32} : ∀ {th : List zTh} {k : Nat}, fidx p th = some k → ∃ t, th[k]? = some t ∧ t.1 = p := by
  intro th
  induction th with
  | nil => intro k h; cases h
  | cons t r ih =>
    intro k h
    unfold fidx at h
    split at h
    · cases h; exact ⟨t, rfl, by assumption⟩
    · cases hr : fidx p r with
      | none => rw [hr] at h; cases h
      | some j =>
        rw [hr] at h
        cases h
        obtain ⟨t', h1, h2⟩ := ih hr
        exact ⟨t', by simpa using h1, h2⟩
theorem fidx_none {p : Int32} : ∀ {th : List zTh}, fidx p th = none → ∀ t ∈ th, t.1 ≠ p := by
  intro th
  induction th with
  | nil => intro _ t ht; cases ht
  | cons t r ih =>
    intro h
    unfold fidx at h
    split at h
    · cases h
    · cases hr : fidx p r with
      | none =>
        intro t' ht'
        rcases List.mem_cons.mp ht' with rfl | ht'
        · assumption
        · exact ih hr t' ht'
      | some j => rw [hr] at h; cases h
theorem fidx_lt {p : Int32} {th : List zTh} {k : Nat} (h : fidx p th = some k) : k < th.length := by
  obtain ⟨t, h1, -⟩ := fidx_some h
  exact (List.getElem?_eq_some_iff.mp h1).1
theorem nah_le (p : Int32) : ∀ th : List zTh, nah p th ≤ th.length := by
  intro th
  induction th with
  | nil => exact Nat.le_refl _
  | cons t r ih =>
    unfold nah
    split
    · rw [List.length_cons]; omega
    · omega
theorem drop_cons {α : Type} {l r : List α} {i : Nat} {t : α} (h : l.drop i = t :: r) : i < l.length ∧ l[i]? = some t ∧ l.drop (i + 1) = r := by
  have hi : i < l.length := by
    rcases Nat.lt_or_ge i l.length with q | q
    · exact q
    · rw [List.drop_eq_nil_of_le q] at h; cases h
  rw [List.drop_eq_getElem_cons hi] at h
  have h1 := List.cons.inj h
  exact ⟨hi, by rw [List.getElem?_eq_getElem hi, h1.1], h1.2⟩
def ix (o : Option Nat) (d : Int32) : Int32 := match o with
  | none => d
  | some k => nI k
theorem indexOf_aux {g : zG} {th : List zTh} (hc : g 8 0 = nI th.length) (hl : th.length ≤ 8) (ha : ∀ (i : Nat) (t : zTh), th[i]? = some t → g 3 i = t.1) (p : Int32) : ∀ (r : List zTh) (i fuel : Nat), th.drop i = r → i ≤ th.length → r.length < fuel → f_X0_indexOf_2 g fuel p (nI i) = some (ix ((fidx p r).map (i + ·)) (-1)) := by
  intro r
  induction r with
  | nil =>
    intro i fuel hd hi hf
    obtain ⟨n, rfl⟩ : ∃ n, fuel = n + 1 := ⟨fuel - 1, by omega⟩
    have hi2 : th.length ≤ i := List.drop_eq_nil_iff.mp hd
    show f_X0_indexOf_2_b g (f_X0_indexOf_2 g n) p (nI i) = _
    unfold f_X0_indexOf_2_b
    rw [hasThing_nI hc hl (by omega), if_neg (c := i < th.length) (by omega), zbind_some, if_pos rfl]
    split <;> rfl
  | cons t r ih =>
    intro i fuel hd hi hf
    obtain ⟨n, rfl⟩ : ∃ n, fuel = n + 1 := ⟨fuel - 1, by omega⟩
    obtain ⟨h1, h2, h3⟩ := drop_cons hd
    show f_X0_indexOf_2_b g (f_X0_indexOf_2 g n) p (nI i) = _
    unfold f_X0_indexOf_2_b
    rw [if_neg (c := (8 : Int32) ≤ nI i) (by rw [l8 (by omega)]; omega), hasThing_nI hc hl (by omega), if_pos h1, zbind_some, if_neg ne10, zin_nI (by omega) (by decide), nI_clamp (by omega), ha i t h2, nIs]
    unfold fidx
    by_cases hp : t.1 = p
    · rw [if_pos hp, if_pos hp]; rfl
    · rw [if_neg hp, if_neg hp, ih (i + 1) n h3 (by omega) (by rw [List.length_cons] at hf; omega)]
      cases fidx p r with
      | none => rfl
      | some j => simp only [Option.map_some, ix]; congr 2; omega
theorem indexOf_ev {g : zG} {ls : List zL} {th : List zTh} {w : Int32} (h : repB g ls th w) (hl : th.length ≤ 8) (p : Int32) : f_X0_indexOf g p = some (ix (fidx p th) (-1)) := by
  have := indexOf_aux h.2.1 hl (fun i t q => (h.2.2.2.2 i t q).1) p th 0 zfuel rfl (Nat.zero_le _) (Nat.lt_of_le_of_lt hl (by decide))
  unfold f_X0_indexOf
  rw [show (0 : Int32) = nI 0 from rfl, this]
  cases fidx p th with
  | none => rfl
  | some j => simp [ix]
theorem thingsAhead_aux {g : zG} {th : List zTh} (hc : g 8 0 = nI th.length) (hl : th.length ≤ 8) (ha : ∀ (i : Nat) (t : zTh), th[i]? = some t → g 3 i = t.1) (p : Int32) : ∀ (r : List zTh) (i fuel : Nat), th.drop i = r → i ≤ th.length → r.length < fuel → f_X0_thingsAhead_2 g fuel p (nI i) = some (nI (i + nah p r)) := by
  intro r
  induction r with
  | nil =>
    intro i fuel hd hi hf
    obtain ⟨n, rfl⟩ : ∃ n, fuel = n + 1 := ⟨fuel - 1, by omega⟩
    have hi2 : th.length ≤ i := List.drop_eq_nil_iff.mp hd
    show f_X0_thingsAhead_2_b g (f_X0_thingsAhead_2 g n) p (nI i) = _
    unfold f_X0_thingsAhead_2_b
    rw [hasThing_nI hc hl (by omega), if_neg (c := i < th.length) (by omega), zbind_some, if_pos rfl]
    split <;> rfl
  | cons t r ih =>
    intro i fuel hd hi hf
    obtain ⟨n, rfl⟩ : ∃ n, fuel = n + 1 := ⟨fuel - 1, by omega⟩
    obtain ⟨h1, h2, h3⟩ := drop_cons hd
    show f_X0_thingsAhead_2_b g (f_X0_thingsAhead_2 g n) p (nI i) = _
    unfold f_X0_thingsAhead_2_b
    rw [if_neg (c := (8 : Int32) ≤ nI i) (by rw [l8 (by omega)]; omega), hasThing_nI hc hl (by omega), if_pos h1, zbind_some, if_neg ne10, zin_nI (by omega) (by decide), nI_clamp (by omega), ha i t h2, nIs]
    unfold nah
    by_cases hp : t.1 < p
    · rw [if_neg (inle.mpr hp), if_pos hp, ih (i + 1) n h3 (by omega) (by rw [List.length_cons] at hf; omega)]
      congr 2; omega
    · rw [if_pos (inlt.mp hp), if_neg hp]; rfl
theorem thingsAhead_ev {g : zG} {ls : List zL} {th : List zTh} {w : Int32} (h : repB g ls th w) (hl : th.length ≤ 8) (p : Int32) : f_X0_thingsAhead g p = some (nI (nah p th)) := by
  have := thingsAhead_aux h.2.1 hl (fun i t q => (h.2.2.2.2 i t q).1) p th 0 zfuel rfl (Nat.zero_le _) (Nat.lt_of_le_of_lt hl (by decide))
  unfold f_X0_thingsAhead
  rw [show (0 : Int32) = nI 0 from rfl, this, Nat.zero_add]
-- lines
def INV : Int32 := -1000000001
def NPO : Int32 := -1000000002
def LIM : Int32 := -1000000003
def NFO : Int32 := -1000000004
def okc (c v : Int32) : Prop := (380 ≤ c ∧ c ≤ 780) ∧ 1 ≤ v ∧ v ≤ 999
theorem ite_1 {c : Prop} [Decidable c] {β : Type} {a b : β} : (if (if c then (1 : Int32) else 0) = 0 then a else b) = if c then b else a := by
  by_cases h : c
  · rw [if_pos h, if_pos h, if_neg ne10]
  · rw [if_neg h, if_neg h, if_pos rfl]
theorem addLine_ev {g : zG} {ls : List zL} {th : List zTh} {w : Int32} (h : repB g ls th w) (hl : ls.length ≤ 8) (c v : Int32) :
    (¬ okc c v ∧ f_X0_addLine g c v = some (INV, g)) ∨ (okc c v ∧ ls.length = 8 ∧ f_X0_addLine g c v = some (LIM, g)) ∨ (okc c v ∧ ls.length < 8 ∧ ∃ g', f_X0_addLine g c v = some (nI ls.length, g') ∧ repB g' (ls ++ [(c, v)]) th w) := by
  unfold f_X0_addLine
  rw [within_ev, within_ev, zbind_some, ite_1]
  by_cases h1 : 380 ≤ c ∧ c ≤ 780
  · rw [if_pos h1, zbind_some, ite_1]
    by_cases h2 : 1 ≤ v ∧ v ≤ 999
    · rw [if_pos h2, h.1, if_neg (nI_pos (by omega))]
      by_cases h3 : ls.length < 8
      · rw [if_pos (c := nI ls.length < (8 : Int32)) ((nI_ltI (b := 8) (by omega) (by decide)).mpr h3)]
        refine Or.inr (Or.inr ⟨⟨h1, h2⟩, h3, ?_⟩)
        rw [zin_nI h3 (by decide), zlet_eq, zin_nI h3 (by decide), zlet_eq, zlet_eq, nI_clamp (by omega)]
        refine ⟨_, rfl, ?_⟩
        refine ⟨?_, ?_, ?_, ?_, ?_⟩
        · simp [gup, upd, nIs]
        · simpa [gup] using h.2.1
        · simpa [gup] using h.2.2.1
        · intro i t ht
          rw [List.getElem?_append] at ht
          by_cases hi : i < ls.length
          · rw [if_pos hi] at ht
            have := h.2.2.2.1 i t ht
            simpa [gup, upd, Nat.ne_of_lt hi] using this
          · rw [if_neg hi] at ht
            have hi2 : i = ls.length := by
              have := (List.getElem?_eq_some_iff.mp ht).1
              simp at this
              omega
            subst hi2
            simp at ht
            subst ht
            simp [gup, upd]
        · intro i t ht
          simpa [gup] using h.2.2.2.2 i t ht
      · rw [if_neg (c := nI ls.length < (8 : Int32)) (fun q => h3 ((nI_ltI (b := 8) (by omega) (by decide)).mp q))]
        exact Or.inr (Or.inl ⟨⟨h1, h2⟩, by omega, rfl⟩)
    · rw [if_neg h2]
      exact Or.inl ⟨fun q => h2 q.2, rfl⟩
  · rw [if_neg h1]
    exact Or.inl ⟨fun q => h1 q.1, rfl⟩
