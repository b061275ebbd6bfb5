/-! ===== the brightest cells ===== -/
theorem sm_bd {f : zL → Int32} : ∀ ls : List zL, (∀ q ∈ ls, 0 ≤ (f q).toInt ∧ (f q).toInt ≤ 999) → ls.length ≤ 8 → 0 ≤ (sm f ls).toInt ∧ (sm f ls).toInt ≤ 999 * ls.length := by
  intro ls
  induction ls with
  | nil =>
    intro _ _
    show (0 : Int) ≤ (0 : Int32).toInt ∧ (0 : Int32).toInt ≤ 999 * ((0 : Nat) : Int)
    decide
  | cons q r ih =>
    intro h hl
    rw [List.length_cons] at hl
    obtain ⟨a1, a2⟩ := h q List.mem_cons_self
    obtain ⟨b1, b2⟩ := ih (fun x hx => h x (List.mem_cons_of_mem _ hx)) (by omega)
    have e : (sm f (q :: r)).toInt = (f q).toInt + (sm f r).toInt := iadd (by omega) (by omega)
    rw [e, List.length_cons]
    omega
theorem okL_bd {t : zL} (h : okL t) : 0 ≤ t.2.toInt ∧ t.2.toInt ≤ 999 := by
  have h1 : (1 : Int) ≤ t.2.toInt := ile_c h.2.2.1
  have h2 : t.2.toInt ≤ (999 : Int) := ile_c h.2.2.2
  omega
theorem lc_bd {b : zB} (ok : okB b) (c : Int32) : 0 ≤ (lc b c b.1).toInt ∧ (lc b c b.1).toInt ≤ 7992 := by
  have hn := ok.1
  have := sm_bd (f := fun q => if pc b c q then q.2 else 0) b.1 (fun q hq => by
    have := okL_bd (ok.2.2.2.2.1 q hq)
    split
    · exact this
    · exact ⟨by decide, by decide⟩) hn
  unfold lc
  omega
theorem by_pos {a c : Int32} (ha : 0 ≤ a.toInt ∧ a.toInt ≤ 7992) (hc : 0 ≤ c.toInt ∧ c.toInt ≤ 7992) : (0 < a - c ↔ c < a) ∧ (a - c = 0 ↔ a = c) := by
  have e : (a - c).toInt = a.toInt - c.toInt := isub (by omega) (by omega)
  refine ⟨?_, ?_⟩
  · rw [ilt, ilt, e, Int32.toInt_zero]; omega
  · rw [← Int32.toInt_inj, ← Int32.toInt_inj, e, Int32.toInt_zero]; omega
def nD (b : zB) (k : Nat) : Int32 := (dc b).getD k 0
def bri (b : zB) (i k : Nat) : Bool := decide (lc b (nD b k) b.1 < lc b (nD b i) b.1 ∨ (lc b (nD b i) b.1 = lc b (nD b k) b.1 ∧ nD b i < nD b k))
theorem nD_get {b : zB} {k : Nat} (h : k < (dc b).length) : (dc b)[k]? = some (nD b k) := getD_some h
def rkN (B : Nat → Bool) : Nat → Nat → Nat → Nat
  | 0, _, a => a
  | d + 1, i, a => rkN B d (i + 1) (if B i then a + 1 else a)
def fkd (P : Nat → Bool) : Nat → Nat → Option Nat
  | 0, _ => none
  | d + 1, i => if P i then some i else fkd P d (i + 1)
theorem rank_loop {b : zB} {g : zG} (hg : gC b b.1 (dc b) g) (hm : (dc b).length ≤ 8) {k : Nat} : ∀ (d i fuel a : Nat), i + d = (dc b).length → d < fuel → f_X1_rankOf_30 g fuel (lc b (nD b k) b.1) (nD b k) (nI a) (nI i) = some (nI (rkN (fun o => bri b o k) d i a)) := by
  intro d
  induction d with
  | zero =>
    intro i fuel a hi hf
    obtain ⟨n, rfl⟩ : ∃ n, fuel = n + 1 := ⟨fuel - 1, by omega⟩
    show f_X1_rankOf_30_b g (f_X1_rankOf_30 g n) (lc b (nD b k) b.1) (nD b k) (nI a) (nI i) = _
    unfold f_X1_rankOf_30_b
    rw [hasSlot_nI hg.1 hm (by omega), if_neg (c := i < (dc b).length) (by omega), zbind_some, if_pos rfl]
    split <;> rfl
  | succ d ih =>
    intro i fuel a hi hf
    obtain ⟨n, rfl⟩ : ∃ n, fuel = n + 1 := ⟨fuel - 1, by omega⟩
    have hil : i < (dc b).length := by omega
    have z8 : ∀ {β : Type} (j : Option β), zin (nI i) 8 j = j := fun j => zin_nI (by omega) (by decide)
    obtain ⟨a1, a2, -⟩ := hg.2 i _ (nD_get hil)
    show f_X1_rankOf_30_b g (f_X1_rankOf_30 g n) (lc b (nD b k) b.1) (nD b k) (nI a) (nI i) = some (nI (rkN (fun o => bri b o k) d (i + 1) (if bri b i k then a + 1 else a)))
    unfold f_X1_rankOf_30_b f_X1_rankOf_62 f_X1_rankOf_90 f_X1_rankOf_91
    rw [if_neg (c := (8 : Int32) ≤ nI i) (by rw [l8 (by omega)]; omega), hasSlot_nI hg.1 hm (by omega), if_pos hil, zbind_some, if_neg ne10]
    simp only [z8, nI_clamp (show i < 2 ^ 31 by omega), a1, a2, nIs]
    have yes : bri b i k = true → f_X1_rankOf_30 g n (lc b (nD b k) b.1) (nD b k) (nI (a + 1)) (nI (i + 1)) = some (nI (rkN (fun o => bri b o k) d (i + 1) (if bri b i k then a + 1 else a))) := by
      intro h
      rw [h, if_pos rfl]
      exact ih (i + 1) n (a + 1) (by omega) (by omega)
    have no : bri b i k = false → f_X1_rankOf_30 g n (lc b (nD b k) b.1) (nD b k) (nI a) (nI (i + 1)) = some (nI (rkN (fun o => bri b o k) d (i + 1) (if bri b i k then a + 1 else a))) := by
      intro h
      rw [h, if_neg (by decide)]
      exact ih (i + 1) n a (by omega) (by omega)
    by_cases h1 : lc b (nD b i) b.1 ≤ lc b (nD b k) b.1
    · rw [if_pos h1]
      by_cases h2 : lc b (nD b i) b.1 = lc b (nD b k) b.1
      · rw [if_pos h2]
        by_cases h3 : nD b k ≤ nD b i
        · rw [if_pos h3, if_pos trivial, if_pos trivial]
          refine no ?_
          unfold bri
          rw [decide_eq_false_iff_not]
          rintro (h | h)
          · exact inle.mpr h h1
          · exact inle.mpr h.2 h3
        · rw [if_neg h3, if_pos trivial, if_neg ne10]
          refine yes ?_
          unfold bri
          rw [decide_eq_true_iff]
          exact Or.inr ⟨h2, inle.mp h3⟩
      · rw [if_neg h2, if_pos trivial, if_pos trivial]
        refine no ?_
        unfold bri
        rw [decide_eq_false_iff_not]
        rintro (h | h)
        · exact inle.mpr h h1
        · exact h2 h.1
    · rw [if_neg h1]
      simp only [if_neg ne10, ite_self]
      refine yes ?_
      unfold bri
      rw [decide_eq_true_iff]
      exact Or.inl (inle.mp h1)
def rkP (b : zB) (x : Int32) (k : Nat) : Bool := decide (nI (rkN (fun o => bri b o k) (dc b).length 0 0) = x)
theorem rank_ev {b : zB} {g : zG} (hg : gC b b.1 (dc b) g) (hm : (dc b).length ≤ 8) {k : Nat} (hk : k < (dc b).length) : f_X1_rankOf g (nI k) = some (nI (rkN (fun o => bri b o k) (dc b).length 0 0)) := by
  unfold f_X1_rankOf
  obtain ⟨b1, b2, -⟩ := hg.2 k _ (nD_get hk)
  have z8 : ∀ {β : Type} (j : Option β), zin (nI k) 8 j = j := fun j => zin_nI (by omega) (by decide)
  rw [hasSlot_nI hg.1 hm (by omega), if_pos hk, zbind_some, if_neg ne10, z8, z8]
  simp only [nI_clamp (show k < 2 ^ 31 by omega), b1, b2]
  exact rank_loop hg hm (dc b).length 0 zfuel 0 (by omega) (by unfold zfuel; omega)
theorem slotRank_loop {b : zB} {g : zG} (hg : gC b b.1 (dc b) g) (hm : (dc b).length ≤ 8) (x : Int32) : ∀ (d i fuel : Nat), i + d = (dc b).length → d < fuel → f_X1_slotOfRank_2 g fuel x (nI i) = some (ix (fkd (rkP b x) d i) (-1)) := by
  intro d
  induction d with
  | zero =>
    intro i fuel hi hf
    obtain ⟨n, rfl⟩ : ∃ n, fuel = n + 1 := ⟨fuel - 1, by omega⟩
    show f_X1_slotOfRank_2_b g (f_X1_slotOfRank_2 g n) x (nI i) = _
    unfold f_X1_slotOfRank_2_b
    rw [hasSlot_nI hg.1 hm (by omega), if_neg (c := i < (dc b).length) (by omega), zbind_some, if_pos rfl]
    split <;> rfl
  | succ d ih =>
    intro i fuel hi hf
    obtain ⟨n, rfl⟩ : ∃ n, fuel = n + 1 := ⟨fuel - 1, by omega⟩
    have hil : i < (dc b).length := by omega
    show f_X1_slotOfRank_2_b g (f_X1_slotOfRank_2 g n) x (nI i) = some (ix (if rkP b x i then some i else fkd (rkP b x) d (i + 1)) (-1))
    unfold f_X1_slotOfRank_2_b
    rw [if_neg (c := (8 : Int32) ≤ nI i) (by rw [l8 (by omega)]; omega), hasSlot_nI hg.1 hm (by omega), if_pos hil, zbind_some, if_neg ne10, rank_ev hg hm hil, zbind_some, nIs]
    unfold rkP
    by_cases h : nI (rkN (fun o => bri b o i) (dc b).length 0 0) = x
    · rw [if_pos h, if_pos (decide_eq_true h)]
      rfl
    · rw [if_neg h, decide_eq_false h, if_neg (by decide)]
      exact ih (i + 1) n (by omega) (by omega)
theorem fkd_lt {P : Nat → Bool} : ∀ (d i k : Nat), fkd P d i = some k → k < i + d := by
  intro d
  induction d with
  | zero => intro i k h; cases h
  | succ d ih =>
    intro i k h
    unfold fkd at h
    split at h
    · cases h; omega
    · have := ih (i + 1) k h; omega
theorem brighter_ev {b : zB} (ok : okB b) {g : zG} (hS : rS (g 0) b) (hg : gL b (dc b) g) (hm : (dc b).length ≤ 8) {i k : Nat} (hi : i < (dc b).length) (hk : k < (dc b).length) : f_X7_isBrighter g (nI i) (nI k) = some (if bri b i k then 1 else 0) := by
  have z8 : ∀ {β : Type} (j : Option β), zin (nI i) 8 j = j := fun j => zin_nI (by omega) (by decide)
  have z8' : ∀ {β : Type} (j : Option β), zin (nI k) 8 j = j := fun j => zin_nI (by omega) (by decide)
  obtain ⟨a1, a2⟩ := hg i _ (nD_get hi)
  obtain ⟨b1, b2⟩ := hg k _ (nD_get hk)
  obtain ⟨p1, p2⟩ := by_pos (lc_bd ok (nD b i)) (lc_bd ok (nD b k))
  unfold f_X7_isBrighter
  simp only [z8, z8', nI_clamp (show i < 2 ^ 31 by omega), nI_clamp (show k < 2 ^ 31 by omega), a1, a2, b1, b2]
  rw [lightIn_ev ok hS, zbind_some, lightIn_ev ok hS, zbind_some]
  have e1 : sm (fun q => if pc b (nD b i) q then q.2 else 0) b.1 = lc b (nD b i) b.1 := rfl
  have e2 : sm (fun q => if pc b (nD b k) q then q.2 else 0) b.1 = lc b (nD b k) b.1 := rfl
  rw [e1, e2]
  unfold bri
  by_cases h1 : lc b (nD b k) b.1 < lc b (nD b i) b.1
  · rw [if_pos (p1.mpr h1), if_pos (decide_eq_true (Or.inl h1))]
  · rw [if_neg (fun h => h1 (p1.mp h))]
    by_cases h2 : lc b (nD b i) b.1 = lc b (nD b k) b.1
    · rw [if_pos (p2.mpr h2)]
      by_cases h3 : nD b k ≤ nD b i
      · rw [if_pos h3, decide_eq_false (fun h => h.elim h1 (fun h => inle.mpr h.2 h3)), if_neg (by decide)]
      · rw [if_neg h3, if_pos (decide_eq_true (Or.inr ⟨h2, inle.mp h3⟩))]
    · rw [if_neg (fun h => h2 (p2.mp h)), decide_eq_false (fun h => h.elim h1 (fun h => h2 h.1)), if_neg (by decide)]
def brA (b : zB) (x2 : Int32) (k : Nat) : Int32 := if x2 = 0 then nD b k else if x2 = 1 then lc b (nD b k) b.1 else nI (setB (pc b (nD b k)) b.1)
theorem bright36_loop {b : zB} (ok : okB b) {g : zG} (hS : rS (g 0) b) (hg : gL b (dc b) g) (hm : (dc b).length ≤ 8) (x1 x2 : Int32) (k24 : Int32 → Int32 → Int32 → Int32 → zG → Option (Int32 × zG)) {k : Nat} (hk : k < (dc b).length) : ∀ (d i fuel a : Nat), i + d = (dc b).length → d < fuel → f_X7_bright_36 k24 fuel x1 x2 (nI (dc b).length) (nI k) (nI a) (nI i) g = if nI (rkN (fun o => bri b o k) d i a) = x1 then some (brA b x2 k, g) else k24 x1 x2 (nI (dc b).length) (nI (k + 1)) g := by
  intro d
  induction d with
  | zero =>
    intro i fuel a hi hf
    obtain ⟨n, rfl⟩ : ∃ n, fuel = n + 1 := ⟨fuel - 1, by omega⟩
    have z8' : ∀ {β : Type} (j : Option β), zin (nI k) 8 j = j := fun j => zin_nI (by omega) (by decide)
    obtain ⟨b1, b2⟩ := hg k _ (nD_get hk)
    show f_X7_bright_36_b k24 (f_X7_bright_36 k24 n) x1 x2 (nI (dc b).length) (nI k) (nI a) (nI i) g = _
    unfold f_X7_bright_36_b
    rw [if_pos (c := nI (dc b).length ≤ nI i) ((nI_leI (by omega) (by omega)).mpr (by omega)), nIs]
    simp only [z8', nI_clamp (show k < 2 ^ 31 by omega), b1, b2]
    rw [lightIn_ev ok hS, zbind_some]
    have e2 : sm (fun q => if pc b (nD b k) q then q.2 else 0) b.1 = lc b (nD b k) b.1 := rfl
    rw [e2]
    have er : rkN (fun o => bri b o k) 0 i a = a := rfl
    rw [er]
    unfold brA
    by_cases h : nI a = x1
    · rw [if_pos h, if_pos h]
      by_cases h0 : x2 = 0
      · rw [if_pos h0, if_pos h0]
      · rw [if_neg h0, if_neg h0]
        by_cases h1 : x2 = 1
        · rw [if_pos h1, if_pos h1]
        · rw [if_neg h1, if_neg h1]
    · rw [if_neg h, if_neg h]
  | succ d ih =>
    intro i fuel a hi hf
    obtain ⟨n, rfl⟩ : ∃ n, fuel = n + 1 := ⟨fuel - 1, by omega⟩
    have hil : i < (dc b).length := by omega
    have er : rkN (fun o => bri b o k) (d + 1) i a = rkN (fun o => bri b o k) d (i + 1) (if bri b i k then a + 1 else a) := rfl
    show f_X7_bright_36_b k24 (f_X7_bright_36 k24 n) x1 x2 (nI (dc b).length) (nI k) (nI a) (nI i) g = _
    unfold f_X7_bright_36_b
    rw [if_neg (c := nI (dc b).length ≤ nI i) (fun h => by have := (nI_leI (by omega) (by omega)).mp h; omega), brighter_ev ok hS hg hm hil hk, zbind_some, ite_1, er, nIs, nIs, Int32.add_zero]
    by_cases h : bri b i k = true
    · rw [if_pos h, if_pos h]
      exact ih (i + 1) n (a + 1) (by omega) (by omega)
    · rw [if_neg h, if_neg h]
      exact ih (i + 1) n a (by omega) (by omega)
theorem bright24_loop {b : zB} (ok : okB b) {g : zG} (hS : rS (g 0) b) (hg : gL b (dc b) g) (hm : (dc b).length ≤ 8) (x1 x2 : Int32) : ∀ (d i fuel : Nat), i + d = (dc b).length → d < fuel → f_X7_bright_24 fuel x1 x2 (nI (dc b).length) (nI i) g = some (match fkd (rkP b x1) d i with | none => NFO | some k => brA b x2 k, g) := by
  intro d
  induction d with
  | zero =>
    intro i fuel hi hf
    obtain ⟨n, rfl⟩ : ∃ n, fuel = n + 1 := ⟨fuel - 1, by omega⟩
    show f_X7_bright_24_b (f_X7_bright_24 n) x1 x2 (nI (dc b).length) (nI i) g = _
    unfold f_X7_bright_24_b
    rw [if_pos (c := nI (dc b).length ≤ nI i) ((nI_leI (by omega) (by omega)).mpr (by omega))]
    rfl
  | succ d ih =>
    intro i fuel hi hf
    obtain ⟨n, rfl⟩ : ∃ n, fuel = n + 1 := ⟨fuel - 1, by omega⟩
    have hil : i < (dc b).length := by omega
    have ef : fkd (rkP b x1) (d + 1) i = if rkP b x1 i then some i else fkd (rkP b x1) d (i + 1) := rfl
    show f_X7_bright_24_b (f_X7_bright_24 n) x1 x2 (nI (dc b).length) (nI i) g = _
    unfold f_X7_bright_24_b
    rw [if_neg (c := nI (dc b).length ≤ nI i) (fun h => by have := (nI_leI (by omega) (by omega)).mp h; omega)]
    have := bright36_loop ok hS hg hm x1 x2 (f_X7_bright_24 n) hil (dc b).length 0 zfuel 0 (by omega) (by unfold zfuel; omega)
    have this : f_X7_bright_36 (f_X7_bright_24 n) zfuel x1 x2 (nI (dc b).length) (nI i) (0 : Int32) (0 : Int32) g = _ := this
    rw [this, ef]
    unfold rkP
    by_cases h : nI (rkN (fun o => bri b o i) (dc b).length 0 0) = x1
    · rw [if_pos h, if_pos (decide_eq_true h)]
    · rw [if_neg h, if_neg (by rw [decide_eq_false h]; decide)]
      exact ih (i + 1) n (by omega) (by omega)
theorem pm_bright {gB gX gY gN : zG} {h : Nat → Option zG} (hR : zRel gB gX gY h gN) (gM : zG) (gR : zG) (gC0 : zG) (x1 x2 : Int32) : ∃ R R', f_X6_bright gM gB gR gC0 x1 x2 = some R ∧ f_X7_bright gN x1 x2 = some R' ∧ R.1 = R'.1 ∧ zRel gB gX gY h R'.2 := by
  obtain ⟨b, hs, tx, hA⟩ := zRel_abs hR
  have hA0 := hA
  obtain ⟨h1, h2, h3, h4, h5, h6, h7, h8, h9⟩ := hA
  have hn := h1.1
  unfold f_X6_bright f_X7_bright
  by_cases hx : x1 < 0
  · rw [if_pos hx, if_pos hx]
    exact ⟨_, _, rfl, rfl, rfl, hR⟩
  · rw [if_neg hx, if_neg hx, within_ev, zbind_some, ite_1, in_ev, zbind_some, ite_1]
    by_cases q : 0 ≤ x2 ∧ x2 ≤ 2
    · rw [if_pos q, if_pos q]
      obtain ⟨gR', r1, r2⟩ := ray_follow h3 h1 gR
      obtain ⟨gC', c1, c2⟩ := gather_ev h3 h1 r2 gC0
      obtain ⟨gN', n1, n2, n3⟩ := lays_ev h1 h4
      have hS' : rS (gN' 0) b := by rw [kq_0 n3]; exact h4
      obtain ⟨d1, d2, d3⟩ := dc_D b
      have hm : (dc b).length ≤ 8 := by omega
      have hz : zRel gB gX gY h gN' := zAbs_rel (kq_abs hA0 n3)
      have m1 := bright24_loop h1 hS' n2 hm x1 x2 (dc b).length 0 zfuel (by omega) (by unfold zfuel; omega)
      have m1 : f_X7_bright_24 zfuel x1 x2 (nI (dc b).length) (0 : Int32) gN' = _ := m1
      have s1 := slotRank_loop c2 hm x1 (dc b).length 0 zfuel (by omega) (by unfold zfuel; omega)
      have s1 : f_X1_slotOfRank gC' x1 = _ := s1
      rw [r1, zbind_some, c1, zbind_some, n1, zbind_some, m1, s1, zbind_some]
      cases hf : fkd (rkP b x1) (dc b).length 0 with
      | none =>
        have e : f_X1_hasSlot gC' (ix none (-1)) = some 0 := by
          unfold f_X1_hasSlot
          rw [if_pos (show ix none (-1) < 0 from by decide)]
        rw [e, zbind_some, if_pos rfl]
        exact ⟨_, _, rfl, rfl, rfl, hz⟩
      | some k =>
        have hk := fkd_lt _ _ _ hf
        have hk : k < (dc b).length := by omega
        obtain ⟨a1, a2, a3⟩ := c2.2 k _ (nD_get hk)
        have z8 : ∀ {β : Type} (j : Option β), zin (nI k) 8 j = j := fun j => zin_nI (by omega) (by decide)
        have e : ix (some k) (-1) = nI k := rfl
        rw [e, hasSlot_nI c2.1 hm (by omega), if_pos hk, zbind_some, if_neg ne10]
        simp only [z8, nI_clamp (show k < 2 ^ 31 by omega), a1, a2, a3]
        unfold brA
        rcases upto2 q with rfl | rfl | rfl
        · rw [if_pos rfl, if_pos rfl]
          exact ⟨_, _, rfl, rfl, rfl, hz⟩
        · rw [if_neg (by decide), if_pos rfl, if_neg (by decide), if_pos rfl]
          exact ⟨_, _, rfl, rfl, rfl, hz⟩
        · rw [if_neg (by decide), if_neg (by decide), if_neg (by decide), if_neg (by decide)]
          exact ⟨_, _, rfl, rfl, rfl, hz⟩
    · rw [if_neg q, if_neg q]
      exact ⟨_, _, rfl, rfl, rfl, hR⟩
