/-! ===== reading an order ===== -/
def dueN (L : Int32) : Nat := if L = 100 then 3 else if L = 108 then 2 else if L = 115 then 2 else if L = 117 then 3 else if L = 120 then 1 else 0
theorem numC_ev (L : Int32) : f_X5_numbersOf L = some (nI (dueN L)) := by
  unfold f_X5_numbersOf dueN
  by_cases h1 : L = 100
  · rw [if_pos h1, if_pos h1]; rfl
  rw [if_neg h1, if_neg h1]
  by_cases h2 : L = 108
  · rw [if_pos h2, if_pos h2]; rfl
  rw [if_neg h2, if_neg h2]
  by_cases h3 : L = 115
  · rw [if_pos h3, if_pos h3]; rfl
  rw [if_neg h3, if_neg h3]
  by_cases h4 : L = 117
  · rw [if_pos h4, if_pos h4]; rfl
  rw [if_neg h4, if_neg h4]
  by_cases h5 : L = 120
  · rw [if_pos h5, if_pos h5]; rfl
  rw [if_neg h5, if_neg h5]
  rfl
theorem numM_ev (L : Int32) : f_X7_numbersOf L = some (nI (dueN L)) := by
  unfold f_X7_numbersOf dueN
  by_cases h1 : L = 100
  · subst h1; decide
  rw [if_neg h1, if_neg h1]
  by_cases h2 : L = 108
  · subst h2; decide
  rw [if_neg h2, if_neg h2]
  by_cases h3 : L = 115
  · subst h3; decide
  rw [if_neg h3, if_neg h3]
  by_cases h4 : L = 117
  · rw [if_pos h4, if_pos h4]; rfl
  rw [if_neg h4, if_neg h4]
  by_cases h5 : L = 120
  · rw [if_pos h5, if_pos h5]; rfl
  rw [if_neg h5, if_neg h5]
  rfl
theorem dueN_le (L : Int32) : dueN L ≤ 3 := by
  unfold dueN
  split
  · omega
  · split
    · omega
    · split
      · omega
      · split
        · omega
        · split <;> omega
theorem dueN_in {L : Int32} (h : ¬ dueN L = 0) : 33 ≤ L ∧ L ≤ 126 := by
  unfold dueN at h
  by_cases h1 : L = 100
  · subst h1; decide
  rw [if_neg h1] at h
  by_cases h2 : L = 108
  · subst h2; decide
  rw [if_neg h2] at h
  by_cases h3 : L = 115
  · subst h3; decide
  rw [if_neg h3] at h
  by_cases h4 : L = 117
  · subst h4; decide
  rw [if_neg h4] at h
  by_cases h5 : L = 120
  · subst h5; decide
  rw [if_neg h5] at h
  exact absurd rfl h
def prO (tx : List Int32) (p : Nat) : Option (List Int32) × Nat := if dueN (ch tx p) = 0 then (none, p) else pr tx (dueN (ch tx p)) (p + 1)
theorem prO_pos {tx : List Int32} {p : Nat} (hp : p ≤ tx.length) : p ≤ (prO tx p).2 ∧ (prO tx p).2 ≤ tx.length ∧ ((prO tx p).1.isSome → p < (prO tx p).2) := by
  unfold prO
  by_cases h : dueN (ch tx p) = 0
  · rw [if_pos h]
    exact ⟨Nat.le_refl _, hp, fun e => by cases e⟩
  · rw [if_neg h]
    have hl : p < tx.length := ch_lt (fun e => by rw [e] at h; exact h (by decide))
    obtain ⟨h1, h2⟩ := pr_pos tx (dueN (ch tx p)) (p + 1)
    exact ⟨by omega, h2 (by omega), fun _ => by omega⟩
theorem ch_char {tx : List Int32} {g : zG} (ht : txC g tx) (p : Nat) : 0 ≤ ch tx p ∧ ch tx p < 65536 := by
  rcases Nat.lt_or_ge p tx.length with h | h
  · obtain ⟨a1, a2, a3⟩ := ht.2.2 p _ (ch_in h)
    exact ⟨Int32.le_trans (by decide) a2, Int32.lt_of_le_of_lt a3 (by decide)⟩
  · rw [ch_out h]
    decide
theorem order_c {tx : List Int32} {p : Nat} {g : zG} (ht : txC g tx) (hp : p ≤ tx.length) : ∃ g', f_X5_readOrder g (nI p) = some (if (prO tx p).1.isSome then 1 else 0, g') ∧ kx g g' ∧ g' 2 0 = ch tx p ∧ g' 4 0 = nI (prO tx p).2 ∧ (∀ vs, (prO tx p).1 = some vs → ∀ (i : Nat) (v : Int32), vs[i]? = some v → g' 3 i = v) := by
  have h60 := ht.1
  unfold f_X5_readOrder prO
  have k1 : kx g (gup g 4 0 (nI p)) := ⟨gup_ne _ _ _ (by decide), gup_ne _ _ _ (by decide)⟩
  rw [zlet_eq, signAt_ev (kx_tx k1 ht) (by omega), zbind_some]
  have zc : ∀ {β : Type} (k : Option β), zch (ch tx p) k = k := fun k => if_pos (ch_char ht p)
  rw [zc, zlet_eq, gup_at, numC_ev, zbind_some, zlet_eq, gup_ne _ _ _ (show (4 : Nat) ≠ 2 by decide), gup_at, nIs]
  have hd3 := dueN_le (ch tx p)
  by_cases h : dueN (ch tx p) = 0
  · rw [if_pos h, h, if_pos (show nI 0 = 0 from rfl)]
    exact ⟨_, rfl, ⟨by rw [gup_ne _ _ _ (by decide)]; exact k1.1, by rw [gup_ne _ _ _ (by decide)]; exact k1.2⟩, gup_at _ _ _ _, by rw [gup_ne _ _ _ (by decide), gup_at], fun vs h => by cases h⟩
  · have hl : p < tx.length := ch_lt (fun e => by rw [e] at h; exact h (by decide))
    rw [if_neg h, if_neg (c := nI (dueN (ch tx p)) = 0) (nI_ne0 (by omega) (by omega))]
    have k2 : kx g (gup (gup (gup g 4 0 (nI p)) 2 0 (ch tx p)) 4 0 (nI (p + 1))) := ⟨by rw [gup_ne _ _ _ (by decide), gup_ne _ _ _ (by decide)]; exact k1.1, by rw [gup_ne _ _ _ (by decide), gup_ne _ _ _ (by decide)]; exact k1.2⟩
    obtain ⟨g', e1, e2, e3, e4, e5, e6⟩ := read_c hd3 (dueN (ch tx p)) 0 (p + 1) zfuel _ (kx_tx k2 ht) (gup_at _ _ _ _) (by omega) (by omega) (by omega) (by unfold zfuel; omega)
    have e1 : f_X5_readOrder_40 zfuel (nI (dueN (ch tx p))) (0 : Int32) (gup (gup (gup g 4 0 (nI p)) 2 0 (ch tx p)) 4 0 (nI (p + 1))) = _ := e1
    refine ⟨g', e1, kx_tr k2 e2, ?_, e4, ?_⟩
    · rw [e3, gup_ne _ _ _ (by decide), gup_at]
    · intro vs hv i v hi
      have := e6 vs hv i v hi
      rw [Nat.zero_add] at this
      exact this
def ko (g g' : zG) : Prop := ∀ j, j ≠ 14 → j ≠ 19 → j ≠ 20 → g' j = g j
theorem ko_tx {g g' : zG} {tx : List Int32} (h : ko g g') (ht : txM g tx) : txM g' tx := by
  obtain ⟨h2, h3⟩ := ht
  exact ⟨by rw [h 7 (by decide) (by decide) (by decide)]; exact h2, fun i x hx => by rw [h 6 (by decide) (by decide) (by decide)]; exact h3 i x hx⟩
theorem order_m {tx : List Int32} (h60 : tx.length ≤ 60) {p : Nat} {g : zG} (ht : txM g tx) (hg : g 14 0 = nI p) (hp : p ≤ tx.length) : ∃ g', f_X7_reads g = some (if (prO tx p).1.isSome then 1 else 0, g') ∧ ko g g' ∧ g' 14 0 = nI (prO tx p).2 ∧ (∀ vs, (prO tx p).1 = some vs → g' 19 0 = ch tx p ∧ ∀ (i : Nat) (v : Int32), vs[i]? = some v → g' 20 i = v) := by
  have key : ∀ s : Int32, dueN s = dueN (ch tx p) → (¬ dueN (ch tx p) = 0 → s = ch tx p) → ∃ g', f_X7_reads_25 s g = some (if (prO tx p).1.isSome then 1 else 0, g') ∧ ko g g' ∧ g' 14 0 = nI (prO tx p).2 ∧ (∀ vs, (prO tx p).1 = some vs → g' 19 0 = ch tx p ∧ ∀ (i : Nat) (v : Int32), vs[i]? = some v → g' 20 i = v) := by
    intro s hs hs2
    have hd3 := dueN_le (ch tx p)
    unfold f_X7_reads_25 prO
    rw [zlet_eq, gup_at, numM_ev, zbind_some, hs, zlet_eq, gup_ne _ _ _ (show (14 : Nat) ≠ 19 by decide), hg, nIs]
    by_cases h : dueN (ch tx p) = 0
    · rw [if_pos h, h, if_pos (show nI 0 = 0 from rfl)]
      exact ⟨_, rfl, fun j _ b _ => gup_ne _ _ _ b, by rw [gup_ne _ _ _ (by decide)]; exact hg, fun vs h => by cases h⟩
    · have hl : p < tx.length := ch_lt (fun e => by rw [e] at h; exact h (by decide))
      rw [if_neg h, if_neg (c := nI (dueN (ch tx p)) = 0) (nI_ne0 (by omega) (by omega))]
      have k2 : ko g (gup (gup g 19 0 s) 14 0 (nI (p + 1))) := fun j a b _ => by rw [gup_ne _ _ _ a, gup_ne _ _ _ b]
      obtain ⟨y, g1, g', e1, e2, e3, e4, e5, e6⟩ := read_m h60 hd3 (dueN (ch tx p)) 0 (p + 1) zfuel _ (ko_tx k2 ht) (gup_at _ _ _ _) (by omega) (by omega) (by omega) (by unfold zfuel; omega)
      have e1 : f_X7_numbered (gup (gup g 19 0 s) 14 0 (nI (p + 1))) (0 : Int32) = some (y, g1) := e1
      have e2 : f_X7_reads_60 zfuel (nI (dueN (ch tx p))) y (1 : Int32) g1 = _ := e2
      rw [e1, zbind_some, e2]
      refine ⟨g', rfl, ?_, e4, ?_⟩
      · intro j a b c
        rw [e3 j a c]
        exact k2 j a b c
      · intro vs hv
        refine ⟨?_, ?_⟩
        · rw [e3 19 (by decide) (by decide), gup_ne _ _ _ (by decide), gup_at]
          exact hs2 h
        · intro i v hi
          have := e6 vs hv i v hi
          rw [Nat.zero_add] at this
          exact this
  unfold f_X7_reads
  rw [isAt_ev h60 ht (by omega) hg (by decide), zbind_some, ite_1, hg]
  by_cases h : 33 ≤ ch tx p ∧ ch tx p ≤ 126
  · have hl : p < tx.length := ch_lt (fun e => by rw [e] at h; exact absurd h.1 (by decide))
    rw [if_pos h, zin_nI (by omega) (by decide), nI_clamp (by omega), ht.2 p _ (ch_in hl)]
    exact key _ rfl (fun _ => rfl)
  · rw [if_neg h]
    have h0 : dueN (ch tx p) = 0 := Classical.byContradiction (fun q => h (dueN_in q))
    exact key 0 (by rw [h0]; decide) (fun q => absurd h0 q)
/-! ===== doing an order ===== -/
def ordA (L : Int32) (a : Nat → Int32) (b : zB) : Int32 × Option zB := if L = 100 then aPrism (a 0) (a 1) (a 2) (-1) b else if L = 108 then aLine (a 0) (a 1) b else if L = 115 then aSlit (a 0) (-(a 1)) (a 1) b else if L = 117 then aPrism (a 0) (a 1) (a 2) 1 b else aTake (a 0) b
theorem ordA_ok {L : Int32} {a : Nat → Int32} {b b' : zB} (ok : okB b) (h : (ordA L a b).2 = some b') : okB b' := by
  unfold ordA at h
  split at h
  · exact aPrism_ok ok h
  · split at h
    · exact aLine_ok ok h
    · split at h
      · exact aSlit_ok ok h
      · split at h
        · exact aPrism_ok ok h
        · exact aTake_ok ok h
theorem ordA_congr {L : Int32} {a a' : Nat → Int32} {b : zB} (h : ∀ i, i < dueN L → a i = a' i) (h0 : ¬ dueN L = 0) : ordA L a b = ordA L a' b := by
  unfold ordA
  unfold dueN at h h0
  by_cases h1 : L = 100
  · rw [if_pos h1] at h
    rw [if_pos h1, if_pos h1, h 0 (by omega), h 1 (by omega), h 2 (by omega)]
  rw [if_neg h1] at h h0
  rw [if_neg h1, if_neg h1]
  by_cases h2 : L = 108
  · rw [if_pos h2] at h
    rw [if_pos h2, if_pos h2, h 0 (by omega), h 1 (by omega)]
  rw [if_neg h2] at h h0
  rw [if_neg h2, if_neg h2]
  by_cases h3 : L = 115
  · rw [if_pos h3] at h
    rw [if_pos h3, if_pos h3, h 0 (by omega), h 1 (by omega)]
  rw [if_neg h3] at h h0
  rw [if_neg h3, if_neg h3]
  by_cases h4 : L = 117
  · rw [if_pos h4] at h
    rw [if_pos h4, if_pos h4, h 0 (by omega), h 1 (by omega), h 2 (by omega)]
  rw [if_neg h4] at h h0
  rw [if_neg h4, if_neg h4]
  by_cases h5 : L = 120
  · rw [if_pos h5] at h
    rw [h 0 (by omega)]
  rw [if_neg h5] at h0
  exact absurd rfl h0
theorem do_c {gM gT gX : zG} {b : zB} (ok : okB b) (hT : rB gT b) : ∃ g', f_X6_doOrder gM gT gX = some ((ordA (gX 2 0) (gX 3) b).1, g') ∧ (match (ordA (gX 2 0) (gX 3) b).2 with
  | none => (ordA (gX 2 0) (gX 3) b).1 < 0
  | some b' => ¬ (ordA (gX 2 0) (gX 3) b).1 < 0 ∧ rB g' b') := by
  unfold f_X6_doOrder ordA
  rw [z0 (by decide) (by decide), z1 (by decide) (by decide), z2 (by decide) (by decide), tn0, tn1, tn2, zbind_eta, zbind_eta, zbind_eta, zbind_eta, zbind_eta]
  by_cases h1 : gX 2 0 = 100
  · rw [if_pos h1, if_pos h1]
    exact cPrism _ _ _ _ ok gT hT
  rw [if_neg h1, if_neg h1]
  by_cases h2 : gX 2 0 = 108
  · rw [if_pos h2, if_pos h2]
    exact cLine _ _ ok gT hT
  rw [if_neg h2, if_neg h2]
  by_cases h3 : gX 2 0 = 115
  · rw [if_pos h3, if_pos h3]
    exact cSlit _ _ _ ok gT hT
  rw [if_neg h3, if_neg h3]
  by_cases h4 : gX 2 0 = 117
  · rw [if_pos h4, if_pos h4]
    exact cPrism _ _ _ _ ok gT hT
  rw [if_neg h4, if_neg h4]
  exact cTake _ ok gT hT
theorem do_m {g : zG} {b : zB} (ok : okB b) (hS : rS (g 0) b) (hr : ¬ g 5 0 = 0) : (match (ordA (g 19 0) (g 20) b).2 with
  | none => f_X7_calls g = some ((ordA (g 19 0) (g 20) b).1, g)
  | some b' => ∃ g', f_X7_calls g = some ((ordA (g 19 0) (g 20) b).1, g') ∧ (∀ j, j ≠ 0 → g' j = g j) ∧ rS (g' 0) b') := by
  have hc := changes_runs hr
  unfold f_X7_calls ordA
  rw [z0 (by decide) (by decide), z0 (by decide) (by decide), z0 (by decide) (by decide), z0 (by decide) (by decide), z0 (by decide) (by decide), z1 (by decide) (by decide), z1 (by decide) (by decide), z1 (by decide) (by decide), z1 (by decide) (by decide), z1 (by decide) (by decide), z2 (by decide) (by decide), z2 (by decide) (by decide), tn0, tn1, tn2, zbind_eta, zbind_eta, zbind_eta, zbind_eta, zbind_eta]
  by_cases h1 : g 19 0 = 100
  · rw [if_pos h1, if_pos h1]
    exact mPrism _ _ _ _ ok g g hS hc rfl
  rw [if_neg h1, if_neg h1]
  by_cases h2 : g 19 0 = 108
  · rw [if_pos h2, if_pos h2]
    exact mLine _ _ ok g g hS hc rfl
  rw [if_neg h2, if_neg h2]
  by_cases h3 : g 19 0 = 115
  · rw [if_pos h3, if_pos h3]
    exact mSlit _ _ _ ok g g hS hc rfl
  rw [if_neg h3, if_neg h3]
  by_cases h4 : g 19 0 = 117
  · rw [if_pos h4, if_pos h4]
    exact mPrism _ _ _ _ ok g g hS hc rfl
  rw [if_neg h4, if_neg h4]
  exact mTake _ ok g g hS hc rfl
theorem bench_of (b : zB) : ∃ g, rB g b := by
  refine ⟨fun j i => if j = 0 then (b.1.getD i (0, 0)).1 else if j = 1 then (b.1.getD i (0, 0)).2 else if j = 2 then nI b.1.length else if j = 3 then (b.2.1.getD i (0, 0, 0, 0, 0)).1 else if j = 4 then (b.2.1.getD i (0, 0, 0, 0, 0)).2.1 else if j = 5 then (b.2.1.getD i (0, 0, 0, 0, 0)).2.2.1 else if j = 6 then (b.2.1.getD i (0, 0, 0, 0, 0)).2.2.2.1 else if j = 7 then (b.2.1.getD i (0, 0, 0, 0, 0)).2.2.2.2 else if j = 8 then nI b.2.1.length else b.2.2, ?_, ?_, ?_, ?_, ?_⟩
  · simp
  · simp
  · simp
  · intro i t hi
    simp [List.getD_eq_getElem?_getD, hi]
  · intro i t hi
    simp [List.getD_eq_getElem?_getD, hi]
theorem ord_sign {b : zB} (ok : okB b) (L : Int32) (a : Nat → Int32) : (∀ x, ordA L a b = (x, none) → x < 0) ∧ (∀ x b', ordA L a b = (x, some b') → ¬ x < 0) := by
  obtain ⟨gT, hT⟩ := bench_of b
  obtain ⟨g', -, hd⟩ := do_c (gM := gT) (gX := fun j => if j = 2 then (fun _ => L) else a) ok hT
  have hd2 : (match (ordA L a b).2 with
    | none => (ordA L a b).1 < 0
    | some b' => ¬ (ordA L a b).1 < 0 ∧ rB g' b') := hd
  refine ⟨fun x hx => ?_, fun x b' hx => ?_⟩
  · rw [hx] at hd2
    exact hd2
  · rw [hx] at hd2
    exact hd2.1
/-! ===== doing all orders ===== -/
abbrev zRes : Type := Option (Nat × Int32 × Int32) × Nat × zB
def ndx (vs : List Int32) (i : Nat) : Int32 := vs.getD i 0
def plA (tx : List Int32) : Nat → zB → Nat → Nat → zRes
  | 0, b, _, k => (none, k, b)
  | n + 1, b, p, k => if tx.length ≤ p then (none, k, b) else match (prO tx p).1 with
    | none => (some (p, 1, nI (prO tx p).2 - nI p), k, b)
    | some vs => match (ordA (ch tx p) (ndx vs) b).2 with
      | none => (some (p, 2, (ordA (ch tx p) (ndx vs) b).1), k, b)
      | some b' => plA tx n b' (prO tx p).2 (k + 1)
theorem pr_len (tx : List Int32) : ∀ (n p : Nat) (vs : List Int32), (pr tx n p).1 = some vs → vs.length = n := by
  intro n
  induction n with
  | zero => intro p vs h; cases h
  | succ n ih =>
    intro p vs h
    rcases pr_cases tx n p with e | e | ⟨hn, _, e⟩ | ⟨_, _, e⟩
    · rw [e] at h; cases h
    · rw [e] at h; cases h
    · rw [e] at h
      cases h
      rw [hn]
      rfl
    · rw [e] at h
      obtain ⟨ws, hw, rfl⟩ := Option.map_eq_some_iff.mp h
      rw [List.length_cons, ih _ _ hw]
theorem prO_due {tx : List Int32} {p : Nat} {vs : List Int32} (h : (prO tx p).1 = some vs) : ¬ dueN (ch tx p) = 0 ∧ vs.length = dueN (ch tx p) := by
  unfold prO at h
  split at h
  · cases h
  · rename_i hd
    exact ⟨hd, pr_len tx _ _ _ h⟩
theorem args_of {tx : List Int32} {p : Nat} {vs : List Int32} {b : zB} (h : (prO tx p).1 = some vs) {a : Nat → Int32} (ha : ∀ (i : Nat) (v : Int32), vs[i]? = some v → a i = v) : ordA (ch tx p) a b = ordA (ch tx p) (ndx vs) b := by
  obtain ⟨h1, h2⟩ := prO_due h
  refine ordA_congr (fun i hi => ?_) h1
  exact ha i _ (getD_some (d := 0) (by omega))
theorem plA_end {tx : List Int32} (n : Nat) (b : zB) {p : Nat} (k : Nat) (hl : tx.length ≤ p) : plA tx (n + 1) b p k = (none, k, b) := by
  show (if tx.length ≤ p then _ else _) = _
  rw [if_pos hl]
theorem plA_none {tx : List Int32} (n : Nat) (b : zB) {p : Nat} (k : Nat) (hl : ¬ tx.length ≤ p) (ho : (prO tx p).1 = none) : plA tx (n + 1) b p k = (some (p, 1, nI (prO tx p).2 - nI p), k, b) := by
  show (if tx.length ≤ p then _ else _) = _
  rw [if_neg hl]
  simp only [ho]
theorem plA_bad {tx : List Int32} (n : Nat) (b : zB) {p : Nat} (k : Nat) (hl : ¬ tx.length ≤ p) {vs : List Int32} (ho : (prO tx p).1 = some vs) {a : Int32} (h : ordA (ch tx p) (ndx vs) b = (a, none)) : plA tx (n + 1) b p k = (some (p, 2, a), k, b) := by
  show (if tx.length ≤ p then _ else _) = _
  rw [if_neg hl]
  simp only [ho, h]
theorem plA_good {tx : List Int32} (n : Nat) (b : zB) {p : Nat} (k : Nat) (hl : ¬ tx.length ≤ p) {vs : List Int32} (ho : (prO tx p).1 = some vs) {a : Int32} {b' : zB} (h : ordA (ch tx p) (ndx vs) b = (a, some b')) : plA tx (n + 1) b p k = plA tx n b' (prO tx p).2 (k + 1) := by
  show (if tx.length ≤ p then _ else _) = _
  rw [if_neg hl]
  simp only [ho, h]
def resC (o : zRes) (gM gT : zG) : Prop := match o.1 with
  | none => gM 8 0 = 0 ∧ gM 10 0 = nI o.2.1 ∧ rB gT o.2.2
  | some f => gM 7 0 = nI f.1 ∧ gM 8 0 = f.2.1 ∧ gM 9 0 = f.2.2
theorem play_c {gB : zG} {tx : List Int32} : ∀ (n : Nat) (b : zB) (p k fuel : Nat) (gM gT gX : zG), okB b → rB gT b → txC gX tx → p ≤ tx.length → tx.length < p + n → k ≤ p → n < fuel → gM 8 0 = 0 → gM 10 0 = nI k → ∃ gM' gT' gX', f_X6_tryText_23 gB fuel (nI p) gM gT gX = some (gM', gT', gX') ∧ resC (plA tx n b p k) gM' gT' ∧ kx gX gX' := by
  intro n
  induction n with
  | zero => intro b p k fuel gM gT gX ok hT ht hp hn hk hf h8 h10; omega
  | succ n ih =>
    intro b p k fuel gM gT gX ok hT ht hp hn hk hf h8 h10
    obtain ⟨m, rfl⟩ : ∃ m, fuel = m + 1 := ⟨fuel - 1, by omega⟩
    have h60 := ht.1
    show ∃ gM' gT' gX', f_X6_tryText_23_b gB (f_X6_tryText_23 gB m) (nI p) gM gT gX = _ ∧ _
    unfold f_X6_tryText_23_b
    rw [h10, ht.2.1]
    by_cases hl : tx.length ≤ p
    · rw [plA_end n b k hl, if_pos (c := nI tx.length ≤ nI p) ((nI_leI (by omega) (by omega)).mpr hl)]
      have : ∃ gM' gT' gX', (some (gM, gT, gX) : Option (zG × zG × zG)) = some (gM', gT', gX') ∧ resC (none, k, b) gM' gT' ∧ kx gX gX' := ⟨gM, gT, gX, rfl, ⟨h8, h10, hT⟩, kx_rf gX⟩
      split
      · exact this
      · exact this
    · rw [if_neg (c := (60 : Int32) ≤ nI k) (fun q => by have := (nI_leI (a := 60) (by decide) (by omega)).mp q; omega), if_neg (c := nI tx.length ≤ nI p) (fun q => hl ((nI_leI (by omega) (by omega)).mp q))]
      obtain ⟨gX', r1, r2, r3, r4, r5⟩ := order_c ht hp
      obtain ⟨p1, p2, p3⟩ := prO_pos hp
      rw [r1, zbind_some]
      dsimp only
      rw [ite_1, r4]
      cases ho : (prO tx p).1 with
      | none =>
        rw [if_neg (by simp), plA_none n b k hl ho]
        unfold f_X6_noteFault
        rw [zlet_eq, zlet_eq, zlet_eq, zbind_some]
        refine ⟨_, _, _, rfl, ⟨?_, ?_, ?_⟩, r2⟩
        · rw [gup_ne _ _ _ (by decide), gup_ne _ _ _ (by decide), gup_at]
        · rw [gup_ne _ _ _ (by decide), gup_at]
        · rw [gup_at]
      | some vs =>
        rw [if_pos (by simp)]
        have p3 := p3 (by rw [ho]; rfl)
        obtain ⟨gT', d1, d2⟩ := do_c (gM := gM) (gX := gX') ok hT
        have ea := args_of (b := b) ho (a := gX' 3) (r5 vs ho)
        rw [r3, ea] at d1 d2
        rcases hr : ordA (ch tx p) (ndx vs) b with ⟨a, _ | b'⟩
        · rw [hr] at d1 d2
          have d2 : a < 0 := d2
          rw [plA_bad n b k hl ho hr, d1, zbind_some]
          dsimp only
          rw [if_neg (c := 0 ≤ a) (inle.mpr d2)]
          unfold f_X6_noteFault
          rw [zlet_eq, zlet_eq, zlet_eq, zbind_some]
          refine ⟨_, _, _, rfl, ⟨?_, ?_, ?_⟩, r2⟩
          · rw [gup_ne _ _ _ (by decide), gup_ne _ _ _ (by decide), gup_at]
          · rw [gup_ne _ _ _ (by decide), gup_at]
          · rw [gup_at]
        · have okr := ordA_ok (L := ch tx p) (a := ndx vs) (b := b) (b' := b') ok (by rw [hr])
          rw [hr] at d1 d2
          have d2 : ¬ a < 0 ∧ rB gT' b' := d2
          rw [plA_good n b k hl ho hr, d1, zbind_some]
          dsimp only
          rw [if_pos (c := 0 ≤ a) (inlt.mp d2.1), zlet_eq, nIs]
          obtain ⟨gM2, gT2, gX2, i1, i2, i3⟩ := ih b' (prO tx p).2 (k + 1) m (gup gM 10 0 (nI (k + 1))) gT' gX' okr d2.2 (kx_tx r2 ht) p2 (by omega) (by omega) (by omega) (by rw [gup_ne _ _ _ (by decide)]; exact h8) (gup_at _ _ _ _)
          exact ⟨gM2, gT2, gX2, i1, i2, kx_tr r2 i3⟩
/-- what plays leaves -/
def ky (g g' : zG) : Prop := ∀ j, j ≠ 0 → j ≠ 5 → j < 14 ∨ 20 < j → g' j = g j
theorem ky_tr {a b c : zG} (h1 : ky a b) (h2 : ky b c) : ky a c := fun j x y z => (h2 j x y z).trans (h1 j x y z)
theorem ky_tx {g g' : zG} {tx : List Int32} (h : ky g g') (ht : txM g tx) : txM g' tx := by
  obtain ⟨h2, h3⟩ := ht
  exact ⟨by rw [h 7 (by decide) (by decide) (by omega)]; exact h2, fun i x hx => by rw [h 6 (by decide) (by decide) (by omega)]; exact h3 i x hx⟩
def resM (o : zRes) (y : Int32) (g : zG) : Prop := match o.1 with
  | none => y = 1 ∧ g 18 0 = nI o.2.1 ∧ rS (g 0) o.2.2
  | some f => y = 0 ∧ g 15 0 = nI f.1 ∧ g 16 0 = f.2.1 ∧ g 17 0 = f.2.2
theorem plays_end (n : Nat) (g : zG) : f_X7_plays_22 (n + 1) 0 g = some (0, gup g 5 0 0) := by
  show f_X7_plays_22_b (f_X7_plays_22 n) 0 g = _
  unfold f_X7_plays_22_b f_X7_plays_124
  rw [zlet_eq, zbl_0, if_pos rfl]
  split <;> rfl
theorem play_m {tx : List Int32} (h60 : tx.length ≤ 60) : ∀ (n : Nat) (b : zB) (p k fuel : Nat) (g : zG), okB b → rS (g 0) b → txM g tx → p ≤ tx.length → tx.length < p + n → n + 1 < fuel → g 14 0 = nI p → g 18 0 = nI k → ¬ g 5 0 = 0 → ∃ y g', f_X7_plays_22 fuel 1 g = some (y, g') ∧ resM (plA tx n b p k) y g' ∧ ky g g' ∧ g' 5 0 = 0 := by
  intro n
  induction n with
  | zero => intro b p k fuel g ok hS ht hp hn hf hg h18 hr; omega
  | succ n ih =>
    intro b p k fuel g ok hS ht hp hn hf hg h18 hr
    obtain ⟨m, rfl⟩ : ∃ m, fuel = m + 1 := ⟨fuel - 1, by omega⟩
    obtain ⟨m, rfl⟩ : ∃ m', m = m' + 1 := ⟨m - 1, by omega⟩
    show ∃ y g', f_X7_plays_22_b (f_X7_plays_22 (m + 1)) 1 g = _ ∧ _
    unfold f_X7_plays_22_b
    rw [hg, ht.1, if_neg ne10]
    by_cases hl : tx.length ≤ p
    · rw [plA_end n b k hl, if_pos (c := nI tx.length ≤ nI p) ((nI_leI (by omega) (by omega)).mpr hl)]
      unfold f_X7_plays_124
      rw [zlet_eq, zbl_1]
      refine ⟨_, _, rfl, ⟨rfl, ?_, ?_⟩, ?_, gup_at _ _ _ _⟩
      · rw [gup_ne _ _ _ (by decide)]; exact h18
      · rw [gup_ne _ _ _ (by decide)]; exact hS
      · intro j _ b _
        exact gup_ne _ _ _ b
    · rw [if_neg (c := nI tx.length ≤ nI p) (fun q => hl ((nI_leI (by omega) (by omega)).mp q)), zlet_eq]
      have k0 : ky g (gup g 15 0 (nI p)) := fun j _ _ c => gup_ne _ _ _ (by omega)
      obtain ⟨g1, r1, r2, r4, r5⟩ := order_m h60 (ky_tx k0 ht) (g := gup g 15 0 (nI p)) (p := p) (by rw [gup_ne _ _ _ (by decide)]; exact hg) hp
      obtain ⟨p1, p2, p3⟩ := prO_pos hp
      have k1 : ky g g1 := fun j a b c => by rw [r2 j (by omega) (by omega) (by omega)]; exact k0 j a b c
      have h15 : g1 15 0 = nI p := by rw [r2 15 (by decide) (by decide) (by decide), gup_at]
      have h18' : g1 18 0 = nI k := by rw [r2 18 (by decide) (by decide) (by decide), gup_ne _ _ _ (by decide)]; exact h18
      have h5' : ¬ g1 5 0 = 0 := by rw [r2 5 (by decide) (by decide) (by decide), gup_ne _ _ _ (by decide)]; exact hr
      have hS1 : rS (g1 0) b := by rw [r2 0 (by decide) (by decide) (by decide), gup_ne _ _ _ (by decide)]; exact hS
      have h6 : ∀ (gg : zG) (j : Nat), j ≠ 16 → j ≠ 17 → j ≠ 18 → ∀ (x y z : Int32), gup (gup (gup gg 16 0 x) 17 0 y) 18 0 z j = gg j := fun gg j a b c x y z => by rw [gup_ne _ _ _ c, gup_ne _ _ _ b, gup_ne _ _ _ a]
      rw [r1, zbind_some]
      dsimp only
      rw [ite_1]
      cases ho : (prO tx p).1 with
      | none =>
        rw [if_neg (by simp), if_neg (by simp), plA_none n b k hl ho]
        unfold f_X7_plays_62 f_X7_plays_75 f_X7_plays_76 f_X7_plays_87 f_X7_plays_108
        rw [if_pos rfl, if_pos rfl, zlet_eq, if_pos rfl, zlet_eq, zlet_eq, plays_end, gup_ne _ _ _ (show (14 : Nat) ≠ 16 by decide), gup_ne _ _ _ (show (15 : Nat) ≠ 16 by decide), r4, h15]
        refine ⟨_, _, rfl, ⟨rfl, ?_, ?_, ?_⟩, ?_, gup_at _ _ _ _⟩
        · rw [gup_ne _ _ _ (by decide), h6 g1 15 (by decide) (by decide) (by decide)]; exact h15
        · rw [gup_ne _ _ _ (by decide), gup_ne _ _ _ (by decide), gup_ne _ _ _ (by decide), gup_at]
        · rw [gup_ne _ _ _ (by decide), gup_ne _ _ _ (by decide), gup_at]
        · intro j a b c
          rw [gup_ne _ _ _ b, h6 g1 j (by omega) (by omega) (by omega)]
          exact k1 j a b c
      | some vs =>
        rw [if_pos (by simp), if_pos (by simp)]
        have p3 := p3 (by rw [ho]; rfl)
        obtain ⟨r6, r7⟩ := r5 vs ho
        have d := do_m ok hS1 h5'
        have ea := args_of (b := b) ho (a := g1 20) r7
        rw [r6, ea] at d
        have sg := ord_sign ok (ch tx p) (ndx vs)
        rcases hr2 : ordA (ch tx p) (ndx vs) b with ⟨a, _ | b'⟩
        · rw [hr2] at d
          have d : f_X7_calls g1 = some (a, g1) := d
          have ha := sg.1 a hr2
          rw [plA_bad n b k hl ho hr2, d, zbind_some]
          dsimp only
          unfold f_X7_plays_62 f_X7_plays_75 f_X7_plays_76 f_X7_plays_87 f_X7_plays_108
          rw [if_neg ne10, if_pos ha, if_neg ne10, zlet_eq, if_neg ne10, zlet_eq, zlet_eq, plays_end]
          refine ⟨_, _, rfl, ⟨rfl, ?_, ?_, ?_⟩, ?_, gup_at _ _ _ _⟩
          · rw [gup_ne _ _ _ (by decide), h6 g1 15 (by decide) (by decide) (by decide)]; exact h15
          · rw [gup_ne _ _ _ (by decide), gup_ne _ _ _ (by decide), gup_ne _ _ _ (by decide), gup_at]
          · rw [gup_ne _ _ _ (by decide), gup_ne _ _ _ (by decide), gup_at]
          · intro j a b c
            rw [gup_ne _ _ _ b, h6 g1 j (by omega) (by omega) (by omega)]
            exact k1 j a b c
        · have okr := ordA_ok (L := ch tx p) (a := ndx vs) (b := b) (b' := b') ok (by rw [hr2])
          rw [hr2] at d
          have ha := sg.2 a b' hr2
          obtain ⟨g2, d1, d2, d3⟩ := d
          have d1 : f_X7_calls g1 = some (a, g2) := d1
          rw [plA_good n b k hl ho hr2, d1, zbind_some]
          dsimp only
          unfold f_X7_plays_62 f_X7_plays_76 f_X7_plays_87 f_X7_plays_108
          rw [if_neg ne10, if_neg ha, if_neg ne10, zlet_eq, if_neg ne10, zlet_eq, zlet_eq]
          have e18 : gup (gup g2 16 0 2) 17 0 a 18 0 + 1 = nI (k + 1) := by
            rw [gup_ne _ _ _ (by decide), gup_ne _ _ _ (by decide), d2 18 (by decide), h18', nIs]
          rw [e18]
          have k2 : ky g (gup (gup (gup g2 16 0 2) 17 0 a) 18 0 (nI (k + 1))) := fun j x y z => by
            rw [h6 g2 j (by omega) (by omega) (by omega), d2 j x]
            exact k1 j x y z
          obtain ⟨y, g3, i1, i2, i3, i4⟩ := ih b' (prO tx p).2 (k + 1) (m + 1) _ okr (by rw [h6 g2 0 (by decide) (by decide) (by decide)]; exact d3) (ky_tx k2 ht) p2 (by omega) (by omega) (by rw [h6 g2 14 (by decide) (by decide) (by decide), d2 14 (by decide)]; exact r4) (gup_at _ _ _ _) (by rw [h6 g2 5 (by decide) (by decide) (by decide), d2 5 (by decide)]; exact h5')
          exact ⟨y, g3, i1, i2, ky_tr k2 i3, i4⟩
theorem try_ev {gB gM gT gX : zG} {b : zB} {tx : List Int32} (hB : rB gB b) (ok : okB b) (ht : txC gX tx) : ∃ gM' gT' gX', f_X6_tryText gM gB gT gX = some (gM', gT', gX') ∧ resC (plA tx 61 b 0 0) gM' gT' ∧ kx gX gX' := by
  obtain ⟨gT1, t1, t2⟩ := copyFrom_ev gT gB hB ok.1 ok.2.1
  have h60 := ht.1
  unfold f_X6_tryText
  rw [t1, zbind_some, zlet_eq, zlet_eq]
  exact play_c 61 b 0 0 zfuel _ gT1 gX ok t2 ht (Nat.zero_le _) (by omega) (Nat.le_refl _) (by unfold zfuel; omega) (by rw [gup_ne _ _ _ (by decide), gup_at]) (gup_at _ _ _ _)
theorem plays_ev {g : zG} {b : zB} {tx : List Int32} (hS : rS (g 0) b) (ok : okB b) (h60 : tx.length ≤ 60) (ht : txM g tx) : ∃ y g', f_X7_plays g = some (y, g') ∧ resM (plA tx 61 b 0 0) y g' ∧ ky g g' ∧ g' 5 0 = 0 := by
  unfold f_X7_plays
  rw [zlet_eq, zlet_eq, zlet_eq, zlet_eq]
  have k0 : ky g (gup (gup (gup (gup g 5 0 1) 14 0 0) 15 0 0) 18 0 0) := fun j _ y z => by
    rw [gup_ne _ _ _ (by omega), gup_ne _ _ _ (by omega), gup_ne _ _ _ (by omega), gup_ne _ _ _ y]
  have e0 : (gup (gup (gup (gup g 5 0 1) 14 0 0) 15 0 0) 18 0 0) 0 = g 0 := by
    rw [gup_ne _ _ _ (by decide), gup_ne _ _ _ (by decide), gup_ne _ _ _ (by decide), gup_ne _ _ _ (by decide)]
  have e5 : (gup (gup (gup (gup g 5 0 1) 14 0 0) 15 0 0) 18 0 0) 5 0 = 1 := by
    rw [gup_ne _ _ _ (by decide), gup_ne _ _ _ (by decide), gup_ne _ _ _ (by decide), gup_at]
  have e14 : (gup (gup (gup (gup g 5 0 1) 14 0 0) 15 0 0) 18 0 0) 14 0 = nI 0 := by
    rw [gup_ne _ _ _ (by decide), gup_ne _ _ _ (by decide), gup_at]
    rfl
  have e18 : (gup (gup (gup (gup g 5 0 1) 14 0 0) 15 0 0) 18 0 0) 18 0 = nI 0 := gup_at _ _ _ _
  generalize gup (gup (gup (gup g 5 0 1) 14 0 0) 15 0 0) 18 0 0 = g1 at k0 e0 e5 e14 e18 ⊢
  obtain ⟨y, g', i1, i2, i3, i4⟩ := play_m h60 61 b 0 0 zfuel g1 ok (by rw [e0]; exact hS) (ky_tx k0 ht) (Nat.zero_le _) (by omega) (by unfold zfuel; omega) e14 e18 (by rw [e5]; decide)
  exact ⟨y, g', i1, i2, ky_tr k0 i3, i4⟩
/-- the two faults' reasons are not 0 -/
theorem plA_why (tx : List Int32) : ∀ (n : Nat) (b : zB) (p k : Nat) (f : Nat × Int32 × Int32), (plA tx n b p k).1 = some f → ¬ f.2.1 = 0 := by
  intro n
  induction n with
  | zero => intro b p k f h; cases h
  | succ n ih =>
    intro b p k f h
    unfold plA at h
    split at h
    · cases h
    · split at h
      · cases h; exact ne10
      · split at h
        · cases h; exact ne20
        · exact ih _ _ _ _ h
theorem plA_ok (tx : List Int32) : ∀ (n : Nat) (b : zB) (p k : Nat), okB b → okB (plA tx n b p k).2.2 ∧ (p ≤ tx.length → k ≤ p → (plA tx n b p k).2.1 ≤ tx.length) := by
  intro n
  induction n with
  | zero => intro b p k h; exact ⟨h, fun h1 h2 => Nat.le_trans h2 h1⟩
  | succ n ih =>
    intro b p k h
    unfold plA
    split
    · exact ⟨h, fun h1 h2 => Nat.le_trans h2 h1⟩
    · split
      · exact ⟨h, fun h1 h2 => Nat.le_trans h2 h1⟩
      · rename_i vs ho
        split
        · exact ⟨h, fun h1 h2 => Nat.le_trans h2 h1⟩
        · rename_i b' hb
          obtain ⟨i1, i2⟩ := ih b' (prO tx p).2 (k + 1) (ordA_ok h hb)
          refine ⟨i1, fun h1 h2 => ?_⟩
          obtain ⟨p1, p2, p3⟩ := prO_pos h1
          have := p3 (by rw [ho]; rfl)
          exact i2 p2 (by omega)
theorem pm_fault {gB gX gY gN : zG} {h : Nat → Option zG} (hR : zRel gB gX gY h gN) (gM : zG) (gT : zG) (x1 : Int32) : ∃ R R', f_X6_fault gM gB gT gX x1 = some R ∧ f_X7_fault gN x1 = some R' ∧ R.1 = R'.1 ∧ zRel gB R.2.2.2 gY h R'.2 := by
  obtain ⟨b, hs, tx, hA⟩ := zRel_abs hR
  have hA0 := hA
  obtain ⟨h1, h2, h3, h4, h5, h6, h7, h8, h9⟩ := hA
  unfold f_X6_fault f_X7_fault
  rw [within_ev, zbind_some, ite_1, in_ev, zbind_some, ite_1]
  by_cases q : 0 ≤ x1 ∧ x1 ≤ 2
  · rw [if_pos q, if_pos q, copies_02_ev, zbind_some]
    obtain ⟨gM', gT', gX', t1, t2, t3⟩ := try_ev (gM := gM) (gT := gT) h3 h1 h8
    have hS0 : rS ((gset gN 2 (cpR (gN 2) (gN 0) 0)) 0) b := by rw [gset_ne _ _ (by decide)]; exact h4
    have ht0 : txM (gset gN 2 (cpR (gN 2) (gN 0) 0)) tx := ⟨by rw [gset_ne _ _ (by decide)]; exact h9.1, fun i x hx => by rw [gset_ne _ _ (by decide)]; exact h9.2 i x hx⟩
    obtain ⟨y, g', i1, i2, i3, i4⟩ := plays_ev hS0 h1 h8.1 ht0
    rw [t1, zbind_some, i1, zbind_some, copies_20_ev, zbind_some]
    dsimp only
    have e2 : g' 2 = cpR (gN 2) (gN 0) 0 := by rw [i3 2 (by decide) (by decide) (by omega), gset_same]
    have hz : zRel gB gX' gY h (gset g' 0 (cpR (g' 0) (g' 2) 0)) := by
      have kk : ∀ j, j = 1 ∨ j = 4 ∨ j = 6 ∨ j = 7 → (gset g' 0 (cpR (g' 0) (g' 2) 0)) j = gN j := fun j hj => by
        rw [gset_ne _ _ (by omega), i3 j (by omega) (by omega) (by omega), gset_ne _ _ (by omega)]
      refine zAbs_rel (b := b) (hs := hs) (tx := tx) ⟨h1, h2, h3, ?_, h5, ?_, ?_, kx_tx t3 h8, ?_⟩
      · rw [gset_same, e2]
        exact cpR_rS h1 (cpR_rS h1 h4)
      · unfold hisM; rw [kk 4 (by simp), kk 1 (by simp)]; exact h6
      · rw [gset_ne _ _ (by decide)]; exact i4
      · unfold txM; rw [kk 7 (by simp), kk 6 (by simp)]; exact h9
    have keep : ∀ j, j ≠ 0 → (gset g' 0 (cpR (g' 0) (g' 2) 0)) j = g' j := fun j hj => gset_ne _ _ hj
    generalize gset g' 0 (cpR (g' 0) (g' 2) 0) = g2 at hz keep ⊢
    have why := plA_why tx 61 b 0 0
    generalize plA tx 61 b 0 0 = o at t2 i2 why
    obtain ⟨f, k, b'⟩ := o
    cases f with
    | none =>
      obtain ⟨a1, a2, a3⟩ := t2
      obtain ⟨c1, c2, c3⟩ := i2
      rw [if_pos a1, c1, if_neg ne10]
      exact ⟨_, _, rfl, rfl, rfl, hz⟩
    | some f =>
      obtain ⟨a1, a2, a3⟩ := t2
      obtain ⟨c1, c2, c3, c4⟩ := i2
      have hw := why f rfl
      rw [if_neg (by rw [a2]; exact hw), c1, if_pos rfl, keep 15 (by decide), keep 16 (by decide), keep 17 (by decide), a1, a2, a3, c2, c3, c4]
      rcases upto2 q with rfl | rfl | rfl
      · rw [if_pos rfl, if_pos rfl]
        exact ⟨_, _, rfl, rfl, rfl, hz⟩
      · rw [if_neg (by decide), if_pos rfl, if_neg (by decide), if_pos rfl]
        exact ⟨_, _, rfl, rfl, rfl, hz⟩
      · rw [if_neg (by decide), if_neg (by decide), if_neg (by decide), if_neg (by decide)]
        exact ⟨_, _, rfl, rfl, rfl, hz⟩
  · rw [if_neg q, if_neg q]
    exact ⟨_, _, rfl, rfl, rfl, hR⟩
theorem pm_play {gB gX gY gN : zG} {h : Nat → Option zG} (hR : zRel gB gX gY h gN) (gM : zG) (gT : zG) : ∃ R R', f_X6_play gM gB gT gX gY h = some R ∧ f_X7_play gN = some R' ∧ R.1 = R'.1 ∧ zRel R.2.2.1 R.2.2.2.2.1 R.2.2.2.2.2.1 R.2.2.2.2.2.2 R'.2 := by
  obtain ⟨b, hs, tx, hA⟩ := zRel_abs hR
  have hA0 := hA
  obtain ⟨h1, h2, h3, h4, h5, h6, h7, h8, h9⟩ := hA
  unfold f_X6_play f_X7_play
  rw [copies_02_ev, zbind_some]
  obtain ⟨gM', gT', gX', t1, t2, t3⟩ := try_ev (gM := gM) (gT := gT) h3 h1 h8
  have hS0 : rS ((gset gN 2 (cpR (gN 2) (gN 0) 0)) 0) b := by rw [gset_ne _ _ (by decide)]; exact h4
  have ht0 : txM (gset gN 2 (cpR (gN 2) (gN 0) 0)) tx := ⟨by rw [gset_ne _ _ (by decide)]; exact h9.1, fun i x hx => by rw [gset_ne _ _ (by decide)]; exact h9.2 i x hx⟩
  obtain ⟨y, g', i1, i2, i3, i4⟩ := plays_ev hS0 h1 h8.1 ht0
  rw [t1, zbind_some, i1, zbind_some, copies_20_ev, zbind_some]
  dsimp only
  have e2 : g' 2 = cpR (gN 2) (gN 0) 0 := by rw [i3 2 (by decide) (by decide) (by omega), gset_same]
  have kk : ∀ j, j = 1 ∨ j = 4 ∨ j = 6 ∨ j = 7 → (gset g' 0 (cpR (g' 0) (g' 2) 0)) j = gN j := fun j hj => by
    rw [gset_ne _ _ (by omega), i3 j (by omega) (by omega) (by omega), gset_ne _ _ (by omega)]
  have hS2 : rS ((gset g' 0 (cpR (g' 0) (g' 2) 0)) 0) b := by
    rw [gset_same, e2]
    exact cpR_rS h1 (cpR_rS h1 h4)
  have hM2 : hisM (gset g' 0 (cpR (g' 0) (g' 2) 0)) hs := by unfold hisM; rw [kk 4 (by simp), kk 1 (by simp)]; exact h6
  have h52 : (gset g' 0 (cpR (g' 0) (g' 2) 0)) 5 0 = 0 := by rw [gset_ne _ _ (by decide)]; exact i4
  have ht2 : txM (gset g' 0 (cpR (g' 0) (g' 2) 0)) tx := by unfold txM; rw [kk 7 (by simp), kk 6 (by simp)]; exact h9
  generalize gset g' 0 (cpR (g' 0) (g' 2) 0) = g2 at hS2 hM2 h52 ht2 ⊢
  have hX' := kx_tx t3 h8
  have why := plA_why tx 61 b 0 0
  have okp := plA_ok tx 61 b 0 0 h1
  cases hf : (plA tx 61 b 0 0).1 with
  | some f =>
    have hw := why f hf
    unfold resC at t2
    unfold resM at i2
    rw [hf] at t2 i2
    obtain ⟨a1, a2, a3⟩ := t2
    obtain ⟨c1, c2, c3, c4⟩ := i2
    rw [if_neg (by rw [a2]; exact hw), keepTrial_neg _ _ _ _ _ (show (-1000000002 : Int32) < 0 from by decide), zbind_some, c1, if_pos rfl]
    exact ⟨_, _, rfl, rfl, rfl, zAbs_rel (b := b) (hs := hs) (tx := tx) ⟨h1, h2, h3, hS2, h5, hM2, h52, hX', ht2⟩⟩
  | none =>
    unfold resC at t2
    unfold resM at i2
    rw [hf] at t2 i2
    obtain ⟨a1, a2, a3⟩ := t2
    obtain ⟨c1, c2, c3⟩ := i2
    have h60 := h8.1
    have hk := okp.2 (Nat.zero_le _) (Nat.le_refl _)
    obtain ⟨gB', gY', h', k1, k2, k3⟩ := keepTrial_ev gM' (gB := gB) (gT := gT') (gY := gY) (h := h) (a := nI (plA tx 61 b 0 0).2.1) (nI_pos (by omega)) h5 h3 h1 a3 okp.1
    obtain ⟨g3, d1, d2, d3⟩ := changes_push h52 hM2 h5.1 h2 hS2 h1
    have ht3 : txM g3 tx := by unfold txM; rw [d2 7 (by decide) (by decide), d2 6 (by decide) (by decide)]; exact ht2
    obtain ⟨y2, g4, j1, j2, j3, j4⟩ := plays_ev (g := g3) (by rw [d2 0 (by decide) (by decide)]; exact hS2) h1 h60 ht3
    unfold resM at j2
    rw [hf] at j2
    obtain ⟨l1, l2, l3⟩ := j2
    rw [if_pos a1, a2, k1, zbind_some, c1, if_neg ne10, d1, zbind_some, j1, zbind_some]
    dsimp only
    rw [l1, if_neg ne10, l2]
    refine ⟨_, _, rfl, rfl, rfl, ?_⟩
    refine zAbs_rel (b := (plA tx 61 b 0 0).2.2) (hs := pushH hs b) (tx := tx) ⟨okp.1, pushH_ok h2 h1, k2, l3, k3, ?_, j4, hX', ?_⟩
    · show hisM g4 _
      unfold hisM
      rw [j3 4 (by decide) (by decide) (by omega), j3 1 (by decide) (by decide) (by omega)]
      exact d3
    · exact ky_tx j3 ht3
