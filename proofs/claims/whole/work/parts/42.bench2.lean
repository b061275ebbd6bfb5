/-! ===== things laid, taken and moved on the class's bench ===== -/
def cpT (g : zG) (a b : Nat) : zG := fun j => if 3 ≤ j ∧ j ≤ 7 then upd (g j) b (g j a) else g j
theorem within07 {a : Nat} (ha : a < 8) : f_X6_within (nI a) (0 : Int32) (7 : Int32) = some 1 := by
  have h0 : (0 : Int32) ≤ nI a := nI_pos' (by omega)
  have h7 : nI a ≤ (7 : Int32) := by
    rw [ile, toInt_nI (by omega), show (7 : Int32).toInt = 7 from rfl]
    omega
  rw [within_ev, if_pos ⟨h0, h7⟩]
theorem copyThing_ev {g : zG} {a b : Nat} (ha : a < 8) (hb : b < 8) : f_X0_copyThing g (nI a) (nI b) = some (cpT g a b) := by
  unfold f_X0_copyThing
  rw [within07 ha, zbind_some, if_neg ne10, within07 hb, zbind_some, if_neg ne10]
  simp only [zin_nI ha (by decide), zin_nI hb (by decide), zlet_eq, nI_clamp (show a < 2 ^ 31 by omega), nI_clamp (show b < 2 ^ 31 by omega)]
  congr 1
  funext j
  unfold cpT gup
  by_cases h3 : j = 3
  · subst h3; simp
  by_cases h4 : j = 4
  · subst h4; simp
  by_cases h5 : j = 5
  · subst h5; simp
  by_cases h6 : j = 6
  · subst h6; simp
  by_cases h7 : j = 7
  · subst h7; simp
  · rw [if_neg (c := 3 ≤ j ∧ j ≤ 7) (by omega)]
    simp [h3, h4, h5, h6, h7]
/-- places k.. move up by one, up to place i -/
def shU (g : zG) (k i : Nat) : zG := fun j => if 3 ≤ j ∧ j ≤ 7 then (fun x => if k < x ∧ x ≤ i then g j (x - 1) else g j x) else g j
theorem shU_self (g : zG) (k : Nat) : shU g k k = g := by
  funext j
  unfold shU
  split
  · funext x
    rw [if_neg (by omega)]
  · rfl
theorem shU_step (g : zG) {k i : Nat} (h : k ≤ i) : shU (cpT g i (i + 1)) k i = shU g k (i + 1) := by
  funext j
  unfold shU cpT
  split
  · funext x
    simp only [upd]
    by_cases h1 : k < x ∧ x ≤ i
    · rw [if_pos h1, if_pos (c := k < x ∧ x ≤ i + 1) (by omega), if_neg (by omega)]
    · rw [if_neg h1]
      by_cases h2 : x = i + 1
      · subst h2
        rw [if_pos rfl, if_pos (by omega), Nat.add_sub_cancel]
      · rw [if_neg h2, if_neg (by omega)]
  · rfl
/-- places k+1.. move down by one -/
def shD (g : zG) (k i : Nat) : zG := fun j => if 3 ≤ j ∧ j ≤ 7 then (fun x => if k ≤ x ∧ x < i then g j (x + 1) else g j x) else g j
theorem shD_self (g : zG) (k : Nat) : shD g k k = g := by
  funext j
  unfold shD
  split
  · funext x
    rw [if_neg (by omega)]
  · rfl
theorem shD_step (g : zG) {k i : Nat} (h : k ≤ i) : cpT (shD g k i) (i + 1) i = shD g k (i + 1) := by
  funext j
  by_cases hj : 3 ≤ j ∧ j ≤ 7
  · have e1 : cpT (shD g k i) (i + 1) i j = upd (shD g k i j) i (shD g k i j (i + 1)) := by unfold cpT; rw [if_pos hj]
    have e2 : ∀ i', shD g k i' j = fun x => if k ≤ x ∧ x < i' then g j (x + 1) else g j x := fun i' => by unfold shD; rw [if_pos hj]
    rw [e1, e2, e2]
    funext x
    simp only [upd]
    by_cases h2 : x = i
    · subst h2
      rw [if_pos rfl, if_neg (by omega), if_pos (by omega)]
    · rw [if_neg h2]
      by_cases h1 : k ≤ x ∧ x < i
      · rw [if_pos h1, if_pos (by omega)]
      · rw [if_neg h1, if_neg (by omega)]
  · unfold cpT shD
    simp only [if_neg hj]
/-- a thing's five fields at a place -/
def atT (g : zG) (k : Nat) (t : zTh) : zG := gup (gup (gup (gup (gup g 3 k t.1) 4 k t.2.1) 5 k t.2.2.1) 6 k t.2.2.2.1) 7 k t.2.2.2.2
theorem addThing_loop {k : Nat} (hk : k < 8) (t : zTh) : ∀ (d i fuel : Nat) (g : zG), i = k + d → i ≤ 7 → d < fuel → f_X0_addThing_43 fuel t.1 t.2.1 t.2.2.1 t.2.2.2.1 t.2.2.2.2 (nI k) (nI i) g = some (g 8 0 + 1, gup (atT (shU g k i) k t) 8 0 (g 8 0 + 1)) := by
  intro d
  induction d with
  | zero =>
    intro i fuel g hi h7 hf
    obtain ⟨n, rfl⟩ : ∃ n, fuel = n + 1 := ⟨fuel - 1, by omega⟩
    have hi : i = k := by omega
    subst hi
    show f_X0_addThing_43_b (f_X0_addThing_43 n) t.1 t.2.1 t.2.2.1 t.2.2.2.1 t.2.2.2.2 (nI i) (nI i) g = _
    unfold f_X0_addThing_43_b
    rw [if_pos (Int32.le_refl _)]
    simp only [zin_nI hk (by decide), zlet_eq, nI_clamp (show i < 2 ^ 31 by omega), shU_self]
    rfl
  | succ d ih =>
    intro i fuel g hi h7 hf
    obtain ⟨n, rfl⟩ : ∃ n, fuel = n + 1 := ⟨fuel - 1, by omega⟩
    obtain ⟨i', rfl⟩ : ∃ i', i = i' + 1 := ⟨i - 1, by omega⟩
    show f_X0_addThing_43_b (f_X0_addThing_43 n) t.1 t.2.1 t.2.2.1 t.2.2.2.1 t.2.2.2.2 (nI k) (nI (i' + 1)) g = _
    unfold f_X0_addThing_43_b
    rw [if_neg (by rw [inle]; exact (nI_ltI (by omega) (by omega)).mpr (by omega)), nI_pred, copyThing_ev (by omega) (by omega), zbind_some, pk_m1, ih i' n _ (by omega) (by omega) (by omega), shU_step g (by omega)]
    rfl
def insT (t : zTh) (th : List zTh) : List zTh := th.take (nah t.1 th) ++ t :: th.drop (nah t.1 th)
theorem insT_len (t : zTh) (th : List zTh) : (insT t th).length = th.length + 1 := by
  unfold insT
  have := nah_le t.1 th
  simp
  omega
theorem insT_get (t : zTh) (th : List zTh) (i : Nat) : (insT t th)[i]? = if i < nah t.1 th then th[i]? else if i = nah t.1 th then some t else th[i - 1]? := by
  have hk := nah_le t.1 th
  unfold insT
  rw [List.getElem?_append, List.length_take, Nat.min_eq_left hk]
  by_cases h : i < nah t.1 th
  · rw [if_pos h, if_pos h, List.getElem?_take_of_lt h]
  · rw [if_neg h, if_neg h]
    by_cases h2 : i = nah t.1 th
    · rw [if_pos h2, h2, Nat.sub_self]; rfl
    · rw [if_neg h2]
      obtain ⟨x, hx⟩ : ∃ x, i - nah t.1 th = x + 1 := ⟨i - nah t.1 th - 1, by omega⟩
      rw [hx, List.getElem?_cons_succ, List.getElem?_drop]
      congr 1
      omega
theorem repB_ins {g : zG} {ls : List zL} {th : List zTh} {w : Int32} (h : repB g ls th w) (t t' : zTh) (h1 : t.1 = t'.1 ∧ t.2.1 = t'.2.1 ∧ t.2.2.1 = t'.2.2.1 ∧ t.2.2.2.1 = t'.2.2.2.1 ∧ (t'.2.1 = 0 → t.2.2.2.2 = t'.2.2.2.2)) : repB (gup (atT (shU g (nah t'.1 th) th.length) (nah t'.1 th) t) 8 0 (nI (th.length + 1))) ls (insT t' th) w := by
  have hk := nah_le t'.1 th
  refine ⟨?_, ?_, ?_, ?_, ?_⟩
  · simpa [gup, atT, shU] using h.1
  · simp [gup, upd, insT_len]
  · simpa [gup, atT, shU] using h.2.2.1
  · intro i q hq
    simpa [gup, atT, shU] using h.2.2.2.1 i q hq
  · intro i q hq
    rw [insT_get] at hq
    have e : ∀ j, 3 ≤ j → j ≤ 7 → (gup (atT (shU g (nah t'.1 th) th.length) (nah t'.1 th) t) 8 0 (nI (th.length + 1))) j = upd (fun x => if nah t'.1 th < x ∧ x ≤ th.length then g j (x - 1) else g j x) (nah t'.1 th) (if j = 3 then t.1 else if j = 4 then t.2.1 else if j = 5 then t.2.2.1 else if j = 6 then t.2.2.2.1 else t.2.2.2.2) := by
      intro j h3 h7
      rcases (show j = 3 ∨ j = 4 ∨ j = 5 ∨ j = 6 ∨ j = 7 by omega) with rfl | rfl | rfl | rfl | rfl <;> simp [gup, atT, shU]
    rw [e 3 (by omega) (by omega), e 4 (by omega) (by omega), e 5 (by omega) (by omega), e 6 (by omega) (by omega), e 7 (by omega) (by omega)]
    simp only [upd]
    by_cases c1 : i < nah t'.1 th
    · rw [if_pos c1] at hq
      have hne : i ≠ nah t'.1 th := by omega
      have hno : ¬ (nah t'.1 th < i ∧ i ≤ th.length) := by omega
      simp only [if_neg hne, if_neg hno]
      exact h.2.2.2.2 i q hq
    · rw [if_neg c1] at hq
      by_cases c2 : i = nah t'.1 th
      · rw [if_pos c2] at hq
        cases hq
        simp only [if_pos c2]
        simpa using h1
      · rw [if_neg c2] at hq
        have hl := (List.getElem?_eq_some_iff.mp hq).1
        have hyes : nah t'.1 th < i ∧ i ≤ th.length := by omega
        simp only [if_neg c2, if_pos hyes]
        exact h.2.2.2.2 (i - 1) q hq
theorem addThing_ev {g : zG} {ls : List zL} {th : List zTh} {w : Int32} (h : repB g ls th w) (hl : th.length ≤ 8) (t t' : zTh) (h1 : t.1 = t'.1 ∧ t.2.1 = t'.2.1 ∧ t.2.2.1 = t'.2.2.1 ∧ t.2.2.2.1 = t'.2.2.2.1 ∧ (t'.2.1 = 0 → t.2.2.2.2 = t'.2.2.2.2)) :
    ((fidx t.1 th).isSome ∧ f_X0_addThing g t.1 t.2.1 t.2.2.1 t.2.2.2.1 t.2.2.2.2 = some (NPO, g)) ∨ (fidx t.1 th = none ∧ th.length = 8 ∧ f_X0_addThing g t.1 t.2.1 t.2.2.1 t.2.2.2.1 t.2.2.2.2 = some (LIM, g)) ∨
    (fidx t.1 th = none ∧ th.length < 8 ∧ ∃ g', f_X0_addThing g t.1 t.2.1 t.2.2.1 t.2.2.2.1 t.2.2.2.2 = some (nI (th.length + 1), g') ∧ repB g' ls (insT t' th) w) := by
  unfold f_X0_addThing
  rw [indexOf_ev h hl, zbind_some]
  cases hf : fidx t.1 th with
  | some k =>
    have := fidx_lt hf
    refine Or.inl ⟨rfl, ?_⟩
    rw [show ix (some k) (-1) = nI k from rfl, if_neg (nI_pos (by omega))]
    rfl
  | none =>
    rw [if_pos (show ix none (-1) < 0 from by decide), thingsAhead_ev h hl, zbind_some, h.2.1]
    by_cases h8 : th.length < 8
    · refine Or.inr (Or.inr ⟨rfl, h8, ?_⟩)
      rw [if_neg (c := (8 : Int32) ≤ nI th.length) (by rw [inle]; exact (nI_ltI (b := 8) (by omega) (by decide)).mpr h8),
        if_pos (c := nI (nah t.1 th) < (8 : Int32)) ((nI_ltI (b := 8) (by have := nah_le t.1 th; omega) (by decide)).mpr (by have := nah_le t.1 th; omega)),
        addThing_loop (k := nah t.1 th) (by have := nah_le t.1 th; omega) t (th.length - nah t.1 th) th.length zfuel g (by have := nah_le t.1 th; omega) (by omega) (by unfold zfuel; omega), h.2.1, nI_1]
      refine ⟨_, rfl, ?_⟩
      have := repB_ins h t t' h1
      rw [← h1.1] at this
      exact this
    · refine Or.inr (Or.inl ⟨rfl, by omega, ?_⟩)
      rw [if_pos (c := (8 : Int32) ≤ nI th.length) (inlt.mp (fun q => h8 ((nI_ltI (b := 8) (by omega) (by decide)).mp q)))]
      rfl
theorem lnum_m1 (n : Nat) : lnum n (-1) = none := by
  unfold lnum
  rw [if_neg (fun q => absurd q.1 (by decide))]
theorem removeThing_loop {g : zG} {m k : Nat} (hm : g 8 0 = nI m) (h8 : m ≤ 8) : ∀ (d i fuel : Nat), i + 1 + d = m → k ≤ i → d < fuel → f_X0_removeThing_21 fuel (nI (i + 1)) (shD g k i) = some (nI (m - 1), gup (shD g k (m - 1)) 8 0 (nI (m - 1))) := by
  have e8 : ∀ i, (shD g k i) 8 0 = nI m := fun i => hm
  intro d
  induction d with
  | zero =>
    intro i fuel hi hk hf
    obtain ⟨n, rfl⟩ : ∃ n, fuel = n + 1 := ⟨fuel - 1, by omega⟩
    have hi : m = i + 1 := by omega
    subst hi
    have fin : f_X0_removeThing_49 (shD g k i) = some (nI (i + 1 - 1), gup (shD g k (i + 1 - 1)) 8 0 (nI (i + 1 - 1))) := by
      unfold f_X0_removeThing_49
      rw [zlet_eq, e8, nI_pred, Nat.add_sub_cancel]
      simp [gup, upd]
    show f_X0_removeThing_21_b (f_X0_removeThing_21 n) (nI (i + 1)) (shD g k i) = _
    unfold f_X0_removeThing_21_b
    by_cases q : (8 : Int32) ≤ nI (i + 1)
    · rw [if_pos q, fin]
    · rw [if_neg q, hasThing_nI (e8 i) h8 (by omega), if_neg (c := i + 1 < i + 1) (by omega), zbind_some, if_pos rfl, fin]
  | succ d ih =>
    intro i fuel hi hk hf
    obtain ⟨n, rfl⟩ : ∃ n, fuel = n + 1 := ⟨fuel - 1, by omega⟩
    show f_X0_removeThing_21_b (f_X0_removeThing_21 n) (nI (i + 1)) (shD g k i) = _
    unfold f_X0_removeThing_21_b
    rw [if_neg (c := (8 : Int32) ≤ nI (i + 1)) (by rw [l8 (by omega)]; omega), hasThing_nI (e8 i) h8 (by omega), if_pos (c := i + 1 < m) (by omega), zbind_some, if_neg ne10, nI_pred, copyThing_ev (by omega) (by omega), zbind_some, shD_step g hk, nIs]
    exact ih (i + 1) n (by omega) (by omega) (by omega)
theorem repB_del {g : zG} {ls : List zL} {th : List zTh} {w : Int32} (h : repB g ls th w) {k : Nat} (hk : k < th.length) : repB (gup (shD g k (th.length - 1)) 8 0 (nI (th.length - 1))) ls (th.eraseIdx k) w := by
  refine ⟨?_, ?_, ?_, ?_, ?_⟩
  · simpa [gup, shD] using h.1
  · rw [List.length_eraseIdx_of_lt hk]
    simp [gup, upd]
  · simpa [gup, shD] using h.2.2.1
  · intro i q hq
    simpa [gup, shD] using h.2.2.2.1 i q hq
  · intro i q hq
    rw [List.getElem?_eraseIdx] at hq
    have e : ∀ j, 3 ≤ j → j ≤ 7 → (gup (shD g k (th.length - 1)) 8 0 (nI (th.length - 1))) j = (fun x => if k ≤ x ∧ x < th.length - 1 then g j (x + 1) else g j x) := by
      intro j h3 h7
      rw [gup_ne _ _ _ (by omega)]
      unfold shD
      rw [if_pos ⟨h3, h7⟩]
    rw [e 3 (by omega) (by omega), e 4 (by omega) (by omega), e 5 (by omega) (by omega), e 6 (by omega) (by omega), e 7 (by omega) (by omega)]
    by_cases c1 : i < k
    · rw [if_pos c1] at hq
      have hno : ¬ (k ≤ i ∧ i < th.length - 1) := by omega
      simp only [if_neg hno]
      exact h.2.2.2.2 i q hq
    · rw [if_neg c1] at hq
      have hl := (List.getElem?_eq_some_iff.mp hq).1
      have hyes : k ≤ i ∧ i < th.length - 1 := by omega
      simp only [if_pos hyes]
      exact h.2.2.2.2 (i + 1) q hq
theorem removeThing_ev {g : zG} {ls : List zL} {th : List zTh} {w : Int32} (h : repB g ls th w) (hl : th.length ≤ 8) (p : Int32) :
    (fidx p th = none ∧ f_X0_removeThing g p = some (INV, g)) ∨ (∃ k, fidx p th = some k ∧ ∃ g', f_X0_removeThing g p = some (nI (th.length - 1), g') ∧ repB g' ls (th.eraseIdx k) w) := by
  unfold f_X0_removeThing
  rw [indexOf_ev h hl, zbind_some]
  cases hf : fidx p th with
  | none =>
    refine Or.inl ⟨rfl, ?_⟩
    show zbind (f_X0_hasThing g (-1)) _ = _
    rw [hasThing_ev h.2.1 hl, lnum_m1, zbind_some]
    rfl
  | some k =>
    have hk := fidx_lt hf
    refine Or.inr ⟨k, rfl, gup (shD g k (th.length - 1)) 8 0 (nI (th.length - 1)), ?_, repB_del h hk⟩
    show zbind (f_X0_hasThing g (nI k)) _ = _
    rw [hasThing_nI h.2.1 hl (by omega), if_pos hk, zbind_some, if_neg ne10]
    show f_X0_removeThing_21 zfuel (nI k + 1) g = _
    rw [nIs]
    have := removeThing_loop (g := g) (k := k) h.2.1 hl (th.length - 1 - k) k zfuel (by omega) (Nat.le_refl _) (by unfold zfuel; omega)
    rw [shD_self] at this
    exact this
theorem nah_ins (t : zTh) : ∀ th : List zTh, nah t.1 (insT t th) = nah t.1 th := by
  intro th
  induction th with
  | nil =>
    have : ¬ t.1 < t.1 := by rw [inlt]; exact Int32.le_refl _
    simp [insT, nah, this]
  | cons x r ih =>
    by_cases hx : x.1 < t.1
    · have e : nah t.1 (x :: r) = nah t.1 r + 1 := by rw [nah, if_pos hx]
      have e2 : insT t (x :: r) = x :: insT t r := by
        unfold insT
        rw [e]
        simp
      rw [e2, e, nah, if_pos hx, ih]
    · have e : nah t.1 (x :: r) = 0 := by rw [nah, if_neg hx]
      have e2 : insT t (x :: r) = t :: x :: r := by
        unfold insT
        rw [e]
        simp
      have : ¬ t.1 < t.1 := by rw [inlt]; exact Int32.le_refl _
      rw [e2, e, nah, if_neg this]
theorem fidx_none_of {p : Int32} : ∀ {th : List zTh}, (∀ t ∈ th, t.1 ≠ p) → fidx p th = none := by
  intro th
  induction th with
  | nil => intro _; rfl
  | cons t r ih =>
    intro h
    unfold fidx
    rw [if_neg (h t List.mem_cons_self), ih (fun q hq => h q (List.mem_cons_of_mem _ hq))]
    rfl
theorem fidx_erase {p : Int32} {th : List zTh} (k : Nat) (h : fidx p th = none) : fidx p (th.eraseIdx k) = none :=
  fidx_none_of (fun t ht => fidx_none h t (List.mem_of_mem_eraseIdx ht))
theorem moveThing_ev {g : zG} {ls : List zL} {th : List zTh} {w : Int32} (h : repB g ls th w) (hl : th.length ≤ 8) (p to : Int32) :
    (fidx p th = none ∧ f_X0_moveThing g p to = some (INV, g)) ∨ (∃ k t, fidx p th = some k ∧ th[k]? = some t ∧
      ((¬ (1 ≤ to ∧ to ≤ 999) ∧ f_X0_moveThing g p to = some (INV, g)) ∨ ((1 ≤ to ∧ to ≤ 999) ∧ (fidx to th).isSome ∧ f_X0_moveThing g p to = some (NPO, g)) ∨
       ((1 ≤ to ∧ to ≤ 999) ∧ fidx to th = none ∧ ∃ g', f_X0_moveThing g p to = some (nI (nah to (th.eraseIdx k)), g') ∧ repB g' ls (insT (to, t.2) (th.eraseIdx k)) w))) := by
  unfold f_X0_moveThing
  rw [indexOf_ev h hl, zbind_some]
  cases hf : fidx p th with
  | none =>
    refine Or.inl ⟨rfl, ?_⟩
    show zbind (f_X0_hasThing g (-1)) _ = _
    rw [hasThing_ev h.2.1 hl, lnum_m1, zbind_some]
    rfl
  | some k =>
    have hk := fidx_lt hf
    obtain ⟨t, ht, htp⟩ := fidx_some hf
    refine Or.inr ⟨k, t, rfl, ht, ?_⟩
    show _ ∨ _ ∨ _
    have e0 : (ix (some k) (-1)) = nI k := rfl
    rw [e0, hasThing_nI h.2.1 hl (by omega), if_pos hk, zbind_some, if_neg ne10, within_ev, zbind_some, ite_1]
    by_cases hto : 1 ≤ to ∧ to ≤ 999
    · rw [if_pos hto, indexOf_ev h hl, zbind_some]
      cases hf2 : fidx to th with
      | some k2 =>
        have := fidx_lt hf2
        refine Or.inr (Or.inl ⟨hto, rfl, ?_⟩)
        rw [if_neg (show ¬ ix (some k2) (-1) < 0 from nI_pos (by omega))]
        rfl
      | none =>
        refine Or.inr (Or.inr ⟨hto, rfl, ?_⟩)
        rw [if_pos (show ix none (-1) < 0 from by decide)]
        simp only [zin_nI (show k < 8 by omega) (show 8 < 2 ^ 31 by decide), nI_clamp (show k < 2 ^ 31 by omega)]
        rcases removeThing_ev h hl p with ⟨q, -⟩ | ⟨k', q, g1, h1, h2⟩
        · rw [hf] at q; cases q
        · rw [hf] at q
          cases q
          rw [h1, zbind_some]
          have hT := h.2.2.2.2 k t ht
          have hlen := List.length_eraseIdx_of_lt hk
          rcases addThing_ev h2 (by omega) (to, g 4 k, g 5 k, g 6 k, g 7 k) (to, t.2) ⟨rfl, hT.2.1, hT.2.2.1, hT.2.2.2.1, hT.2.2.2.2⟩ with ⟨q, -⟩ | ⟨-, q, -⟩ | ⟨-, -, g2, h3, h4⟩
          · rw [fidx_erase k hf2] at q; cases q
          · omega
          · rw [h3, zbind_some, thingsAhead_ev h4 (by rw [insT_len]; omega), zbind_some, nah_ins (to, t.2)]
            exact ⟨g2, rfl, h4⟩
    · rw [if_neg hto]
      exact Or.inl ⟨hto, rfl⟩
