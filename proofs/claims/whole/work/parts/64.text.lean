/-! ===== orders as texts ===== -/
def ch (tx : List Int32) (p : Nat) : Int32 := tx.getD p 0
theorem gup_at (g : zG) (k i : Nat) (v : Int32) : gup g k i v k i = v := by simp [gup, upd]
theorem ch_in {tx : List Int32} {p : Nat} (h : p < tx.length) : tx[p]? = some (ch tx p) := getD_some h
theorem ch_out {tx : List Int32} {p : Nat} (h : tx.length ≤ p) : ch tx p = 0 := by
  unfold ch
  rw [List.getD_eq_getElem?_getD, List.getElem?_eq_none h]
  rfl
theorem ch_lt {tx : List Int32} {p : Nat} (h : ¬ ch tx p = 0) : p < tx.length := by
  rcases Nat.lt_or_ge p tx.length with q | q
  · exact q
  · exact absurd (ch_out q) h
def kx (g g' : zG) : Prop := g' 0 = g 0 ∧ g' 1 = g 1
theorem kx_rf (g : zG) : kx g g := ⟨rfl, rfl⟩
theorem kx_tr {a b c : zG} (h1 : kx a b) (h2 : kx b c) : kx a c := ⟨h2.1.trans h1.1, h2.2.trans h1.2⟩
theorem kx_tx {g g' : zG} {tx : List Int32} (h : kx g g') (ht : txC g tx) : txC g' tx := by
  obtain ⟨h1, h2, h3⟩ := ht
  exact ⟨h1, by rw [h.2]; exact h2, fun i x hx => by rw [h.1]; exact h3 i x hx⟩
theorem signAt_ev {g : zG} {tx : List Int32} (ht : txC g tx) {p : Nat} (hp : p < 2 ^ 31) : f_X5_signAt g (nI p) = some (ch tx p) := by
  obtain ⟨h1, h2, h3⟩ := ht
  unfold f_X5_signAt
  rw [if_neg (nI_pos hp), h2]
  by_cases h : p < tx.length
  · obtain ⟨a1, a2, a3⟩ := h3 p _ (ch_in h)
    rw [if_neg (c := nI tx.length ≤ nI p) (fun q => by have := (nI_leI (by omega) hp).mp q; omega), if_neg (c := (60 : Int32) ≤ nI p) (fun q => by have := (nI_leI (a := 60) (by decide) hp).mp q; omega), zin_nI (by omega) (by decide), nI_clamp hp, a1]
    exact if_pos ⟨Int32.le_trans (by decide) a2, Int32.lt_of_le_of_lt a3 (by decide)⟩
  · rw [if_pos (c := nI tx.length ≤ nI p) ((nI_leI (by omega) hp).mpr (by omega)), ch_out (by omega)]
theorem isAt_ev {g : zG} {tx : List Int32} (h60 : tx.length ≤ 60) (ht : txM g tx) {p : Nat} (hp : p < 2 ^ 31) (hg : g 14 0 = nI p) {lo hi : Int32} (hlo : ¬ lo ≤ 0) : f_X7_isAt g lo hi = some (if lo ≤ ch tx p ∧ ch tx p ≤ hi then 1 else 0) := by
  obtain ⟨h2, h3⟩ := ht
  unfold f_X7_isAt
  rw [hg, h2]
  by_cases h : p < tx.length
  · rw [if_neg (c := nI tx.length ≤ nI p) (fun q => by have := (nI_leI (by omega) hp).mp q; omega), zin_nI (by omega) (by decide), nI_clamp hp, h3 p _ (ch_in h), in_ev, zbind_some, ite_1]
    split <;> rfl
  · rw [if_pos (c := nI tx.length ≤ nI p) ((nI_leI (by omega) hp).mpr (by omega)), ch_out (by omega), if_neg (c := lo ≤ 0 ∧ 0 ≤ hi) (fun q => hlo q.1)]
/-- the digits from a position on -/
def pn (tx : List Int32) : Nat → Nat → Int32 → Int32 × Nat
  | 0, p, v => (v, p)
  | n + 1, p, v => if 48 ≤ ch tx p ∧ ch tx p ≤ 57 then pn tx n (p + 1) (v * 10 + ch tx p - 48) else (v, p)
theorem dig_ne {c : Int32} (h : 48 ≤ c ∧ c ≤ 57) : ¬ c = 0 := fun e => by rw [e] at h; exact absurd h.1 (by decide)
theorem pn_pos (tx : List Int32) : ∀ (n p : Nat) (v : Int32), p ≤ (pn tx n p v).2 ∧ (p ≤ tx.length → (pn tx n p v).2 ≤ tx.length) := by
  intro n
  induction n with
  | zero => intro p v; exact ⟨Nat.le_refl _, fun h => h⟩
  | succ n ih =>
    intro p v
    unfold pn
    by_cases h : 48 ≤ ch tx p ∧ ch tx p ≤ 57
    · rw [if_pos h]
      have hl := ch_lt (dig_ne h)
      obtain ⟨i1, i2⟩ := ih (p + 1) (v * 10 + ch tx p - 48)
      exact ⟨by omega, fun _ => i2 (by omega)⟩
    · rw [if_neg h]
      exact ⟨Nat.le_refl _, fun h => h⟩
theorem num_c {tx : List Int32} {x : Nat} (hx : x < 3) : ∀ (n d p fuel : Nat) (v : Int32) (g : zG), txC g tx → g 4 0 = nI p → p ≤ tx.length → d + n = 4 → n < fuel → ∃ g', f_X5_readNumber_15 fuel (nI x) (nI d) v g = some (if d + ((pn tx n p v).2 - p) = 0 then 0 else 1, g') ∧ kx g g' ∧ g' 2 = g 2 ∧ g' 4 0 = nI (pn tx n p v).2 ∧ g' 3 x = (pn tx n p v).1 ∧ (∀ j, j ≠ x → g' 3 j = g 3 j) := by
  have fin : ∀ (d p : Nat) (v : Int32) (g : zG), d ≤ 4 → g 4 0 = nI p → ∃ g', f_X5_readNumber_71 (nI x) (nI d) v g = some (if d = 0 then 0 else 1, g') ∧ kx g g' ∧ g' 2 = g 2 ∧ g' 4 0 = nI p ∧ g' 3 x = v ∧ (∀ j, j ≠ x → g' 3 j = g 3 j) := by
    intro d p v g hd hg
    refine ⟨gup g 3 x v, ?_, ⟨gup_ne _ _ _ (by decide), gup_ne _ _ _ (by decide)⟩, gup_ne _ _ _ (by decide), ?_, gup_at _ _ _ _, ?_⟩
    · unfold f_X5_readNumber_71
      rw [zin_nI hx (by decide), zlet_eq, nI_clamp (by omega)]
      by_cases h : d = 0
      · rw [if_pos h, if_pos (by rw [h]; exact Int32.le_refl _)]
      · rw [if_neg h, if_neg (nI_nle (by omega) (by omega))]
    · rw [gup_ne _ _ _ (by decide)]; exact hg
    · intro j hj
      rw [gup_same]
      unfold upd
      rw [if_neg hj]
  intro n
  induction n with
  | zero =>
    intro d p fuel v g ht hg hp hd hf
    obtain ⟨m, rfl⟩ : ∃ m, fuel = m + 1 := ⟨fuel - 1, by omega⟩
    have hd : d = 4 := by omega
    subst hd
    obtain ⟨g', e1, e2⟩ := fin 4 p v g (by omega) hg
    show ∃ g', f_X5_readNumber_15_b (f_X5_readNumber_15 m) (nI x) (nI 4) v g = some (if 4 + (p - p) = 0 then 0 else 1, g') ∧ kx g g' ∧ g' 2 = g 2 ∧ g' 4 0 = nI p ∧ g' 3 x = v ∧ (∀ j, j ≠ x → g' 3 j = g 3 j)
    unfold f_X5_readNumber_15_b
    rw [if_pos (show (4 : Int32) ≤ nI 4 from by decide), e1]
    refine ⟨g', ?_, e2⟩
    rw [if_neg (by omega), if_neg (by omega)]
  | succ n ih =>
    intro d p fuel v g ht hg hp hd hf
    obtain ⟨m, rfl⟩ : ∃ m, fuel = m + 1 := ⟨fuel - 1, by omega⟩
    have h60 := ht.1
    show ∃ g', f_X5_readNumber_15_b (f_X5_readNumber_15 m) (nI x) (nI d) v g = _ ∧ _
    unfold f_X5_readNumber_15_b
    rw [if_neg (c := (4 : Int32) ≤ nI d) (fun q => by have := (nI_leI (a := 4) (by decide) (by omega)).mp q; omega), hg, signAt_ev ht (by omega), zbind_some, within_ev, zbind_some, ite_1, zbind_some, zlet_eq, nIs, nIs]
    unfold pn
    by_cases h : 48 ≤ ch tx p ∧ ch tx p ≤ 57
    · rw [if_pos h, if_pos h]
      have hl := ch_lt (dig_ne h)
      have kk : kx g (gup g 4 0 (nI (p + 1))) := ⟨gup_ne _ _ _ (by decide), gup_ne _ _ _ (by decide)⟩
      obtain ⟨g', e1, e2, e3, e4, e5, e6⟩ := ih (d + 1) (p + 1) m (v * 10 + ch tx p - 48) (gup g 4 0 (nI (p + 1))) (kx_tx kk ht) (gup_at _ _ _ _) (by omega) (by omega) (by omega)
      have hpos := (pn_pos tx n (p + 1) (v * 10 + ch tx p - 48)).1
      refine ⟨g', ?_, kx_tr kk e2, ?_, e4, e5, ?_⟩
      · rw [e1, if_neg (by omega), if_neg (by omega)]
      · rw [e3, gup_ne _ _ _ (by decide)]
      · intro j hj
        rw [e6 j hj, gup_ne _ _ _ (by decide)]
    · rw [if_neg h, if_neg h]
      obtain ⟨g', e1, e2⟩ := fin d p v g (by omega) hg
      refine ⟨g', ?_, e2⟩
      rw [e1, Nat.sub_self, Nat.add_zero]
theorem readNum_c {tx : List Int32} {x : Nat} (hx : x < 3) {p : Nat} {g : zG} (ht : txC g tx) (hg : g 4 0 = nI p) (hp : p ≤ tx.length) : ∃ g', f_X5_readNumber g (nI x) = some (if (pn tx 4 p 0).2 = p then 0 else 1, g') ∧ kx g g' ∧ g' 2 = g 2 ∧ g' 4 0 = nI (pn tx 4 p 0).2 ∧ g' 3 x = (pn tx 4 p 0).1 ∧ (∀ j, j ≠ x → g' 3 j = g 3 j) := by
  unfold f_X5_readNumber
  rw [if_neg (nI_pos (by omega)), if_pos (c := nI x < (3 : Int32)) ((nI_ltI (b := 3) (by omega) (by decide)).mpr hx)]
  obtain ⟨g', e1, e2⟩ := num_c hx 4 0 p zfuel 0 g ht hg hp (by omega) (by unfold zfuel; omega)
  have e1 : f_X5_readNumber_15 zfuel (nI x) (0 : Int32) (0 : Int32) g = _ := e1
  refine ⟨g', ?_, e2⟩
  rw [e1]
  have hpos := (pn_pos tx 4 p 0).1
  by_cases h : (pn tx 4 p 0).2 = p
  · rw [if_pos (by omega), if_pos h]
  · rw [if_neg (by omega), if_neg h]
/-- the reference's reading leaves all but spot and told -/
def kt (g g' : zG) : Prop := ∀ j, j ≠ 14 → j ≠ 20 → g' j = g j
theorem kt_rf (g : zG) : kt g g := fun _ _ _ => rfl
theorem kt_tr {a b c : zG} (h1 : kt a b) (h2 : kt b c) : kt a c := fun j x y => (h2 j x y).trans (h1 j x y)
theorem kt_tx {g g' : zG} {tx : List Int32} (h : kt g g') (ht : txM g tx) : txM g' tx := by
  obtain ⟨h2, h3⟩ := ht
  exact ⟨by rw [h 7 (by decide) (by decide)]; exact h2, fun i x hx => by rw [h 6 (by decide) (by decide)]; exact h3 i x hx⟩
theorem num_m {tx : List Int32} (h60 : tx.length ≤ 60) {x : Nat} (hx : x < 3) {s : Nat} : ∀ (n d p fuel : Nat) (v : Int32) (g : zG), txM g tx → g 14 0 = nI p → g 20 x = v → p = s + d → p ≤ tx.length → d + n = 4 → n < fuel → ∃ g', f_X7_numbered_12 fuel (nI x) (nI s) g = some (if (pn tx n p v).2 = s then 0 else 1, g') ∧ kt g g' ∧ g' 14 0 = nI (pn tx n p v).2 ∧ g' 20 x = (pn tx n p v).1 ∧ (∀ j, j ≠ x → g' 20 j = g 20 j) := by
  have fin : ∀ (p : Nat) (v : Int32) (g : zG), s ≤ p → p ≤ tx.length → g 14 0 = nI p → g 20 x = v → ∃ g', f_X7_numbered_74 (nI s) g = some (if p = s then 0 else 1, g') ∧ kt g g' ∧ g' 14 0 = nI p ∧ g' 20 x = v ∧ (∀ j, j ≠ x → g' 20 j = g 20 j) := by
    intro p v g hs hp hg h20
    refine ⟨g, ?_, kt_rf g, hg, h20, fun j _ => rfl⟩
    unfold f_X7_numbered_74
    rw [hg]
    by_cases h : p = s
    · rw [if_pos h, if_pos ((nI_leI (by omega) (by omega)).mpr (by omega))]
    · rw [if_neg h, if_neg (fun q => by have := (nI_leI (by omega) (by omega)).mp q; omega)]
  intro n
  induction n with
  | zero =>
    intro d p fuel v g ht hg h20 hps hp hd hf
    obtain ⟨m, rfl⟩ : ∃ m, fuel = m + 1 := ⟨fuel - 1, by omega⟩
    obtain ⟨g', e1, e2⟩ := fin p v g (by omega) hp hg h20
    show ∃ g', f_X7_numbered_12_b (f_X7_numbered_12 m) (nI x) (nI s) g = some (if p = s then 0 else 1, g') ∧ kt g g' ∧ g' 14 0 = nI p ∧ g' 20 x = v ∧ (∀ j, j ≠ x → g' 20 j = g 20 j)
    unfold f_X7_numbered_12_b
    have e4 : nI p - nI s = nI 4 := by
      rw [show p = 4 + s by omega, ← nI_add]
      exact Int32.add_sub_cancel _ _
    rw [isAt_ev h60 ht (by omega) hg (by decide), zbind_some, ite_1, hg, e4, if_pos (show (4 : Int32) ≤ nI 4 from by decide), e1]
    split
    · exact ⟨g', rfl, e2⟩
    · exact ⟨g', rfl, e2⟩
  | succ n ih =>
    intro d p fuel v g ht hg h20 hps hp hd hf
    obtain ⟨m, rfl⟩ : ∃ m, fuel = m + 1 := ⟨fuel - 1, by omega⟩
    have ed : nI p - nI s = nI d := by
      rw [show p = d + s by omega, ← nI_add]
      exact Int32.add_sub_cancel _ _
    show ∃ g', f_X7_numbered_12_b (f_X7_numbered_12 m) (nI x) (nI s) g = _ ∧ _
    unfold f_X7_numbered_12_b pn
    rw [isAt_ev h60 ht (by omega) hg (by decide), zbind_some, ite_1, hg, ed, if_neg (c := (4 : Int32) ≤ nI d) (fun q => by have := (nI_leI (a := 4) (by decide) (by omega)).mp q; omega)]
    by_cases h : 48 ≤ ch tx p ∧ ch tx p ≤ 57
    · have hl := ch_lt (dig_ne h)
      rw [if_pos h, if_pos h, zin_nI hx (by decide), zin_nI (show p < 60 by omega) (by decide), zin_nI hx (by decide), zlet_eq, zlet_eq, nI_clamp (show x < 2 ^ 31 by omega), nI_clamp (show p < 2 ^ 31 by omega), h20, ht.2 p _ (ch_in hl), gup_ne _ _ _ (show (14 : Nat) ≠ 20 by decide), hg, nIs, Int32.mul_comm 10 v]
      have kk : kt g (gup (gup g 20 x (v * 10 + ch tx p - 48)) 14 0 (nI (p + 1))) := fun j a b => by rw [gup_ne _ _ _ a, gup_ne _ _ _ b]
      obtain ⟨g', e1, e2, e3, e4, e5⟩ := ih (d + 1) (p + 1) m (v * 10 + ch tx p - 48) _ (kt_tx kk ht) (gup_at _ _ _ _) (by rw [gup_ne _ _ _ (by decide), gup_at]) (by omega) (by omega) (by omega) (by omega)
      refine ⟨g', e1, kt_tr kk e2, e3, e4, ?_⟩
      intro j hj
      rw [e5 j hj, gup_ne _ _ _ (by decide), gup_same]
      unfold upd
      rw [if_neg hj]
    · rw [if_neg h, if_neg h]
      obtain ⟨g', e1, e2⟩ := fin p v g (by omega) hp hg h20
      exact ⟨g', e1, e2⟩
theorem numbered_ev {tx : List Int32} (h60 : tx.length ≤ 60) {x : Nat} (hx : x < 3) {p : Nat} {g : zG} (ht : txM g tx) (hg : g 14 0 = nI p) (hp : p ≤ tx.length) : ∃ g', f_X7_numbered g (nI x) = some (if (pn tx 4 p 0).2 = p then 0 else 1, g') ∧ kt g g' ∧ g' 14 0 = nI (pn tx 4 p 0).2 ∧ g' 20 x = (pn tx 4 p 0).1 ∧ (∀ j, j ≠ x → g' 20 j = g 20 j) := by
  have kk : kt g (gup g 20 x 0) := fun j a b => gup_ne _ _ _ b
  unfold f_X7_numbered
  rw [zin_nI hx (by decide), zlet_eq, nI_clamp (by omega), hg]
  obtain ⟨g', e1, e2, e3, e4, e5⟩ := num_m h60 hx (s := p) 4 0 p zfuel 0 (gup g 20 x 0) (kt_tx kk ht) (by rw [gup_ne _ _ _ (by decide)]; exact hg) (gup_at _ _ _ _) (by omega) hp (by omega) (by unfold zfuel; omega)
  refine ⟨g', e1, kt_tr kk e2, e3, e4, ?_⟩
  intro j hj
  rw [e5 j hj, gup_same]
  unfold upd
  rw [if_neg hj]
theorem sign_ev {tx : List Int32} (h60 : tx.length ≤ 60) {p : Nat} {g : zG} (ht : txM g tx) (hg : g 14 0 = nI p) (hp : p ≤ tx.length) {c : Int32} (hc : ¬ c ≤ 0) : ∃ g', f_X7_sign g c = some (if ch tx p = c then 1 else 0, g') ∧ kt g g' ∧ g' 14 0 = nI (if ch tx p = c then p + 1 else p) ∧ g' 20 = g 20 := by
  unfold f_X7_sign
  rw [isAt_ev h60 ht (by omega) hg hc, zbind_some, ite_1, zlet_eq, zlet_eq, hg, Int32.add_zero, nIs]
  by_cases h : ch tx p = c
  · rw [if_pos (c := c ≤ ch tx p ∧ ch tx p ≤ c) ⟨by rw [h]; exact Int32.le_refl _, by rw [h]; exact Int32.le_refl _⟩, if_pos (c := c ≤ ch tx p ∧ ch tx p ≤ c) ⟨by rw [h]; exact Int32.le_refl _, by rw [h]; exact Int32.le_refl _⟩, zbl_1, if_pos h, if_pos h]
    exact ⟨_, rfl, fun j a _ => gup_ne _ _ _ a, gup_at _ _ _ _, gup_ne _ _ _ (by decide)⟩
  · have hn : ¬ (c ≤ ch tx p ∧ ch tx p ≤ c) := fun q => h (Int32.le_antisymm q.2 q.1)
    rw [if_neg hn, if_neg hn, zbl_0, if_neg h, if_neg h]
    exact ⟨_, rfl, fun j a _ => gup_ne _ _ _ a, gup_at _ _ _ _, gup_ne _ _ _ (by decide)⟩
theorem readSign_ev {tx : List Int32} {p : Nat} {g : zG} (ht : txC g tx) (hg : g 4 0 = nI p) (hp : p ≤ tx.length) (c : Int32) : ∃ g', f_X5_readSign g c = some (if ch tx p = c then 1 else 0, g') ∧ kx g g' ∧ g' 2 = g 2 ∧ g' 4 0 = nI (if ch tx p = c then p + 1 else p) ∧ g' 3 = g 3 := by
  have h60 := ht.1
  unfold f_X5_readSign
  rw [hg, signAt_ev ht (by omega), zbind_some, zlet_eq, nIs]
  by_cases h : ch tx p = c
  · rw [if_pos h, if_pos h, if_pos h]
    exact ⟨_, rfl, ⟨gup_ne _ _ _ (by decide), gup_ne _ _ _ (by decide)⟩, gup_ne _ _ _ (by decide), gup_at _ _ _ _, gup_ne _ _ _ (by decide)⟩
  · rw [if_neg h, if_neg h, if_neg h]
    exact ⟨g, rfl, kx_rf g, rfl, hg, rfl⟩
/-- so many numbers, each but the last one followed by ',', the last one by ';' -/
def pr (tx : List Int32) : Nat → Nat → Option (List Int32) × Nat
  | 0, p => (none, p)
  | n + 1, p => if (pn tx 4 p 0).2 = p then (none, p) else if ch tx (pn tx 4 p 0).2 = (if n = 0 then 59 else 44) then (if n = 0 then (some [(pn tx 4 p 0).1], (pn tx 4 p 0).2 + 1) else ((pr tx n ((pn tx 4 p 0).2 + 1)).1.map ((pn tx 4 p 0).1 :: ·), (pr tx n ((pn tx 4 p 0).2 + 1)).2)) else (none, (pn tx 4 p 0).2)
theorem pr_cases (tx : List Int32) (n p : Nat) : pr tx (n + 1) p = (none, p) ∨ pr tx (n + 1) p = (none, (pn tx 4 p 0).2) ∨ (n = 0 ∧ (pn tx 4 p 0).2 < tx.length ∧ pr tx (n + 1) p = (some [(pn tx 4 p 0).1], (pn tx 4 p 0).2 + 1)) ∨ (¬ n = 0 ∧ (pn tx 4 p 0).2 < tx.length ∧ pr tx (n + 1) p = ((pr tx n ((pn tx 4 p 0).2 + 1)).1.map ((pn tx 4 p 0).1 :: ·), (pr tx n ((pn tx 4 p 0).2 + 1)).2)) := by
  have e : pr tx (n + 1) p = if (pn tx 4 p 0).2 = p then (none, p) else if ch tx (pn tx 4 p 0).2 = (if n = 0 then 59 else 44) then (if n = 0 then (some [(pn tx 4 p 0).1], (pn tx 4 p 0).2 + 1) else ((pr tx n ((pn tx 4 p 0).2 + 1)).1.map ((pn tx 4 p 0).1 :: ·), (pr tx n ((pn tx 4 p 0).2 + 1)).2)) else (none, (pn tx 4 p 0).2) := rfl
  by_cases h : (pn tx 4 p 0).2 = p
  · exact Or.inl (by rw [e, if_pos h])
  · rw [if_neg h] at e
    by_cases hn : n = 0
    · rw [if_pos hn, if_pos hn] at e
      by_cases hc : ch tx (pn tx 4 p 0).2 = 59
      · rw [if_pos hc] at e
        exact Or.inr (Or.inr (Or.inl ⟨hn, ch_lt (fun q => by rw [q] at hc; exact absurd hc (by decide)), e⟩))
      · rw [if_neg hc] at e
        exact Or.inr (Or.inl e)
    · rw [if_neg hn, if_neg hn] at e
      by_cases hc : ch tx (pn tx 4 p 0).2 = 44
      · rw [if_pos hc] at e
        exact Or.inr (Or.inr (Or.inr ⟨hn, ch_lt (fun q => by rw [q] at hc; exact absurd hc (by decide)), e⟩))
      · rw [if_neg hc] at e
        exact Or.inr (Or.inl e)
theorem pr_pos (tx : List Int32) : ∀ (n p : Nat), p ≤ (pr tx n p).2 ∧ (p ≤ tx.length → (pr tx n p).2 ≤ tx.length) := by
  intro n
  induction n with
  | zero => intro p; exact ⟨Nat.le_refl _, fun h => h⟩
  | succ n ih =>
    intro p
    obtain ⟨p1, p2⟩ := pn_pos tx 4 p 0
    rcases pr_cases tx n p with e | e | ⟨_, hl, e⟩ | ⟨_, hl, e⟩
    · rw [e]; exact ⟨Nat.le_refl _, fun h => h⟩
    · rw [e]; exact ⟨p1, p2⟩
    · rw [e]; exact ⟨by show p ≤ (pn tx 4 p 0).2 + 1; omega, fun _ => hl⟩
    · rw [e]
      obtain ⟨i1, i2⟩ := ih ((pn tx 4 p 0).2 + 1)
      exact ⟨by show p ≤ (pr tx n ((pn tx 4 p 0).2 + 1)).2; omega, fun _ => i2 (by omega)⟩
theorem read_c {tx : List Int32} {due : Nat} (hdue : due ≤ 3) : ∀ (n k p fuel : Nat) (g : zG), txC g tx → g 4 0 = nI p → p ≤ tx.length → k + n = due → 1 ≤ n → n < fuel → ∃ g', f_X5_readOrder_40 fuel (nI due) (nI k) g = some (if (pr tx n p).1.isSome then 1 else 0, g') ∧ kx g g' ∧ g' 2 = g 2 ∧ g' 4 0 = nI (pr tx n p).2 ∧ (∀ j, j < k → g' 3 j = g 3 j) ∧ (∀ vs, (pr tx n p).1 = some vs → ∀ (i : Nat) (v : Int32), vs[i]? = some v → g' 3 (k + i) = v) := by
  intro n
  induction n with
  | zero => intro k p fuel g ht hg hp hk hn hf; omega
  | succ n ih =>
    intro k p fuel g ht hg hp hk hn hf
    obtain ⟨m, rfl⟩ : ∃ m, fuel = m + 1 := ⟨fuel - 1, by omega⟩
    obtain ⟨g1, a1, a2, a3, a4, a5, a6⟩ := readNum_c (x := k) (by omega) ht hg hp
    obtain ⟨q1, q2⟩ := pn_pos tx 4 p 0
    have ht1 := kx_tx a2 ht
    obtain ⟨g2, s1, s2, s3, s4, s5⟩ := readSign_ev ht1 a4 (q2 hp) (if n = 0 then 59 else 44)
    have key : f_X5_readOrder_73 (f_X5_readOrder_40 m) (nI due) (nI k) (if n = 0 then 59 else 44) g1 = if ch tx (pn tx 4 p 0).2 = (if n = 0 then 59 else 44) then f_X5_readOrder_40 m (nI due) (nI (k + 1)) g2 else some (0, g2) := by
      unfold f_X5_readOrder_73
      rw [s1, zbind_some, ite_1, nIs]
    have hb : f_X5_readOrder_40_b (f_X5_readOrder_40 m) (nI due) (nI k) g = if (pn tx 4 p 0).2 = p then some (0, g1) else if ch tx (pn tx 4 p 0).2 = (if n = 0 then 59 else 44) then f_X5_readOrder_40 m (nI due) (nI (k + 1)) g2 else some (0, g2) := by
      unfold f_X5_readOrder_40_b
      obtain ⟨due', rfl⟩ : ∃ d, due = d + 1 := ⟨due - 1, by omega⟩
      rw [if_neg (c := nI (due' + 1) ≤ nI k) (fun q => by have := (nI_leI (by omega) (by omega)).mp q; omega), if_neg (c := (3 : Int32) ≤ nI k) (fun q => by have := (nI_leI (a := 3) (by decide) (by omega)).mp q; omega), a1, zbind_some, nI_pred]
      by_cases hv : (pn tx 4 p 0).2 = p
      · rw [if_pos hv, if_pos hv, if_pos rfl]
      · rw [if_neg hv, if_neg hv, if_neg ne10, ← key]
        by_cases hn0 : n = 0
        · rw [if_pos (c := nI k = nI due') (congrArg nI (by omega)), if_pos hn0]
        · rw [if_neg (c := nI k = nI due') (fun e => by have := (nI_eq (by omega) (by omega)).mp e; omega), if_neg hn0]
    show ∃ g', f_X5_readOrder_40_b (f_X5_readOrder_40 m) (nI due) (nI k) g = _ ∧ _
    rw [hb]
    unfold pr
    by_cases hv : (pn tx 4 p 0).2 = p
    · rw [if_pos hv, if_pos hv]
      refine ⟨g1, rfl, a2, a3, by rw [a4, hv], fun j hj => a6 j (by omega), fun vs h => by cases h⟩
    · rw [if_neg hv, if_neg hv]
      by_cases hc : ch tx (pn tx 4 p 0).2 = (if n = 0 then 59 else 44)
      · rw [if_pos hc, if_pos hc]
        rw [if_pos hc] at s4
        have hl : (pn tx 4 p 0).2 < tx.length := ch_lt (fun e => by rw [e] at hc; split at hc <;> exact absurd hc (by decide))
        by_cases hn0 : n = 0
        · subst hn0
          rw [if_pos rfl]
          obtain ⟨m2, rfl⟩ : ∃ m2, m = m2 + 1 := ⟨m - 1, by omega⟩
          have he : f_X5_readOrder_40 (m2 + 1) (nI due) (nI (k + 1)) g2 = some (1, g2) := by
            show f_X5_readOrder_40_b (f_X5_readOrder_40 m2) (nI due) (nI (k + 1)) g2 = _
            unfold f_X5_readOrder_40_b
            rw [if_pos (c := nI due ≤ nI (k + 1)) ((nI_leI (by omega) (by omega)).mpr (by omega))]
          rw [he]
          refine ⟨g2, rfl, kx_tr a2 s2, s3.trans a3, s4, ?_, ?_⟩
          · intro j hj
            rw [s5]
            exact a6 j (by omega)
          · intro vs h i v hi
            cases h
            cases i with
            | zero =>
              simp at hi
              rw [s5, Nat.add_zero, a5, hi]
            | succ i => simp at hi
        · rw [if_neg hn0]
          obtain ⟨g3, i1, i2, i3, i4, i5, i6⟩ := ih (k + 1) ((pn tx 4 p 0).2 + 1) m g2 (kx_tx s2 ht1) s4 (by omega) (by omega) (by omega) (by omega)
          refine ⟨g3, ?_, kx_tr a2 (kx_tr s2 i2), i3.trans (s3.trans a3), i4, ?_, ?_⟩
          · rw [i1]
            simp only [Option.isSome_map]
          · intro j hj
            rw [i5 j (by omega), s5]
            exact a6 j (by omega)
          · intro vs h i v hi
            obtain ⟨ws, hw, rfl⟩ := Option.map_eq_some_iff.mp h
            cases i with
            | zero =>
              simp at hi
              rw [Nat.add_zero, i5 k (by omega), s5, a5, hi]
            | succ i =>
              rw [List.getElem?_cons_succ] at hi
              have := i6 ws hw i v hi
              rw [show k + (i + 1) = k + 1 + i by omega]
              exact this
      · rw [if_neg hc, if_neg hc]
        rw [if_neg hc] at s4
        refine ⟨g2, rfl, kx_tr a2 s2, s3.trans a3, s4, ?_, fun vs h => by cases h⟩
        intro j hj
        rw [s5]
        exact a6 j (by omega)
theorem reads_98_0 (g : zG) : f_X7_reads_98 0 g = some (0, g) := by
  unfold f_X7_reads_98
  rw [if_pos rfl]
theorem reads_60_0 (n : Nat) (x y : Int32) (g : zG) : f_X7_reads_60 (n + 1) x 0 y g = some (0, g) := by
  show f_X7_reads_60_b (f_X7_reads_60 n) x 0 y g = _
  unfold f_X7_reads_60_b
  rw [reads_98_0, if_pos rfl]
  split <;> rfl
theorem read_m {tx : List Int32} (h60 : tx.length ≤ 60) {due : Nat} (hdue : due ≤ 3) : ∀ (n k p fuel : Nat) (g : zG), txM g tx → g 14 0 = nI p → p ≤ tx.length → k + n = due → 1 ≤ n → n < fuel → ∃ y g1 g', f_X7_numbered g (nI k) = some (y, g1) ∧ f_X7_reads_60 fuel (nI due) y (nI (k + 1)) g1 = some (if (pr tx n p).1.isSome then 1 else 0, g') ∧ kt g g' ∧ g' 14 0 = nI (pr tx n p).2 ∧ (∀ j, j < k → g' 20 j = g 20 j) ∧ (∀ vs, (pr tx n p).1 = some vs → ∀ (i : Nat) (v : Int32), vs[i]? = some v → g' 20 (k + i) = v) := by
  intro n
  induction n with
  | zero => intro k p fuel g ht hg hp hk hn hf; omega
  | succ n ih =>
    intro k p fuel g ht hg hp hk hn hf
    obtain ⟨m, rfl⟩ : ∃ m, fuel = m + 1 := ⟨fuel - 1, by omega⟩
    obtain ⟨m, rfl⟩ : ∃ m', m = m' + 1 := ⟨m - 1, by omega⟩
    obtain ⟨g1, a1, a2, a4, a5, a6⟩ := numbered_ev h60 (x := k) (by omega) ht hg hp
    obtain ⟨q1, q2⟩ := pn_pos tx 4 p 0
    have ht1 := kt_tx a2 ht
    unfold pr
    by_cases hv : (pn tx 4 p 0).2 = p
    · rw [if_pos hv] at a1
      rw [if_pos hv]
      refine ⟨_, g1, g1, a1, ?_, a2, by rw [a4, hv], fun j hj => a6 j (by omega), fun vs h => by cases h⟩
      rw [reads_60_0]
      rfl
    · rw [if_neg hv] at a1
      rw [if_neg hv]
      by_cases hn0 : n = 0
      · subst hn0
        obtain ⟨g2, s1, s2, s4, s5⟩ := sign_ev h60 ht1 a4 (q2 hp) (c := 59) (by decide)
        have he : f_X7_reads_60 (m + 1 + 1) (nI due) 1 (nI (k + 1)) g1 = some (if ch tx (pn tx 4 p 0).2 = 59 then 1 else 0, g2) := by
          show f_X7_reads_60_b (f_X7_reads_60 (m + 1)) (nI due) 1 (nI (k + 1)) g1 = _
          unfold f_X7_reads_60_b f_X7_reads_98
          rw [if_pos (c := nI due ≤ nI (k + 1)) ((nI_leI (by omega) (by omega)).mpr (by omega)), if_neg ne10, s1, zbind_some, ite_1]
          split <;> rfl
        rw [if_pos (rfl : (0 : Nat) = 0), if_pos (rfl : (0 : Nat) = 0)]
        refine ⟨_, g1, g2, a1, ?_, kt_tr a2 s2, ?_, ?_, ?_⟩
        · rw [he]
          by_cases hc : ch tx (pn tx 4 p 0).2 = 59
          · rw [if_pos hc, if_pos hc]; rfl
          · rw [if_neg hc, if_neg hc]; rfl
        · rw [s4]
          by_cases hc : ch tx (pn tx 4 p 0).2 = 59
          · rw [if_pos hc, if_pos hc]
          · rw [if_neg hc, if_neg hc]
        · intro j hj
          rw [s5]
          exact a6 j (by omega)
        · intro vs h i v hi
          by_cases hc : ch tx (pn tx 4 p 0).2 = 59
          · rw [if_pos hc] at h
            cases h
            cases i with
            | zero =>
              simp at hi
              rw [s5, Nat.add_zero, a5, hi]
            | succ i => simp at hi
          · rw [if_neg hc] at h
            cases h
      · obtain ⟨g2, s1, s2, s4, s5⟩ := sign_ev h60 ht1 a4 (q2 hp) (c := 44) (by decide)
        have hb : ∀ f : Nat, f_X7_reads_60 (f + 1) (nI due) 1 (nI (k + 1)) g1 = if ch tx (pn tx 4 p 0).2 = 44 then (zbind (f_X7_numbered g2 (nI (k + 1))) (fun R13 => if R13.1 = 0 then f_X7_reads_60 f (nI due) 0 (nI (k + 1 + 1)) R13.2 else f_X7_reads_60 f (nI due) 1 (nI (k + 1 + 1)) R13.2)) else f_X7_reads_60 f (nI due) 0 (nI (k + 1 + 1)) g2 := by
          intro f
          show f_X7_reads_60_b (f_X7_reads_60 f) (nI due) 1 (nI (k + 1)) g1 = _
          unfold f_X7_reads_60_b
          rw [if_neg (c := nI due ≤ nI (k + 1)) (fun q => by have := (nI_leI (by omega) (by omega)).mp q; omega), if_neg ne10, s1, zbind_some, ite_1, nIs]
        rw [if_neg hn0, if_neg hn0]
        by_cases hc : ch tx (pn tx 4 p 0).2 = 44
        · rw [if_pos hc]
          rw [if_pos hc] at s4
          have hl : (pn tx 4 p 0).2 < tx.length := ch_lt (fun e => by rw [e] at hc; exact absurd hc (by decide))
          obtain ⟨y, g3, g4, i1, i2, i3, i4, i5, i6⟩ := ih (k + 1) ((pn tx 4 p 0).2 + 1) (m + 1) g2 (kt_tx s2 ht1) s4 (by omega) (by omega) (by omega) (by omega)
          have hy : y = 0 ∨ y = 1 := by
            obtain ⟨g5, b1, -⟩ := numbered_ev h60 (x := k + 1) (by omega) (kt_tx s2 ht1) s4 (show (pn tx 4 p 0).2 + 1 ≤ tx.length by omega)
            rw [b1] at i1
            have := (Prod.mk.inj (Option.some.inj i1)).1
            rw [← this]
            split
            · exact Or.inl rfl
            · exact Or.inr rfl
          refine ⟨_, g1, g4, a1, ?_, kt_tr a2 (kt_tr s2 i3), i4, ?_, ?_⟩
          · rw [hb, if_pos hc, i1, zbind_some]
            rcases hy with rfl | rfl
            · rw [if_pos rfl, i2]
              simp only [Option.isSome_map]
            · rw [if_neg ne10, i2]
              simp only [Option.isSome_map]
          · intro j hj
            rw [i5 j (by omega), s5]
            exact a6 j (by omega)
          · intro vs h i v hi
            obtain ⟨ws, hw, rfl⟩ := Option.map_eq_some_iff.mp h
            cases i with
            | zero =>
              simp at hi
              rw [Nat.add_zero, i5 k (by omega), s5, a5, hi]
            | succ i =>
              rw [List.getElem?_cons_succ] at hi
              have := i6 ws hw i v hi
              rw [show k + (i + 1) = k + 1 + i by omega]
              exact this
        · rw [if_neg hc]
          rw [if_neg hc] at s4
          refine ⟨_, g1, g2, a1, ?_, kt_tr a2 s2, s4, ?_, fun vs h => by cases h⟩
          · rw [hb, if_neg hc, reads_60_0]
            rfl
          · intro j hj
            rw [s5]
            exact a6 j (by omega)
