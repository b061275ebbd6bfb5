/-! ===== the reference's state over the abstract one ===== -/
theorem ofix (k j : Nat) : ((19 : Int32) + (5 : Int32) * nI k) + nI j = nI (19 + 5 * k + j) := by
  rw [show (19 : Int32) = nI 19 from rfl, show (5 : Int32) = nI 5 from rfl, pk_mul, nI_add, nI_add]
theorem ofix0 (k : Nat) : (19 : Int32) + (5 : Int32) * nI k = nI (19 + 5 * k) := by
  rw [show (19 : Int32) = nI 19 from rfl, show (5 : Int32) = nI 5 from rfl, pk_mul, nI_add]
theorem of_ev {g : zG} {k j : Nat} (hk : k < 8) (hj : j < 5) : f_X7_of g (nI k) (nI j) = some (g 0 (19 + 5 * k + j)) := by
  unfold f_X7_of
  rw [ofix, zin_nI (by omega) (by decide), nI_clamp (by omega)]
theorem of_ev0 {g : zG} {k : Nat} (hk : k < 8) : f_X7_of g (nI k) (0 : Int32) = some (g 0 (19 + 5 * k)) := of_ev (j := 0) hk (by omega)
theorem at_aux {g : zG} {th : List zTh} (hc : g 0 1 = nI th.length) (hl : th.length ≤ 8) (ha : ∀ (i : Nat) (t : zTh), th[i]? = some t → g 0 (19 + 5 * i) = t.1) (p : Int32) : ∀ (r : List zTh) (i fuel : Nat), th.drop i = r → i ≤ th.length → r.length < fuel → f_X7_at_2 g fuel p (nI i) = some (ix ((fidx p r).map (i + ·)) NFO) := by
  intro r
  induction r with
  | nil =>
    intro i fuel hd hi hf
    obtain ⟨n, rfl⟩ : ∃ n, fuel = n + 1 := ⟨fuel - 1, by omega⟩
    have hi2 : th.length ≤ i := List.drop_eq_nil_iff.mp hd
    show f_X7_at_2_b g (f_X7_at_2 g n) p (nI i) = _
    unfold f_X7_at_2_b
    rw [tn1, z1 (by decide) (by decide), hc, if_pos ((nI_leI (by omega) (by omega)).mpr hi2)]
    rfl
  | cons t r ih =>
    intro i fuel hd hi hf
    obtain ⟨n, rfl⟩ : ∃ n, fuel = n + 1 := ⟨fuel - 1, by omega⟩
    obtain ⟨h1, h2, h3⟩ := drop_cons hd
    show f_X7_at_2_b g (f_X7_at_2 g n) p (nI i) = _
    unfold f_X7_at_2_b
    rw [tn1, z1 (by decide) (by decide), hc, if_neg (fun q => by have := (nI_leI (by omega) (by omega)).mp q; omega), of_ev0 (by omega), zbind_some, ha i t h2, nIs]
    unfold fidx
    by_cases hp : t.1 = p
    · rw [if_pos hp, if_pos hp]; rfl
    · rw [if_neg hp, if_neg hp, ih (i + 1) n h3 (by omega) (by rw [List.length_cons] at hf; omega)]
      cases fidx p r with
      | none => rfl
      | some j => simp only [Option.map_some, ix]; congr 2; omega
theorem at_ev {g : zG} {ls : List zL} {th : List zTh} {w : Int32} (h : repS (g 0) ls th w) (hl : th.length ≤ 8) (p : Int32) : f_X7_at g p = some (ix (fidx p th) NFO) := by
  have := at_aux h.2.1 hl (fun i t q => (h.2.2.2.2 i t q).1) p th 0 zfuel rfl (Nat.zero_le _) (Nat.lt_of_le_of_lt hl (by decide))
  unfold f_X7_at
  rw [show (0 : Int32) = nI 0 from rfl, this]
  cases fidx p th with
  | none => rfl
  | some j => simp [ix]
/-- a block moves up by five cells -/
def mvU (s : Nat → Int32) (lo hi : Nat) : Nat → Int32 := fun x => if lo + 5 ≤ x ∧ x < hi + 5 then s (x - 5) else s x
theorem mvU_self (s : Nat → Int32) (lo hi : Nat) (h : hi ≤ lo) : mvU s lo hi = s := by
  funext x
  unfold mvU
  rw [if_neg (by omega)]
theorem mvU_step (s : Nat → Int32) {lo i : Nat} (h : lo ≤ i) : mvU (upd s (i + 5) (s i)) lo i = mvU s lo (i + 1) := by
  funext x
  unfold mvU upd
  by_cases h1 : lo + 5 ≤ x ∧ x < i + 5
  · rw [if_pos h1, if_pos (c := lo + 5 ≤ x ∧ x < i + 1 + 5) (by omega), if_neg (by omega)]
  · rw [if_neg h1]
    by_cases h2 : x = i + 5
    · subst h2
      rw [if_pos rfl, if_pos (by omega), Nat.add_sub_cancel]
    · rw [if_neg h2, if_neg (by omega)]
theorem gset_eq (g : zG) (k : Nat) : gset g k (g k) = g := by
  funext j
  unfold gset
  split
  · subst_vars; rfl
  · rfl
theorem gset_gup (g : zG) (k i : Nat) (v : Int32) (f : Nat → Int32) : gset (gup g k i v) k f = gset g k f := by
  funext j
  unfold gset gup
  split <;> rfl
theorem opens_loop {k : Nat} (hk : k < 8) : ∀ (d i fuel : Nat) (g : zG), i + 1 = 19 + 5 * k + d → i < 54 → d < fuel → f_X7_opens_43 fuel (nI k) (nI i) g = some (nI k, gup (gset g 0 (mvU (g 0) (19 + 5 * k) (i + 1))) 0 1 (g 0 1 + 1)) := by
  intro d
  induction d with
  | zero =>
    intro i fuel g hi h54 hf
    obtain ⟨n, rfl⟩ : ∃ n, fuel = n + 1 := ⟨fuel - 1, by omega⟩
    show f_X7_opens_43_b (f_X7_opens_43 n) (nI k) (nI i) g = _
    unfold f_X7_opens_43_b
    rw [ofix0, if_pos ((nI_ltI (by omega) (by omega)).mpr (by omega)), z1 (by decide) (by decide), z1 (by decide) (by decide), tn1, zlet_eq, mvU_self _ _ _ (by omega), gset_eq]
  | succ d ih =>
    intro i fuel g hi h54 hf
    obtain ⟨n, rfl⟩ : ∃ n, fuel = n + 1 := ⟨fuel - 1, by omega⟩
    obtain ⟨i', rfl⟩ : ∃ i', i = i' + 1 := ⟨i - 1, by omega⟩
    show f_X7_opens_43_b (f_X7_opens_43 n) (nI k) (nI (i' + 1)) g = _
    unfold f_X7_opens_43_b
    rw [ofix0, if_neg (fun q => by have := (nI_ltI (by omega) (by omega)).mp q; omega), zin_nI (by omega) (by decide), show nI (i' + 1) + (5 : Int32) = nI (i' + 1 + 5) from nI_add _ _, zin_nI (by omega) (by decide), zlet_eq, nI_clamp (by omega), nI_clamp (by omega), pk_m1, ih i' n _ (by omega) (by omega) (by omega)]
    rw [gset_gup, gup_same, mvU_step _ (by omega)]
    have e : upd (g 0) (i' + 1 + 5) (g 0 (i' + 1)) 1 = g 0 1 := by unfold upd; rw [if_neg (by omega)]
    rw [e]
/-- the places ahead are the first ones -/
def srt (p : Int32) (th : List zTh) : Prop := ∀ (i : Nat) (t : zTh), th[i]? = some t → (t.1 < p ↔ i < nah p th)
theorem opens_ev {g : zG} {ls : List zL} {th : List zTh} {w : Int32} (h : repS (g 0) ls th w) (hl : th.length < 8) {p : Int32} (hs : srt p th) (hne : ∀ t ∈ th, t.1 ≠ p) :
    f_X7_opens g p = some (nI (nah p th), gup (gset g 0 (mvU (g 0) (19 + 5 * nah p th) (19 + 5 * th.length))) 0 1 (nI (th.length + 1))) := by
  have hk := nah_le p th
  have key : ∀ (d i fuel : Nat), i = nah p th + d → i ≤ th.length → d < fuel → f_X7_opens_7 fuel p (nI i) g = f_X7_opens_29 (nI (nah p th)) g := by
    intro d
    induction d with
    | zero =>
      intro i fuel hi hil hf
      obtain ⟨n, rfl⟩ : ∃ n, fuel = n + 1 := ⟨fuel - 1, by omega⟩
      show f_X7_opens_7_b (f_X7_opens_7 n) p (nI i) g = _
      unfold f_X7_opens_7_b
      have hi : i = nah p th := by omega
      by_cases h0 : i = 0
      · rw [if_pos (by rw [h0]; exact Int32.le_refl _), hi]
      · obtain ⟨i', rfl⟩ : ∃ i', i = i' + 1 := ⟨i - 1, by omega⟩
        have ht : i' < th.length := by omega
        have hg := (h.2.2.2.2 i' th[i'] (List.getElem?_eq_getElem ht)).1
        have hlt := (hs i' th[i'] (List.getElem?_eq_getElem ht)).mpr (by omega)
        rw [if_neg (nI_nle (by omega) (by omega)), nI_pred, of_ev0 (by omega), zbind_some, hg, if_pos (Int32.le_of_lt hlt), hi]
    | succ d ih =>
      intro i fuel hi hil hf
      obtain ⟨n, rfl⟩ : ∃ n, fuel = n + 1 := ⟨fuel - 1, by omega⟩
      obtain ⟨i', rfl⟩ : ∃ i', i = i' + 1 := ⟨i - 1, by omega⟩
      show f_X7_opens_7_b (f_X7_opens_7 n) p (nI (i' + 1)) g = _
      unfold f_X7_opens_7_b
      have ht : i' < th.length := by omega
      have hq := List.getElem?_eq_getElem ht
      have hg := (h.2.2.2.2 i' th[i'] hq).1
      have hnl : ¬ th[i'].1 < p := fun q => by have := (hs i' th[i'] hq).mp q; omega
      have hn : ¬ th[i'].1 ≤ p := by
        rw [Int32.le_iff_lt_or_eq]
        rintro (q | q)
        · exact hnl q
        · exact hne _ (List.getElem_mem ht) q
      rw [if_neg (nI_nle (by omega) (by omega)), nI_pred, of_ev0 (by omega), zbind_some, hg, if_neg hn, pk_m1]
      exact ih i' n (by omega) (by omega) (by omega)
  unfold f_X7_opens
  rw [z1 (by decide) (by decide), tn1, h.2.1, key (th.length - nah p th) th.length zfuel (by omega) (Nat.le_refl _) (by unfold zfuel; omega)]
  unfold f_X7_opens_29
  rw [z1 (by decide) (by decide), tn1, h.2.1, ofix0]
  have e : nI (19 + 5 * th.length) - (1 : Int32) = nI (18 + 5 * th.length) := by
    rw [show 19 + 5 * th.length = (18 + 5 * th.length) + 1 by omega, nI_pred]
  rw [e, opens_loop (by omega) (5 * th.length - 5 * nah p th) (18 + 5 * th.length) zfuel g (by omega) (by omega) (by unfold zfuel; omega), h.2.1, nI_1]
  rw [show 18 + 5 * th.length + 1 = 19 + 5 * th.length by omega]
/-- a thing's five cells -/
def putT (s : Nat → Int32) (k : Nat) (t : zTh) : Nat → Int32 := upd (upd (upd (upd (upd s (19 + 5 * k) t.1) (19 + 5 * k + 1) t.2.1) (19 + 5 * k + 2) t.2.2.1) (19 + 5 * k + 3) t.2.2.2.1) (19 + 5 * k + 4) t.2.2.2.2
theorem sets_ev {g : zG} {k : Nat} (hk : k < 8) (t : zTh) : f_X7_sets g (nI k) t.1 t.2.1 t.2.2.1 t.2.2.2.1 t.2.2.2.2 = some (gset g 0 (putT (g 0) k t)) := by
  unfold f_X7_sets
  have e0 : ((19 : Int32) + (5 : Int32) * nI k) + (0 : Int32) = nI (19 + 5 * k) := ofix k 0
  have e1 : ((19 : Int32) + (5 : Int32) * nI k) + (1 : Int32) = nI (19 + 5 * k + 1) := ofix k 1
  have e2 : ((19 : Int32) + (5 : Int32) * nI k) + (2 : Int32) = nI (19 + 5 * k + 2) := ofix k 2
  have e3 : ((19 : Int32) + (5 : Int32) * nI k) + (3 : Int32) = nI (19 + 5 * k + 3) := ofix k 3
  have e4 : ((19 : Int32) + (5 : Int32) * nI k) + (4 : Int32) = nI (19 + 5 * k + 4) := ofix k 4
  rw [e0, e1, e2, e3, e4]
  simp only [zin_nI (show 19 + 5 * k < 59 by omega) (show 59 < 2 ^ 31 by decide), zin_nI (show 19 + 5 * k + 1 < 59 by omega) (show 59 < 2 ^ 31 by decide), zin_nI (show 19 + 5 * k + 2 < 59 by omega) (show 59 < 2 ^ 31 by decide), zin_nI (show 19 + 5 * k + 3 < 59 by omega) (show 59 < 2 ^ 31 by decide), zin_nI (show 19 + 5 * k + 4 < 59 by omega) (show 59 < 2 ^ 31 by decide), zlet_eq, nI_clamp (show 19 + 5 * k < 2 ^ 31 by omega), nI_clamp (show 19 + 5 * k + 1 < 2 ^ 31 by omega), nI_clamp (show 19 + 5 * k + 2 < 2 ^ 31 by omega), nI_clamp (show 19 + 5 * k + 3 < 2 ^ 31 by omega), nI_clamp (show 19 + 5 * k + 4 < 2 ^ 31 by omega)]
  congr 1
  funext j
  unfold gset gup putT
  by_cases hj : j = 0
  · subst hj; simp
  · simp [hj]
theorem repS_ins {s : Nat → Int32} {ls : List zL} {th : List zTh} {w : Int32} (h : repS s ls th w) (hls : ls.length ≤ 8) (hl : th.length < 8) (t : zTh) :
    repS (putT (upd (mvU s (19 + 5 * nah t.1 th) (19 + 5 * th.length)) 1 (nI (th.length + 1))) (nah t.1 th) t) ls (insT t th) w := by
  have hk := nah_le t.1 th
  have lowv : ∀ x, x < 19 → x ≠ 1 → putT (upd (mvU s (19 + 5 * nah t.1 th) (19 + 5 * th.length)) 1 (nI (th.length + 1))) (nah t.1 th) t x = s x := by
    intro x hx h1
    simp only [putT, upd, mvU]
    rw [if_neg (by omega), if_neg (by omega), if_neg (by omega), if_neg (by omega), if_neg (by omega), if_neg h1, if_neg (by omega)]
  refine ⟨?_, ?_, ?_, ?_, ?_⟩
  · rw [lowv 0 (by omega) (by omega)]; exact h.1
  · rw [insT_len]
    simp only [putT, upd]
    rw [if_neg (by omega), if_neg (by omega), if_neg (by omega), if_neg (by omega), if_neg (by omega), if_pos (by trivial)]
  · rw [lowv 2 (by omega) (by omega)]; exact h.2.2.1
  · intro i q hq
    have hi := (List.getElem?_eq_some_iff.mp hq).1
    rw [lowv _ (by omega) (by omega), lowv _ (by omega) (by omega)]
    exact h.2.2.2.1 i q hq
  · intro i q hq
    rw [insT_get] at hq
    by_cases c1 : i < nah t.1 th
    · rw [if_pos c1] at hq
      have hv : ∀ j, j < 5 → putT (upd (mvU s (19 + 5 * nah t.1 th) (19 + 5 * th.length)) 1 (nI (th.length + 1))) (nah t.1 th) t (19 + 5 * i + j) = s (19 + 5 * i + j) := by
        intro j hj
        simp only [putT, upd, mvU]
        rw [if_neg (by omega), if_neg (by omega), if_neg (by omega), if_neg (by omega), if_neg (by omega), if_neg (by omega), if_neg (by omega)]
      rw [hv 1 (by omega), hv 2 (by omega), hv 3 (by omega), hv 4 (by omega), show 19 + 5 * i = 19 + 5 * i + 0 from rfl, hv 0 (by omega)]
      exact h.2.2.2.2 i q hq
    · rw [if_neg c1] at hq
      by_cases c2 : i = nah t.1 th
      · rw [if_pos c2] at hq
        cases hq
        rw [c2]
        simp only [putT, upd]
        refine ⟨?_, ?_, ?_, ?_, ?_⟩
        · rw [if_neg (by omega), if_neg (by omega), if_neg (by omega), if_neg (by omega), if_pos (by trivial)]
        · rw [if_neg (by omega), if_neg (by omega), if_neg (by omega), if_pos (by trivial)]
        · rw [if_neg (by omega), if_neg (by omega), if_pos (by trivial)]
        · rw [if_neg (by omega), if_pos (by trivial)]
        · rw [if_pos (by trivial)]
      · rw [if_neg c2] at hq
        have hi := (List.getElem?_eq_some_iff.mp hq).1
        have hv : ∀ j, j < 5 → putT (upd (mvU s (19 + 5 * nah t.1 th) (19 + 5 * th.length)) 1 (nI (th.length + 1))) (nah t.1 th) t (19 + 5 * i + j) = s (19 + 5 * (i - 1) + j) := by
          intro j hj
          simp only [putT, upd, mvU]
          rw [if_neg (by omega), if_neg (by omega), if_neg (by omega), if_neg (by omega), if_neg (by omega), if_neg (by omega), if_pos (by omega)]
          congr 1
          omega
        have := h.2.2.2.2 (i - 1) q hq
        rw [hv 1 (by omega), hv 2 (by omega), hv 3 (by omega), hv 4 (by omega), show 19 + 5 * i = 19 + 5 * i + 0 from rfl, hv 0 (by omega)]
        exact this
theorem repS_congr {s s' : Nat → Int32} {ls : List zL} {th : List zTh} {w : Int32} (hs : ∀ j, j < 59 → s' j = s j) (h1 : ls.length ≤ 8) (h2 : th.length ≤ 8) (h : repS s ls th w) : repS s' ls th w := by
  refine ⟨by rw [hs 0 (by omega)]; exact h.1, by rw [hs 1 (by omega)]; exact h.2.1, by rw [hs 2 (by omega)]; exact h.2.2.1, ?_, ?_⟩
  · intro i t ht
    have := (List.getElem?_eq_some_iff.mp ht).1
    rw [hs _ (by omega), hs _ (by omega)]
    exact h.2.2.2.1 i t ht
  · intro i t ht
    have := (List.getElem?_eq_some_iff.mp ht).1
    rw [hs _ (by omega), hs _ (by omega), hs _ (by omega), hs _ (by omega), hs _ (by omega)]
    exact h.2.2.2.2 i t ht
/-- a block moves down by five cells -/
def mvD (s : Nat → Int32) (lo hi : Nat) : Nat → Int32 := fun x => if lo ≤ x ∧ x < hi then s (x + 5) else s x
theorem mvD_self (s : Nat → Int32) (lo hi : Nat) (h : hi ≤ lo) : mvD s lo hi = s := by
  funext x
  unfold mvD
  rw [if_neg (by omega)]
theorem mvD_step (s : Nat → Int32) {i hi : Nat} (h : i < hi) : mvD (upd s i (s (i + 5))) (i + 1) hi = mvD s i hi := by
  funext x
  unfold mvD upd
  by_cases h1 : i + 1 ≤ x ∧ x < hi
  · rw [if_pos h1, if_pos (c := i ≤ x ∧ x < hi) (by omega), if_neg (by omega)]
  · rw [if_neg h1]
    by_cases h2 : x = i
    · subst h2
      rw [if_pos rfl, if_pos (by omega)]
    · rw [if_neg h2, if_neg (by omega)]
theorem takesOut_loop {m : Nat} (h8 : m < 8) : ∀ (d i fuel : Nat) (g : zG), g 0 1 = nI m → 2 ≤ i → i + d = 19 + 5 * m → d < fuel → f_X7_takesOut_17 fuel (nI i) g = some (gset g 0 (mvD (g 0) i (19 + 5 * m))) := by
  intro d
  induction d with
  | zero =>
    intro i fuel g hm h2 hi hf
    obtain ⟨n, rfl⟩ : ∃ n, fuel = n + 1 := ⟨fuel - 1, by omega⟩
    show f_X7_takesOut_17_b (f_X7_takesOut_17 n) (nI i) g = _
    unfold f_X7_takesOut_17_b
    rw [z1 (by decide) (by decide), tn1, hm, ofix0, if_pos ((nI_leI (by omega) (by omega)).mpr (by omega)), mvD_self _ _ _ (by omega), gset_eq]
  | succ d ih =>
    intro i fuel g hm h2 hi hf
    obtain ⟨n, rfl⟩ : ∃ n, fuel = n + 1 := ⟨fuel - 1, by omega⟩
    show f_X7_takesOut_17_b (f_X7_takesOut_17 n) (nI i) g = _
    unfold f_X7_takesOut_17_b
    rw [z1 (by decide) (by decide), tn1, hm, ofix0, if_neg (fun q => by have := (nI_leI (by omega) (by omega)).mp q; omega), show nI i + (5 : Int32) = nI (i + 5) from nI_add _ _, zin_nI (by omega) (by decide), zin_nI (by omega) (by decide), zlet_eq, nI_clamp (by omega), nI_clamp (by omega), nIs, ih (i + 1) n _ (by rw [gup_same]; unfold upd; rw [if_neg (by omega)]; exact hm) (by omega) (by omega) (by omega), gset_gup, gup_same, mvD_step _ (by omega)]
theorem takesOut_ev {g : zG} {ls : List zL} {th : List zTh} {w : Int32} (h : repS (g 0) ls th w) (hl : th.length ≤ 8) {k : Nat} (hk : k < th.length) :
    f_X7_takesOut g (nI k) = some (gset g 0 (mvD (upd (g 0) 1 (nI (th.length - 1))) (19 + 5 * k) (19 + 5 * (th.length - 1)))) := by
  obtain ⟨m, hm⟩ : ∃ m, th.length = m + 1 := ⟨th.length - 1, by omega⟩
  unfold f_X7_takesOut
  rw [z1 (by decide) (by decide), z1 (by decide) (by decide), zlet_eq, tn1, h.2.1, hm, nI_pred, ofix0, takesOut_loop (m := m) (by omega) (5 * m - 5 * k) (19 + 5 * k) zfuel _ (by rw [gup_same]; rfl) (by omega) (by omega) (by unfold zfuel; omega), gset_gup, gup_same, Nat.add_sub_cancel]
theorem repS_del {s : Nat → Int32} {ls : List zL} {th : List zTh} {w : Int32} (h : repS s ls th w) (hls : ls.length ≤ 8) {k : Nat} (hk : k < th.length) :
    repS (mvD (upd s 1 (nI (th.length - 1))) (19 + 5 * k) (19 + 5 * (th.length - 1))) ls (th.eraseIdx k) w := by
  have lowv : ∀ x, x < 19 → x ≠ 1 → mvD (upd s 1 (nI (th.length - 1))) (19 + 5 * k) (19 + 5 * (th.length - 1)) x = s x := by
    intro x hx h1
    simp only [upd, mvD]
    rw [if_neg (by omega), if_neg h1]
  refine ⟨?_, ?_, ?_, ?_, ?_⟩
  · rw [lowv 0 (by omega) (by omega)]; exact h.1
  · rw [List.length_eraseIdx_of_lt hk]
    simp only [upd, mvD]
    rw [if_neg (by omega), if_pos (by trivial)]
  · rw [lowv 2 (by omega) (by omega)]; exact h.2.2.1
  · intro i q hq
    have hi := (List.getElem?_eq_some_iff.mp hq).1
    rw [lowv _ (by omega) (by omega), lowv _ (by omega) (by omega)]
    exact h.2.2.2.1 i q hq
  · intro i q hq
    rw [List.getElem?_eraseIdx] at hq
    by_cases c1 : i < k
    · rw [if_pos c1] at hq
      have hv : ∀ j, j < 5 → mvD (upd s 1 (nI (th.length - 1))) (19 + 5 * k) (19 + 5 * (th.length - 1)) (19 + 5 * i + j) = s (19 + 5 * i + j) := by
        intro j hj
        simp only [upd, mvD]
        rw [if_neg (by omega), if_neg (by omega)]
      rw [hv 1 (by omega), hv 2 (by omega), hv 3 (by omega), hv 4 (by omega), show 19 + 5 * i = 19 + 5 * i + 0 from rfl, hv 0 (by omega)]
      exact h.2.2.2.2 i q hq
    · rw [if_neg c1] at hq
      have hi := (List.getElem?_eq_some_iff.mp hq).1
      have hv : ∀ j, j < 5 → mvD (upd s 1 (nI (th.length - 1))) (19 + 5 * k) (19 + 5 * (th.length - 1)) (19 + 5 * i + j) = s (19 + 5 * (i + 1) + j) := by
        intro j hj
        simp only [upd, mvD]
        rw [if_pos (by omega), if_neg (by omega)]
        congr 1
        omega
      have := h.2.2.2.2 (i + 1) q hq
      rw [hv 1 (by omega), hv 2 (by omega), hv 3 (by omega), hv 4 (by omega), show 19 + 5 * i = 19 + 5 * i + 0 from rfl, hv 0 (by omega)]
      exact this
/-- the state goes into the past's segment n -/
def cpS (past s : Nat → Int32) (n k0 : Nat) : Nat → Int32 := fun x => if 59 * n + k0 ≤ x ∧ x < 59 * n + 59 then s (x - 59 * n) else past x
def shP (past : Nat → Int32) (k : Nat) : Nat → Int32 := fun x => if k ≤ x ∧ x < 177 then past (x + 59) else past x
theorem gset_gset (g : zG) (k : Nat) (f f' : Nat → Int32) : gset (gset g k f) k f' = gset g k f' := by
  funext j
  unfold gset
  split <;> rfl
theorem changes_copy {n : Nat} (hn : n < 4) : ∀ (d k fuel : Nat) (g : zG), g 4 0 = nI n → k + d = 59 → d < fuel → f_X7_changes_58 fuel (nI k) g = some (gup (gset g 1 (cpS (g 1) (g 0) n k)) 4 0 (nI (n + 1))) := by
  intro d
  induction d with
  | zero =>
    intro k fuel g hg hk hf
    obtain ⟨m, rfl⟩ : ∃ m, fuel = m + 1 := ⟨fuel - 1, by omega⟩
    show f_X7_changes_58_b (f_X7_changes_58 m) (nI k) g = _
    unfold f_X7_changes_58_b
    have e : cpS (g 1) (g 0) n k = g 1 := by
      funext x
      unfold cpS
      rw [if_neg (by omega)]
    rw [if_pos (c := (59 : Int32) ≤ nI k) ((nI_leI (a := 59) (b := k) (by decide) (by omega)).mpr (by omega)), zlet_eq, hg, nIs, e, gset_eq]
  | succ d ih =>
    intro k fuel g hg hk hf
    obtain ⟨m, rfl⟩ : ∃ m, fuel = m + 1 := ⟨fuel - 1, by omega⟩
    show f_X7_changes_58_b (f_X7_changes_58 m) (nI k) g = _
    unfold f_X7_changes_58_b
    have ei : (59 : Int32) * nI n + nI k = nI (59 * n + k) := by rw [show (59 : Int32) = nI 59 from rfl, pk_mul, nI_add]
    rw [if_neg (c := (59 : Int32) ≤ nI k) (fun q => by have := (nI_leI (a := 59) (b := k) (by decide) (by omega)).mp q; omega), hg, ei, zin_nI (by omega) (by decide), zin_nI (by omega) (by decide), zlet_eq, nI_clamp (by omega), nI_clamp (by omega), nIs, ih (k + 1) m _ (by rw [gup_ne _ _ _ (by omega)]; exact hg) (by omega) (by omega), gset_gup, gup_same, gup_ne _ _ _ (show (0 : Nat) ≠ 1 by omega)]
    have e : cpS (upd (g 1) (59 * n + k) (g 0 k)) (g 0) n (k + 1) = cpS (g 1) (g 0) n k := by
      funext x
      unfold cpS upd
      by_cases h1 : 59 * n + (k + 1) ≤ x ∧ x < 59 * n + 59
      · rw [if_pos h1, if_pos (by omega)]
      · rw [if_neg h1]
        by_cases h2 : x = 59 * n + k
        · rw [if_pos h2, if_pos (by omega)]
          congr 1
          omega
        · rw [if_neg h2, if_neg (by omega)]
    rw [e]
theorem changes_shift : ∀ (d k fuel : Nat) (g : zG), k + d = 177 → d < fuel → f_X7_changes_18 fuel (nI k) g = f_X7_changes_58 zfuel (0 : Int32) (gup (gset g 1 (shP (g 1) k)) 4 0 (g 4 0 - (1 : Int32))) := by
  intro d
  induction d with
  | zero =>
    intro k fuel g hk hf
    obtain ⟨m, rfl⟩ : ∃ m, fuel = m + 1 := ⟨fuel - 1, by omega⟩
    show f_X7_changes_18_b (f_X7_changes_18 m) (nI k) g = _
    unfold f_X7_changes_18_b
    have e : shP (g 1) k = g 1 := by
      funext x
      unfold shP
      rw [if_neg (by omega)]
    rw [if_pos (c := (177 : Int32) ≤ nI k) ((nI_leI (a := 177) (b := k) (by decide) (by omega)).mpr (by omega)), zlet_eq, e, gset_eq]
  | succ d ih =>
    intro k fuel g hk hf
    obtain ⟨m, rfl⟩ : ∃ m, fuel = m + 1 := ⟨fuel - 1, by omega⟩
    show f_X7_changes_18_b (f_X7_changes_18 m) (nI k) g = _
    unfold f_X7_changes_18_b
    rw [if_neg (c := (177 : Int32) ≤ nI k) (fun q => by have := (nI_leI (a := 177) (b := k) (by decide) (by omega)).mp q; omega), show nI k + (59 : Int32) = nI (k + 59) from nI_add _ _, zin_nI (by omega) (by decide), zin_nI (by omega) (by decide), zlet_eq, nI_clamp (by omega), nI_clamp (by omega), nIs, ih (k + 1) m _ (by omega) (by omega), gset_gup, gup_same, gup_ne _ _ _ (show (4 : Nat) ≠ 1 by omega)]
    have e : shP (upd (g 1) k (g 1 (k + 59))) (k + 1) = shP (g 1) k := by
      funext x
      unfold shP upd
      by_cases h1 : k + 1 ≤ x ∧ x < 177
      · rw [if_pos h1, if_pos (c := k ≤ x ∧ x < 177) (by omega), if_neg (by omega)]
      · rw [if_neg h1]
        by_cases h2 : x = k
        · subst h2
          rw [if_pos rfl, if_pos (by omega)]
        · rw [if_neg h2, if_neg (by omega)]
    rw [e]
theorem changes_runs {g : zG} (h : ¬ g 5 0 = 0) : f_X7_changes g = some g := by
  unfold f_X7_changes
  rw [if_neg h]
theorem changes_ev {g : zG} {n : Nat} (hr : g 5 0 = 0) (hn : n ≤ 4) (hg : g 4 0 = nI n) :
    f_X7_changes g = some (gup (gset g 1 (if n = 4 then cpS (shP (g 1) 0) (g 0) 3 0 else cpS (g 1) (g 0) n 0)) 4 0 (nI (if n = 4 then 4 else n + 1))) := by
  unfold f_X7_changes
  rw [if_pos hr, hg]
  by_cases h4 : n = 4
  · subst h4
    rw [if_pos (show nI 4 = (4 : Int32) from rfl), if_pos rfl, if_pos rfl, show (0 : Int32) = nI 0 from rfl, changes_shift 177 0 zfuel g (by omega) (by unfold zfuel; omega), hg, show nI 4 - (1 : Int32) = nI 3 from by decide, show (0 : Int32) = nI 0 from rfl, changes_copy (n := 3) (by omega) 59 0 zfuel _ (by rw [gup_same]; rfl) (by omega) (by unfold zfuel; omega)]
    congr 1
    funext j
    unfold gup gset
    by_cases j4 : j = 4
    · subst j4
      simp
      funext x
      by_cases hx : x = 0 <;> simp [upd, hx]
    · by_cases j1 : j = 1
      · subst j1; simp
      · simp [j4, j1]
  · rw [if_neg (c := nI n = (4 : Int32)) (fun q => h4 ((nI_eq (a := n) (b := 4) (by omega) (by decide)).mp q)), if_neg h4, if_neg h4, show (0 : Int32) = nI 0 from rfl, changes_copy (n := n) (by omega) 59 0 zfuel g hg (by omega) (by unfold zfuel; omega)]
