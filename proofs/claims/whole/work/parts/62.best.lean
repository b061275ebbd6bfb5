/-! ===== the best place and the best strength ===== -/
theorem ones_ev : ∀ m : Fin 256, f_X7_ones (nI m.val) = f_J6_bitCount_0f7a4 (nI m.val) ∧ ¬ (f_J6_bitCount_0f7a4 (nI m.val)).getD 0 < 0 := by decide +kernel
/-- how many lines come to the screen -/
def nOn (b : zB) : Int32 := (f_J6_bitCount_0f7a4 (nI (setB (cm b) b.1))).getD 0
theorem nOn_c (b : zB) : f_J6_bitCount_0f7a4 (nI (setB (cm b) b.1)) = some (nOn b) := by
  obtain ⟨v, hv⟩ : ∃ v, f_J6_bitCount_0f7a4 (nI (setB (cm b) b.1)) = some v := ⟨_, rfl⟩
  unfold nOn
  rw [hv]
  rfl
theorem nOn_m {b : zB} (ok : okB b) : f_X7_ones (nI (setB (cm b) b.1)) = some (nOn b) := by
  rw [← nOn_c]
  exact (ones_ev ⟨_, setB_256 (cm b) ok.1⟩).1
theorem nOn_pos {b : zB} (ok : okB b) : ¬ nOn b < 0 := (ones_ev ⟨_, setB_256 (cm b) ok.1⟩).2
/-- the class's choice and the reference's -/
def ch2 (gH : zG) (be ma le : Int32) : Prop := gH 0 0 = be ∧ gH 1 0 = ma ∧ gH 2 0 = le ∧ ¬ be < 0
def chR (gH : zG) (be ma le : Int32) : Prop := (gH 1 0 = -1 ∧ be = NFO) ∨ ch2 gH be ma le
def btr (be ma le n s : Int32) : Prop := be < 0 ∨ ma < n ∨ (n = ma ∧ ¬ le ≤ s)
theorem offer_take {gH : zG} {x n s : Int32} (hx : ¬ x < 0) : ∃ g', f_X2_offer_24 x n s gH = some g' ∧ ch2 g' x n s := by
  unfold f_X2_offer_24
  rw [zlet_eq, zlet_eq, zlet_eq]
  exact ⟨_, rfl, by simp [gup, upd], by simp [gup, upd], by simp [gup, upd], hx⟩
theorem offer_ev {gH : zG} {be ma le : Int32} (h : chR gH be ma le) {x n s : Int32} (hx : ¬ x < 0) (hn : ¬ n < 0) : ∃ g', f_X2_offer gH x n s = some g' ∧ ((btr be ma le n s ∧ ch2 g' x n s) ∨ (¬ btr be ma le n s ∧ ch2 g' be ma le)) := by
  unfold f_X2_offer btr
  rcases h with ⟨h1, h2⟩ | h
  · have hl : (-1 : Int32) < n := Int32.lt_of_lt_of_le (by decide) (inlt.mp hn)
    obtain ⟨g', e1, e2⟩ := offer_take (gH := gH) (n := n) (s := s) hx
    rw [h1, if_pos hl, e1]
    exact ⟨g', rfl, Or.inl ⟨Or.inl (by rw [h2]; decide), e2⟩⟩
  · obtain ⟨h0, h1, h2, h3⟩ := h
    rw [h1, h2]
    by_cases c1 : ma < n
    · obtain ⟨g', e1, e2⟩ := offer_take (gH := gH) (n := n) (s := s) hx
      rw [if_pos c1, e1]
      exact ⟨g', rfl, Or.inl ⟨Or.inr (Or.inl c1), e2⟩⟩
    · rw [if_neg c1]
      by_cases c2 : n = ma
      · rw [if_pos c2]
        by_cases c3 : le ≤ s
        · rw [if_pos c3]
          refine ⟨gH, rfl, Or.inr ⟨?_, h0, h1, h2, h3⟩⟩
          rintro (q | q | q)
          · exact h3 q
          · exact c1 q
          · exact q.2 c3
        · obtain ⟨g', e1, e2⟩ := offer_take (gH := gH) (n := n) (s := s) hx
          rw [if_neg c3, e1]
          exact ⟨g', rfl, Or.inl ⟨Or.inr (Or.inr ⟨c2, c3⟩), e2⟩⟩
      · rw [if_neg c2]
        refine ⟨gH, rfl, Or.inr ⟨?_, h0, h1, h2, h3⟩⟩
        rintro (q | q | q)
        · exact h3 q
        · exact c1 q
        · exact c2 q.1
theorem offerTrial_ev {gM gT gR gH : zG} {b : zB} (hT : rB gT b) (ok : okB b) {be ma le : Int32} (h : chR gH be ma le) {x : Int32} (hx : ¬ x < 0) : ∃ gR' gH', f_X6_offerTrial gM gT gR gH x = some (gR', gH') ∧ ((btr be ma le (nOn b) (sprd b) ∧ ch2 gH' x (nOn b) (sprd b)) ∨ (¬ btr be ma le (nOn b) (sprd b) ∧ ch2 gH' be ma le)) := by
  obtain ⟨gR', r1, r2⟩ := ray_follow hT ok gR
  obtain ⟨gH', e1, e2⟩ := offer_ev h hx (nOn_pos ok) (s := sprd b)
  unfold f_X6_offerTrial
  rw [r1, zbind_some, linesOn_ev ok r2, zbind_some, nOn_c, zbind_some, spC_ev ok r2, zbind_some, e1, zbind_some]
  exact ⟨gR', gH', rfl, e2⟩
theorem copies_03_loop : ∀ (d k fuel : Nat) (g : zG), k + d = 59 → d < fuel → f_X7_copies_0_3_2 fuel (nI k) g = some (gset g 3 (cpR (g 3) (g 0) k)) := by
  intro d
  induction d with
  | zero =>
    intro k fuel g hk hf
    obtain ⟨n, rfl⟩ : ∃ n, fuel = n + 1 := ⟨fuel - 1, by omega⟩
    have : k = 59 := by omega
    subst this
    show f_X7_copies_0_3_2_b (f_X7_copies_0_3_2 n) (nI 59) g = _
    unfold f_X7_copies_0_3_2_b
    rw [if_pos (show (59 : Int32) ≤ nI 59 from Int32.le_refl _), cpR_end, gset_eq]
  | succ d ih =>
    intro k fuel g hk hf
    obtain ⟨n, rfl⟩ : ∃ n, fuel = n + 1 := ⟨fuel - 1, by omega⟩
    show f_X7_copies_0_3_2_b (f_X7_copies_0_3_2 n) (nI k) g = _
    unfold f_X7_copies_0_3_2_b
    rw [if_neg (c := (59 : Int32) ≤ nI k) (fun q => by have := (nI_leI (a := 59) (b := k) (by decide) (by omega)).mp q; omega), zin_nI (by omega) (by decide), zin_nI (by omega) (by decide), zlet_eq, nI_clamp (by omega), nIs, ih (k + 1) n _ (by omega) (by omega), gset_gup, gup_same, gup_ne _ _ _ (show (0 : Nat) ≠ 3 by decide), cpR_step (g 3) (g 0) (by omega)]
theorem copies_03_ev (g : zG) : f_X7_copies_0_3 g = some (gset g 3 (cpR (g 3) (g 0) 0)) := by
  unfold f_X7_copies_0_3
  exact copies_03_loop 59 0 zfuel g (by omega) (by unfold zfuel; omega)
theorem copies_30_loop : ∀ (d k fuel : Nat) (g : zG), k + d = 59 → d < fuel → f_X7_copies_3_0_2 fuel (nI k) g = some (gset g 0 (cpR (g 0) (g 3) k)) := by
  intro d
  induction d with
  | zero =>
    intro k fuel g hk hf
    obtain ⟨n, rfl⟩ : ∃ n, fuel = n + 1 := ⟨fuel - 1, by omega⟩
    have : k = 59 := by omega
    subst this
    show f_X7_copies_3_0_2_b (f_X7_copies_3_0_2 n) (nI 59) g = _
    unfold f_X7_copies_3_0_2_b
    rw [if_pos (show (59 : Int32) ≤ nI 59 from Int32.le_refl _), cpR_end, gset_eq]
  | succ d ih =>
    intro k fuel g hk hf
    obtain ⟨n, rfl⟩ : ∃ n, fuel = n + 1 := ⟨fuel - 1, by omega⟩
    show f_X7_copies_3_0_2_b (f_X7_copies_3_0_2 n) (nI k) g = _
    unfold f_X7_copies_3_0_2_b
    rw [if_neg (c := (59 : Int32) ≤ nI k) (fun q => by have := (nI_leI (a := 59) (b := k) (by decide) (by omega)).mp q; omega), zin_nI (by omega) (by decide), zin_nI (by omega) (by decide), zlet_eq, nI_clamp (by omega), nIs, ih (k + 1) n _ (by omega) (by omega), gset_gup, gup_same, gup_ne _ _ _ (show (3 : Nat) ≠ 0 by decide), cpR_step (g 0) (g 3) (by omega)]
theorem copies_30_ev (g : zG) : f_X7_copies_3_0 g = some (gset g 0 (cpR (g 0) (g 3) 0)) := by
  unfold f_X7_copies_3_0
  exact copies_30_loop 59 0 zfuel g (by omega) (by unfold zfuel; omega)
theorem copies_02_loop : ∀ (d k fuel : Nat) (g : zG), k + d = 59 → d < fuel → f_X7_copies_0_2_2 fuel (nI k) g = some (gset g 2 (cpR (g 2) (g 0) k)) := by
  intro d
  induction d with
  | zero =>
    intro k fuel g hk hf
    obtain ⟨n, rfl⟩ : ∃ n, fuel = n + 1 := ⟨fuel - 1, by omega⟩
    have : k = 59 := by omega
    subst this
    show f_X7_copies_0_2_2_b (f_X7_copies_0_2_2 n) (nI 59) g = _
    unfold f_X7_copies_0_2_2_b
    rw [if_pos (show (59 : Int32) ≤ nI 59 from Int32.le_refl _), cpR_end, gset_eq]
  | succ d ih =>
    intro k fuel g hk hf
    obtain ⟨n, rfl⟩ : ∃ n, fuel = n + 1 := ⟨fuel - 1, by omega⟩
    show f_X7_copies_0_2_2_b (f_X7_copies_0_2_2 n) (nI k) g = _
    unfold f_X7_copies_0_2_2_b
    rw [if_neg (c := (59 : Int32) ≤ nI k) (fun q => by have := (nI_leI (a := 59) (b := k) (by decide) (by omega)).mp q; omega), zin_nI (by omega) (by decide), zin_nI (by omega) (by decide), zlet_eq, nI_clamp (by omega), nIs, ih (k + 1) n _ (by omega) (by omega), gset_gup, gup_same, gup_ne _ _ _ (show (0 : Nat) ≠ 2 by decide), cpR_step (g 2) (g 0) (by omega)]
theorem copies_02_ev (g : zG) : f_X7_copies_0_2 g = some (gset g 2 (cpR (g 2) (g 0) 0)) := by
  unfold f_X7_copies_0_2
  exact copies_02_loop 59 0 zfuel g (by omega) (by unfold zfuel; omega)
theorem copies_20_loop : ∀ (d k fuel : Nat) (g : zG), k + d = 59 → d < fuel → f_X7_copies_2_0_2 fuel (nI k) g = some (gset g 0 (cpR (g 0) (g 2) k)) := by
  intro d
  induction d with
  | zero =>
    intro k fuel g hk hf
    obtain ⟨n, rfl⟩ : ∃ n, fuel = n + 1 := ⟨fuel - 1, by omega⟩
    have : k = 59 := by omega
    subst this
    show f_X7_copies_2_0_2_b (f_X7_copies_2_0_2 n) (nI 59) g = _
    unfold f_X7_copies_2_0_2_b
    rw [if_pos (show (59 : Int32) ≤ nI 59 from Int32.le_refl _), cpR_end, gset_eq]
  | succ d ih =>
    intro k fuel g hk hf
    obtain ⟨n, rfl⟩ : ∃ n, fuel = n + 1 := ⟨fuel - 1, by omega⟩
    show f_X7_copies_2_0_2_b (f_X7_copies_2_0_2 n) (nI k) g = _
    unfold f_X7_copies_2_0_2_b
    rw [if_neg (c := (59 : Int32) ≤ nI k) (fun q => by have := (nI_leI (a := 59) (b := k) (by decide) (by omega)).mp q; omega), zin_nI (by omega) (by decide), zin_nI (by omega) (by decide), zlet_eq, nI_clamp (by omega), nIs, ih (k + 1) n _ (by omega) (by omega), gset_gup, gup_same, gup_ne _ _ _ (show (2 : Nat) ≠ 0 by decide), cpR_step (g 0) (g 2) (by omega)]
theorem copies_20_ev (g : zG) : f_X7_copies_2_0 g = some (gset g 0 (cpR (g 0) (g 2) 0)) := by
  unfold f_X7_copies_2_0
  exact copies_20_loop 59 0 zfuel g (by omega) (by unfold zfuel; omega)
theorem cpR_rS {s p : Nat → Int32} {b : zB} (ok : okB b) (h : rS p b) : rS (cpR s p 0) b := by
  refine repS_congr (fun j hj => ?_) ok.1 ok.2.1 h
  unfold cpR
  rw [if_pos (by omega)]
/-- what best and tuned leave -/
def kb (g g' : zG) : Prop := ∀ j, j ≠ 0 → j ≠ 3 → j ≠ 8 → j ≠ 9 → j ≠ 10 → j ≠ 11 → g' j = g j
theorem kb_tr {a b c : zG} (h1 : kb a b) (h2 : kb b c) : kb a c := fun j x y z u v w => (h2 j x y z u v w).trans (h1 j x y z u v w)
theorem kb_of {g g' : zG} (h : kp g g') : kb g g' := fun j _ _ z u v w => h j z u v w
theorem kb_abs {gB gX gY gN gN' : zG} {h : Nat → Option zG} {b : zB} {hs : List zB} {tx : List Int32} (hA : zAbs gB gX gY h gN b hs tx) (hk : kb gN gN') (hS : rS (gN' 0) b) : zAbs gB gX gY h gN' b hs tx := by
  obtain ⟨h1, h2, h3, h4, h5, h6, h7, h8, h9⟩ := hA
  have k : ∀ j, j = 1 ∨ j = 4 ∨ j = 5 ∨ j = 6 ∨ j = 7 → gN' j = gN j := fun j hj => hk j (by omega) (by omega) (by omega) (by omega) (by omega) (by omega)
  refine ⟨h1, h2, h3, hS, h5, ?_, by rw [k 5 (by simp)]; exact h7, h8, ?_⟩
  · unfold hisM; rw [k 4 (by simp), k 1 (by simp)]; exact h6
  · unfold txM; rw [k 7 (by simp), k 6 (by simp)]; exact h9
/-- the reference measures a bench -/
theorem meas_ev {b : zB} (ok : okB b) {g : zG} (hS : rS (g 0) b) : ∃ g1 g2, f_X7_coming g (1000 : Int32) = some (nI (setB (cm b) b.1), g1) ∧ f_X7_ones (nI (setB (cm b) b.1)) = some (nOn b) ∧ f_X7_spread g1 = some (sprd b, g2) ∧ kp g g2 := by
  obtain ⟨g1, c1, c2⟩ := coming_s ok hS
  obtain ⟨g2, s1, s2⟩ := spM_ev ok (show rS (g1 0) b by rw [kp_0 c2]; exact hS)
  exact ⟨g1, g2, c1, nOn_m ok, s1, kp_tr c2 s2⟩
theorem nah_0 {p : Int32} {r : List zTh} (h : ∀ t ∈ r, p < t.1) : nah p r = 0 := by
  cases r with
  | nil => rfl
  | cons t r =>
    unfold nah
    rw [if_neg (by rw [inlt]; exact Int32.le_of_lt (h t List.mem_cons_self))]
theorem same_place {p : Int32} : ∀ {th : List zTh} {k : Nat}, th.Pairwise (fun a b => a.1 < b.1) → fidx p th = some k → fidx p (th.eraseIdx k) = none ∧ insT (p, (th.getD k (0, 0, 0, 0, 0)).2) (th.eraseIdx k) = th := by
  intro th
  induction th with
  | nil => intro k _ h; cases h
  | cons x r ih =>
    intro k hp h
    rw [List.pairwise_cons] at hp
    unfold fidx at h
    by_cases hx : x.1 = p
    · rw [if_pos hx] at h
      cases h
      subst hx
      refine ⟨fidx_none_of (fun t ht e => ?_), ?_⟩
      · have := hp.1 t ht
        rw [e] at this
        exact absurd this (by rw [inlt]; exact Int32.le_refl _)
      · have e : nah x.1 r = 0 := nah_0 hp.1
        show insT (x.1, x.2) r = x :: r
        unfold insT
        simp only
        rw [e]
        rfl
    · rw [if_neg hx] at h
      cases hr : fidx p r with
      | none => rw [hr] at h; cases h
      | some j =>
        rw [hr] at h
        cases h
        obtain ⟨i1, i2⟩ := ih hp.2 hr
        obtain ⟨t, t1, t2⟩ := fidx_some hr
        have hxp : x.1 < p := by rw [← t2]; exact hp.1 t (List.mem_of_getElem? t1)
        have e0 : (x :: r).eraseIdx (j + 1) = x :: r.eraseIdx j := rfl
        have e1 : (x :: r).getD (j + 1) (0, 0, 0, 0, 0) = r.getD j (0, 0, 0, 0, 0) := by simp
        rw [e0, e1]
        refine ⟨?_, ?_⟩
        · unfold fidx
          rw [if_neg hx, i1]
          rfl
        · have en : nah p (x :: r.eraseIdx j) = nah p (r.eraseIdx j) + 1 := by rw [nah, if_pos hxp]
          have : insT (p, (r.getD j (0, 0, 0, 0, 0)).2) (x :: r.eraseIdx j) = x :: insT (p, (r.getD j (0, 0, 0, 0, 0)).2) (r.eraseIdx j) := by
            unfold insT
            simp only
            rw [en]
            rfl
          rw [this, i2]
theorem mvB_same {b : zB} (ok : okB b) {p : Int32} {k : Nat} (h : fidx p b.2.1 = some k) : fidx p (b.2.1.eraseIdx k) = none ∧ mvB b k p = b := by
  obtain ⟨h1, h2⟩ := same_place ok.2.2.2.2.2.2 h
  refine ⟨h1, ?_⟩
  unfold mvB
  rw [h2]
theorem pig : ∀ (V : List Int32) (th : List zTh), V.Nodup → (∀ v ∈ V, ∃ t ∈ th, t.1 = v) → V.length ≤ th.length := by
  intro V
  induction V with
  | nil => intro th _ _; exact Nat.zero_le _
  | cons v V ih =>
    intro th hV h
    rw [List.nodup_cons] at hV
    obtain ⟨t, ht, e⟩ := h v List.mem_cons_self
    obtain ⟨l1, l2, rfl⟩ := List.append_of_mem ht
    have := ih (l1 ++ l2) hV.2 (fun w hw => by
      obtain ⟨s, hs, es⟩ := h w (List.mem_cons_of_mem _ hw)
      refine ⟨s, ?_, es⟩
      rcases List.mem_append.mp hs with hs | hs
      · exact List.mem_append_left _ hs
      · rcases List.mem_cons.mp hs with rfl | hs
        · exact absurd (by rw [← e, es]; exact hw) hV.1
        · exact List.mem_append_right _ hs)
    simp at this ⊢
    omega
theorem free_place {th : List zTh} (h : th.length ≤ 8) : ∃ j, 1 ≤ j ∧ j < 100 ∧ fidx (nI (10 * j)) th = none := by
  refine Classical.byContradiction (fun hn => ?_)
  have hall : ∀ j, 1 ≤ j → j < 100 → ∃ t ∈ th, t.1 = nI (10 * j) := by
    intro j h1 h2
    cases hf : fidx (nI (10 * j)) th with
    | none => exact absurd ⟨j, h1, h2, hf⟩ hn
    | some k =>
      obtain ⟨t, t1, t2⟩ := fidx_some hf
      exact ⟨t, List.mem_of_getElem? t1, t2⟩
  have := pig [nI 10, nI 20, nI 30, nI 40, nI 50, nI 60, nI 70, nI 80, nI 90] th (by decide) (fun v hv => by
    simp only [List.mem_cons, List.not_mem_nil, or_false] at hv
    rcases hv with rfl | rfl | rfl | rfl | rfl | rfl | rfl | rfl | rfl
    · exact hall 1 (by omega) (by omega)
    · exact hall 2 (by omega) (by omega)
    · exact hall 3 (by omega) (by omega)
    · exact hall 4 (by omega) (by omega)
    · exact hall 5 (by omega) (by omega)
    · exact hall 6 (by omega) (by omega)
    · exact hall 7 (by omega) (by omega)
    · exact hall 8 (by omega) (by omega)
    · exact hall 9 (by omega) (by omega))
  simp at this
  omega
theorem best_133 (k47 : Int32 → Int32 → Int32 → Int32 → Int32 → Int32 → Int32 → zG → Option (Int32 × zG)) (y1 y2 y3 y4 y5 y6 y7 y8 y9 : Int32) (g : zG) : f_X7_best_133 k47 y1 y2 y3 y4 y5 y6 y7 y8 y9 g = k47 y1 y2 y3 y7 y8 y9 (y7 + 10) g := by
  unfold f_X7_best_133 f_X7_best_138 f_X7_best_152 f_X7_best_166
  simp only [if_neg ne10]
theorem best_137 (k47 : Int32 → Int32 → Int32 → Int32 → Int32 → Int32 → Int32 → zG → Option (Int32 × zG)) (y1 y2 y3 y4 y5 y6 y7 y8 y9 : Int32) (g : zG) : f_X7_best_137 k47 y1 y2 y3 y4 y5 y6 y7 y8 y9 g = k47 y1 y2 y3 y4 y5 y6 (y7 + 10) g := by
  unfold f_X7_best_137 f_X7_best_138 f_X7_best_152 f_X7_best_166
  simp only [if_true]
theorem best_70 {b : zB} (ok : okB b) {g : zG} (hS : rS (g 0) b) (h3 : rS (g 3) b) {k : Nat} (hk : k < b.2.1.length) {to : Int32} (ht : 1 ≤ to ∧ to ≤ 999) (hf : fidx to (b.2.1.eraseIdx k) = none) (k47 : Int32 → Int32 → Int32 → Int32 → Int32 → Int32 → Int32 → zG → Option (Int32 × zG)) (y1 y2 be ma le : Int32) :
    ∃ g', kb g g' ∧ rS (g' 0) b ∧ rS (g' 3) b ∧ ((btr be ma le (nOn (mvB b k to)) (sprd (mvB b k to)) → f_X7_best_70 k47 y1 y2 (nI k) be ma le to g = k47 y1 y2 (nI k) to (nOn (mvB b k to)) (sprd (mvB b k to)) (to + 10) g') ∧ (¬ btr be ma le (nOn (mvB b k to)) (sprd (mvB b k to)) → f_X7_best_70 k47 y1 y2 (nI k) be ma le to g = k47 y1 y2 (nI k) be ma le (to + 10) g')) := by
  have okm := mvB_ok ok hk ht hf
  obtain ⟨g1, m1, m2, m3⟩ := moves_ev hS ok hk hf
  obtain ⟨g2, g3, c1, c2, c3, c4⟩ := meas_ev okm m3
  have e3 : g3 3 = g 3 := by rw [c4 3 (by decide) (by decide) (by decide) (by decide), m2 3 (by decide)]
  refine ⟨gset g3 0 (cpR (g3 0) (g3 3) 0), ?_, ?_, ?_, ?_⟩
  · intro j a1 a2 a3 a4 a5 a6
    rw [gset_ne _ _ a1, c4 j a3 a4 a5 a6, m2 j a1]
  · rw [gset_same, e3]
    exact cpR_rS ok h3
  · rw [gset_ne _ _ (by decide), e3]
    exact h3
  · unfold f_X7_best_70
    rw [m1, zbind_some, c1, zbind_some, c2, zbind_some, c3, zbind_some, copies_30_ev, zbind_some]
    simp only [best_133, best_137]
    unfold btr
    refine ⟨fun h => ?_, fun h => ?_⟩
    · by_cases c1 : be < 0
      · rw [if_pos c1]
      · rw [if_neg c1]
        by_cases c2 : ma < nOn (mvB b k to)
        · rw [if_pos c2]
        · rw [if_neg c2]
          rcases h with h | h | h
          · exact absurd h c1
          · exact absurd h c2
          · rw [if_pos h.1, if_neg h.2]
    · rw [if_neg (fun q => h (Or.inl q)), if_neg (fun q => h (Or.inr (Or.inl q)))]
      by_cases c1 : nOn (mvB b k to) = ma
      · rw [if_pos c1]
        by_cases c2 : le ≤ sprd (mvB b k to)
        · rw [if_pos c2]
        · exact absurd (Or.inr (Or.inr ⟨c1, c2⟩)) h
      · rw [if_neg c1]
theorem place_10 {j : Nat} (h1 : 1 ≤ j) (h2 : j < 100) : (1 : Int32) ≤ nI (10 * j) ∧ nI (10 * j) ≤ (999 : Int32) :=
  ⟨(nI_leI (a := 1) (by decide) (by omega)).mpr (by omega), (nI_leI (b := 999) (by omega) (by decide)).mpr (by omega)⟩
theorem best_sim {gB gM gN : zG} {b : zB} (hB : rB gB b) (ok : okB b) {p : Int32} {k : Nat} (hk : fidx p b.2.1 = some k) (x2 : Int32) : ∀ (d j f1 f2 : Nat) (gT gR gH g : zG) (be ma le : Int32), j + d = 100 → 1 ≤ j → d < f1 → d < f2 → chR gH be ma le → (ch2 gH be ma le ∨ ∃ i, j ≤ i ∧ i < 100 ∧ fidx (nI (10 * i)) b.2.1 = none) → rS (g 0) b → rS (g 3) b → kb gN g →
    ∃ R R', f_X6_best_33 gM gB f1 p x2 (nI (10 * j)) gT gR gH = some R ∧ f_X7_best_47 f2 p x2 (nI k) be ma le (nI (10 * j)) g = some R' ∧ R.1 = R'.1 ∧ kb gN R'.2 ∧ rS (R'.2 0) b := by
  have hkl := fidx_lt hk
  have h8 := ok.2.1
  intro d
  induction d with
  | zero =>
    intro j f1 f2 gT gR gH g be ma le hj h1 hf1 hf2 hc hx hS h3 hkb
    obtain ⟨n1, rfl⟩ : ∃ n, f1 = n + 1 := ⟨f1 - 1, by omega⟩
    obtain ⟨n2, rfl⟩ : ∃ n, f2 = n + 1 := ⟨f2 - 1, by omega⟩
    have hj : j = 100 := by omega
    subst hj
    have hc2 : ch2 gH be ma le := by
      rcases hx with hx | ⟨i, i1, i2, _⟩
      · exact hx
      · omega
    obtain ⟨a0, a1, a2, a3⟩ := hc2
    show ∃ R R', f_X6_best_33_b gM gB (f_X6_best_33 gM gB n1) p x2 (nI (10 * 100)) gT gR gH = some R ∧ f_X7_best_47_b (f_X7_best_47 n2) p x2 (nI k) be ma le (nI (10 * 100)) g = some R' ∧ _
    unfold f_X6_best_33_b f_X7_best_47_b
    rw [if_pos (show (990 : Int32) < nI (10 * 100) from by decide), if_pos (show (1000 : Int32) ≤ nI (10 * 100) from by decide), a0, a1, a2]
    by_cases c0 : x2 = 0
    · rw [if_pos c0, if_pos c0]; exact ⟨_, _, rfl, rfl, rfl, hkb, hS⟩
    · rw [if_neg c0, if_neg c0]
      by_cases c1 : x2 = 1
      · rw [if_pos c1, if_pos c1]; exact ⟨_, _, rfl, rfl, rfl, hkb, hS⟩
      · rw [if_neg c1, if_neg c1]; exact ⟨_, _, rfl, rfl, rfl, hkb, hS⟩
  | succ d ih =>
    intro j f1 f2 gT gR gH g be ma le hj h1 hf1 hf2 hc hx hS h3 hkb
    obtain ⟨n1, rfl⟩ : ∃ n, f1 = n + 1 := ⟨f1 - 1, by omega⟩
    obtain ⟨n2, rfl⟩ : ∃ n, f2 = n + 1 := ⟨f2 - 1, by omega⟩
    have hto := place_10 h1 (show j < 100 by omega)
    have hto0 : ¬ nI (10 * j) < 0 := nI_pos (by omega)
    have e10 : nI (10 * j) + (10 : Int32) = nI (10 * (j + 1)) := by rw [show (10 : Int32) = nI 10 from rfl, nI_add, Nat.mul_add]
    show ∃ R R', f_X6_best_33_b gM gB (f_X6_best_33 gM gB n1) p x2 (nI (10 * j)) gT gR gH = some R ∧ f_X7_best_47_b (f_X7_best_47 n2) p x2 (nI k) be ma le (nI (10 * j)) g = some R' ∧ _
    unfold f_X6_best_33_b f_X7_best_47_b f_X6_offerPlace
    rw [if_neg (c := (990 : Int32) < nI (10 * j)) (fun h => by have := (nI_ltI (a := 990) (by decide) (by omega)).mp h; omega), if_neg (c := (1000 : Int32) ≤ nI (10 * j)) (fun h => by have := (nI_leI (a := 1000) (by decide) (by omega)).mp h; omega)]
    obtain ⟨gT1, t1, t2⟩ := copyFrom_ev gT gB hB ok.1 ok.2.1
    rw [t1, zbind_some, e10]
    have go : ∀ (gT2 : zG), fidx (nI (10 * j)) (b.2.1.eraseIdx k) = none → rB gT2 (mvB b k (nI (10 * j))) → ∃ gR' gH', f_X6_offerTrial gM gT2 gR gH (nI (10 * j)) = some (gR', gH') ∧ ∃ R R', f_X6_best_33 gM gB n1 p x2 (nI (10 * (j + 1))) gT2 gR' gH' = some R ∧ f_X7_best_70 (f_X7_best_47 n2) p x2 (nI k) be ma le (nI (10 * j)) g = some R' ∧ R.1 = R'.1 ∧ kb gN R'.2 ∧ rS (R'.2 0) b := by
      intro gT2 hfr hT2
      have okm := mvB_ok ok hkl hto hfr
      obtain ⟨gR', gH', o1, o2⟩ := offerTrial_ev (gM := gM) (gR := gR) hT2 okm hc hto0
      obtain ⟨g', b1, b2, b3, b4, b5⟩ := best_70 ok hS h3 hkl hto hfr (f_X7_best_47 n2) p x2 be ma le
      refine ⟨gR', gH', o1, ?_⟩
      rcases o2 with ⟨q1, q2⟩ | ⟨q1, q2⟩
      · rw [b4 q1, e10]
        exact ih (j + 1) n1 n2 gT2 gR' gH' g' _ _ _ (by omega) (by omega) (by omega) (by omega) (Or.inr q2) (Or.inl q2) b2 b3 (kb_tr hkb b1)
      · rw [b5 q1, e10]
        exact ih (j + 1) n1 n2 gT2 gR' gH' g' _ _ _ (by omega) (by omega) (by omega) (by omega) (Or.inr q2) (Or.inl q2) b2 b3 (kb_tr hkb b1)
    by_cases hp : nI (10 * j) = p
    · rw [if_pos hp, if_pos hp]
      obtain ⟨s1, s2⟩ := mvB_same ok hk
      obtain ⟨gR', gH', o1, o2⟩ := go gT1 (by rw [hp]; exact s1) (by rw [hp, s2]; exact t2)
      rw [o1, zbind_some, zbind_some]
      exact o2
    · rw [if_neg hp, if_neg hp, at_ev hS h8, zbind_some]
      rcases moveThing_ev t2 h8 p (nI (10 * j)) with ⟨c1, _⟩ | ⟨k', t, c1, c2, c3⟩
      · rw [hk] at c1; cases c1
      · rw [hk] at c1
        cases c1
        rcases c3 with ⟨c3, _⟩ | ⟨_, c3, c4⟩ | ⟨_, c3, g2, c4, c5⟩
        · exact absurd hto c3
        · obtain ⟨k2, hk2⟩ := Option.isSome_iff_exists.mp c3
          have hk2l := fidx_lt hk2
          rw [c4, zbind_some, if_pos NPO_neg, zbind_some, hk2, if_pos (show 0 ≤ ix (some k2) NFO from nI_pos' (by omega))]
          refine ih (j + 1) n1 n2 gT1 gR gH g be ma le (by omega) (by omega) (by omega) (by omega) hc ?_ hS h3 hkb
          rcases hx with hx | ⟨i, i1, i2, i3⟩
          · exact Or.inl hx
          · refine Or.inr ⟨i, ?_, i2, i3⟩
            have : i ≠ j := fun e => by subst e; rw [hk2] at i3; cases i3
            omega
        · have et : t = b.2.1.getD k (0, 0, 0, 0, 0) := by
            have := getD_some (d := ((0 : Int32), (0 : Int32), (0 : Int32), (0 : Int32), (0 : Int32))) hkl
            rw [c2] at this
            exact Option.some.inj this
          subst et
          have hna := nah_le (nI (10 * j)) (b.2.1.eraseIdx k)
          have hl := List.length_eraseIdx_of_lt hkl
          obtain ⟨gR', gH', o1, o2⟩ := go g2 (fidx_erase k c3) c5
          rw [c4, zbind_some, if_neg (nI_pos (by omega)), o1, zbind_some, zbind_some, c3, if_neg (show ¬ 0 ≤ ix none NFO from by decide)]
          exact o2
theorem pm_best {gB gX gY gN : zG} {h : Nat → Option zG} (hR : zRel gB gX gY h gN) (gM : zG) (gT : zG) (gR : zG) (gH : zG) (x1 x2 : Int32) : ∃ R R', f_X6_best gM gB gT gR gH x1 x2 = some R ∧ f_X7_best gN x1 x2 = some R' ∧ R.1 = R'.1 ∧ zRel gB gX gY h R'.2 := by
  obtain ⟨b, hs, tx, hA⟩ := zRel_abs hR
  have hA0 := hA
  obtain ⟨h1, h2, h3, h4, h5, h6, h7, h8, h9⟩ := hA
  unfold f_X6_best f_X7_best f_X2_clear
  rw [indexOf_ev h3 h1.2.1, zbind_some, at_ev h4 h1.2.1, zbind_some]
  cases hf : fidx x1 b.2.1 with
  | none =>
    rw [if_pos (show ix none (-1) < 0 from by decide), if_pos (show ix none NFO < 0 from by decide)]
    exact ⟨_, _, rfl, rfl, rfl, hR⟩
  | some k =>
    have hk := fidx_lt hf
    have hk8 := h1.2.1
    rw [if_neg (show ¬ ix (some k) (-1) < 0 from nI_pos (by omega)), if_neg (show ¬ ix (some k) NFO < 0 from nI_pos (by omega)), within_ev, zbind_some, ite_1, in_ev, zbind_some, ite_1]
    by_cases q : 0 ≤ x2 ∧ x2 ≤ 2
    · rw [if_pos q, if_pos q, zlet_eq, zbind_some, copies_03_ev, zbind_some]
      obtain ⟨j, j1, j2, j3⟩ := free_place h1.2.1
      have hS0 : rS ((gset gN 3 (cpR (gN 3) (gN 0) 0)) 0) b := by rw [gset_ne _ _ (by decide)]; exact h4
      have hS3 : rS ((gset gN 3 (cpR (gN 3) (gN 0) 0)) 3) b := by rw [gset_same]; exact cpR_rS h1 h4
      obtain ⟨R, R', a1, a2, a3, a4, a5⟩ := best_sim (gM := gM) (gN := gN) h3 h1 hf x2 99 1 zfuel zfuel gT gR (gup gH 1 0 (-1)) (gset gN 3 (cpR (gN 3) (gN 0) 0)) NFO 0 0 (by omega) (by omega) (by unfold zfuel; omega) (by unfold zfuel; omega) (Or.inl ⟨by simp [gup, upd], rfl⟩) (Or.inr ⟨j, j1, j2, j3⟩) hS0 hS3 (fun j _ c _ _ _ _ => gset_ne _ _ c)
      exact ⟨R, R', a1, a2, a3, zAbs_rel (kb_abs hA0 a4 a5)⟩
    · rw [if_neg q, if_neg q]
      exact ⟨_, _, rfl, rfl, rfl, hR⟩
/-! the strength -/
def stT (t : zTh) (x : Int32) : zTh := (t.1, t.2.1, t.2.2.1, x, t.2.2.2.2)
def stB (b : zB) (k : Nat) (x : Int32) : zB := (b.1, b.2.1.set k (stT (b.2.1.getD k (0, 0, 0, 0, 0)) x), b.2.2)
theorem stB_self {b : zB} {k : Nat} (hk : k < b.2.1.length) : stB b k (b.2.1.getD k (0, 0, 0, 0, 0)).2.2.2.1 = b := by
  have e : stT (b.2.1.getD k (0, 0, 0, 0, 0)) (b.2.1.getD k (0, 0, 0, 0, 0)).2.2.2.1 = b.2.1[k] := by
    have := getD_some (d := ((0 : Int32), (0 : Int32), (0 : Int32), (0 : Int32), (0 : Int32))) hk
    rw [List.getElem?_eq_getElem hk] at this
    rw [Option.some.inj this]
    rfl
  unfold stB
  rw [e, List.set_getElem_self]
theorem stB_get {b : zB} {k : Nat} {x : Int32} {i : Nat} {q : zTh} (hq : (stB b k x).2.1[i]? = some q) : (i = k ∧ q = stT (b.2.1.getD k (0, 0, 0, 0, 0)) x) ∨ (i ≠ k ∧ b.2.1[i]? = some q) := set_get hq
theorem stB_of {b : zB} {k : Nat} {x v : Int32} {i : Nat} {q : zTh} (hk : k < b.2.1.length) (hq : (stB b k x).2.1[i]? = some q) : (i = k ∧ q = stT (b.2.1.getD k (0, 0, 0, 0, 0)) x ∧ (stB b k v).2.1[k]? = some (stT (b.2.1.getD k (0, 0, 0, 0, 0)) v)) ∨ (i ≠ k ∧ (stB b k v).2.1[i]? = some q) := by
  rcases stB_get hq with ⟨h1, h2⟩ | ⟨h1, h2⟩
  · refine Or.inl ⟨h1, h2, ?_⟩
    unfold stB
    simp [hk]
  · refine Or.inr ⟨h1, ?_⟩
    unfold stB
    simp only
    rw [List.getElem?_set_ne (fun e => h1 e.symm)]
    exact h2
theorem stB_len (b : zB) (k : Nat) (x : Int32) : (stB b k x).2.1.length = b.2.1.length := by unfold stB; simp
theorem stB_c {g : zG} {b : zB} {k : Nat} (hk : k < b.2.1.length) {v : Int32} (h : rB g (stB b k v)) (x : Int32) : rB (gup g 6 k x) (stB b k x) := by
  obtain ⟨h1, h2, h3, h4, h5⟩ := h
  refine ⟨?_, ?_, ?_, ?_, ?_⟩
  · rw [gup_ne _ _ _ (by decide)]; exact h1
  · rw [gup_ne _ _ _ (by decide), h2, stB_len, stB_len]
  · rw [gup_ne _ _ _ (by decide)]; exact h3
  · intro i q hq
    rw [gup_ne _ _ _ (by decide), gup_ne _ _ _ (by decide)]
    exact h4 i q hq
  · intro i q hq
    rw [gup_ne _ _ _ (show (3 : Nat) ≠ 6 by decide), gup_ne _ _ _ (show (4 : Nat) ≠ 6 by decide), gup_ne _ _ _ (show (5 : Nat) ≠ 6 by decide), gup_same, gup_ne _ _ _ (show (7 : Nat) ≠ 6 by decide)]
    unfold upd
    rcases stB_of (v := v) hk hq with ⟨rfl, rfl, e⟩ | ⟨hne, e⟩
    · obtain ⟨a1, a2, a3, a4, a5⟩ := h5 _ _ e
      rw [if_pos rfl]
      exact ⟨a1, a2, a3, rfl, a5⟩
    · rw [if_neg hne]
      exact h5 i q e
theorem stB_m {s : Nat → Int32} {b : zB} (ok : okB b) {k : Nat} (hk : k < b.2.1.length) {v : Int32} (h : rS s (stB b k v)) (x : Int32) : rS (upd s (19 + 5 * k + 3) x) (stB b k x) := by
  obtain ⟨h1, h2, h3, h4, h5⟩ := h
  have hn := ok.1
  refine ⟨?_, ?_, ?_, ?_, ?_⟩
  · unfold upd; rw [if_neg (by omega)]; exact h1
  · unfold upd; rw [if_neg (by omega), h2, stB_len, stB_len]
  · unfold upd; rw [if_neg (by omega)]; exact h3
  · intro i q hq
    have hi : i < b.1.length := (List.getElem?_eq_some_iff.mp hq).1
    unfold upd
    rw [if_neg (by omega), if_neg (by omega)]
    exact h4 i q hq
  · intro i q hq
    unfold upd
    rcases stB_of (v := v) hk hq with ⟨rfl, rfl, e⟩ | ⟨hne, e⟩
    · obtain ⟨a1, a2, a3, a4, a5⟩ := h5 _ _ e
      rw [if_neg (by omega), if_neg (by omega), if_neg (by omega), if_pos rfl, if_neg (by omega)]
      exact ⟨a1, a2, a3, rfl, a5⟩
    · rw [if_neg (by omega), if_neg (by omega), if_neg (by omega), if_neg (by omega), if_neg (by omega)]
      exact h5 i q e
theorem stB_ok {b : zB} (ok : okB b) {k : Nat} (hk : k < b.2.1.length) (h0 : (b.2.1.getD k (0, 0, 0, 0, 0)).2.1 = 0) {x : Int32} (hx : 1 ≤ x ∧ x ≤ 99) : okB (stB b k x) := by
  obtain ⟨a1, a2, a3, a4, a5, a6, a7⟩ := ok
  refine ⟨a1, by rw [stB_len]; exact a2, a3, a4, a5, ?_, ?_⟩
  · intro q hq
    obtain ⟨i, hi, e⟩ := List.mem_iff_getElem.mp hq
    have hq' : (stB b k x).2.1[i]? = some q := by rw [List.getElem?_eq_getElem hi, e]
    rcases stB_get hq' with ⟨rfl, rfl⟩ | ⟨_, e⟩
    · have hT := a6 _ (List.mem_of_getElem? (getD_some (d := ((0 : Int32), (0 : Int32), (0 : Int32), (0 : Int32), (0 : Int32))) hk))
      refine ⟨hT.1, hT.2.1, Or.inl ⟨h0, ?_⟩⟩
      rcases hT.2.2 with h | h
      · exact ⟨h.2.1, hx.1, hx.2, h.2.2.2.2⟩
      · rw [h0] at h; exact absurd h.1 (by decide)
    · exact a6 q (List.mem_of_getElem? e)
  · show (b.2.1.set k (stT (b.2.1.getD k (0, 0, 0, 0, 0)) x)).Pairwise (fun a b => a.1 < b.1)
    have e : (b.2.1.set k (stT (b.2.1.getD k (0, 0, 0, 0, 0)) x)).map Prod.fst = b.2.1.map Prod.fst := by
      apply List.ext_getElem?
      intro i
      rw [List.getElem?_map, List.getElem?_map]
      by_cases hi : i = k
      · subst hi
        rw [List.getElem?_set_self hk, getD_some (d := ((0 : Int32), (0 : Int32), (0 : Int32), (0 : Int32), (0 : Int32))) hk]
        rfl
      · rw [List.getElem?_set_ne (fun e => hi e.symm)]
    have p1 : (b.2.1.map Prod.fst).Pairwise (fun a b => a < b) := List.pairwise_map.mpr a7
    rw [← e] at p1
    exact List.pairwise_map.mp p1
theorem tuned_109 (k43 : Int32 → Int32 → Int32 → Int32 → Int32 → Int32 → zG → Option (Int32 × zG)) (y2 y3 y4 y5 y6 y7 y8 y9 : Int32) (g : zG) : f_X7_tuned_109 k43 y2 y3 y4 y5 y6 y7 y8 y9 g = k43 y2 y3 y7 y8 y9 (y7 + 1) g := by
  unfold f_X7_tuned_109 f_X7_tuned_114 f_X7_tuned_128 f_X7_tuned_142
  simp only [if_neg ne10]
theorem tuned_113 (k43 : Int32 → Int32 → Int32 → Int32 → Int32 → Int32 → zG → Option (Int32 × zG)) (y2 y3 y4 y5 y6 y7 y8 y9 : Int32) (g : zG) : f_X7_tuned_113 k43 y2 y3 y4 y5 y6 y7 y8 y9 g = k43 y2 y3 y4 y5 y6 (y7 + 1) g := by
  unfold f_X7_tuned_113 f_X7_tuned_114 f_X7_tuned_128 f_X7_tuned_142
  simp only [if_true]
theorem tuned_sim {gB gM gN : zG} {b : zB} (ok : okB b) {k : Nat} (hkl : k < b.2.1.length) (h0 : (b.2.1.getD k (0, 0, 0, 0, 0)).2.1 = 0) : ∀ (d j f1 f2 : Nat) (v v' : Int32) (gT gR gH g : zG) (be ma le : Int32), j + d = 100 → 1 ≤ j → d < f1 → d < f2 → chR gH be ma le → (ch2 gH be ma le ∨ j < 100) → rB gT (stB b k v) → rS (g 0) (stB b k v') → kb gN g →
    ∃ R R', f_X6_tuned_55 gM gB f1 (nI k) (nI j) gT gR gH = some R ∧ f_X7_tuned_43 f2 (nI k) (b.2.1.getD k (0, 0, 0, 0, 0)).2.2.2.1 be ma le (nI j) g = some R' ∧ R.1 = R'.1 ∧ kb gN R'.2 ∧ rS (R'.2 0) b := by
  have h8 := ok.2.1
  have e3 : ((19 : Int32) + (5 : Int32) * nI k) + (3 : Int32) = nI (19 + 5 * k + 3) := ofix k 3
  intro d
  induction d with
  | zero =>
    intro j f1 f2 v v' gT gR gH g be ma le hj h1 hf1 hf2 hc hx hT hS hkb
    obtain ⟨n1, rfl⟩ : ∃ n, f1 = n + 1 := ⟨f1 - 1, by omega⟩
    obtain ⟨n2, rfl⟩ : ∃ n, f2 = n + 1 := ⟨f2 - 1, by omega⟩
    have hj : j = 100 := by omega
    subst hj
    have hc2 : ch2 gH be ma le := by
      rcases hx with hx | hx
      · exact hx
      · omega
    obtain ⟨a0, a1, a2, a3⟩ := hc2
    show ∃ R R', f_X6_tuned_55_b gM gB (f_X6_tuned_55 gM gB n1) (nI k) (nI 100) gT gR gH = some R ∧ f_X7_tuned_43_b (f_X7_tuned_43 n2) (nI k) (b.2.1.getD k (0, 0, 0, 0, 0)).2.2.2.1 be ma le (nI 100) g = some R' ∧ _
    unfold f_X6_tuned_55_b f_X7_tuned_43_b
    rw [if_pos (show (99 : Int32) < nI 100 from by decide), if_pos (show (100 : Int32) ≤ nI 100 from by decide), a0, e3, zin_nI (by omega) (by decide), zlet_eq, nI_clamp (by omega)]
    refine ⟨_, _, rfl, rfl, rfl, ?_, ?_⟩
    · intro j a1 a2 a3 a4 a5 a6
      show (gup g 0 (19 + 5 * k + 3) (b.2.1.getD k (0, 0, 0, 0, 0)).2.2.2.1) j = gN j
      rw [gup_ne _ _ _ a1]
      exact hkb j a1 a2 a3 a4 a5 a6
    · show rS (gup g 0 (19 + 5 * k + 3) _ 0) b
      rw [gup_same]
      have := stB_m ok hkl hS (b.2.1.getD k (0, 0, 0, 0, 0)).2.2.2.1
      rw [stB_self hkl] at this
      exact this
  | succ d ih =>
    intro j f1 f2 v v' gT gR gH g be ma le hj h1 hf1 hf2 hc hx hT hS hkb
    obtain ⟨n1, rfl⟩ : ∃ n, f1 = n + 1 := ⟨f1 - 1, by omega⟩
    obtain ⟨n2, rfl⟩ : ∃ n, f2 = n + 1 := ⟨f2 - 1, by omega⟩
    have hj1 : (1 : Int32) ≤ nI j ∧ nI j ≤ (99 : Int32) := ⟨(nI_leI (a := 1) (by decide) (by omega)).mpr (by omega), (nI_leI (b := 99) (by omega) (by decide)).mpr (by omega)⟩
    have okm := stB_ok ok hkl h0 hj1
    have hT2 := stB_c hkl hT (nI j)
    obtain ⟨gR', gH', o1, o2⟩ := offerTrial_ev (gM := gM) (gR := gR) (x := nI j) hT2 okm hc (nI_pos (by omega))
    have hS2 : rS ((gup g 0 (19 + 5 * k + 3) (nI j)) 0) (stB b k (nI j)) := by rw [gup_same]; exact stB_m ok hkl hS (nI j)
    obtain ⟨g2, g3, c1, c2, c3, c4⟩ := meas_ev okm hS2
    have hS3 : rS (g3 0) (stB b k (nI j)) := by rw [kp_0 c4]; exact hS2
    have hk3 : kb gN g3 := fun i a1 a2 a3 a4 a5 a6 => by
      rw [c4 i a3 a4 a5 a6, gup_ne _ _ _ a1]
      exact hkb i a1 a2 a3 a4 a5 a6
    show ∃ R R', f_X6_tuned_55_b gM gB (f_X6_tuned_55 gM gB n1) (nI k) (nI j) gT gR gH = some R ∧ f_X7_tuned_43_b (f_X7_tuned_43 n2) (nI k) (b.2.1.getD k (0, 0, 0, 0, 0)).2.2.2.1 be ma le (nI j) g = some R' ∧ _
    unfold f_X6_tuned_55_b f_X7_tuned_43_b
    rw [if_neg (c := (99 : Int32) < nI j) (fun h => by have := (nI_ltI (a := 99) (by decide) (by omega)).mp h; omega), if_neg (c := (100 : Int32) ≤ nI j) (fun h => by have := (nI_leI (a := 100) (by decide) (by omega)).mp h; omega), e3, zin_nI (show k < 8 by omega) (by decide), zlet_eq, nI_clamp (show k < 2 ^ 31 by omega), o1, zbind_some, zin_nI (show 19 + 5 * k + 3 < 59 by omega) (by decide), zlet_eq, nI_clamp (show 19 + 5 * k + 3 < 2 ^ 31 by omega), c1, zbind_some, c2, zbind_some, c3, zbind_some, nIs]
    simp only [tuned_109, tuned_113, nIs]
    have yes : btr be ma le (nOn (stB b k (nI j))) (sprd (stB b k (nI j))) → ∃ R R', f_X6_tuned_55 gM gB n1 (nI k) (nI (j + 1)) (gup gT 6 k (nI j)) gR' gH' = some R ∧ f_X7_tuned_43 n2 (nI k) (b.2.1.getD k (0, 0, 0, 0, 0)).2.2.2.1 (nI j) (nOn (stB b k (nI j))) (sprd (stB b k (nI j))) (nI (j + 1)) g3 = some R' ∧ R.1 = R'.1 ∧ kb gN R'.2 ∧ rS (R'.2 0) b := by
      intro h
      rcases o2 with ⟨q1, q2⟩ | ⟨q1, q2⟩
      · exact ih (j + 1) n1 n2 (nI j) (nI j) _ _ _ _ _ _ _ (by omega) (by omega) (by omega) (by omega) (Or.inr q2) (Or.inl q2) hT2 hS3 hk3
      · exact absurd h q1
    have no : ¬ btr be ma le (nOn (stB b k (nI j))) (sprd (stB b k (nI j))) → ∃ R R', f_X6_tuned_55 gM gB n1 (nI k) (nI (j + 1)) (gup gT 6 k (nI j)) gR' gH' = some R ∧ f_X7_tuned_43 n2 (nI k) (b.2.1.getD k (0, 0, 0, 0, 0)).2.2.2.1 be ma le (nI (j + 1)) g3 = some R' ∧ R.1 = R'.1 ∧ kb gN R'.2 ∧ rS (R'.2 0) b := by
      intro h
      rcases o2 with ⟨q1, q2⟩ | ⟨q1, q2⟩
      · exact absurd q1 h
      · exact ih (j + 1) n1 n2 (nI j) (nI j) _ _ _ _ _ _ _ (by omega) (by omega) (by omega) (by omega) (Or.inr q2) (Or.inl q2) hT2 hS3 hk3
    by_cases d1 : be < 0
    · rw [if_pos d1]
      exact yes (Or.inl d1)
    · rw [if_neg d1]
      by_cases d2 : ma < nOn (stB b k (nI j))
      · rw [if_pos d2]
        exact yes (Or.inr (Or.inl d2))
      · rw [if_neg d2]
        by_cases d3 : nOn (stB b k (nI j)) = ma
        · rw [if_pos d3]
          by_cases d4 : le ≤ sprd (stB b k (nI j))
          · rw [if_pos d4]
            refine no ?_
            rintro (e | e | e)
            · exact d1 e
            · exact d2 e
            · exact e.2 d4
          · rw [if_neg d4]
            exact yes (Or.inr (Or.inr ⟨d3, d4⟩))
        · rw [if_neg d3]
          refine no ?_
          rintro (e | e | e)
          · exact d1 e
          · exact d2 e
          · exact d3 e.1
theorem pm_tuned {gB gX gY gN : zG} {h : Nat → Option zG} (hR : zRel gB gX gY h gN) (gM : zG) (gT : zG) (gR : zG) (gH : zG) (x1 : Int32) : ∃ R R', f_X6_tuned gM gB gT gR gH x1 = some R ∧ f_X7_tuned gN x1 = some R' ∧ R.1 = R'.1 ∧ zRel gB gX gY h R'.2 := by
  obtain ⟨b, hs, tx, hA⟩ := zRel_abs hR
  have hA0 := hA
  obtain ⟨h1, h2, h3, h4, h5, h6, h7, h8, h9⟩ := hA
  unfold f_X6_tuned f_X7_tuned f_X2_clear
  rw [indexOf_ev h3 h1.2.1, zbind_some, at_ev h4 h1.2.1, zbind_some]
  cases hf : fidx x1 b.2.1 with
  | none =>
    rw [show ix none (-1) = (-1 : Int32) from rfl, hasThing_no h3.2.1 h1.2.1 (lnum_m1 _), zbind_some, if_pos rfl, if_pos (show ix none NFO < 0 from by decide)]
    exact ⟨_, _, rfl, rfl, rfl, hR⟩
  | some k =>
    have hk := fidx_lt hf
    have hk8 := h1.2.1
    obtain ⟨m0, m1, m2, m3, m4⟩ := of_is h4 hk8 hk
    have hg := getD_some (d := ((0 : Int32), (0 : Int32), (0 : Int32), (0 : Int32), (0 : Int32))) hk
    obtain ⟨a1, a2, a3, a4, a5⟩ := h3.2.2.2.2 k _ hg
    have hT := h1.2.2.2.2.2.1 _ (List.mem_of_getElem? hg)
    rw [show ix (some k) (-1) = nI k from rfl, show ix (some k) NFO = nI k from rfl, hasThing_nI h3.2.1 hk8 (by omega), if_pos hk, zbind_some, if_neg ne10, if_neg (nI_pos (by omega)), zin_nI (by omega) (by decide), nI_clamp (by omega), a2, m1, zbind_some, m3, zbind_some]
    rcases hT.2.2 with hp | hp
    · rw [if_pos hp.1, if_neg (c := (b.2.1.getD k (0, 0, 0, 0, 0)).2.1 = 1) (by rw [hp.1]; decide), zlet_eq, zbind_some]
      obtain ⟨gT1, t1, t2⟩ := copyFrom_ev gT gB h3 h1.1 h1.2.1
      rw [t1, zbind_some]
      obtain ⟨R, R', c1, c2, c3, c4, c5⟩ := tuned_sim (gB := gB) (gM := gM) (gN := gN) h1 hk hp.1 99 1 zfuel zfuel _ _ gT1 gR (gup gH 1 0 (-1)) gN NFO 0 0 (by omega) (by omega) (by unfold zfuel; omega) (by unfold zfuel; omega) (Or.inl ⟨by simp [gup, upd], rfl⟩) (Or.inr (by omega)) (by rw [stB_self hk]; exact t2) (by rw [stB_self hk]; exact h4) (fun j _ _ _ _ _ _ => rfl)
      exact ⟨R, R', c1, c2, c3, zAbs_rel (kb_abs hA0 c4 c5)⟩
    · rw [if_neg (c := (b.2.1.getD k (0, 0, 0, 0, 0)).2.1 = 0) (by rw [hp.1]; decide), if_pos hp.1]
      exact ⟨_, _, rfl, rfl, rfl, hR⟩
