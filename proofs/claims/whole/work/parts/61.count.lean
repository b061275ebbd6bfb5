/-! ===== counts ===== -/
theorem bitc_ev {n m : Nat} (hn : n ≤ 8) (hm : m < 2 ^ n) : ∃ v, f_J6_bitCount_0f7a4 (nI m) = some v ∧ (v = nI n ↔ m = 2 ^ n - 1) := by
  have key : ∀ n : Fin 9, ∀ m : Fin 256, m.val < 2 ^ n.val → (f_J6_bitCount_0f7a4 (nI m.val) = some (nI n.val) ↔ m.val = 2 ^ n.val - 1) := by decide +kernel
  have h2 : 2 ^ n ≤ 2 ^ 8 := Nat.pow_le_pow_right (by decide) hn
  have k := key ⟨n, by omega⟩ ⟨m, by omega⟩ hm
  obtain ⟨v, hv⟩ : ∃ v, f_J6_bitCount_0f7a4 (nI m) = some v := ⟨_, rfl⟩
  refine ⟨v, hv, ?_⟩
  simp only at k
  rw [hv] at k
  exact ⟨fun e => k.mp (by rw [e]), fun e => Option.some.inj (k.mpr e)⟩
theorem setB_full {p : zL → Bool} : ∀ {ls : List zL}, setB p ls = 2 ^ ls.length - 1 → ∀ q ∈ ls, p q = true := by
  intro ls
  induction ls with
  | nil => intro _ q h; cases h
  | cons x r ih =>
    intro h q hq
    have h1 := setB_lt p r
    unfold setB at h
    rw [List.length_cons, Nat.pow_succ] at h
    rcases bool_tf (p x) with hx | hx
    · rw [hx, if_pos rfl] at h
      rcases List.mem_cons.mp hq with rfl | hq
      · exact hx
      · exact ih (by omega) q hq
    · rw [hx, if_neg (by decide)] at h
      omega
def jn (b : zB) : Bool := decide ((dc b).length = 1) && decide (setB (cm b) b.1 = 2 ^ b.1.length - 1)
theorem jn_t {b : zB} : jn b = true ↔ (dc b).length = 1 ∧ setB (cm b) b.1 = 2 ^ b.1.length - 1 := by
  unfold jn
  rw [Bool.and_eq_true, decide_eq_true_iff, decide_eq_true_iff]
theorem jn_f {b : zB} (h : ¬ ((dc b).length = 1 ∧ setB (cm b) b.1 = 2 ^ b.1.length - 1)) : jn b = false := by
  rcases bool_tf (jn b) with e | e
  · exact absurd (jn_t.mp e) h
  · exact e
theorem joinC_ev {gB gR gM : zG} {b : zB} (hB : rB gB b) (ok : okB b) (hr : rayC gR b) (g : zG) : ∃ g', f_X6_lightIsJoined gM gB gR g = some (if jn b then 1 else 0, g') := by
  have hn := ok.1
  obtain ⟨g', c1, c2⟩ := gather_ev hB ok hr g
  obtain ⟨d1, d2, d3⟩ := dc_D b
  unfold f_X6_lightIsJoined
  rw [c1, zbind_some, c2.1]
  refine ⟨g', ?_⟩
  by_cases h1 : (dc b).length = 1
  · rw [h1, if_pos (show nI 1 = (1 : Int32) from rfl), linesOn_ev ok hr, zbind_some]
    obtain ⟨v, v1, v2⟩ := bitc_ev hn (setB_lt (cm b) b.1)
    rw [v1, zbind_some, hB.1]
    by_cases h2 : setB (cm b) b.1 = 2 ^ b.1.length - 1
    · rw [if_pos (v2.mpr h2), jn_t.mpr ⟨h1, h2⟩, if_pos rfl]
    · rw [if_neg (fun e => h2 (v2.mp e)), jn_f (fun h => h2 h.2), if_neg (by decide)]
  · rw [if_neg (c := nI (dc b).length = (1 : Int32)) (fun e => h1 ((nI_eq (a := (dc b).length) (b := 1) (by omega) (by decide)).mp e)), jn_f (fun h => h1 h.1), if_neg (by decide)]
theorem dc_nil {b : zB} (h : b.1.length = 0) : (dc b).length = 0 := by
  have := (dc_D b).2.1
  omega
theorem joinM_ev {b : zB} (ok : okB b) {g : zG} (hS : rS (g 0) b) : ∃ g', f_X7_isJoined g = some (if jn b then 1 else 0, g') ∧ kq g g' := by
  have hn := ok.1
  obtain ⟨d1, d2, d3⟩ := dc_D b
  unfold f_X7_isJoined
  rw [z0 (by decide) (by decide), tn0, hS.1]
  by_cases h0 : b.1.length = 0
  · rw [if_pos (by rw [h0]; exact Int32.le_refl _), jn_f (fun h => by have := dc_nil h0; omega), if_neg (by decide)]
    exact ⟨g, rfl, kq_rf g⟩
  · obtain ⟨g1, c1, c2⟩ := coming_s ok hS
    have hS1 : rS (g1 0) b := by rw [kp_0 c2]; exact hS
    rw [if_neg (nI_nle (by omega) (by omega)), c1, zbind_some, allLines_ev ok hS1, zbind_some, setB_all]
    have h256 := setB_256 (cm b) hn
    have h2p : 2 ^ b.1.length ≤ 2 ^ 8 := Nat.pow_le_pow_right (by decide) hn
    by_cases h2 : setB (cm b) b.1 = 2 ^ b.1.length - 1
    · rw [if_pos (congrArg nI h2)]
      obtain ⟨g2, e1, e2, e3⟩ := lays_ev ok hS1
      rw [e1, zbind_some]
      refine ⟨g2, ?_, kq_tr (kq_of c2) e3⟩
      by_cases h1 : (dc b).length = 1
      · rw [h1, if_pos (show nI 1 = (1 : Int32) from rfl), jn_t.mpr ⟨h1, h2⟩, if_pos rfl]
      · show (if nI (dc b).length = (1 : Int32) then some ((1 : Int32), g2) else some ((0 : Int32), g2)) = _
        rw [if_neg (c := nI (dc b).length = (1 : Int32)) (fun e => h1 ((nI_eq (a := (dc b).length) (b := 1) (by omega) (by decide)).mp e)), jn_f (fun h => h1 h.1), if_neg (by decide)]
    · rw [if_neg (fun e => h2 ((nI_eq (by omega) (by omega)).mp e)), jn_f (fun h => h2 h.2), if_neg (by decide)]
      exact ⟨g1, rfl, kq_of c2⟩
/-- all lines have one slope -/
def sls (b : zB) (s : Int32) : List zL → Bool
  | [] => true
  | q :: r => decide ((zE b q).2.2.1 = s) && sls b s r
theorem slC_loop {gR : zG} {b : zB} (ok : okB b) (hr : rayC gR b) (hc : ∀ q ∈ b.1, cm b q = true) {s : Int32} (hs : gR 1 0 = s) : ∀ (r : List zL) (i fuel : Nat), b.1.drop i = r → i ≤ b.1.length → r.length < fuel → f_X4_slopesAreSame_2 gR fuel (nI i) = some (if sls b s r then 1 else 0) := by
  have hn := ok.1
  intro r
  induction r with
  | nil =>
    intro i fuel hd hi hf
    obtain ⟨n, rfl⟩ : ∃ n, fuel = n + 1 := ⟨fuel - 1, by omega⟩
    have hi2 : b.1.length ≤ i := List.drop_eq_nil_iff.mp hd
    show f_X4_slopesAreSame_2_b gR (f_X4_slopesAreSame_2 gR n) (nI i) = _
    unfold f_X4_slopesAreSame_2_b
    rw [has_nI hr.2 hn (by omega), if_neg (c := i < b.1.length) (by omega), zbind_some, if_pos rfl]
    split <;> rfl
  | cons q r ih =>
    intro i fuel hd hi hf
    obtain ⟨n, rfl⟩ : ∃ n, fuel = n + 1 := ⟨fuel - 1, by omega⟩
    obtain ⟨e1, e2, e3⟩ := drop_cons hd
    rw [List.length_cons] at hf
    have e : sls b s (q :: r) = (decide ((zE b q).2.2.1 = s) && sls b s r) := rfl
    show f_X4_slopesAreSame_2_b gR (f_X4_slopesAreSame_2 gR n) (nI i) = _
    unfold f_X4_slopesAreSame_2_b
    rw [if_neg (c := (8 : Int32) ≤ nI i) (by rw [l8 (by omega)]; omega), has_nI hr.2 hn (by omega), if_pos e1, zbind_some, if_neg ne10, zin_nI (by omega) (by decide), z0 (by decide) (by decide), tn0, nI_clamp (by omega), ((ray_at hr e2).2.2 (hc q (List.mem_of_getElem? e2))).2, hs, nIs, e]
    by_cases h : (zE b q).2.2.1 = s
    · rw [if_pos h, decide_eq_true h, Bool.true_and]
      exact ih (i + 1) n e3 (by omega) (by omega)
    · rw [if_neg h, decide_eq_false h, Bool.false_and, if_neg (by decide)]
theorem slM_loop {b : zB} (ok : okB b) (s : Int32) : ∀ (r : List zL) (i fuel : Nat) (a : Bool) (g : zG), rS (g 0) b → b.1.drop i = r → i ≤ b.1.length → r.length < fuel → ∃ g', f_X7_isAsItWas_20 fuel s (if a then 1 else 0) (nI i) g = some (if a && sls b s r then 1 else 0, g') ∧ kp g g' := by
  have hn := ok.1
  intro r
  induction r with
  | nil =>
    intro i fuel a g hS hd hi hf
    obtain ⟨n, rfl⟩ : ∃ n, fuel = n + 1 := ⟨fuel - 1, by omega⟩
    have hi2 : b.1.length ≤ i := List.drop_eq_nil_iff.mp hd
    refine ⟨g, ?_, kp_rf g⟩
    show f_X7_isAsItWas_20_b (f_X7_isAsItWas_20 n) s (if a then 1 else 0) (nI i) g = _
    unfold f_X7_isAsItWas_20_b
    rw [z0 (by decide) (by decide), tn0, hS.1, if_pos ((nI_leI (by omega) (by omega)).mpr hi2)]
    cases a
    · rw [if_neg (by decide), zbl_0]; rfl
    · rw [if_pos rfl, zbl_1]; rfl
  | cons q r ih =>
    intro i fuel a g hS hd hi hf
    obtain ⟨n, rfl⟩ : ∃ n, fuel = n + 1 := ⟨fuel - 1, by omega⟩
    obtain ⟨e1, e2, e3⟩ := drop_cons hd
    rw [List.length_cons] at hf
    obtain ⟨g1, k1, k2⟩ := follows_ev hS ok e2 (u := 1000) (by decide)
    have hS1 : rS (g1 0) b := by rw [kp_0 k2.1]; exact hS
    have e : sls b s (q :: r) = (decide ((zE b q).2.2.1 = s) && sls b s r) := rfl
    have key : ∀ a' : Bool, a' = (a && decide ((zE b q).2.2.1 = s)) → ∃ g', f_X7_isAsItWas_20 n s (if a' then 1 else 0) (nI (i + 1)) g1 = some (if a && sls b s (q :: r) then 1 else 0, g') ∧ kp g g' := by
      intro a' ha
      obtain ⟨g', j1, j2⟩ := ih (i + 1) n a' g1 hS1 e3 (by omega) (by omega)
      refine ⟨g', ?_, kp_tr k2.1 j2⟩
      rw [j1, ha, e, Bool.and_assoc]
    show ∃ g', f_X7_isAsItWas_20_b (f_X7_isAsItWas_20 n) s (if a then 1 else 0) (nI i) g = _ ∧ _
    unfold f_X7_isAsItWas_20_b
    have ez : pth q.1 b.2.1 1000 = zE b q := rfl
    have k10 := k2.2.2.2.1
    rw [ez] at k10
    rw [z0 (by decide) (by decide), tn0, hS.1, if_neg (fun q => by have := (nI_leI (by omega) (by omega)).mp q; omega), k1, zbind_some, nIs, k10]
    cases a with
    | false =>
      rw [if_pos (show (if (false : Bool) = true then (1 : Int32) else 0) = 0 from rfl)]
      exact key false (by simp)
    | true =>
      rw [if_pos rfl, if_neg ne10]
      by_cases h : (zE b q).2.2.1 = s
      · rw [if_pos h]
        exact key true (by simp [h])
      · rw [if_neg h]
        exact key false (by simp [h])
theorem floor_tot (v : Int32) : ∃ y, f_X7_floor v (1000 : Int32) = some y := by
  unfold f_X7_floor
  rw [zne_ok (by decide), zne_ok (by decide)]
  split
  · exact ⟨_, rfl⟩
  · exact ⟨_, rfl⟩
theorem goes_tot (g : zG) (u : Int32) : ∃ g', f_X7_goes g u = some g' ∧ kp g g' := by
  unfold f_X7_goes
  obtain ⟨y, hy⟩ := floor_tot (g 10 0 * (u - g 8 0))
  rw [hy, zbind_some, zlet_eq, zlet_eq, in_ev, zbind_some, ite_1, zlet_eq, zlet_eq]
  split
  · exact ⟨_, rfl, fun j a b c d => by rw [gup_ne _ _ _ d, gup_ne _ _ _ a, gup_ne _ _ _ b]⟩
  · exact ⟨_, rfl, fun j a b c d => by rw [gup_ne _ _ _ d, gup_ne _ _ _ a, gup_ne _ _ _ b]⟩
theorem bends_tot (gl c : Int32) : ∃ y, f_X7_bends gl c = some y := by
  unfold f_X7_bends
  split
  · exact ⟨_, rfl⟩
  · exact ⟨_, rfl⟩
theorem follows_tot_loop {b : zB} (ok : okB b) (u : Int32) : ∀ (d i fuel : Nat) (g : zG), rS (g 0) b → i + d = b.2.1.length → d < fuel → ∃ g', f_X7_follows_22 fuel (0 : Int32) u (nI i) g = some g' ∧ kp g g' := by
  have h8 := ok.2.1
  have fin : ∀ g : zG, ∃ g', f_X7_follows_162 u g = some g' ∧ kp g g' := by
    intro g
    unfold f_X7_follows_162
    obtain ⟨g', e1, e2⟩ := goes_tot g u
    split
    · rw [e1, zbind_some]; exact ⟨g', rfl, e2⟩
    · exact ⟨g, rfl, kp_rf g⟩
  intro d
  induction d with
  | zero =>
    intro i fuel g hS hi hf
    obtain ⟨n, rfl⟩ : ∃ n, fuel = n + 1 := ⟨fuel - 1, by omega⟩
    show ∃ g', f_X7_follows_22_b (f_X7_follows_22 n) 0 u (nI i) g = some g' ∧ _
    unfold f_X7_follows_22_b
    rw [z1 (by decide) (by decide), tn1, hS.2.1, if_pos ((nI_leI (by omega) (by omega)).mpr (by omega))]
    exact fin g
  | succ d ih =>
    intro i fuel g hS hi hf
    obtain ⟨n, rfl⟩ : ∃ n, fuel = n + 1 := ⟨fuel - 1, by omega⟩
    have hil : i < b.2.1.length := by omega
    show ∃ g', f_X7_follows_22_b (f_X7_follows_22 n) 0 u (nI i) g = some g' ∧ _
    unfold f_X7_follows_22_b
    rw [z1 (by decide) (by decide), tn1, hS.2.1, if_neg (fun q => by have := (nI_leI (by omega) (by omega)).mp q; omega), nIs]
    have key : ∀ g1 : zG, kp g g1 → ∃ g', f_X7_follows_22 n (0 : Int32) u (nI (i + 1)) g1 = some g' ∧ kp g g' := by
      intro g1 h
      obtain ⟨g', j1, j2⟩ := ih (i + 1) n g1 (by rw [kp_0 h]; exact hS) (by omega) (by omega)
      exact ⟨g', j1, kp_tr h j2⟩
    have k118 : ∀ g1 : zG, kp g g1 → ∃ g', f_X7_follows_118 (f_X7_follows_22 n) (0 : Int32) u (nI i) g1 = some g' ∧ kp g g' := by
      intro g1 h
      have hS1 : rS (g1 0) b := by rw [kp_0 h]; exact hS
      obtain ⟨m0, m1, m2, m3, m4⟩ := of_is hS1 h8 hil
      unfold f_X7_follows_118
      rw [m2, zbind_some, m3, zbind_some, in_ev, zbind_some, ite_1, zlet_eq, zlet_eq, nIs]
      split
      · split
        · exact key _ (kp_tr h (fun j a b c d => gup_ne _ _ _ d))
        · exact key _ (kp_tr h (fun j a b c d => gup_ne _ _ _ d))
      · exact key _ h
    obtain ⟨m0, m1, m2, m3, m4⟩ := of_is hS h8 hil
    by_cases hy : g 11 0 = 0
    · rw [if_pos hy, m0, zbind_some]
      by_cases hu : u ≤ (b.2.1.getD i (0, 0, 0, 0, 0)).1
      · rw [if_pos hu]
        exact fin g
      · rw [if_neg hu, zbind_some]
        obtain ⟨g1, e1, e2⟩ := goes_tot g (b.2.1.getD i (0, 0, 0, 0, 0)).1
        have hS1 : rS (g1 0) b := by rw [kp_0 e2]; exact hS
        obtain ⟨o0, o1, o2, o3, o4⟩ := of_is hS1 h8 hil
        rw [e1, zbind_some]
        by_cases hy1 : g1 11 0 = 0
        · rw [if_pos hy1, o1, zbind_some]
          by_cases hk : (b.2.1.getD i (0, 0, 0, 0, 0)).2.1 = 0
          · have ec : ∃ c, f_X7_colour g1 (0 : Int32) = some c := by
              unfold f_X7_colour
              rw [show (3 : Int32) + (2 : Int32) * 0 = nI 3 from by decide, zin_nI (by decide) (by decide)]
              exact ⟨_, rfl⟩
            obtain ⟨c, hc⟩ := ec
            obtain ⟨y, hy⟩ := bends_tot (b.2.1.getD i (0, 0, 0, 0, 0)).2.2.1 c
            rw [if_pos hk, o4, zbind_some, o3, zbind_some, o2, zbind_some, hc, zbind_some, hy, zbind_some, zlet_eq]
            exact key _ (kp_tr e2 (fun j a b c d => gup_ne _ _ _ c))
          · rw [if_neg hk]
            exact k118 _ e2
        · rw [if_neg hy1]
          exact k118 _ e2
    · rw [if_neg hy]
      exact fin g
theorem follows_tot {b : zB} (ok : okB b) {g : zG} (hS : rS (g 0) b) (u : Int32) : ∃ g', f_X7_follows g (0 : Int32) u = some g' ∧ kp g g' := by
  unfold f_X7_follows
  simp only [zlet_eq]
  have k0 : kp g (gup (gup (gup (gup g 8 0 0) 9 0 0) 10 0 0) 11 0 0) := fun j a b c d => by
    rw [gup_ne _ _ _ d, gup_ne _ _ _ c, gup_ne _ _ _ b, gup_ne _ _ _ a]
  have h8 := ok.2.1
  obtain ⟨g', j1, j2⟩ := follows_tot_loop ok u b.2.1.length 0 zfuel (gup (gup (gup (gup g 8 0 0) 9 0 0) 10 0 0) 11 0 0) (by rw [kp_0 k0]; exact hS) (by omega) (by unfold zfuel; omega)
  exact ⟨g', j1, kp_tr k0 j2⟩
/-- is the light as it was -/
def asw (b : zB) : Bool := jn b && sls b (match b.1 with | [] => 0 | q :: _ => (zE b q).2.2.1) b.1
theorem aswM_ev {b : zB} (ok : okB b) {g : zG} (hS : rS (g 0) b) : ∃ g', f_X7_isAsItWas g = some (if asw b then 1 else 0, g') ∧ kq g g' := by
  have hn := ok.1
  have e0 : ∃ g', f_X7_follows g (0 : Int32) (1000 : Int32) = some g' ∧ kp g g' ∧ (∀ q r, b.1 = q :: r → g' 10 0 = (zE b q).2.2.1) := by
    cases hl : b.1 with
    | nil =>
      obtain ⟨g', h1, h2⟩ := follows_tot ok hS 1000
      exact ⟨g', h1, h2, fun q r h => by cases h⟩
    | cons q r =>
      obtain ⟨g', h1, h2⟩ := follows_ev hS ok (l := 0) (q := q) (by rw [hl]; rfl) (u := 1000) (by decide)
      refine ⟨g', h1, h2.1, fun q' r' h => ?_⟩
      cases h
      exact h2.2.2.2.1
  obtain ⟨g1, k1, k2, k3⟩ := e0
  have hS1 : rS (g1 0) b := by rw [kp_0 k2]; exact hS
  obtain ⟨g2, j1, j2⟩ := joinM_ev ok hS1
  have hS2 : rS (g2 0) b := by rw [kq_0 j2]; exact hS1
  unfold f_X7_isAsItWas
  rw [k1, zbind_some, j1, zbind_some]
  obtain ⟨g3, l1, l2⟩ := slM_loop ok (g1 10 0) b.1 0 zfuel (jn b) g2 hS2 rfl (Nat.zero_le _) (by unfold zfuel; omega)
  have l1 : f_X7_isAsItWas_20 zfuel (g1 10 0) (if jn b then 1 else 0) (0 : Int32) g2 = _ := l1
  refine ⟨g3, ?_, kq_tr (kq_of k2) (kq_tr j2 (kq_of l2))⟩
  rw [l1]
  unfold asw
  cases hl : b.1 with
  | nil => rfl
  | cons q r => rw [k3 q r hl]
/-! the light lost at things -/
def loT (b : zB) : List zTh → zL → Int32
  | [], _ => 0
  | t :: r, q => lo b t.1 q + loT b r q
theorem lostT_loop {b : zB} (ok : okB b) : ∀ (r : List zTh) (i fuel : Nat) (a : Int32) (g : zG), rS (g 0) b → b.2.1.drop i = r → i ≤ b.2.1.length → r.length < fuel → ∃ g', f_X7_lostAtThings_4 fuel a (nI i) g = some (a + sm (loT b r) b.1, g') ∧ kp g g' := by
  have h8 := ok.2.1
  intro r
  induction r with
  | nil =>
    intro i fuel a g hS hd hi hf
    obtain ⟨n, rfl⟩ : ∃ n, fuel = n + 1 := ⟨fuel - 1, by omega⟩
    have hi2 : b.2.1.length ≤ i := List.drop_eq_nil_iff.mp hd
    refine ⟨g, ?_, kp_rf g⟩
    show f_X7_lostAtThings_4_b (f_X7_lostAtThings_4 n) a (nI i) g = _
    unfold f_X7_lostAtThings_4_b
    rw [z1 (by decide) (by decide), tn1, hS.2.1, if_pos ((nI_leI (by omega) (by omega)).mpr hi2), sm_none (f := loT b []) (fun q _ => rfl), Int32.add_zero]
  | cons t r ih =>
    intro i fuel a g hS hd hi hf
    obtain ⟨n, rfl⟩ : ∃ n, fuel = n + 1 := ⟨fuel - 1, by omega⟩
    obtain ⟨e1, e2, e3⟩ := drop_cons hd
    rw [List.length_cons] at hf
    obtain ⟨g1, k1, k2⟩ := lostM_ev ok t.1 hS
    have hS1 : rS (g1 0) b := by rw [kp_0 k2]; exact hS
    obtain ⟨g', j1, j2⟩ := ih (i + 1) n (a + sm (lo b t.1) b.1) g1 hS1 e3 (by omega) (by omega)
    show ∃ g', f_X7_lostAtThings_4_b (f_X7_lostAtThings_4 n) a (nI i) g = _ ∧ _
    unfold f_X7_lostAtThings_4_b
    rw [z1 (by decide) (by decide), tn1, hS.2.1, if_neg (fun q => by have := (nI_leI (by omega) (by omega)).mp q; omega), of_ev0 (by omega), zbind_some, (hS.2.2.2.2 i t e2).1, k1, zbind_some, nIs, j1]
    refine ⟨g', ?_, kp_tr k2 j2⟩
    have : sm (loT b (t :: r)) b.1 = sm (lo b t.1) b.1 + sm (loT b r) b.1 := sm_add (lo b t.1) (loT b r) b.1
    rw [this, Int32.add_assoc]
theorem lostT_ev {b : zB} (ok : okB b) {g : zG} (hS : rS (g 0) b) : ∃ g', f_X7_lostAtThings g = some (sm (loT b b.2.1) b.1, g') ∧ kp g g' := by
  unfold f_X7_lostAtThings
  have h8 := ok.2.1
  have := lostT_loop ok b.2.1 0 zfuel 0 g hS rfl (Nat.zero_le _) (by unfold zfuel; omega)
  rw [Int32.zero_add] at this
  exact this
theorem path_at (c : Int32) : ∀ (th : List zTh) (p h sl : Int32), (path c 1000 th p h sl).1 = 1000 ∨ ∃ t ∈ th, (path c 1000 th p h sl).1 = t.1 := by
  intro th
  induction th with
  | nil => intro p h sl; exact Or.inl rfl
  | cons t r ih =>
    intro p h sl
    have up : ∀ x : zPt, (x.1 = 1000 ∨ ∃ t ∈ r, x.1 = t.1) → (x.1 = 1000 ∨ ∃ q ∈ t :: r, x.1 = q.1) := by
      intro x hx
      rcases hx with hx | ⟨q, hq, e⟩
      · exact Or.inl hx
      · exact Or.inr ⟨q, List.mem_cons_of_mem _ hq, e⟩
    rw [path_cons]
    split
    · exact Or.inl rfl
    · split
      · split
        · exact up _ (ih _ _ _)
        · split
          · exact up _ (ih _ _ _)
          · exact Or.inr ⟨t, List.mem_cons_self, rfl⟩
      · exact Or.inr ⟨t, List.mem_cons_self, rfl⟩
theorem loT_none {b : zB} {q : zL} : ∀ {r : List zTh}, (∀ t ∈ r, ¬ (zE b q).1 = t.1) → loT b r q = 0 := by
  intro r
  induction r with
  | nil => intro _; rfl
  | cons t r ih =>
    intro h
    show lo b t.1 q + loT b r q = 0
    rw [ih (fun x hx => h x (List.mem_cons_of_mem _ hx))]
    unfold lo
    rw [if_neg (fun e => h t List.mem_cons_self e.2)]
    rfl
theorem loT_come {b : zB} {q : zL} (hq : (zE b q).2.2.2 = 0) : ∀ r : List zTh, loT b r q = 0 := by
  intro r
  induction r with
  | nil => rfl
  | cons t r ih =>
    show lo b t.1 q + loT b r q = 0
    rw [ih]
    unfold lo
    rw [if_neg (fun e => e.1 hq)]
    rfl
theorem loT_one {b : zB} {q : zL} (hq : ¬ (zE b q).2.2.2 = 0) : ∀ {r : List zTh}, r.Pairwise (fun a b => a.1 < b.1) → (∃ t ∈ r, (zE b q).1 = t.1) → loT b r q = q.2 := by
  intro r
  induction r with
  | nil => intro _ h; obtain ⟨t, ht, _⟩ := h; cases ht
  | cons t r ih =>
    intro hp h
    rw [List.pairwise_cons] at hp
    show lo b t.1 q + loT b r q = q.2
    by_cases e : (zE b q).1 = t.1
    · rw [loT_none (fun x hx e2 => by
        have := hp.1 x hx
        rw [← e2, e] at this
        exact absurd this (by rw [inlt]; exact Int32.le_refl _))]
      unfold lo
      rw [if_pos ⟨hq, e⟩, Int32.add_zero]
    · obtain ⟨x, hx, ex⟩ := h
      rcases List.mem_cons.mp hx with rfl | hx
      · exact absurd ex e
      · rw [ih hp.2 ⟨x, hx, ex⟩]
        unfold lo
        rw [if_neg (fun h => e h.2), Int32.zero_add]
theorem all_parts {b : zB} (ok : okB b) : sm (fun q => q.2) b.1 - sm (fun q => if cm b q then q.2 else 0) b.1 - sm (lo b 1000) b.1 = sm (loT b b.2.1) b.1 := by
  have e : sm (fun q => q.2) b.1 = (sm (fun q => if cm b q then q.2 else 0) b.1 + sm (lo b 1000) b.1) + sm (loT b b.2.1) b.1 := by
    rw [← sm_add, ← sm_add]
    refine sm_congr (fun q _ => ?_)
    rcases bool_tf (cm b q) with hc | hc
    · have hz := cm_t.mp hc
      rw [loT_come hz, hc, if_pos rfl]
      unfold lo
      rw [if_neg (fun h => h.1 hz), Int32.add_zero, Int32.add_zero]
    · have hz := cm_f.mp hc
      rw [hc, if_neg (by decide), Int32.zero_add]
      by_cases h1 : (zE b q).1 = 1000
      · rw [loT_none (fun t ht e => by
          have := (ok.2.2.2.2.2.1 t ht).2.1
          rw [← e, h1] at this
          exact absurd this (by decide))]
        unfold lo
        rw [if_pos ⟨hz, h1⟩, Int32.add_zero]
      · have hx : ∃ t ∈ b.2.1, (zE b q).1 = t.1 := by
          rcases path_at q.1 b.2.1 0 0 0 with h | h
          · exact absurd h h1
          · exact h
        rw [loT_one hz ok.2.2.2.2.2.2 hx]
        unfold lo
        rw [if_neg (fun h => h1 h.2), Int32.zero_add]
  rw [e]
  generalize sm (fun q => if cm b q then q.2 else 0) b.1 = x
  generalize sm (lo b 1000) b.1 = y
  generalize sm (loT b b.2.1) b.1 = z
  rw [Int32.sub_eq_add_neg, Int32.sub_eq_add_neg]
  have h1 : x + y + z + -x + -y = z + (x + -x) + (y + -y) := by ac_rfl
  rw [h1, Int32.add_right_neg, Int32.add_right_neg, Int32.add_zero, Int32.add_zero]
theorem pm_count {gB gX gY gN : zG} {h : Nat → Option zG} (hR : zRel gB gX gY h gN) (gM : zG) (gR : zG) (gC0 : zG) (x1 : Int32) : ∃ R R', f_X6_count gM gB gR gC0 gX gY x1 = some R ∧ f_X7_count gN x1 = some R' ∧ R.1 = R'.1 ∧ zRel gB gX gY h R'.2 := by
  obtain ⟨b, hs, tx, hA⟩ := zRel_abs hR
  have hA0 := hA
  obtain ⟨h1, h2, h3, h4, h5, h6, h7, h8, h9⟩ := hA
  have hn := h1.1
  obtain ⟨gR', r1, r2⟩ := ray_follow h3 h1 gR
  have fin : ∀ (y : Int32) (a c g : zG), zRel gB gX gY h g → ∃ R R', (some (y, a, c) : Option (Int32 × zG × zG)) = some R ∧ (some (y, g) : Option (Int32 × zG)) = some R' ∧ R.1 = R'.1 ∧ zRel gB gX gY h R'.2 := fun y a c g hz => ⟨_, _, rfl, rfl, rfl, hz⟩
  unfold f_X6_count f_X7_count f_X6_countOfRays
  by_cases e0 : x1 = 0
  · subst e0
    rw [if_pos rfl, if_pos rfl, z0 (by decide) (by decide), tn0, h3.1, h4.1]
    exact fin _ _ _ _ hR
  by_cases e1 : x1 = 1
  · subst e1
    rw [if_neg (by decide), if_pos rfl, if_neg (by decide), if_pos rfl, z1 (by decide) (by decide), tn1, h3.2.1, h4.2.1]
    exact fin _ _ _ _ hR
  rw [if_neg e0, if_neg e1, if_neg e0, if_neg e1]
  by_cases e6 : x1 = 6
  · subst e6
    rw [if_pos rfl, lightAll_ev h3 h1, zbind_some, if_neg (by decide), if_neg (by decide), if_neg (by decide), if_neg (by decide), if_pos rfl, allLines_ev h1 h4, zbind_some, lightAllM_ev h1 h4, zbind_some]
    exact fin _ _ _ _ hR
  rw [if_neg e6]
  by_cases e11 : x1 = 11
  · subst e11
    rw [if_pos rfl, h5.2.1]
    repeat rw [if_neg (by decide)]
    rw [if_pos rfl, h6.1]
    exact fin _ _ _ _ hR
  rw [if_neg e11]
  by_cases e12 : x1 = 12
  · subst e12
    rw [if_pos rfl, h8.2.1]
    repeat rw [if_neg (by decide)]
    rw [if_pos rfl, h9.1]
    exact fin _ _ _ _ hR
  rw [if_neg e12]
  by_cases e20 : x1 = 20
  · subst e20
    rw [if_pos rfl, h3.2.2.1]
    repeat rw [if_neg (by decide)]
    rw [if_pos rfl, z2 (by decide) (by decide), tn2, h4.2.2.1]
    exact fin _ _ _ _ hR
  rw [if_neg e20, r1, zbind_some]
  by_cases e2 : x1 = 2
  · subst e2
    obtain ⟨g', c1, c2⟩ := coming_s h1 h4
    rw [if_pos rfl, linesOn_ev h1 r2, zbind_some, zbind_some, if_pos rfl, c1, zbind_some]
    exact fin _ _ _ _ (zAbs_rel (kp_abs hA0 c2))
  rw [if_neg e2]
  by_cases e3 : x1 = 3
  · subst e3
    obtain ⟨g', c1, c2⟩ := spM_ev h1 h4
    rw [if_pos rfl, spC_ev h1 r2, zbind_some, zbind_some, if_neg (by decide), if_pos rfl, c1, zbind_some]
    exact fin _ _ _ _ (zAbs_rel (kp_abs hA0 c2))
  rw [if_neg e3]
  by_cases e4 : x1 = 4
  · subst e4
    obtain ⟨g', c1, c2⟩ := joinM_ev h1 h4
    obtain ⟨gC', k1⟩ := joinC_ev (gM := gM) h3 h1 r2 gC0
    have hz := zAbs_rel (kq_abs hA0 c2)
    unfold f_X6_oneIf
    rcases bool_tf (jn b) with hj | hj
    · rw [hj, if_pos rfl] at k1 c1
      rw [if_pos rfl, k1, zbind_some]
      dsimp only
      rw [if_neg ne10, zbind_some, zbind_some, if_neg (by decide), if_neg (by decide), if_pos rfl, c1, zbind_some]
      exact fin 1 _ _ _ hz
    · rw [hj, if_neg (by decide)] at k1 c1
      rw [if_pos rfl, k1, zbind_some]
      dsimp only
      rw [if_pos rfl, zbind_some, zbind_some, if_neg (by decide), if_neg (by decide), if_pos rfl, c1, zbind_some]
      exact fin 0 _ _ _ hz
  rw [if_neg e4]
  by_cases e5 : x1 = 5
  · subst e5
    obtain ⟨g', c1, c2⟩ := aswM_ev h1 h4
    obtain ⟨gC', k1⟩ := joinC_ev (gM := gM) h3 h1 r2 gC0
    have hz := zAbs_rel (kq_abs hA0 c2)
    unfold f_X6_oneIf
    rcases bool_tf (jn b) with hj | hj
    · have hfull := setB_full (jn_t.mp hj).2
      have es : f_X4_slopesAreSame gR' = some (if asw b then 1 else 0) := by
        unfold f_X4_slopesAreSame asw
        rw [hj, Bool.true_and]
        cases hl : b.1 with
        | nil =>
          have := (jn_t.mp hj).1
          have h0 := dc_nil (b := b) (by rw [hl]; rfl)
          omega
        | cons q r =>
          have hq0 : b.1[0]? = some q := by rw [hl]; rfl
          have s0 := ((ray_at r2 hq0).2.2 (hfull q (List.mem_of_getElem? hq0))).2
          have := slC_loop h1 r2 hfull s0 r 1 zfuel (by rw [hl]; rfl) (by rw [hl]; simp) (by rw [hl] at hn; simp at hn; unfold zfuel; omega)
          have this : f_X4_slopesAreSame_2 gR' zfuel (1 : Int32) = _ := this
          rw [this]
          have e : sls b (zE b q).2.2.1 (q :: r) = (decide ((zE b q).2.2.1 = (zE b q).2.2.1) && sls b (zE b q).2.2.1 r) := rfl
          simp only [e, decide_true, Bool.true_and]
      rw [hj, if_pos rfl] at k1
      rw [if_pos rfl, k1, zbind_some]
      dsimp only
      rw [if_neg ne10, es, zbind_some]
      rcases bool_tf (asw b) with ha | ha
      · rw [ha, if_pos rfl] at c1
        rw [ha, if_pos rfl, if_neg ne10, if_neg ne10, zbind_some, zbind_some, if_neg (by decide), if_neg (by decide), if_neg (by decide), if_pos rfl, c1, zbind_some]
        exact fin 1 _ _ _ hz
      · rw [ha, if_neg (by decide)] at c1
        rw [ha, if_pos (show (if (false : Bool) = true then (1 : Int32) else 0) = 0 from rfl), if_pos rfl, zbind_some, zbind_some, if_neg (by decide), if_neg (by decide), if_neg (by decide), if_pos rfl, c1, zbind_some]
        exact fin 0 _ _ _ hz
    · have ha : asw b = false := by unfold asw; rw [hj, Bool.false_and]
      rw [hj, if_neg (by decide)] at k1
      rw [ha, if_neg (by decide)] at c1
      rw [if_pos rfl, k1, zbind_some]
      dsimp only
      rw [if_pos rfl, if_pos rfl, zbind_some, zbind_some, if_neg (by decide), if_neg (by decide), if_neg (by decide), if_pos rfl, c1, zbind_some]
      exact fin 0 _ _ _ hz
  rw [if_neg e5, if_neg e6]
  by_cases e7 : x1 = 7
  · subst e7
    obtain ⟨g', c1, c2⟩ := coming_s h1 h4
    have hS' : rS (g' 0) b := by rw [kp_0 c2]; exact h4
    rw [if_pos rfl, lightOn_ev h3 h1 r2, zbind_some, zbind_some]
    repeat rw [if_neg (by decide)]
    rw [if_pos rfl, c1, zbind_some, lightIn_ev h1 hS', zbind_some]
    exact fin _ _ _ _ (zAbs_rel (kp_abs hA0 c2))
  rw [if_neg e7]
  by_cases e8 : x1 = 8
  · subst e8
    obtain ⟨g', c1, c2⟩ := lostT_ev h1 h4
    rw [if_pos rfl, lightAll_ev h3 h1, zbind_some, lightOn_ev h3 h1 r2, zbind_some, lostC_ev h3 h1 r2, zbind_some, zbind_some, all_parts h1]
    repeat rw [if_neg (by decide)]
    rw [if_pos rfl, c1, zbind_some]
    exact fin _ _ _ _ (zAbs_rel (kp_abs hA0 c2))
  rw [if_neg e8]
  by_cases e9 : x1 = 9
  · subst e9
    obtain ⟨g', c1, c2⟩ := lostM_ev h1 1000 h4
    rw [if_pos rfl, lostC_ev h3 h1 r2, zbind_some, zbind_some]
    repeat rw [if_neg (by decide)]
    rw [if_pos rfl, c1, zbind_some]
    exact fin _ _ _ _ (zAbs_rel (kp_abs hA0 c2))
  rw [if_neg e9]
  by_cases e10 : x1 = 10
  · subst e10
    obtain ⟨g', c1, c2, c3⟩ := lays_ev h1 h4
    obtain ⟨gC', k1, k2⟩ := gather_ev h3 h1 r2 gC0
    rw [if_pos rfl, k1, zbind_some, zbind_some, k2.1]
    repeat rw [if_neg (by decide)]
    rw [if_pos rfl, c1, zbind_some]
    exact fin _ _ _ _ (zAbs_rel (kq_abs hA0 c3))
  rw [if_neg e10, zbind_some, if_neg e2, if_neg e3, if_neg e4, if_neg e5, if_neg e6, if_neg e7, if_neg e8, if_neg e9, if_neg e10, if_neg e11, if_neg e12, if_neg e20]
  simp only [ite_self]
  exact fin _ _ _ _ hR
