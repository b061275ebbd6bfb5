/-! ===== how a line goes: the reference's side ===== -/
def fR (g g' : zG) (q : zPt) : Prop := (∀ j, j ≠ 8 → j ≠ 9 → j ≠ 10 → j ≠ 11 → g' j = g j) ∧ g' 8 0 = q.1 ∧ g' 9 0 = q.2.1 ∧ g' 10 0 = q.2.2.1 ∧ g' 11 0 = q.2.2.2
theorem fR_trans {g g1 g2 : zG} {q1 q2 : zPt} (h1 : fR g g1 q1) (h2 : fR g1 g2 q2) : fR g g2 q2 :=
  ⟨fun j a b c d => (h2.1 j a b c d).trans (h1.1 j a b c d), h2.2⟩
theorem fR_0 {g g' : zG} {q : zPt} (h : fR g g' q) : g' 0 = g 0 := h.1 0 (by decide) (by decide) (by decide) (by decide)
theorem goes_ev {g : zG} {u : Int32} (hb : -2147480000 ≤ (g 10 0 * (u - g 8 0)).toInt) : ∃ g', f_X7_goes g u = some g' ∧ fR g g' (pend u (g 8 0) (g 9 0) (g 10 0)) := by
  unfold f_X7_goes pend
  rw [floor_ev (by decide) (by rw [show (1000 : Int32).toInt = 1000 from rfl]; omega), zbind_some, zlet_eq, zlet_eq]
  have e9 : gup (gup g 9 0 (g 9 0 + fdI (g 10 0 * (u - g 8 0)) 1000)) 8 0 u 9 0 = g 9 0 + fdI (g 10 0 * (u - g 8 0)) 1000 := by
    rw [gup_ne _ _ _ (by decide), gup_same]; simp [upd]
  rw [e9, in_ev, zbind_some, ite_1]
  have fin : ∀ y : Int32, fR g (gup (gup (gup g 9 0 (g 9 0 + fdI (g 10 0 * (u - g 8 0)) 1000)) 8 0 u) 11 0 y) (u, g 9 0 + fdI (g 10 0 * (u - g 8 0)) 1000, g 10 0, y) := by
    intro y
    refine ⟨fun j a b c d => ?_, ?_, ?_, ?_, ?_⟩
    · rw [gup_ne _ _ _ d, gup_ne _ _ _ a, gup_ne _ _ _ b]
    · rw [gup_ne _ _ _ (by decide), gup_same]; simp [upd]
    · rw [gup_ne _ _ _ (by decide), gup_ne _ _ _ (by decide), gup_same]; simp [upd]
    · rw [gup_ne _ _ _ (by decide), gup_ne _ _ _ (by decide), gup_ne _ _ _ (by decide)]
    · rw [gup_same]; simp [upd]
  by_cases q : -999 ≤ g 9 0 + fdI (g 10 0 * (u - g 8 0)) 1000 ∧ g 9 0 + fdI (g 10 0 * (u - g 8 0)) 1000 ≤ 999
  · rw [if_pos q, if_pos q, zlet_eq]
    exact ⟨_, rfl, fin 0⟩
  · rw [if_neg q, if_neg q, zlet_eq]
    exact ⟨_, rfl, fin 2⟩
theorem colour_ev {g : zG} {ls : List zL} {th : List zTh} {w : Int32} (h : repS (g 0) ls th w) (hn : ls.length ≤ 8) {l : Nat} {q : zL} (hq : ls[l]? = some q) : f_X7_colour g (nI l) = some q.1 := by
  have hl := (List.getElem?_eq_some_iff.mp hq).1
  unfold f_X7_colour
  rw [lnix, zin_nI (by omega) (by decide), nI_clamp (by omega), (h.2.2.2.1 l q hq).1]
theorem lightOf_ev {g : zG} {ls : List zL} {th : List zTh} {w : Int32} (h : repS (g 0) ls th w) (hn : ls.length ≤ 8) {l : Nat} {q : zL} (hq : ls[l]? = some q) : f_X7_lightOf g (nI l) = some q.2 := by
  have hl := (List.getElem?_eq_some_iff.mp hq).1
  unfold f_X7_lightOf
  rw [lnix, show nI (3 + 2 * l) + (1 : Int32) = nI (3 + 2 * l + 1) from nI_1 _, zin_nI (by omega) (by decide), nI_clamp (by omega), (h.2.2.2.1 l q hq).2]
theorem bg_bd {gl c : Int32} (hc : 380 ≤ c ∧ c ≤ 780) : 500 ≤ (bg gl c).toInt ∧ (bg gl c).toInt ≤ 733 := by
  have h1 := hc.1
  have h2 := hc.2
  rw [ile] at h1 h2
  have e1 : (380 : Int32).toInt = 380 := rfl
  have e2 : (780 : Int32).toInt = 780 := rfl
  rw [e1] at h1
  rw [e2] at h2
  have e : ((780 : Int32) - c).toInt = 780 - c.toInt := by rw [isub (by rw [e2]; omega) (by rw [e2]; omega), e2]
  unfold bg
  have f8 : (fdI (780 - c) 8).toInt = (780 - c.toInt) / 8 := by rw [fdI_toInt (by decide), e]; rfl
  have f3 : (fdI (780 - c) 3).toInt = (780 - c.toInt) / 3 := by rw [fdI_toInt (by decide), e]; rfl
  have e5 : (500 : Int32).toInt = 500 := rfl
  have e6 : (600 : Int32).toInt = 600 := rfl
  split
  · rw [iadd (by rw [e5, f8]; omega) (by rw [e5, f8]; omega), e5, f8]; omega
  · rw [iadd (by rw [e6, f3]; omega) (by rw [e6, f3]; omega), e6, f3]; omega
theorem ile_c {a b : Int32} {x y : Int} (h : a ≤ b) (ha : a.toInt = x := by rfl) (hb : b.toInt = y := by rfl) : x ≤ y := by
  rw [ile, ha, hb] at h; exact h
theorem smul_bd {s b : Int32} (hs : 1 ≤ s ∧ s ≤ 99) (hb : 500 ≤ b.toInt ∧ b.toInt ≤ 733) : (s * b).toInt = s.toInt * b.toInt ∧ 0 ≤ s.toInt * b.toInt ∧ s.toInt * b.toInt ≤ 72567 := by
  have h1 : (1 : Int) ≤ s.toInt := ile_c hs.1
  have h2 : s.toInt ≤ (99 : Int) := ile_c hs.2
  have p1 : s.toInt * b.toInt ≤ 99 * 733 := Int.mul_le_mul h2 hb.2 (by omega) (by decide)
  have p0 : 0 ≤ s.toInt * b.toInt := Int.mul_nonneg (by omega) (by omega)
  exact ⟨imul (by omega) (by omega), p0, by omega⟩
theorem bnd_bd {t : zTh} {c : Int32} (hc : 380 ≤ c ∧ c ≤ 780) (hs : 1 ≤ t.2.2.2.1 ∧ t.2.2.2.1 ≤ 99) : -726 ≤ (bnd t c).toInt ∧ (bnd t c).toInt ≤ 726 := by
  have hb := bg_bd (gl := t.2.2.1) hc
  obtain ⟨e, p0, p1⟩ := smul_bd hs hb
  have f : (fdI (t.2.2.2.1 * bg t.2.2.1 c) 100).toInt = (t.2.2.2.1.toInt * (bg t.2.2.1 c).toInt) / 100 := by rw [fdI_toInt (by decide), e]; rfl
  unfold bnd
  split
  · rw [f]; omega
  · rw [ineg (by rw [f]; omega), f]; omega
theorem bnd_m {t : zTh} {c : Int32} (hc : 380 ≤ c ∧ c ≤ 780) (hs : 1 ≤ t.2.2.2.1 ∧ t.2.2.2.1 ≤ 99) (ht : t.2.2.2.2 = 1 ∨ t.2.2.2.2 = -1) : t.2.2.2.2 * ((t.2.2.2.1 * bg t.2.2.1 c) / 100) = bnd t c := by
  have hb := bg_bd (gl := t.2.2.1) hc
  obtain ⟨e, p0, p1⟩ := smul_bd hs hb
  have f : (t.2.2.2.1 * bg t.2.2.1 c) / 100 = fdI (t.2.2.2.1 * bg t.2.2.1 c) 100 := fdI_nonneg (by decide) (by rw [e]; exact p0)
  rw [f]
  unfold bnd
  rcases ht with h | h
  · rw [if_pos h, h, Int32.one_mul]
  · rw [if_neg (by rw [h]; decide), h, show (-1 : Int32) = -(1 : Int32) from rfl, Int32.neg_mul, Int32.one_mul]
theorem follows_done {g : zG} (n : Nat) (l u i : Int32) (hy : ¬ g 11 0 = 0) : f_X7_follows_22 (n + 1) l u i g = some g := by
  have e : f_X7_follows_162 u g = some g := by
    unfold f_X7_follows_162
    rw [if_neg hy]
  show f_X7_follows_22_b (f_X7_follows_22 n) l u i g = _
  unfold f_X7_follows_22_b
  rw [z1 (by decide) (by decide), e, if_neg hy]
  split <;> rfl
theorem rng_mul {sl d : Int32} {i : Nat} (hi : i ≤ 8) (hs : -(726 * i : Int) ≤ sl.toInt ∧ sl.toInt ≤ 726 * i) (hd : -1000 ≤ d.toInt ∧ d.toInt ≤ 1000) : -2147480000 ≤ (sl * d).toInt := by
  have a1 : -5808 ≤ sl.toInt := by omega
  have a2 : sl.toInt ≤ 5808 := by omega
  have p1 : -(5808 * 1000 : Int) ≤ sl.toInt * d.toInt := by
    rcases Int.le_total 0 sl.toInt with c | c
    · have : sl.toInt * (-1000) ≤ sl.toInt * d.toInt := Int.mul_le_mul_of_nonneg_left hd.1 c
      omega
    · have : sl.toInt * 1000 ≤ sl.toInt * d.toInt := Int.mul_le_mul_of_nonpos_left c hd.2
      omega
  have p2 : sl.toInt * d.toInt ≤ 5808 * 1000 := by
    rcases Int.le_total 0 sl.toInt with c | c
    · have : sl.toInt * d.toInt ≤ sl.toInt * 1000 := Int.mul_le_mul_of_nonneg_left hd.2 c
      omega
    · have : sl.toInt * d.toInt ≤ sl.toInt * (-1000) := Int.mul_le_mul_of_nonpos_left c hd.1
      omega
  rw [imul (by omega) (by omega)]
  omega
theorem sub_rng {u p : Int32} (hu : 0 ≤ u ∧ u ≤ 1000) (hp : 0 ≤ p ∧ p ≤ 1000) : -1000 ≤ (u - p).toInt ∧ (u - p).toInt ≤ 1000 := by
  have h1 : (0 : Int) ≤ u.toInt := ile_c hu.1
  have h2 : u.toInt ≤ (1000 : Int) := ile_c hu.2
  have h3 : (0 : Int) ≤ p.toInt := ile_c hp.1
  have h4 : p.toInt ≤ (1000 : Int) := ile_c hp.2
  rw [isub (by omega) (by omega)]
  omega
theorem place_rng {p : Int32} (h : 1 ≤ p ∧ p ≤ 999) : 0 ≤ p ∧ p ≤ 1000 := ⟨Int32.le_trans (by decide) h.1, Int32.le_trans h.2 (by decide)⟩
theorem follows_loop {ls : List zL} {th : List zTh} {w : Int32} (hn : ls.length ≤ 8) (h8 : th.length ≤ 8) (hok : ∀ t ∈ th, okT t) {l : Nat} {q : zL} (hl : ls[l]? = some q) (hq : okL q) {u : Int32} (hu : 0 ≤ u ∧ u ≤ 1000) :
    ∀ (r : List zTh) (i fuel : Nat) (g : zG), repS (g 0) ls th w → th.drop i = r → i ≤ th.length → r.length + 1 < fuel → g 11 0 = 0 → (0 ≤ g 8 0 ∧ g 8 0 ≤ 1000) → (-(726 * i : Int) ≤ (g 10 0).toInt ∧ (g 10 0).toInt ≤ 726 * i) →
      ∃ g', f_X7_follows_22 fuel (nI l) u (nI i) g = some g' ∧ fR g g' (path q.1 u r (g 8 0) (g 9 0) (g 10 0)) := by
  have hc : 380 ≤ q.1 ∧ q.1 ≤ 780 := ⟨hq.1, hq.2.1⟩
  intro r
  induction r with
  | nil =>
    intro i fuel g hS hd hi hf hy hp hs
    obtain ⟨n, rfl⟩ : ∃ n, fuel = n + 1 := ⟨fuel - 1, by omega⟩
    have hi2 : th.length ≤ i := List.drop_eq_nil_iff.mp hd
    obtain ⟨g', h1, h2⟩ := goes_ev (g := g) (u := u) (rng_mul (by omega) hs (sub_rng hu hp))
    refine ⟨g', ?_, h2⟩
    show f_X7_follows_22_b (f_X7_follows_22 n) (nI l) u (nI i) g = _
    unfold f_X7_follows_22_b f_X7_follows_162
    rw [z1 (by decide) (by decide), tn1, hS.2.1, if_pos ((nI_leI (by omega) (by omega)).mpr hi2), if_pos hy, h1, zbind_some]
  | cons t r ih =>
    intro i fuel g hS hd hi hf hy hp hs
    obtain ⟨n, rfl⟩ : ∃ n, fuel = n + 1 := ⟨fuel - 1, by omega⟩
    obtain ⟨h1, h2, h3⟩ := drop_cons hd
    have htok := hok t (List.mem_of_getElem? h2)
    have hpl : 1 ≤ t.1 ∧ t.1 ≤ 999 := ⟨htok.1, htok.2.1⟩
    have of0 : ∀ g1 : zG, g1 0 = g 0 → f_X7_of g1 (nI i) (0 : Int32) = some t.1 ∧ f_X7_of g1 (nI i) (1 : Int32) = some t.2.1 ∧ f_X7_of g1 (nI i) (2 : Int32) = some t.2.2.1 ∧ f_X7_of g1 (nI i) (3 : Int32) = some t.2.2.2.1 ∧ f_X7_of g1 (nI i) (4 : Int32) = some t.2.2.2.2 := by
      intro g1 e
      obtain ⟨a1, a2, a3, a4, a5⟩ := hS.2.2.2.2 i t h2
      rw [← e] at a1 a2 a3 a4 a5
      have k8 : i < 8 := by omega
      exact ⟨(of_ev (j := 0) k8 (by omega)).trans (congrArg some a1), (of_ev (j := 1) k8 (by omega)).trans (congrArg some a2), (of_ev (j := 2) k8 (by omega)).trans (congrArg some a3), (of_ev (j := 3) k8 (by omega)).trans (congrArg some a4), (of_ev (j := 4) k8 (by omega)).trans (congrArg some a5)⟩
    obtain ⟨o0, -, -, -, -⟩ := of0 g rfl
    have hlen : r.length + 1 < n := by rw [List.length_cons] at hf; omega
    obtain ⟨m, rfl⟩ : ∃ m, n = m + 1 := ⟨n - 1, by omega⟩
    show ∃ g', f_X7_follows_22_b (f_X7_follows_22 (m + 1)) (nI l) u (nI i) g = some g' ∧ _
    unfold f_X7_follows_22_b
    rw [z1 (by decide) (by decide), tn1, hS.2.1, if_neg (fun q => by have := (nI_leI (by omega) (by omega)).mp q; omega), if_pos hy, o0, zbind_some]
    unfold path
    by_cases hut : u ≤ t.1
    · rw [if_pos hut, if_pos hut]
      obtain ⟨g', k1, k2⟩ := goes_ev (g := g) (u := u) (rng_mul (by omega) hs (sub_rng hu hp))
      refine ⟨g', ?_, k2⟩
      unfold f_X7_follows_162
      rw [if_pos hy, k1, zbind_some]
    · rw [if_neg hut, if_neg hut, zbind_some]
      obtain ⟨g1, k1, k2⟩ := goes_ev (g := g) (u := t.1) (rng_mul (by omega) hs (sub_rng (place_rng hpl) hp))
      have e0 := fR_0 k2
      obtain ⟨-, o1, o2, o3, o4⟩ := of0 g1 e0
      rw [k1, zbind_some]
      have b8 : g1 8 0 = t.1 := k2.2.1
      have b9 : g1 9 0 = g 9 0 + fdI (g 10 0 * (t.1 - g 8 0)) 1000 := k2.2.2.1
      have b10 : g1 10 0 = g 10 0 := k2.2.2.2.1
      have b11 : g1 11 0 = if -999 ≤ g 9 0 + fdI (g 10 0 * (t.1 - g 8 0)) 1000 ∧ g 9 0 + fdI (g 10 0 * (t.1 - g 8 0)) 1000 ≤ 999 then 0 else 2 := k2.2.2.2.2
      rw [b11]
      rw [← b9]
      rw [← b9] at b11
      by_cases qh : -999 ≤ g1 9 0 ∧ g1 9 0 ≤ 999
      · rw [if_pos qh] at b11
        rw [if_pos qh, if_pos qh, if_pos rfl, o1, zbind_some]
        by_cases qk : t.2.1 = 0
        · rw [if_pos qk, if_pos qk]
          rcases htok.2.2 with htp | htp
          · obtain ⟨-, hgl, hs1, hs2, htu⟩ := htp
            rw [o4, zbind_some, o3, zbind_some, o2, zbind_some, colour_ev (by rw [e0]; exact hS) hn hl, zbind_some, bends_ev hc, zbind_some, zlet_eq, nIs, bnd_m hc ⟨hs1, hs2⟩ htu, b10]
            have bb := bnd_bd (t := t) hc ⟨hs1, hs2⟩
            have es : (g 10 0 + bnd t q.1).toInt = (g 10 0).toInt + (bnd t q.1).toInt := iadd (by omega) (by omega)
            have f1 : fR g (gup g1 10 0 (g 10 0 + bnd t q.1)) (t.1, g1 9 0, g 10 0 + bnd t q.1, 0) := by
              refine ⟨fun j a b c d => ?_, ?_, ?_, ?_, ?_⟩
              · rw [gup_ne _ _ _ c, k2.1 j a b c d]
              · rw [gup_ne _ _ _ (by decide), b8]
              · rw [gup_ne _ _ _ (by decide)]
              · rw [gup_same]; simp [upd]
              · rw [gup_ne _ _ _ (by decide), b11]
            obtain ⟨g', j1, j2⟩ := ih (i + 1) (m + 1) (gup g1 10 0 (g 10 0 + bnd t q.1)) (by rw [fR_0 f1]; exact hS) h3 (by omega) hlen f1.2.2.2.2 (by rw [f1.2.1]; exact place_rng hpl) (by rw [f1.2.2.2.1, es]; omega)
            rw [f1.2.1, f1.2.2.1, f1.2.2.2.1] at j2
            exact ⟨g', j1, fR_trans f1 j2⟩
          · rw [htp.1] at qk; exact absurd qk (by decide)
        · rw [if_neg qk, if_neg qk]
          unfold f_X7_follows_118
          rw [if_pos b11, o2, zbind_some, o3, zbind_some, in_ev, zbind_some, ite_1]
          by_cases qs : t.2.2.1 ≤ g1 9 0 ∧ g1 9 0 ≤ t.2.2.2.1
          · rw [if_pos qs, if_pos qs, zlet_eq, nIs]
            have f1 : fR g (gup g1 11 0 0) (t.1, g1 9 0, g 10 0, 0) := by
              refine ⟨fun j a b c d => ?_, ?_, ?_, ?_, ?_⟩
              · rw [gup_ne _ _ _ d, k2.1 j a b c d]
              · rw [gup_ne _ _ _ (by decide), b8]
              · rw [gup_ne _ _ _ (by decide)]
              · rw [gup_ne _ _ _ (by decide), b10]
              · rw [gup_same]; simp [upd]
            obtain ⟨g', j1, j2⟩ := ih (i + 1) (m + 1) (gup g1 11 0 0) (by rw [fR_0 f1]; exact hS) h3 (by omega) hlen f1.2.2.2.2 (by rw [f1.2.1]; exact place_rng hpl) (by rw [f1.2.2.2.1]; show -(726 * ((i + 1 : Nat) : Int)) ≤ (g 10 0).toInt ∧ (g 10 0).toInt ≤ 726 * ((i + 1 : Nat) : Int); omega)
            rw [f1.2.1, f1.2.2.1, f1.2.2.2.1] at j2
            exact ⟨g', j1, fR_trans f1 j2⟩
          · rw [if_neg qs, if_neg qs, zlet_eq]
            rw [follows_done m _ _ _ (by rw [gup_same]; simp [upd])]
            refine ⟨_, rfl, fun j a b c d => ?_, ?_, ?_, ?_, ?_⟩
            · rw [gup_ne _ _ _ d, k2.1 j a b c d]
            · rw [gup_ne _ _ _ (by decide), b8]
            · rw [gup_ne _ _ _ (by decide)]
            · rw [gup_ne _ _ _ (by decide), b10]
            · rw [gup_same]; simp [upd]
      · rw [if_neg qh] at b11
        rw [if_neg qh, if_neg qh, if_neg (by decide)]
        unfold f_X7_follows_118
        rw [if_neg (by rw [b11]; decide), follows_done m _ _ _ (by rw [b11]; decide)]
        exact ⟨_, rfl, k2.1, b8, rfl, b10, b11⟩
theorem follows_ev {g : zG} {b : zB} (hS : rS (g 0) b) (ok : okB b) {l : Nat} {q : zL} (hl : b.1[l]? = some q) {u : Int32} (hu : 0 ≤ u ∧ u ≤ 1000) : ∃ g', f_X7_follows g (nI l) u = some g' ∧ fR g g' (pth q.1 b.2.1 u) := by
  have hq := ok.2.2.2.2.1 q (List.mem_of_getElem? hl)
  have f1 : fR g (gup (gup (gup (gup g 8 0 0) 9 0 0) 10 0 0) 11 0 0) (0, 0, 0, 0) := by
    refine ⟨fun j a b c d => ?_, ?_, ?_, ?_, ?_⟩
    · rw [gup_ne _ _ _ d, gup_ne _ _ _ c, gup_ne _ _ _ b, gup_ne _ _ _ a]
    · rw [gup_ne _ _ _ (by decide), gup_ne _ _ _ (by decide), gup_ne _ _ _ (by decide), gup_same]; simp [upd]
    · rw [gup_ne _ _ _ (by decide), gup_ne _ _ _ (by decide), gup_same]; simp [upd]
    · rw [gup_ne _ _ _ (by decide), gup_same]; simp [upd]
    · rw [gup_same]; simp [upd]
  unfold f_X7_follows pth
  simp only [zlet_eq]
  obtain ⟨g', j1, j2⟩ := follows_loop (w := b.2.2) ok.1 ok.2.1 ok.2.2.2.2.2.1 hl hq hu b.2.1 0 zfuel _ (by rw [fR_0 f1]; exact hS) rfl (Nat.zero_le _) (by have := ok.2.1; unfold zfuel; omega) f1.2.2.2.2 (by rw [f1.2.1]; decide) (by rw [f1.2.2.2.1]; decide)
  rw [f1.2.1, f1.2.2.1, f1.2.2.2.1] at j2
  exact ⟨g', j1, fR_trans f1 j2⟩
