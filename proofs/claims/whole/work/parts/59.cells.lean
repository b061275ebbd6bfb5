/-! ===== the cells of the screen ===== -/
def kq (g g' : zG) : Prop := ∀ j, j ≠ 8 → j ≠ 9 → j ≠ 10 → j ≠ 11 → j ≠ 12 → j ≠ 13 → g' j = g j
theorem kq_rf (g : zG) : kq g g := fun _ _ _ _ _ _ _ => rfl
theorem kq_tr {a b c : zG} (h1 : kq a b) (h2 : kq b c) : kq a c := fun j x y z u v w => (h2 j x y z u v w).trans (h1 j x y z u v w)
theorem kq_of {g g' : zG} (h : kp g g') : kq g g' := fun j x y z u _ _ => h j x y z u
theorem kq_0 {g g' : zG} (h : kq g g') : g' 0 = g 0 := h 0 (by decide) (by decide) (by decide) (by decide) (by decide) (by decide)
theorem kq_abs {gB gX gY gN gN' : zG} {h : Nat → Option zG} {b : zB} {hs : List zB} {tx : List Int32} (hA : zAbs gB gX gY h gN b hs tx) (hk : kq gN gN') : zAbs gB gX gY h gN' b hs tx :=
  zAbs_keep hA (fun j hj => hk j (by omega) (by omega) (by omega) (by omega) (by omega) (by omega))
/-- the cell of a line -/
def cl (b : zB) (q : zL) : Int32 := fdI (zE b q).2.1 b.2.2
/-- is the line in the cell -/
def pc (b : zB) (c : Int32) (q : zL) : Bool := cm b q && decide (cl b q = c)
theorem pc_t {b : zB} {c : Int32} {q : zL} : pc b c q = true ↔ cm b q = true ∧ cl b q = c := by
  unfold pc
  rw [Bool.and_eq_true, decide_eq_true_iff]
theorem pc_f {b : zB} {c : Int32} {q : zL} (h : ¬ (cm b q = true ∧ cl b q = c)) : pc b c q = false := by
  rcases bool_tf (pc b c q) with e | e
  · exact absurd (pc_t.mp e) h
  · exact e
def lc (b : zB) (c : Int32) (ls : List zL) : Int32 := sm (fun q => if pc b c q then q.2 else 0) ls
theorem sm_snoc (f : zL → Int32) : ∀ (ls : List zL) (q : zL), sm f (ls ++ [q]) = sm f ls + f q := by
  intro ls
  induction ls with
  | nil => intro q; show f q + 0 = 0 + f q; rw [Int32.add_zero, Int32.zero_add]
  | cons x r ih =>
    intro q
    show f x + sm f (r ++ [q]) = f x + sm f r + f q
    rw [ih, Int32.add_assoc]
theorem sm_none {f : zL → Int32} : ∀ {ls : List zL}, (∀ q ∈ ls, f q = 0) → sm f ls = 0 := by
  intro ls
  induction ls with
  | nil => intro _; rfl
  | cons x r ih =>
    intro h
    unfold sm
    rw [h x List.mem_cons_self, ih (fun q hq => h q (List.mem_cons_of_mem _ hq))]
    rfl
theorem setB_none {p : zL → Bool} : ∀ {ls : List zL}, (∀ q ∈ ls, p q = false) → setB p ls = 0 := by
  intro ls
  induction ls with
  | nil => intro _; rfl
  | cons x r ih =>
    intro h
    unfold setB
    rw [h x List.mem_cons_self, ih (fun q hq => h q (List.mem_cons_of_mem _ hq))]
    rfl
theorem setB_snoc (p : zL → Bool) : ∀ (ls : List zL) (q : zL), setB p (ls ++ [q]) = setB p ls + 2 ^ ls.length * (if p q then 1 else 0) := by
  intro ls
  induction ls with
  | nil =>
    intro q
    show (if p q then 1 else 0) + 2 * 0 = 0 + 2 ^ 0 * (if p q then 1 else 0)
    rw [Nat.pow_zero, Nat.one_mul]; omega
  | cons x r ih =>
    intro q
    show (if p x then 1 else 0) + 2 * setB p (r ++ [q]) = (if p x then 1 else 0) + 2 * setB p r + 2 ^ (r.length + 1) * (if p q then 1 else 0)
    rw [ih, Nat.pow_succ, Nat.mul_add, Nat.mul_comm (2 ^ r.length) 2, Nat.mul_assoc, Nat.add_assoc]
def didx (c : Int32) : List Int32 → Nat
  | [] => 0
  | x :: r => if x = c then 0 else didx c r + 1
theorem didx_le (c : Int32) : ∀ D : List Int32, didx c D ≤ D.length := by
  intro D
  induction D with
  | nil => exact Nat.le_refl _
  | cons x r ih =>
    unfold didx
    rw [List.length_cons]
    split <;> omega
theorem didx_in {c : Int32} : ∀ {D : List Int32}, c ∈ D → D[didx c D]? = some c := by
  intro D
  induction D with
  | nil => intro h; cases h
  | cons x r ih =>
    intro h
    unfold didx
    by_cases hx : x = c
    · rw [if_pos hx, hx]; rfl
    · rw [if_neg hx, List.getElem?_cons_succ]
      rcases List.mem_cons.mp h with h | h
      · exact absurd h.symm hx
      · exact ih h
theorem didx_out {c : Int32} : ∀ {D : List Int32}, c ∉ D → didx c D = D.length := by
  intro D
  induction D with
  | nil => intro _; rfl
  | cons x r ih =>
    intro h
    unfold didx
    rw [if_neg (fun e => h (by rw [e]; exact List.mem_cons_self)), ih (fun q => h (List.mem_cons_of_mem _ q)), List.length_cons]
theorem nodup_at {D : List Int32} (hD : D.Nodup) {c : Int32} {k j : Nat} (h1 : D[k]? = some c) (h2 : D[j]? = some c) : k = j := by
  have hk := (List.getElem?_eq_some_iff.mp h1).1
  have hj := (List.getElem?_eq_some_iff.mp h2).1
  rw [List.getElem?_eq_getElem hk] at h1
  rw [List.getElem?_eq_getElem hj] at h2
  have e : D[k] = D[j] := by rw [Option.some.inj h1, Option.some.inj h2]
  have hp := List.pairwise_iff_getElem.mp hD
  rcases Nat.lt_trichotomy k j with q | q | q
  · exact absurd e (hp k j hk hj q)
  · exact q
  · exact absurd e.symm (hp j k hj hk q)
def nx (b : zB) (q : zL) (D : List Int32) : List Int32 := if cm b q = true ∧ cl b q ∉ D then D ++ [cl b q] else D
def dcs (b : zB) : List zL → List Int32 → List Int32
  | [], D => D
  | q :: r, D => dcs b r (nx b q D)
/-- the cells of the lines so far -/
def gD (b : zB) (pre : List zL) (D : List Int32) : Prop := D.Nodup ∧ D.length ≤ pre.length ∧ (∀ q ∈ pre, cm b q = true → cl b q ∈ D)
theorem gD_nx {b : zB} {pre : List zL} {D : List Int32} (h : gD b pre D) (q : zL) : gD b (pre ++ [q]) (nx b q D) := by
  obtain ⟨h1, h2, h3⟩ := h
  unfold nx
  by_cases c : cm b q = true ∧ cl b q ∉ D
  · rw [if_pos c]
    refine ⟨?_, ?_, ?_⟩
    · rw [List.nodup_append]
      refine ⟨h1, by simp, ?_⟩
      intro a ha x hx e
      rw [List.mem_singleton] at hx
      subst hx
      subst e
      exact c.2 ha
    · simp; omega
    · intro x hx hc
      rcases List.mem_append.mp hx with hx | hx
      · exact List.mem_append_left _ (h3 x hx hc)
      · rw [List.mem_singleton] at hx
        subst hx
        exact List.mem_append_right _ (List.mem_singleton.mpr rfl)
  · rw [if_neg c]
    refine ⟨h1, by simp; omega, ?_⟩
    intro x hx hc
    rcases List.mem_append.mp hx with hx | hx
    · exact h3 x hx hc
    · rw [List.mem_singleton] at hx
      subst hx
      by_cases hm : cl b x ∈ D
      · exact hm
      · exact absurd ⟨hc, hm⟩ c
theorem gD_0 (b : zB) : gD b [] [] := ⟨List.nodup_nil, Nat.le_refl _, fun q h => absurd h List.not_mem_nil⟩
theorem gD_dcs {b : zB} : ∀ (r pre : List zL) (D : List Int32), gD b pre D → gD b (pre ++ r) (dcs b r D) := by
  intro r
  induction r with
  | nil => intro pre D h; rw [List.append_nil]; exact h
  | cons q r ih =>
    intro pre D h
    have := ih (pre ++ [q]) (nx b q D) (gD_nx h q)
    rw [List.append_assoc] at this
    exact this
theorem hasSlot_nI {g : zG} {n k : Nat} (h : g 3 0 = nI n) (hn : n ≤ 8) (hk : k < 2 ^ 31) : f_X1_hasSlot g (nI k) = some (if k < n then 1 else 0) := by
  have := hasLine_nI (g := fun k => if k = 2 then g 3 else g k) (n := n) (by simpa using h) hn hk
  simpa [f_X0_hasLine, f_X1_hasSlot] using this
theorem slotOf_loop {g : zG} {D : List Int32} (h : g 3 0 = nI D.length) (hn : D.length ≤ 8) (hc : ∀ (k : Nat) (c : Int32), D[k]? = some c → g 0 k = c) (c : Int32) : ∀ (r : List Int32) (i fuel : Nat), D.drop i = r → i ≤ D.length → r.length < fuel → f_X1_slotOf_2 g fuel c (nI i) = some (nI (i + didx c r)) := by
  intro r
  induction r with
  | nil =>
    intro i fuel hd hi hf
    obtain ⟨n, rfl⟩ : ∃ n, fuel = n + 1 := ⟨fuel - 1, by omega⟩
    have hi2 : D.length ≤ i := List.drop_eq_nil_iff.mp hd
    show f_X1_slotOf_2_b g (f_X1_slotOf_2 g n) c (nI i) = _
    unfold f_X1_slotOf_2_b
    rw [hasSlot_nI h hn (by omega), if_neg (c := i < D.length) (by omega), zbind_some, if_pos rfl]
    split <;> rfl
  | cons x r ih =>
    intro i fuel hd hi hf
    obtain ⟨n, rfl⟩ : ∃ n, fuel = n + 1 := ⟨fuel - 1, by omega⟩
    obtain ⟨e1, e2, e3⟩ := drop_cons hd
    rw [List.length_cons] at hf
    show f_X1_slotOf_2_b g (f_X1_slotOf_2 g n) c (nI i) = _
    unfold f_X1_slotOf_2_b didx
    rw [if_neg (c := (8 : Int32) ≤ nI i) (by rw [l8 (by omega)]; omega), hasSlot_nI h hn (by omega), if_pos e1, zbind_some, if_neg ne10, zin_nI (by omega) (by decide), nI_clamp (by omega), hc i x e2]
    by_cases hx : x = c
    · rw [if_pos hx, if_pos hx]; rfl
    · rw [if_neg hx, if_neg hx, nIs, ih (i + 1) n e3 (by omega) (by omega)]
      congr 2; omega
theorem slotOf_ev {g : zG} {D : List Int32} (h : g 3 0 = nI D.length) (hn : D.length ≤ 8) (hc : ∀ (k : Nat) (c : Int32), D[k]? = some c → g 0 k = c) (c : Int32) : f_X1_slotOf g c = some (nI (didx c D)) := by
  unfold f_X1_slotOf
  have := slotOf_loop h hn hc c D 0 zfuel rfl (Nat.zero_le _) (by unfold zfuel; omega)
  rw [Nat.zero_add] at this
  exact this
/-- the class's cells behind some lines -/
def gC (b : zB) (pre : List zL) (D : List Int32) (g : zG) : Prop := g 3 0 = nI D.length ∧ ∀ (k : Nat) (c : Int32), D[k]? = some c → g 0 k = c ∧ g 1 k = lc b c pre ∧ g 2 k = nI (setB (pc b c) pre)
theorem addTo_63 {g : zG} {s : Nat} (hs : s < 8) (v w : Int32) : f_X1_addTo_63 v w (nI s) g = some (gup (gup g 1 s (g 1 s + v)) 2 s (g 2 s ||| w)) := by
  unfold f_X1_addTo_63
  have z8 : ∀ {β : Type} (j : Option β), zin (nI s) 8 j = j := fun j => zin_nI hs (by decide)
  simp only [z8, zlet_eq, nI_clamp (show s < 2 ^ 31 by omega)]
  congr 2
theorem addTo_ev {b : zB} {pre : List zL} {D : List Int32} {g : zG} (hD : gD b pre D) (hg : gC b pre D g) (hp : pre.length < 8) {q : zL} (hc : cm b q = true) : ∃ g', f_X1_addTo g (cl b q) q.2 ((1 : Int32) <<< (nI pre.length &&& 31)) = some g' ∧ gC b (pre ++ [q]) (nx b q D) g' := by
  obtain ⟨d1, d2, d3⟩ := hD
  obtain ⟨g1, g2⟩ := hg
  have lp := setB_lt
  unfold f_X1_addTo
  rw [slotOf_ev g1 (by omega) (fun k c h => (g2 k c h).1), zbind_some]
  have hle := didx_le (cl b q) D
  rw [if_neg (nI_pos (by omega)), if_pos (c := nI (didx (cl b q) D) < (8 : Int32)) ((nI_ltI (b := 8) (by omega) (by decide)).mpr (by omega)), g1]
  unfold nx
  by_cases hm : cl b q ∈ D
  · have hin := didx_in hm
    have hlt := (List.getElem?_eq_some_iff.mp hin).1
    rw [if_neg (c := nI (didx (cl b q) D) = nI D.length) (fun e => by have := (nI_eq (by omega) (by omega)).mp e; omega), addTo_63 (by omega), if_neg (fun h => h.2 hm)]
    obtain ⟨a1, a2, a3⟩ := g2 _ _ hin
    have hpq : pc b (cl b q) q = true := pc_t.mpr ⟨hc, rfl⟩
    refine ⟨_, rfl, ?_, ?_⟩
    · rw [gup_ne _ _ _ (by decide), gup_ne _ _ _ (by decide)]; exact g1
    · intro k c hk
      rw [gup_ne _ _ _ (show (0 : Nat) ≠ 2 by decide), gup_ne _ _ _ (show (0 : Nat) ≠ 1 by decide), gup_ne _ _ _ (show (1 : Nat) ≠ 2 by decide), gup_same, gup_same]
      obtain ⟨b1, b2, b3⟩ := g2 k c hk
      refine ⟨b1, ?_, ?_⟩
      · unfold lc
        rw [sm_snoc]
        unfold upd
        by_cases e : k = didx (cl b q) D
        · subst e
          rw [hin] at hk
          cases hk
          rw [if_pos rfl, hpq, if_pos rfl, a2]
          rfl
        · have hne : ¬ (cm b q = true ∧ cl b q = c) := fun h => e (nodup_at d1 hk (by rw [← h.2]; exact hin))
          rw [if_neg e, pc_f hne, if_neg (by decide), Int32.add_zero, b2]
          rfl
      · rw [setB_snoc]
        unfold upd
        by_cases e : k = didx (cl b q) D
        · subst e
          rw [hin] at hk
          cases hk
          rw [if_pos rfl, hpq, if_pos rfl, Nat.mul_one, a3, or_bit hp (lp _ _)]
        · have hne : ¬ (cm b q = true ∧ cl b q = c) := fun h => e (nodup_at d1 hk (by rw [← h.2]; exact hin))
          rw [if_neg e, pc_f hne, if_neg (by decide), Nat.mul_zero, Nat.add_zero, gup_ne _ _ _ (show (2 : Nat) ≠ 1 by decide), b3]
  · have ho := didx_out hm
    have z8 : ∀ {β : Type} (j : Option β), zin (nI D.length) 8 j = j := fun j => zin_nI (by omega) (by decide)
    rw [ho, if_pos rfl, if_pos ⟨hc, hm⟩]
    simp only [z8, zlet_eq, nI_clamp (show D.length < 2 ^ 31 by omega)]
    rw [addTo_63 (by omega)]
    have n0 : ∀ x ∈ pre, pc b (cl b q) x = false := fun x hx => pc_f (fun h => hm (by rw [← h.2]; exact d3 x hx h.1))
    refine ⟨_, rfl, ?_, ?_⟩
    · simp [gup, upd, g1, nIs]
    · intro k c hk
      rcases snoc_get hk with ⟨hk1, hk⟩ | ⟨rfl, rfl⟩
      · obtain ⟨b1, b2, b3⟩ := g2 k c hk
        have hne : ¬ (cm b q = true ∧ cl b q = c) := fun h => hm (by rw [h.2]; exact List.mem_of_getElem? hk)
        have hkn : k ≠ D.length := by omega
        refine ⟨by simpa [gup, upd, hkn] using b1, ?_, ?_⟩
        · unfold lc
          rw [sm_snoc, pc_f hne, if_neg (by decide), Int32.add_zero]
          have b2' : g 1 k = sm (fun q => if pc b c q then q.2 else 0) pre := b2
          rw [← b2']
          simp [gup, upd, hkn]
        · rw [setB_snoc, pc_f hne, if_neg (by decide), Nat.mul_zero, Nat.add_zero]
          simpa [gup, upd, hkn] using b3
      · have hpq : pc b (cl b q) q = true := pc_t.mpr ⟨hc, rfl⟩
        refine ⟨by simp [gup, upd], ?_, ?_⟩
        · unfold lc
          rw [sm_snoc, hpq, if_pos rfl, sm_none (fun x hx => by rw [n0 x hx]; rfl)]
          simp [gup, upd]
        · rw [setB_snoc, hpq, if_pos rfl, setB_none n0, Nat.mul_one]
          have := or_bit (m := 0) hp (Nat.two_pow_pos _)
          rw [← this, show nI 0 = (0 : Int32) from rfl]
          simp [gup, upd]
theorem gC_skip {b : zB} {pre : List zL} {D : List Int32} {g : zG} (hg : gC b pre D g) {q : zL} (hc : cm b q = false) : gC b (pre ++ [q]) (nx b q D) g := by
  unfold nx
  rw [if_neg (fun h => by rw [hc] at h; exact absurd h.1 (by decide))]
  refine ⟨hg.1, fun k c hk => ?_⟩
  obtain ⟨b1, b2, b3⟩ := hg.2 k c hk
  have e : pc b c q = false := pc_f (fun h => by rw [hc] at h; exact absurd h.1 (by decide))
  unfold lc
  rw [sm_snoc, setB_snoc, e, if_neg (by decide), if_neg (by decide), Int32.add_zero, Nat.mul_zero, Nat.add_zero]
  exact ⟨b1, b2, b3⟩
theorem gather_loop {gB gR : zG} {b : zB} (hB : rB gB b) (ok : okB b) (hr : rayC gR b) : ∀ (r pre : List zL) (fuel : Nat) (D : List Int32) (g : zG), b.1 = pre ++ r → r.length < fuel → gD b pre D → gC b pre D g → ∃ g', f_X1_gather_7 gB gR fuel (nI pre.length) g = some g' ∧ gC b b.1 (dcs b r D) g' := by
  have hn := ok.1
  intro r
  induction r with
  | nil =>
    intro pre fuel D g hd hf hD hg
    obtain ⟨n, rfl⟩ : ∃ n, fuel = n + 1 := ⟨fuel - 1, by omega⟩
    rw [List.append_nil] at hd
    refine ⟨g, ?_, by rw [hd]; exact hg⟩
    show f_X1_gather_7_b gB gR (f_X1_gather_7 gB gR n) (nI pre.length) g = _
    unfold f_X1_gather_7_b
    rw [hasLine_nI hB.1 hn (by rw [← hd]; omega), if_neg (c := pre.length < b.1.length) (by rw [hd]; omega), zbind_some, if_pos rfl]
    split <;> rfl
  | cons q r ih =>
    intro pre fuel D g hd hf hD hg
    obtain ⟨n, rfl⟩ : ∃ n, fuel = n + 1 := ⟨fuel - 1, by omega⟩
    rw [List.length_cons] at hf
    have e1 : pre.length < b.1.length := by rw [hd]; simp
    have e2 : b.1[pre.length]? = some q := by rw [hd]; simp
    have hd' : b.1 = (pre ++ [q]) ++ r := by rw [hd]; simp
    have el : (pre ++ [q]).length = pre.length + 1 := by simp
    show ∃ g', f_X1_gather_7_b gB gR (f_X1_gather_7 gB gR n) (nI pre.length) g = some g' ∧ _
    unfold f_X1_gather_7_b
    rw [if_neg (c := (8 : Int32) ≤ nI pre.length) (by rw [l8 (by omega)]; omega), hasLine_nI hB.1 hn (by omega), if_pos e1, zbind_some, if_neg ne10, nIs]
    rcases bool_tf (cm b q) with hc | hc
    · obtain ⟨g1, k1, k2⟩ := addTo_ev hD hg (by omega) hc
      rw [ray_yes hr ok e2 hc, zbind_some, if_neg ne10, zin_nI (by omega) (by decide), nI_clamp (by omega), ((ray_at hr e2).2.2 hc).1, cellOf_ev hB ok, zbind_some, zin_nI (by omega) (by decide), (hB.2.2.2.1 _ q e2).2]
      have k1' : f_X1_addTo g (fdI (zE b q).2.1 b.2.2) q.2 ((1 : Int32) <<< (nI pre.length &&& 31)) = some g1 := k1
      rw [k1', zbind_some]
      have := ih (pre ++ [q]) n (nx b q D) g1 hd' (by omega) (gD_nx hD q) k2
      rw [el] at this
      exact this
    · rw [ray_no hr ok e2 hc, zbind_some, if_pos rfl]
      have := ih (pre ++ [q]) n (nx b q D) g hd' (by omega) (gD_nx hD q) (gC_skip hg hc)
      rw [el] at this
      exact this
/-- the distinct cells of the lines, in the order in which they come -/
def dc (b : zB) : List Int32 := dcs b b.1 []
theorem dc_D (b : zB) : gD b b.1 (dc b) := by
  have := gD_dcs b.1 [] [] (gD_0 b)
  exact this
theorem gather_ev {gB gR : zG} {b : zB} (hB : rB gB b) (ok : okB b) (hr : rayC gR b) (g : zG) : ∃ g', f_X1_gather g gB gR = some g' ∧ gC b b.1 (dc b) g' := by
  have hn := ok.1
  unfold f_X1_gather
  rw [zlet_eq]
  exact gather_loop hB ok hr b.1 [] zfuel [] (gup g 3 0 0) rfl (by unfold zfuel; omega) (gD_0 b) ⟨by simp [gup, upd]; rfl, fun k c h => by simp at h⟩
/-! ===== the reference's cells ===== -/
theorem inCell_loop {b : zB} (ok : okB b) (c : Int32) : ∀ (r : List zL) (i fuel m : Nat) (g : zG), rS (g 0) b → b.1.drop i = r → i ≤ b.1.length → r.length < fuel → m < 2 ^ i → ∃ g', f_X7_inCell_4 fuel c (nI m) (nI i) g = some (nI (m + 2 ^ i * setB (pc b c) r), g') ∧ kp g g' := by
  have hn := ok.1
  intro r
  induction r with
  | nil =>
    intro i fuel m g hS hd hi hf hm
    obtain ⟨n, rfl⟩ : ∃ n, fuel = n + 1 := ⟨fuel - 1, by omega⟩
    have hi2 : b.1.length ≤ i := List.drop_eq_nil_iff.mp hd
    refine ⟨g, ?_, kp_rf g⟩
    show f_X7_inCell_4_b (f_X7_inCell_4 n) c (nI m) (nI i) g = _
    unfold f_X7_inCell_4_b
    rw [z0 (by decide) (by decide), tn0, hS.1, if_pos ((nI_leI (by omega) (by omega)).mpr hi2), show setB (pc b c) [] = 0 from rfl, Nat.mul_zero, Nat.add_zero]
  | cons q r ih =>
    intro i fuel m g hS hd hi hf hm
    obtain ⟨n, rfl⟩ : ∃ n, fuel = n + 1 := ⟨fuel - 1, by omega⟩
    obtain ⟨e1, e2, e3⟩ := drop_cons hd
    rw [List.length_cons] at hf
    obtain ⟨g1, k1, k2⟩ := follows_ev hS ok e2 (u := 1000) (by decide)
    have hS1 : rS (g1 0) b := by rw [kp_0 k2.1]; exact hS
    have no : pc b c q = false → ∃ g', f_X7_inCell_4 n c (nI m) (nI (i + 1)) g1 = some (nI (m + 2 ^ i * setB (pc b c) (q :: r)), g') ∧ kp g g' := by
      intro h
      obtain ⟨g', j1, j2⟩ := ih (i + 1) n m g1 hS1 e3 (by omega) (by omega) (pw2' hm)
      rw [j1, setB_f h]
      exact ⟨g', rfl, kp_tr k2.1 j2⟩
    show ∃ g', f_X7_inCell_4_b (f_X7_inCell_4 n) c (nI m) (nI i) g = _ ∧ _
    unfold f_X7_inCell_4_b f_X7_inCell_44
    rw [z0 (by decide) (by decide), tn0, hS.1, if_neg (fun q => by have := (nI_leI (by omega) (by omega)).mp q; omega), k1, zbind_some, nIs, k2.2.2.2.2, Int32.or_zero]
    have ez : pth q.1 b.2.1 1000 = zE b q := rfl
    have k9 := k2.2.2.1
    rw [ez] at k9 ⊢
    rcases bool_tf (cm b q) with hc | hc
    · have hc' := cm_t.mp hc
      rw [if_pos hc', cell_ev hS1 ok k9 (pth_rng hc'), zbind_some]
      by_cases e : fdI (zE b q).2.1 b.2.2 = c
      · rw [if_pos e, or_bit (by omega) hm]
        obtain ⟨g', j1, j2⟩ := ih (i + 1) n _ g1 hS1 e3 (by omega) (by omega) (pw2 hm)
        rw [j1, setB_t (pc_t.mpr ⟨hc, e⟩)]
        exact ⟨g', rfl, kp_tr k2.1 j2⟩
      · rw [if_neg e]
        exact no (pc_f (fun h => e h.2))
    · rw [if_neg (cm_f.mp hc)]
      exact no (pc_f (fun h => by rw [hc] at h; exact absurd h.1 (by decide)))
theorem inCell_ev {b : zB} (ok : okB b) (c : Int32) {g : zG} (hS : rS (g 0) b) : ∃ g', f_X7_inCell g c = some (nI (setB (pc b c) b.1), g') ∧ kp g g' := by
  unfold f_X7_inCell
  have hn := ok.1
  have := inCell_loop ok c b.1 0 zfuel 0 g hS rfl (Nat.zero_le _) (by unfold zfuel; omega) (by decide)
  rw [Nat.zero_add, Nat.pow_zero, Nat.one_mul] at this
  exact this
theorem pm_light {gB gX gY gN : zG} {h : Nat → Option zG} (hR : zRel gB gX gY h gN) (gM : zG) (gR : zG) (gC0 : zG) (x1 : Int32) : ∃ R R', f_X6_light gM gB gR gC0 x1 = some R ∧ f_X7_light gN x1 = some R' ∧ R.1 = R'.1 ∧ zRel gB gX gY h R'.2 := by
  obtain ⟨b, hs, tx, hA⟩ := zRel_abs hR
  have hA0 := hA
  obtain ⟨h1, h2, h3, h4, h5, h6, h7, h8, h9⟩ := hA
  have hn := h1.1
  unfold f_X6_light f_X7_light
  rw [within_ev, zbind_some, ite_1, in_ev, zbind_some, ite_1]
  by_cases q : -9999 ≤ x1 ∧ x1 ≤ 9999
  · rw [if_pos q, if_pos q]
    obtain ⟨gR', r1, r2⟩ := ray_follow h3 h1 gR
    obtain ⟨gC', c1, c2⟩ := gather_ev h3 h1 r2 gC0
    obtain ⟨gN', n1, n2⟩ := inCell_ev h1 x1 h4
    have hS' : rS (gN' 0) b := by rw [kp_0 n2]; exact h4
    obtain ⟨d1, d2, d3⟩ := dc_D b
    have hle := didx_le x1 (dc b)
    rw [r1, zbind_some, c1, zbind_some, n1, zbind_some, lightIn_ev h1 hS', zbind_some]
    unfold f_X1_lightOf
    rw [slotOf_ev c2.1 (by omega) (fun k c h => (c2.2 k c h).1), zbind_some, hasSlot_nI c2.1 (by omega) (by omega), zbind_some, ite_1]
    by_cases hm : x1 ∈ dc b
    · have hin := didx_in hm
      have hlt := (List.getElem?_eq_some_iff.mp hin).1
      rw [if_pos hlt, zin_nI (by omega) (by decide), nI_clamp (by omega), (c2.2 _ _ hin).2.1, zbind_some]
      exact ⟨_, _, rfl, rfl, rfl, zAbs_rel (kp_abs hA0 n2)⟩
    · rw [didx_out hm, if_neg (Nat.lt_irrefl _), zbind_some, sm_none (fun x hx => by rw [pc_f (fun h => hm (by rw [← h.2]; exact d3 x hx h.1))]; rfl)]
      exact ⟨_, _, rfl, rfl, rfl, zAbs_rel (kp_abs hA0 n2)⟩
  · rw [if_neg q, if_neg q]
    exact ⟨_, _, rfl, rfl, rfl, hR⟩
theorem nI_or (a b : Nat) : nI a ||| nI b = nI (a ||| b) := by
  apply Int32.toBitVec_inj.1
  show BitVec.ofNat 32 a ||| BitVec.ofNat 32 b = BitVec.ofNat 32 (a ||| b)
  apply BitVec.eq_of_getLsbD_eq
  intro i hi
  simp [hi]
theorem setB_or (p p' : zL → Bool) : ∀ ls : List zL, setB p ls ||| setB p' ls = setB (fun q => p q || p' q) ls := by
  intro ls
  induction ls with
  | nil => show (0 : Nat) ||| 0 = 0; decide
  | cons q r ih =>
    unfold setB
    rw [← ih]
    have e := Nat.div_add_mod ((((if p q then 1 else 0) + 2 * setB p r)) ||| (((if p' q then 1 else 0) + 2 * setB p' r))) 2
    rw [← e, Nat.or_div_two]
    have e1 : ((if p q then 1 else 0) + 2 * setB p r) / 2 = setB p r := by split <;> omega
    have e2 : ((if p' q then 1 else 0) + 2 * setB p' r) / 2 = setB p' r := by split <;> omega
    rw [e1, e2]
    have e3 : ((((if p q then 1 else 0) + 2 * setB p r)) ||| (((if p' q then 1 else 0) + 2 * setB p' r))) % 2 = if (p q || p' q) = true then 1 else 0 := by
      have := @Nat.or_mod_two_eq_one ((if p q then 1 else 0) + 2 * setB p r) ((if p' q then 1 else 0) + 2 * setB p' r)
      rcases bool_tf (p q) with h | h <;> rcases bool_tf (p' q) with h' | h' <;> simp only [h, h', Bool.or_true, Bool.true_or, Bool.or_false, if_true, if_false, Bool.false_eq_true] at this ⊢ <;> omega
    rw [e3]
    omega
/-- the reference's cells -/
def gL (b : zB) (D : List Int32) (g : zG) : Prop := ∀ (k : Nat) (c : Int32), D[k]? = some c → g 12 k = c ∧ g 13 k = nI (setB (pc b c) b.1)
theorem lays_loop {b : zB} (ok : okB b) : ∀ (r pre : List zL) (fuel : Nat) (D : List Int32) (g : zG), b.1 = pre ++ r → r.length < fuel → gD b pre D → gL b D g → rS (g 0) b → ∃ g', f_X7_laysCells_6 fuel (nI D.length) (nI (setB (fun q => cm b q && decide (cl b q ∈ D)) b.1)) (nI pre.length) g = some (nI (dcs b r D).length, g') ∧ gL b (dcs b r D) g' ∧ kq g g' := by
  have hn := ok.1
  intro r
  induction r with
  | nil =>
    intro pre fuel D g hd hf hD hg hS
    obtain ⟨n, rfl⟩ : ∃ n, fuel = n + 1 := ⟨fuel - 1, by omega⟩
    rw [List.append_nil] at hd
    refine ⟨g, ?_, hg, kq_rf g⟩
    show f_X7_laysCells_6_b (f_X7_laysCells_6 n) _ _ (nI pre.length) g = _
    unfold f_X7_laysCells_6_b
    rw [z0 (by decide) (by decide), tn0, hS.1, if_pos ((nI_leI (by omega) (by rw [← hd]; omega)).mpr (by rw [hd]; exact Nat.le_refl _))]
    rfl
  | cons q r ih =>
    intro pre fuel D g hd hf hD hg hS
    obtain ⟨n, rfl⟩ : ∃ n, fuel = n + 1 := ⟨fuel - 1, by omega⟩
    rw [List.length_cons] at hf
    have e1 : pre.length < b.1.length := by rw [hd]; simp
    have e2 : b.1[pre.length]? = some q := by rw [hd]; simp
    have hd' : b.1 = (pre ++ [q]) ++ r := by rw [hd]; simp
    have el : (pre ++ [q]).length = pre.length + 1 := by simp
    obtain ⟨g1, k1, k2⟩ := follows_ev hS ok e2 (u := 1000) (by decide)
    have hS1 : rS (g1 0) b := by rw [kp_0 k2.1]; exact hS
    have hg1 : gL b D g1 := fun k c hk => by
      rw [k2.1 12 (by decide) (by decide) (by decide) (by decide), k2.1 13 (by decide) (by decide) (by decide) (by decide)]
      exact hg k c hk
    have hDl : D.length ≤ pre.length := hD.2.1
    have no : ¬ (cm b q = true ∧ cl b q ∉ D) → ∃ g', f_X7_laysCells_6 n (nI D.length) (nI (setB (fun q => cm b q && decide (cl b q ∈ D)) b.1)) (nI (pre.length + 1)) g1 = some (nI (dcs b r (nx b q D)).length, g') ∧ gL b (dcs b r (nx b q D)) g' ∧ kq g g' := by
      intro h
      have en : nx b q D = D := by unfold nx; rw [if_neg h]
      have hD' := gD_nx hD q
      rw [en] at hD' ⊢
      obtain ⟨g', j1, j2, j3⟩ := ih (pre ++ [q]) n D g1 hd' (by omega) hD' hg1 hS1
      rw [el] at j1
      exact ⟨g', j1, j2, kq_tr (kq_of k2.1) j3⟩
    show ∃ g', f_X7_laysCells_6_b (f_X7_laysCells_6 n) _ _ (nI pre.length) g = some (nI (dcs b r (nx b q D)).length, g') ∧ gL b (dcs b r (nx b q D)) g' ∧ kq g g'
    unfold f_X7_laysCells_6_b
    have ez : pth q.1 b.2.1 1000 = zE b q := rfl
    have k9 := k2.2.2.1
    rw [z0 (by decide) (by decide), tn0, hS.1, if_neg (fun q => by have := (nI_leI (by omega) (by omega)).mp q; omega), k1, zbind_some, nIs pre.length, k2.2.2.2.2, ez]
    rw [ez] at k9
    rcases bool_tf (cm b q) with hc | hc
    · have hc' := cm_t.mp hc
      rw [if_pos hc']
      by_cases hm : cl b q ∈ D
      · rw [bit_yes hn e2 (p := fun q => cm b q && decide (cl b q ∈ D)) (by simp [hc, hm]), if_neg ne10]
        exact no (fun h => h.2 hm)
      · have z8 : ∀ {β : Type} (j : Option β), zin (nI D.length) 8 j = j := fun j => zin_nI (by omega) (by decide)
        have cd : (nI D.length).toNatClampNeg = D.length := nI_clamp (by omega)
        rw [bit_no hn e2 (p := fun q => cm b q && decide (cl b q ∈ D)) (by simp [hm]), if_pos rfl, cell_ev hS1 ok k9 (pth_rng hc'), zbind_some, z8, zlet_eq, z8, cd, gup_same]
        have e12 : upd (g1 12) D.length (fdI (zE b q).2.1 b.2.2) D.length = cl b q := by simp [upd]; rfl
        rw [e12]
        have hS2 : rS ((gup g1 12 D.length (fdI (zE b q).2.1 b.2.2)) 0) b := by rw [gup_ne _ _ _ (by decide)]; exact hS1
        obtain ⟨g2, i1, i2⟩ := inCell_ev ok (cl b q) hS2
        rw [i1, zbind_some]
        dsimp only
        rw [z8, zlet_eq, z8, gup_same]
        have e13 : upd (g2 13) D.length (nI (setB (pc b (cl b q)) b.1)) D.length = nI (setB (pc b (cl b q)) b.1) := by simp [upd]
        rw [e13, nI_or, setB_or, nIs D.length]
        have en : nx b q D = D ++ [cl b q] := by unfold nx; rw [if_pos ⟨hc, hm⟩]
        have eb : setB (fun x => (cm b x && decide (cl b x ∈ D)) || pc b (cl b q) x) b.1 = setB (fun x => cm b x && decide (cl b x ∈ nx b q D)) b.1 := by
          refine setB_congr (fun x _ => ?_)
          rw [en]
          unfold pc
          rcases bool_tf (cm b x) with h | h <;> simp [h]
        have eL : D.length + 1 = (nx b q D).length := by rw [en]; simp
        rw [eb, eL]
        have hS3 : rS ((gup g2 13 D.length (nI (setB (pc b (cl b q)) b.1))) 0) b := by rw [gup_ne _ _ _ (by decide), kp_0 i2]; exact hS2
        have kk : kq g (gup g2 13 D.length (nI (setB (pc b (cl b q)) b.1))) := fun j a1 a2 a3 a4 a5 a6 => by
          rw [gup_ne _ _ _ a6, i2 j a1 a2 a3 a4, gup_ne _ _ _ a5, k2.1 j a1 a2 a3 a4]
        have hg3 : gL b (nx b q D) (gup g2 13 D.length (nI (setB (pc b (cl b q)) b.1))) := by
          intro k c hk
          rw [en] at hk
          rw [gup_ne _ _ _ (show (12 : Nat) ≠ 13 by decide), gup_same, i2 12 (by decide) (by decide) (by decide) (by decide), i2 13 (by decide) (by decide) (by decide) (by decide), gup_same, gup_ne _ _ _ (show (13 : Nat) ≠ 12 by decide)]
          rcases snoc_get hk with ⟨hk1, hk⟩ | ⟨rfl, rfl⟩
          · unfold upd
            rw [if_neg (by omega), if_neg (by omega)]
            exact hg1 k c hk
          · unfold upd
            rw [if_pos rfl, if_pos rfl]
            exact ⟨rfl, rfl⟩
        obtain ⟨g', j1, j2, j3⟩ := ih (pre ++ [q]) n (nx b q D) _ hd' (by omega) (gD_nx hD q) hg3 hS3
        rw [el] at j1
        exact ⟨g', j1, j2, kq_tr kk j3⟩
    · rw [if_neg (cm_f.mp hc)]
      exact no (fun h => by rw [hc] at h; exact absurd h.1 (by decide))
theorem lays_ev {b : zB} (ok : okB b) {g : zG} (hS : rS (g 0) b) : ∃ g', f_X7_laysCells g = some (nI (dc b).length, g') ∧ gL b (dc b) g' ∧ kq g g' := by
  unfold f_X7_laysCells
  have hn := ok.1
  have e0 : setB (fun q => cm b q && decide (cl b q ∈ ([] : List Int32))) b.1 = 0 := setB_none (fun q _ => by simp)
  have := lays_loop ok b.1 [] zfuel [] g rfl (by unfold zfuel; omega) (gD_0 b) (fun k c h => by simp at h) hS
  rw [e0] at this
  exact this
