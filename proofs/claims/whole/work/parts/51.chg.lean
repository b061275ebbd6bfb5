/-! ===== a change on both sides ===== -/
abbrev rB (g : zG) (b : zB) : Prop := repB g b.1 b.2.1 b.2.2
abbrev rS (s : Nat → Int32) (b : zB) : Prop := repS s b.1 b.2.1 b.2.2
abbrev okB (b : zB) : Prop := okV b.1 b.2.1 b.2.2
def hisC (gY : zG) (h : Nat → Option zG) (hs : List zB) : Prop := hs.length ≤ 4 ∧ gY 1 0 = nI hs.length ∧ ∀ (i : Nat) (q : zB), hs[i]? = some q → ∃ g, h i = some g ∧ rB g q
def hisM (gN : zG) (hs : List zB) : Prop := gN 4 0 = nI hs.length ∧ ∀ (i : Nat) (q : zB), hs[i]? = some q → rS (fun j => gN 1 (59 * i + j)) q
def txC (gX : zG) (tx : List Int32) : Prop := tx.length ≤ 60 ∧ gX 1 0 = nI tx.length ∧ ∀ (i : Nat) (x : Int32), tx[i]? = some x → gX 0 i = x ∧ 32 ≤ x ∧ x ≤ 126
def txM (gN : zG) (tx : List Int32) : Prop := gN 7 0 = nI tx.length ∧ ∀ (i : Nat) (x : Int32), tx[i]? = some x → gN 6 i = x
def zAbs (gB gX gY : zG) (h : Nat → Option zG) (gN : zG) (b : zB) (hs : List zB) (tx : List Int32) : Prop :=
  okB b ∧ (∀ q ∈ hs, okB q) ∧ rB gB b ∧ rS (gN 0) b ∧ hisC gY h hs ∧ hisM gN hs ∧ gN 5 0 = 0 ∧ txC gX tx ∧ txM gN tx
theorem zRel_abs {gB gX gY gN : zG} {h : Nat → Option zG} (hR : zRel gB gX gY h gN) : ∃ b hs tx, zAbs gB gX gY h gN b hs tx := by
  obtain ⟨b, hs, tx, h1, h2, h3, h4, h5, h6, h7, h8, h9, h10, h11, h12, h13⟩ := hR
  exact ⟨b, hs, tx, h1, h2, h3, h4, ⟨h5, h6, fun i q hq => (h8 i q hq).1⟩, ⟨h7, fun i q hq => (h8 i q hq).2⟩, h9, ⟨h10, h11, fun i x hx => ⟨(h13 i x hx).1, (h13 i x hx).2.2⟩⟩, ⟨h12, fun i x hx => (h13 i x hx).2.1⟩⟩
theorem zAbs_rel {gB gX gY gN : zG} {h : Nat → Option zG} {b : zB} {hs : List zB} {tx : List Int32} (hA : zAbs gB gX gY h gN b hs tx) : zRel gB gX gY h gN := by
  obtain ⟨h1, h2, h3, h4, ⟨h5, h6, h8⟩, ⟨h7, h8'⟩, h9, ⟨h10, h11, h13⟩, ⟨h12, h13'⟩⟩ := hA
  exact ⟨b, hs, tx, h1, h2, h3, h4, h5, h6, h7, fun i q hq => ⟨h8 i q hq, h8' i q hq⟩, h9, h10, h11, h12, fun i x hx => ⟨(h13 i x hx).1, h13' i x hx, (h13 i x hx).2⟩⟩
/-- what a question leaves of the reference's state -/
theorem zAbs_keep {gB gX gY gN gN' : zG} {h : Nat → Option zG} {b : zB} {hs : List zB} {tx : List Int32} (hA : zAbs gB gX gY h gN b hs tx) (hk : ∀ j, j = 0 ∨ j = 1 ∨ j = 4 ∨ j = 5 ∨ j = 6 ∨ j = 7 → gN' j = gN j) : zAbs gB gX gY h gN' b hs tx := by
  obtain ⟨h1, h2, h3, h4, h5, h6, h7, h8, h9⟩ := hA
  refine ⟨h1, h2, h3, by rw [hk 0 (by simp)]; exact h4, h5, ?_, by rw [hk 5 (by simp)]; exact h7, h8, ?_⟩
  · unfold hisM; rw [hk 4 (by simp), hk 1 (by simp)]; exact h6
  · unfold txM; rw [hk 7 (by simp), hk 6 (by simp)]; exact h9
theorem copyFrom_ev (gT gB : zG) {b : zB} (h : rB gB b) (h1 : b.1.length ≤ 8) (h2 : b.2.1.length ≤ 8) : ∃ g', f_X0_copyFrom gT gB = some g' ∧ rB g' b := by
  unfold f_X0_copyFrom
  simp only [zlet_eq]
  refine ⟨_, rfl, ?_, ?_, ?_, ?_, ?_⟩
  · simpa [gup, gset, upd] using h.1
  · simpa [gup, gset, upd] using h.2.1
  · simpa [gup, gset, upd] using h.2.2.1
  · intro i t ht
    have hi : i < 8 := Nat.lt_of_lt_of_le (List.getElem?_eq_some_iff.mp ht).1 h1
    simpa [gup, gset, upd, va_cpy, hi] using h.2.2.2.1 i t ht
  · intro i t ht
    have hi : i < 8 := Nat.lt_of_lt_of_le (List.getElem?_eq_some_iff.mp ht).1 h2
    simpa [gup, gset, upd, va_cpy, hi] using h.2.2.2.2 i t ht
def pushH (hs : List zB) (b : zB) : List zB := (if hs.length = 4 then hs.tail else hs) ++ [b]
theorem pushH_ok {hs : List zB} {b : zB} (h : ∀ q ∈ hs, okB q) (hb : okB b) : ∀ q ∈ pushH hs b, okB q := by
  intro q hq
  unfold pushH at hq
  rcases List.mem_append.mp hq with hq | hq
  · split at hq
    · exact h q (List.mem_of_mem_tail hq)
    · exact h q hq
  · rw [List.mem_singleton.mp hq]; exact hb
theorem snoc_get {α : Type} {l : List α} {b q : α} {i : Nat} (h : (l ++ [b])[i]? = some q) : (i < l.length ∧ l[i]? = some q) ∨ (i = l.length ∧ q = b) := by
  rw [List.getElem?_append] at h
  split at h
  · exact Or.inl ⟨by assumption, h⟩
  · have hl := (List.getElem?_eq_some_iff.mp h).1
    simp at hl
    have hi : i = l.length := by omega
    subst hi
    simp at h
    exact Or.inr ⟨rfl, h.symm⟩
theorem record_b_ev {gY gB : zG} {h : Nat → Option zG} {hs : List zB} {b : zB} (hH : hisC gY h hs) (h4 : hs.length < 4) (hB : rB gB b) (ok : okB b) : ∃ gY' h', f_X3_record_b gY gB h = some (gY', h') ∧ hisC gY' h' (hs ++ [b]) := by
  obtain ⟨a1, a2, a3⟩ := hH
  obtain ⟨r, e1, e2⟩ := copyFrom_ev ((h hs.length).getD iX0) gB hB ok.1 ok.2.1
  unfold f_X3_record_b
  rw [a2, if_neg (nI_pos (by omega)), if_pos (c := nI hs.length < (4 : Int32)) ((nI_ltI (b := 4) (by omega) (by decide)).mpr h4), nI_clamp (by omega), e1, zbind_some, nI_1]
  refine ⟨_, _, rfl, ?_, ?_, ?_⟩
  · simp; omega
  · simp [gup, upd]
  · intro i q hq
    rcases snoc_get hq with ⟨hi, hq⟩ | ⟨rfl, rfl⟩
    · obtain ⟨g, g1, g2⟩ := a3 i q hq
      refine ⟨g, ?_, g2⟩
      unfold va_up
      rw [if_neg (by omega)]
      exact g1
    · exact ⟨r, by simp [va_up], e2⟩
theorem record_ev {gY gB : zG} {h : Nat → Option zG} {hs : List zB} {b : zB} (hH : hisC gY h hs) (hB : rB gB b) (ok : okB b) : ∃ gY' h', f_X3_record gY gB h = some (gY', h') ∧ hisC gY' h' (pushH hs b) := by
  have hH0 := hH
  obtain ⟨a1, a2, a3⟩ := hH
  unfold f_X3_record pushH
  by_cases h4 : hs.length = 4
  · rw [a2, if_neg (c := nI hs.length < (4 : Int32)) (fun q => by have := (nI_ltI (b := 4) (by omega) (by decide)).mp q; omega), if_pos h4]
    refine record_b_ev ⟨?_, ?_, ?_⟩ ?_ hB ok
    · rw [List.length_tail]; omega
    · rw [List.length_tail, h4]; simp [gup, upd]; rfl
    · intro i q hq
      rw [List.getElem?_tail] at hq
      have hi := (List.getElem?_eq_some_iff.mp hq).1
      obtain ⟨g, g1, g2⟩ := a3 (i + 1) q hq
      refine ⟨g, ?_, g2⟩
      have hi3 : i < 3 := by omega
      rcases (show i = 0 ∨ i = 1 ∨ i = 2 by omega) with rfl | rfl | rfl <;> simpa [hrot, va_up] using g1
    · rw [List.length_tail]; omega
  · rw [a2, if_pos (c := nI hs.length < (4 : Int32)) ((nI_ltI (b := 4) (by omega) (by decide)).mpr (by omega)), if_neg h4]
    exact record_b_ev hH0 (by omega) hB ok
theorem keepTrial_neg (gM gB gT gY : zG) (h : Nat → Option zG) {a : Int32} (ha : a < 0) : f_X6_keepTrial gM gB gT gY h a = some (a, gB, gY, h) := by
  unfold f_X6_keepTrial
  rw [if_pos ha]
theorem keepTrial_ev (gM : zG) {gB gT gY : zG} {h : Nat → Option zG} {a : Int32} (ha : ¬ a < 0) {hs : List zB} {b b' : zB} (hH : hisC gY h hs) (hB : rB gB b) (ok : okB b) (hT : rB gT b') (ok' : okB b') : ∃ gB' gY' h', f_X6_keepTrial gM gB gT gY h a = some (a, gB', gY', h') ∧ rB gB' b' ∧ hisC gY' h' (pushH hs b) := by
  obtain ⟨gY', h', e1, e2⟩ := record_ev hH hB ok
  obtain ⟨gB', e3, e4⟩ := copyFrom_ev gB gT hT ok'.1 ok'.2.1
  unfold f_X6_keepTrial
  rw [if_neg ha, e1, zbind_some, e3, zbind_some]
  exact ⟨gB', gY', h', rfl, e4, e2⟩
theorem changes_push {gN : zG} {hs : List zB} {b : zB} (hr : gN 5 0 = 0) (hH : hisM gN hs) (hl : hs.length ≤ 4) (hok : ∀ q ∈ hs, okB q) (hS : rS (gN 0) b) (ok : okB b) : ∃ gN1, f_X7_changes gN = some gN1 ∧ (∀ j, j ≠ 1 → j ≠ 4 → gN1 j = gN j) ∧ hisM gN1 (pushH hs b) := by
  obtain ⟨a1, a2⟩ := hH
  refine ⟨_, changes_ev hr hl a1, ?_, ?_, ?_⟩
  · intro j j1 j4
    rw [gup_ne _ _ _ j4, gset_ne _ _ j1]
  · unfold pushH
    by_cases h4 : hs.length = 4
    · simp [gup, upd, h4]
    · simp [gup, upd, h4]
  · intro i q hq
    rw [gup_ne _ _ _ (by decide), gset_same]
    unfold pushH at hq
    by_cases h4 : hs.length = 4
    · rw [if_pos h4] at hq ⊢
      rcases snoc_get hq with ⟨hi, hq⟩ | ⟨rfl, rfl⟩
      · rw [List.length_tail] at hi
        rw [List.getElem?_tail] at hq
        have okq := hok q (List.mem_of_getElem? hq)
        refine repS_congr (fun j hj => ?_) okq.1 okq.2.1 (a2 (i + 1) q hq)
        unfold cpS shP
        rw [if_neg (by omega), if_pos (by omega)]
        congr 1
        omega
      · refine repS_congr (fun j hj => ?_) ok.1 ok.2.1 hS
        rw [List.length_tail, h4]
        unfold cpS
        rw [if_pos (by omega)]
        exact congrArg (gN 0) (by omega)
    · rw [if_neg h4] at hq ⊢
      rcases snoc_get hq with ⟨hi, hq⟩ | ⟨rfl, rfl⟩
      · have okq := hok q (List.mem_of_getElem? hq)
        refine repS_congr (fun j hj => ?_) okq.1 okq.2.1 (a2 i q hq)
        unfold cpS
        rw [if_neg (by omega)]
      · refine repS_congr (fun j hj => ?_) ok.1 ok.2.1 hS
        unfold cpS
        rw [if_pos (by omega)]
        congr 1
        omega
/-- an operation of the class's bench: its answer, and the bench behind it -/
def opC (op : zG → Option (Int32 × zG)) (b : zB) (r : Int32 × Option zB) : Prop := ∀ g, rB g b → ∃ g', op g = some (r.1, g') ∧ (match r.2 with
  | none => r.1 < 0
  | some b' => ¬ r.1 < 0 ∧ rB g' b')
/-- an operation of the reference -/
def opM (F : zG → Option (Int32 × zG)) (b : zB) (r : Int32 × Option zB) : Prop := ∀ g g1, rS (g 0) b → f_X7_changes g = some g1 → g1 0 = g 0 → (match r.2 with
  | none => F g = some (r.1, g)
  | some b' => ∃ g', F g = some (r.1, g') ∧ (∀ j, j ≠ 0 → g' j = g1 j) ∧ rS (g' 0) b')
theorem pm_chg {gB gX gY gN : zG} {h : Nat → Option zG} (hR : zRel gB gX gY h gN) (gM gT : zG) {A : zB → Int32 × Option zB} {opc F : zG → Option (Int32 × zG)} (hC : ∀ b, okB b → opC opc b (A b)) (hM : ∀ b, okB b → opM F b (A b)) (hok : ∀ b, okB b → ∀ b', (A b).2 = some b' → okB b') :
    ∃ R R', (zbind (f_X0_copyFrom gT gB) (fun R1 => zbind (opc R1) (fun R2 => zbind (f_X6_keepTrial gM gB R2.2 gY h R2.1) (fun R3 => some (R3.1, R3.2.1, R2.2, R3.2.2.1, R3.2.2.2)))) : Option (Int32 × zG × zG × zG × (Nat → Option zG))) = some R ∧ F gN = some R' ∧ R.1 = R'.1 ∧ zRel R.2.1 gX R.2.2.2.1 R.2.2.2.2 R'.2 := by
  obtain ⟨b, hs, tx, hA⟩ := zRel_abs hR
  obtain ⟨h1, h2, h3, h4, h5, h6, h7, h8, h9⟩ := hA
  obtain ⟨gT1, e1, e2⟩ := copyFrom_ev gT gB h3 h1.1 h1.2.1
  obtain ⟨gT2, e3, e4⟩ := hC b h1 gT1 e2
  obtain ⟨gN1, c1, c2, c3⟩ := changes_push h7 h6 h5.1 h2 h4 h1
  have m := hM b h1 gN gN1 h4 c1 (c2 0 (by decide) (by decide))
  have k := hok b h1
  rw [e1, zbind_some, e3, zbind_some]
  generalize A b = r at e3 e4 m k
  obtain ⟨a, o⟩ := r
  cases o with
  | none =>
    simp only at e4 m
    rw [keepTrial_neg _ _ _ _ _ e4, zbind_some]
    exact ⟨_, _, rfl, m, rfl, hR⟩
  | some b' =>
    simp only at e4 m
    obtain ⟨g', m1, m2, m3⟩ := m
    have ok' := k b' rfl
    obtain ⟨gB', gY', h', k1, k2, k3⟩ := keepTrial_ev gM e4.1 h5 h3 h1 e4.2 ok'
    rw [k1, zbind_some]
    refine ⟨_, _, rfl, m1, rfl, ?_⟩
    refine zAbs_rel (b := b') (hs := pushH hs b) (tx := tx) ⟨ok', pushH_ok h2 h1, k2, m3, k3, ?_, ?_, h8, ?_⟩
    · show hisM g' _
      unfold hisM
      rw [m2 4 (by decide), m2 1 (by decide)]
      exact c3
    · show g' 5 0 = 0
      rw [m2 5 (by decide), c2 5 (by decide) (by decide)]
      exact h7
    · show txM g' _
      unfold txM
      rw [m2 7 (by decide), m2 6 (by decide), c2 7 (by decide) (by decide), c2 6 (by decide) (by decide)]
      exact h9
