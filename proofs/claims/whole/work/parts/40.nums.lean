/-! ===== numbers and the mirror's words ===== -/
theorem zbind_some {α β : Type} (a : α) (f : α → Option β) : zbind (some a) f = f a := rfl
theorem zlet_eq {α β : Type} (a : α) (f : α → Option β) : zlet a f = f a := rfl
theorem zin_ok {β : Type} {i : Int32} {n : Nat} {k : Option β} (h : vp_in i n) : zin i n k = k := if_neg h
theorem zin_nI {β : Type} {k N : Nat} {b : Option β} (h : k < N) (hN : N < 2 ^ 31) : zin (nI k) N b = b := zin_ok (vp_in_nI h hN)
theorem tn0 : (0 : Int32).toNatClampNeg = 0 := rfl
theorem tn1 : (1 : Int32).toNatClampNeg = 1 := rfl
theorem tn2 : (2 : Int32).toNatClampNeg = 2 := rfl
theorem z0 {β : Type} {N : Nat} {b : Option β} (h : 0 < N) (hN : N < 2 ^ 31) : zin (0 : Int32) N b = b := zin_nI (k := 0) h hN
theorem z1 {β : Type} {N : Nat} {b : Option β} (h : 1 < N) (hN : N < 2 ^ 31) : zin (1 : Int32) N b = b := zin_nI (k := 1) h hN
theorem z2 {β : Type} {N : Nat} {b : Option β} (h : 2 < N) (hN : N < 2 ^ 31) : zin (2 : Int32) N b = b := zin_nI (k := 2) h hN
theorem zne_ok {β : Type} {y : Int32} {k : Option β} (h : ¬ y = 0) : zne y k = k := if_neg h
theorem zbl_0 {β : Type} {k : Option β} : zbl 0 k = k := if_pos (Or.inl rfl)
theorem zbl_1 {β : Type} {k : Option β} : zbl 1 k = k := if_pos (Or.inr rfl)
theorem toInt_nI {n : Nat} (h : n < 2 ^ 31) : (nI n).toInt = (n : Int) := nI_toInt h
theorem ile {a b : Int32} : a ≤ b ↔ a.toInt ≤ b.toInt := Int32.le_iff_toInt_le
theorem ilt {a b : Int32} : a < b ↔ a.toInt < b.toInt := Int32.lt_iff_toInt_lt
theorem inle {a b : Int32} : ¬ a ≤ b ↔ b < a := Int32.not_le
theorem inlt {a b : Int32} : ¬ a < b ↔ b ≤ a := Int32.not_lt
theorem iadd {a b : Int32} (h1 : -2147483648 ≤ a.toInt + b.toInt) (h2 : a.toInt + b.toInt < 2147483648) : (a + b).toInt = a.toInt + b.toInt := by
  rw [Int32.toInt_add]; exact Int.bmod_eq_of_le (by simpa using h1) (by simpa using h2)
theorem isub {a b : Int32} (h1 : -2147483648 ≤ a.toInt - b.toInt) (h2 : a.toInt - b.toInt < 2147483648) : (a - b).toInt = a.toInt - b.toInt := by
  rw [Int32.toInt_sub]; exact Int.bmod_eq_of_le (by simpa using h1) (by simpa using h2)
theorem imul {a b : Int32} (h1 : -2147483648 ≤ a.toInt * b.toInt) (h2 : a.toInt * b.toInt < 2147483648) : (a * b).toInt = a.toInt * b.toInt := by
  rw [Int32.toInt_mul]; exact Int.bmod_eq_of_le (by simpa using h1) (by simpa using h2)
theorem ineg {a : Int32} (h1 : -2147483648 < a.toInt) : (-a).toInt = - a.toInt := by
  rw [Int32.toInt_neg]; exact Int.bmod_eq_of_le (by have := a.toInt_lt; omega) (by omega)
theorem within_ev (v a b : Int32) : f_X6_within v a b = some (if a ≤ v ∧ v ≤ b then 1 else 0) := by
  unfold f_X6_within
  by_cases h1 : v < a
  · rw [if_pos h1, if_neg (fun h => inlt.mpr h.1 h1)]
  · rw [if_neg h1]
    by_cases h2 : b < v
    · rw [if_pos h2, if_neg (fun h => inlt.mpr h.2 h2)]
    · rw [if_neg h2, if_pos ⟨inlt.mp h1, inlt.mp h2⟩]
theorem in_ev (v a b : Int32) : f_X7_in v a b = some (if a ≤ v ∧ v ≤ b then 1 else 0) := within_ev v a b
/-- the line or thing number that a call tells, if there is one -/
def lnum (n : Nat) (x : Int32) : Option Nat := if 0 ≤ x ∧ x < nI n then some x.toNatClampNeg else none
theorem lnum_some {n : Nat} (hn : n < 2 ^ 31) {x : Int32} {k : Nat} (h : lnum n x = some k) : k < n ∧ x = nI k := by
  unfold lnum at h
  split at h
  · rename_i hx
    obtain ⟨j, hj, rfl⟩ := nI_of (inlt.mpr hx.1)
    rw [nI_clamp hj] at h
    cases h
    exact ⟨(nI_ltI hj hn).mp hx.2, rfl⟩
  · cases h
theorem lnum_nI {n k : Nat} (hk : k < n) (hn : n < 2 ^ 31) : lnum n (nI k) = some k := by
  unfold lnum
  rw [if_pos ⟨nI_pos' (by omega), (nI_ltI (by omega) hn).mpr hk⟩, nI_clamp (by omega)]
theorem lnum_none {n : Nat} {x : Int32} (h : lnum n x = none) : ¬ (0 ≤ x ∧ x < nI n) := by
  unfold lnum at h
  split at h
  · cases h
  · assumption
theorem hasLine_ev {g : zG} {n : Nat} (h : g 2 0 = nI n) (hn : n ≤ 8) (x : Int32) : f_X0_hasLine g x = some (if (lnum n x).isSome then 1 else 0) := by
  unfold f_X0_hasLine lnum
  rw [h]
  by_cases h1 : x < 0
  · rw [if_pos h1, if_neg (c := 0 ≤ x ∧ x < nI n) (fun q => inlt.mpr q.1 h1)]; rfl
  · rw [if_neg h1]
    by_cases h2 : nI n ≤ x
    · rw [if_pos h2, if_neg (c := 0 ≤ x ∧ x < nI n) (fun q => inle.mpr q.2 h2)]; rfl
    · rw [if_neg h2, if_pos (c := 0 ≤ x ∧ x < nI n) ⟨inlt.mp h1, inle.mp h2⟩]
      have h3 : ¬ (8 : Int32) ≤ x := by
        rw [inle]
        have a := inle.mp h2
        rw [ilt, toInt_nI (by omega)] at a
        rw [ilt, show (8 : Int32).toInt = 8 from rfl]
        omega
      rw [if_neg h3]; rfl
theorem hasThing_ev {g : zG} {n : Nat} (h : g 8 0 = nI n) (hn : n ≤ 8) (x : Int32) : f_X0_hasThing g x = some (if (lnum n x).isSome then 1 else 0) := by
  have := hasLine_ev (g := fun k => if k = 2 then g 8 else g k) (n := n) (by simpa using h) hn x
  simpa [f_X0_hasLine, f_X0_hasThing] using this
theorem isLine_ev {g : zG} {n : Nat} (h : g 0 0 = nI n) (hn : n ≤ 8) (x : Int32) : f_X7_isLine g x = some (if (lnum n x).isSome then 1 else 0) := by
  unfold f_X7_isLine lnum
  have e0 : (0 : Int32).toNatClampNeg = 0 := rfl
  rw [e0, h, z0 (by decide) (by decide)]
  by_cases h1 : x < 0
  · rw [if_pos h1, if_neg (c := 0 ≤ x ∧ x < nI n) (fun q => inlt.mpr q.1 h1)]; rfl
  · rw [if_neg h1]
    by_cases h2 : nI n ≤ x
    · rw [if_pos h2, if_neg (c := 0 ≤ x ∧ x < nI n) (fun q => inle.mpr q.2 h2)]; rfl
    · rw [if_neg h2, if_pos (c := 0 ≤ x ∧ x < nI n) ⟨inlt.mp h1, inle.mp h2⟩]; rfl
-- division rounded down
def fdI (v d : Int32) : Int32 := Int32.ofInt (v.toInt / d.toInt)
theorem fdI_toInt {v d : Int32} (hd : 0 < d.toInt) : (fdI v d).toInt = v.toInt / d.toInt := by
  unfold fdI
  have h1 := v.toInt_lt
  have h2 := v.le_toInt
  have h3 : v.toInt / d.toInt < 2 ^ 31 := Int.ediv_lt_of_lt_mul hd (by
    have : (2 : Int) ^ 31 * 1 ≤ 2 ^ 31 * d.toInt := Int.mul_le_mul_of_nonneg_left (by omega) (by decide)
    omega)
  have h4 : -2 ^ 31 ≤ v.toInt / d.toInt := (Int.le_ediv_iff_mul_le hd).mpr (by
    have : (2 : Int) ^ 31 * 1 ≤ 2 ^ 31 * d.toInt := Int.mul_le_mul_of_nonneg_left (by omega) (by decide)
    omega)
  exact Int32.toInt_ofInt_of_le h4 h3
theorem idiv {a b : Int32} (hb : 0 < b.toInt) : (a / b).toInt = a.toInt.tdiv b.toInt := Int32.toInt_div_of_ne_right a b (fun h => by rw [h] at hb; exact absurd hb (by decide))
theorem floor_ev {v d : Int32} (hd : 0 < d.toInt) (hv : -2147483648 + d.toInt ≤ v.toInt) : f_X7_floor v d = some (fdI v d) := by
  have hd0 : ¬ d = 0 := fun h => by rw [h] at hd; exact absurd hd (by decide)
  have b1 := d.toInt_lt
  have b2 := v.toInt_lt
  unfold f_X7_floor
  by_cases h : v < 0
  · rw [if_pos h, zne_ok hd0]
    congr 1
    rw [ilt, Int32.toInt_zero] at h
    apply Int32.toInt_inj.mp
    have e1 : (d - 1).toInt = d.toInt - 1 := isub (by rw [Int32.toInt_one]; omega) (by rw [Int32.toInt_one]; omega)
    have e2 : (d - 1 - v).toInt = d.toInt - 1 - v.toInt := by rw [isub (by rw [e1]; omega) (by rw [e1]; omega), e1]
    have e3 : ((d - 1 - v) / d).toInt = (d.toInt - 1 - v.toInt) / d.toInt := by
      rw [idiv hd, e2, Int.tdiv_eq_ediv_of_nonneg (by omega)]
    have e4 : (d.toInt - 1 - v.toInt) / d.toInt = - (v.toInt / d.toInt) := by
      have q1 := Int.emod_nonneg v.toInt (show d.toInt ≠ 0 by omega)
      have q2 := Int.emod_lt_of_pos v.toInt hd
      have q3 := Int.mul_ediv_add_emod v.toInt d.toInt
      have r1 : -(v.toInt / d.toInt) ≤ (d.toInt - 1 - v.toInt) / d.toInt := by
        rw [Int.le_ediv_iff_mul_le hd]
        have : -(v.toInt / d.toInt) * d.toInt = - (d.toInt * (v.toInt / d.toInt)) := by rw [Int.neg_mul, Int.mul_comm]
        omega
      have r2 : (d.toInt - 1 - v.toInt) / d.toInt < -(v.toInt / d.toInt) + 1 := by
        apply Int.ediv_lt_of_lt_mul hd
        have : (-(v.toInt / d.toInt) + 1) * d.toInt = - (d.toInt * (v.toInt / d.toInt)) + d.toInt := by rw [Int.add_mul, Int.neg_mul, Int.one_mul, Int.mul_comm]
        omega
      omega
    rw [fdI_toInt hd, ineg, e3, e4, Int.neg_neg]
    rw [e3, e4]
    have q := (Int.le_ediv_iff_mul_le (a := -2147483648) (b := v.toInt) hd).mpr (by
      have : (2147483648 : Int) * 1 ≤ 2147483648 * d.toInt := Int.mul_le_mul_of_nonneg_left (by omega) (by decide)
      omega)
    have q5 : v.toInt / d.toInt < 0 := Int.ediv_neg_of_neg_of_pos h hd
    omega
  · rw [if_neg h, zne_ok hd0]
    congr 1
    rw [inlt, ile, Int32.toInt_zero] at h
    apply Int32.toInt_inj.mp
    rw [fdI_toInt hd, idiv hd, Int.tdiv_eq_ediv_of_nonneg h]
theorem fdI_nonneg {v d : Int32} (hd : 0 < d.toInt) (hv : 0 ≤ v.toInt) : v / d = fdI v d := by
  apply Int32.toInt_inj.mp
  rw [fdI_toInt hd, idiv hd, Int.tdiv_eq_ediv_of_nonneg hv]
theorem xor_sign {x d : Int32} (hd : 0 < d.toInt) : 0 ≤ (x ^^^ d) ↔ 0 ≤ x.toInt := by
  have h1 : (x ^^^ d).toBitVec.msb = x.toBitVec.msb := by
    rw [Int32.toBitVec_xor, BitVec.msb_xor, BitVec.msb_eq_toInt (x := d.toBitVec), Int32.toInt_toBitVec, decide_eq_false (by omega)]
    simp
  rw [BitVec.msb_eq_toInt, BitVec.msb_eq_toInt, Int32.toInt_toBitVec, Int32.toInt_toBitVec, decide_eq_decide] at h1
  rw [ile, Int32.toInt_zero]
  omega
theorem floorDiv_ev {v d : Int32} (hd : 0 < d.toInt) : f_J9_floorDiv_7cf53 v d = some (fdI v d) := by
  have hd0 : ¬ d = 0 := fun h => by rw [h] at hd; exact absurd hd (by decide)
  unfold f_J9_floorDiv_7cf53
  rw [zne_ok hd0]
  have q0 := Int.tdiv_eq_ediv (a := v.toInt) (b := d.toInt)
  have qd := idiv (a := v) hd
  have b1 := v.toInt_lt
  have b2 := v.le_toInt
  have b3 := d.toInt_lt
  by_cases h : 0 ≤ (v ^^^ d)
  · rw [if_pos h, fdI_nonneg hd ((xor_sign hd).mp h)]
  · rw [if_neg h]
    have hv : v.toInt < 0 := by
      have := mt (xor_sign (x := v) hd).mpr h
      omega
    have sg : Int.sign d.toInt = 1 := Int.sign_eq_one_of_pos hd
    by_cases hdv : d.toInt ∣ v.toInt
    · rw [if_pos (Or.inr hdv), Int.add_zero] at q0
      have e : (v / d) = fdI v d := by
        apply Int32.toInt_inj.mp
        rw [fdI_toInt hd, qd, q0]
      have e2 : (v / d) * d = v := by
        apply Int32.toInt_inj.mp
        have e3 : (v / d).toInt * d.toInt = v.toInt := by rw [qd, q0, Int.ediv_mul_cancel hdv]
        rw [imul (by rw [e3]; omega) (by rw [e3]; omega), e3]
      rw [if_pos e2, e]
    · have hn : ¬ (0 ≤ v.toInt ∨ d.toInt ∣ v.toInt) := fun q => q.elim (fun q => by omega) hdv
      rw [if_neg hn, sg] at q0
      have q1 := Int.emod_nonneg v.toInt (show d.toInt ≠ 0 by omega)
      have q2 := Int.emod_lt_of_pos v.toInt hd
      have q3 := Int.mul_ediv_add_emod v.toInt d.toInt
      have e3 : (v / d).toInt * d.toInt = d.toInt * (v.toInt / d.toInt) + d.toInt := by rw [qd, q0, Int.add_mul, Int.one_mul, Int.mul_comm]
      have e2 : ¬ (v / d) * d = v := by
        intro q
        have q5 := congrArg Int32.toInt q
        rw [imul (by rw [e3]; omega) (by rw [e3]; omega), e3] at q5
        apply hdv
        refine ⟨v.toInt / d.toInt + 1, ?_⟩
        rw [Int.mul_add, Int.mul_one]
        omega
      rw [if_neg e2]
      congr 1
      apply Int32.toInt_inj.mp
      have q7 := fdI_toInt (v := v) hd
      have q8 := (fdI v d).toInt_lt
      have q9 := (fdI v d).le_toInt
      rw [q7] at q8 q9
      rw [isub (by rw [qd, q0, Int32.toInt_one]; omega) (by rw [qd, q0, Int32.toInt_one]; omega), qd, q0, Int32.toInt_one, q7]
      omega
