/-! ===== the share of the light, as a float ===== -/
theorem q_min : FP.Core.b32.qmin = -149 := by decide
theorem q_max : FP.Core.b32.qmax = 104 := by decide
theorem fitsN {c : Nat} {q : Int} (h1 : 2 ^ 23 ≤ c) (h2 : c < 2 ^ 24) (h3 : -149 ≤ q) (h4 : q ≤ 104) : FP.Core.fits FP.Core.b32 (.fin false c q) :=
  ⟨h2, by rw [q_min]; exact h3, by rw [q_max]; exact h4, Or.inr h1⟩
theorem normal {m : Nat} (h0 : 0 < m) (h : m < 2 ^ 24) : ∃ k, k ≤ 23 ∧ 2 ^ 23 ≤ m * 2 ^ k ∧ m * 2 ^ k < 2 ^ 24 := by
  have a1 : 2 ^ m.log2 ≤ m := Nat.log2_self_le (by omega)
  have a2 : m < 2 ^ (m.log2 + 1) := Nat.lt_log2_self
  have a3 : m.log2 ≤ 23 := by
    rcases Nat.lt_or_ge 23 m.log2 with q | q
    · have : 2 ^ 24 ≤ 2 ^ m.log2 := Nat.pow_le_pow_right (by decide) q
      omega
    · exact q
  refine ⟨23 - m.log2, by omega, ?_, ?_⟩
  · have e : 2 ^ 23 = 2 ^ m.log2 * 2 ^ (23 - m.log2) := by rw [← Nat.pow_add]; congr 1; omega
    rw [e]
    exact Nat.mul_le_mul_right _ a1
  · have e : 2 ^ 24 = 2 ^ (m.log2 + 1) * 2 ^ (23 - m.log2) := by rw [← Nat.pow_add]; congr 1; omega
    rw [e]
    exact Nat.mul_lt_mul_of_pos_right a2 (Nat.two_pow_pos _)
theorem zfl_fin {β : Type} {v : UInt32} {s : Bool} {c : Nat} {q : Int} (h : FP.Core.val32 v = .fin s c q) (k : Option β) : zfl v k = k := by
  unfold zfl
  refine if_pos ?_
  have hE : ¬ v.toNat / 8388608 % 256 = 255 := by
    intro e
    unfold FP.Core.val32 FP.Core.decode at h
    have e' : FP.Core.fieldE FP.Core.b32 v.toNat = FP.Core.b32.exps - 1 := e
    rw [if_pos e'] at h
    split at h <;> cases h
  rw [UInt32.le_iff_toNat_le, UInt32.toNat_and]
  have e1 : (0x7fffffff : UInt32).toNat = 2 ^ 31 - 1 := rfl
  have e2 : (0x7f800000 : UInt32).toNat = 2139095040 := rfl
  rw [e1, e2, Nat.and_two_pow_sub_one_eq_mod]
  omega
theorem v0 : FP.Core.val32 FP.fconst0 = .fin false 0 (-149) := by decide +kernel
theorem v1 : FP.Core.val32 FP.fconst1 = .fin false 8388608 (-23) := by decide +kernel
theorem v2 : FP.Core.val32 FP.fconst2 = .fin false 8388608 (-22) := by decide +kernel
theorem v23 : FP.Core.val32 (1258291200 : UInt32) = .fin false 8388608 0 := by decide +kernel
theorem fcmp_val (x y : UInt32) : FP.fcmp x y = FP.Core.order (FP.Core.val32 x) (FP.Core.val32 y) := rfl
theorem cmp_lt {a b : Int} (h : a < b) : compare a b = .lt := by
  show compareOfLessAndEq a b = _
  unfold compareOfLessAndEq
  rw [if_pos h]
theorem cmp_eq {a b : Int} (h : a = b) : compare a b = .eq := by
  show compareOfLessAndEq a b = _
  unfold compareOfLessAndEq
  rw [if_neg (by omega), if_pos h]
theorem cmp_gt {a b : Int} (h : b < a) : compare a b = .gt := by
  show compareOfLessAndEq a b = _
  unfold compareOfLessAndEq
  rw [if_neg (by omega), if_neg (by omega)]
/-- half of a float below 1 -/
theorem cmp1_lt {y : UInt32} {c : Nat} {q : Int} (h : FP.Core.val32 y = .fin false c q) (hc : c < 2 ^ 24) (hq : q < -23) : FP.fcmp y FP.fconst1 = some .lt := by
  rw [fcmp_val, h, v1]
  show some (compare (FP.Core.signed false (FP.Core.inUnits c q (min q (-23)))) (FP.Core.signed false (FP.Core.inUnits 8388608 (-23) (min q (-23))))) = _
  rw [show min q (-23) = q by omega]
  unfold FP.Core.signed FP.Core.inUnits
  rw [if_neg (by decide), if_neg (by decide)]
  refine congrArg some (cmp_lt ?_)
  obtain ⟨d, hd⟩ : ∃ d : Nat, (-23 - q).toNat = d + 1 := ⟨(-23 - q).toNat - 1, by omega⟩
  rw [hd, Int.sub_self, Int.toNat_zero, Nat.pow_zero, Nat.mul_one, Nat.pow_succ]
  have := Nat.two_pow_pos d
  omega
theorem cmp1_ge {y : UInt32} {c : Nat} (h : FP.Core.val32 y = .fin false c (-23)) (hc : 2 ^ 23 ≤ c) : 0 ≤ (Op.cmpValue (FP.fcmp y FP.fconst1) .g) := by
  rw [fcmp_val, h, v1]
  show 0 ≤ Op.cmpValue (some (compare (FP.Core.signed false (FP.Core.inUnits c (-23) (min (-23) (-23)))) (FP.Core.signed false (FP.Core.inUnits 8388608 (-23) (min (-23) (-23)))))) .g
  rw [show min (-23 : Int) (-23) = -23 by decide]
  unfold FP.Core.signed FP.Core.inUnits
  rw [if_neg (by decide), if_neg (by decide), Int.sub_self, Int.toNat_zero, Nat.pow_zero, Nat.mul_one, Nat.mul_one]
  by_cases e : c = 8388608
  · rw [cmp_eq (by omega)]; decide
  · rw [cmp_gt (by omega)]; decide
theorem dbl {y : UInt32} {c : Nat} {q : Int} (h : FP.Core.val32 y = .fin false c q) (h1 : 2 ^ 23 ≤ c) (h2 : c < 2 ^ 24) (h3 : -149 ≤ q) (h4 : q < -23) : FP.Core.val32 (FP.fmul y FP.fconst2) = .fin false c (q + 1) := by
  show FP.Core.val32 (FP.Core.fmul y FP.fconst2) = _
  rw [FP.Core.val32_fmul, h, v2]
  show FP.Core.roundRatio FP.Core.b32 false (c * 8388608) 1 (q + -22) = _
  refine FP.Core.roundRatio_exact FP.Core.good_b32 (by decide) (fitsN h1 h2 (by omega) (by omega)) ?_
  rw [show (q + -22 - (q + 1)).toNat = 0 by omega, show (q + 1 - (q + -22)).toNat = 23 by omega]
  rw [Nat.pow_zero, Nat.mul_one, Nat.mul_one]
/-- what is left of 1.m behind 1 is taken away, in units -/
theorem tail_m {y : UInt32} {m : Nat} (h : FP.Core.val32 y = .fin false (8388608 + m) (-23)) (h2 : m < 8388608) : ∃ (c1 c2 : Nat) (q1 q2 : Int), FP.Core.val32 (FP.fsub y FP.fconst1) = .fin false c1 q1 ∧ FP.Core.val32 (FP.fmul (FP.fsub y FP.fconst1) (1258291200 : UInt32)) = .fin false c2 q2 ∧ FP.f2i (FP.fmul (FP.fsub y FP.fconst1) (1258291200 : UInt32)) = nI m := by
  have e1 : FP.Core.val32 (FP.fsub y FP.fconst1) = FP.Core.roundRatio FP.Core.b32 false m 1 (-23) := by
    show FP.Core.val32 (FP.Core.fsub y FP.fconst1) = _
    rw [FP.Core.val32_fsub, h, v1]
    have es : FP.Core.sumUnits false (8388608 + m) (-23) true 8388608 (-23) (min (-23) (-23)) = (m : Int) := by
      rw [show min (-23 : Int) (-23) = -23 by decide]
      unfold FP.Core.sumUnits FP.Core.signed FP.Core.inUnits
      rw [if_neg (by decide), if_pos rfl, Int.sub_self, Int.toNat_zero, Nat.pow_zero, Nat.mul_one, Nat.mul_one]
      omega
    show FP.Core.round FP.Core.b32 (.fin (FP.Core.sumSign false true (FP.Core.sumUnits false (8388608 + m) (-23) true 8388608 (-23) (min (-23) (-23)))) (FP.Core.sumUnits false (8388608 + m) (-23) true 8388608 (-23) (min (-23) (-23))).natAbs (min (-23) (-23))) = _
    rw [es]
    have e2 : FP.Core.sumSign false true (m : Int) = false := by
      unfold FP.Core.sumSign
      split
      · rfl
      · exact decide_eq_false (by omega)
    rw [e2, Int.natAbs_natCast, show min (-23 : Int) (-23) = -23 by decide]
    rfl
  have e2 : ∀ (c1 : Nat) (q1 : Int), FP.Core.val32 (FP.fsub y FP.fconst1) = .fin false c1 q1 → FP.Core.val32 (FP.fmul (FP.fsub y FP.fconst1) (1258291200 : UInt32)) = FP.Core.roundRatio FP.Core.b32 false (c1 * 8388608) 1 (q1 + 0) := by
    intro c1 q1 hv
    show FP.Core.val32 (FP.Core.fmul (FP.fsub y FP.fconst1) (1258291200 : UInt32)) = _
    rw [FP.Core.val32_fmul, hv, v23]
    rfl
  have e3 : ∀ (c2 : Nat) (q2 : Int), FP.Core.val32 (FP.fmul (FP.fsub y FP.fconst1) (1258291200 : UInt32)) = .fin false c2 q2 → FP.f2i (FP.fmul (FP.fsub y FP.fconst1) (1258291200 : UInt32)) = Int32.ofInt (max (-2 ^ 31) (min (2 ^ 31 - 1) (FP.Core.truncate false c2 q2))) := by
    intro c2 q2 hv
    show FP.Core.toI (FP.Core.val32 (FP.fmul (FP.fsub y FP.fconst1) (1258291200 : UInt32))) = _
    rw [hv]
    rfl
  have fin : ∀ m : Nat, m < 8388608 → Int32.ofInt (max (-2 ^ 31) (min (2 ^ 31 - 1) (m : Int))) = nI m := by
    intro m hm
    rw [show max (-2 ^ 31) (min (2 ^ 31 - 1) (m : Int)) = (m : Int) by omega]
    exact Int32.ofInt_eq_ofNat
  by_cases hm : m = 0
  · subst hm
    have r1 : FP.Core.val32 (FP.fsub y FP.fconst1) = .fin false 0 FP.Core.b32.qmin := by rw [e1]; rfl
    have r2 : FP.Core.val32 (FP.fmul (FP.fsub y FP.fconst1) (1258291200 : UInt32)) = .fin false 0 FP.Core.b32.qmin := by rw [e2 _ _ r1, Nat.zero_mul]; rfl
    refine ⟨0, 0, _, _, r1, r2, ?_⟩
    rw [e3 _ _ r2]
    have : FP.Core.truncate false 0 FP.Core.b32.qmin = ((0 : Nat) : Int) := by
      unfold FP.Core.truncate FP.Core.signed
      rw [if_neg (by decide), Nat.zero_mul, Nat.zero_div]
    rw [this]
    exact fin 0 (by decide)
  · obtain ⟨k, k1, k2, k3⟩ := normal (m := m) (by omega) (by omega)
    have r1 : FP.Core.val32 (FP.fsub y FP.fconst1) = .fin false (m * 2 ^ k) (-23 - k) := by
      rw [e1]
      refine FP.Core.roundRatio_exact FP.Core.good_b32 (by decide) (fitsN k2 k3 (by omega) (by omega)) ?_
      rw [show (-23 - (-23 - (k : Int))).toNat = k by omega, show (-23 - (k : Int) - -23).toNat = 0 by omega, Nat.pow_zero, Nat.mul_one, Nat.mul_one]
    have r2 : FP.Core.val32 (FP.fmul (FP.fsub y FP.fconst1) (1258291200 : UInt32)) = .fin false (m * 2 ^ k) (-k) := by
      rw [e2 _ _ r1]
      refine FP.Core.roundRatio_exact FP.Core.good_b32 (by decide) (fitsN k2 k3 (by omega) (by omega)) ?_
      rw [show (-23 - (k : Int) + 0 - (-(k : Int))).toNat = 0 by omega, show (-(k : Int) - (-23 - (k : Int) + 0)).toNat = 23 by omega, Nat.pow_zero, Nat.mul_one, Nat.mul_one]
    refine ⟨_, _, _, _, r1, r2, ?_⟩
    rw [e3 _ _ r2]
    have : FP.Core.truncate false (m * 2 ^ k) (-k) = (m : Int) := by
      unfold FP.Core.truncate FP.Core.signed
      rw [if_neg (by decide), show (-(k : Int)).toNat = 0 by omega, show (- -(k : Int)).toNat = k by omega, Nat.pow_zero, Nat.mul_one, Nat.mul_div_cancel _ (Nat.two_pow_pos k)]
    rw [this]
    exact fin _ h2
theorem tail_ev {y : UInt32} {c : Nat} (h : FP.Core.val32 y = .fin false c (-23)) (h1 : 2 ^ 23 ≤ c) (h2 : c < 2 ^ 24) : ∃ (c1 c2 : Nat) (q1 q2 : Int), FP.Core.val32 (FP.fsub y FP.fconst1) = .fin false c1 q1 ∧ FP.Core.val32 (FP.fmul (FP.fsub y FP.fconst1) (1258291200 : UInt32)) = .fin false c2 q2 ∧ FP.f2i (FP.fmul (FP.fsub y FP.fconst1) (1258291200 : UInt32)) = nI (c - 2 ^ 23) := by
  obtain ⟨m, rfl⟩ : ∃ m, c = 8388608 + m := ⟨c - 8388608, by omega⟩
  rw [show 8388608 + m - 2 ^ 23 = m by omega]
  exact tail_m h (by omega)
theorem glue {E m : Nat} (hE : E < 128) (hm : m < 2 ^ 23) : (nI E <<< ((23 : Int32) &&& 31)) ||| nI m = nI (E * 2 ^ 23 + m) := by
  have key : ∀ E : Fin 128, (nI E.val <<< ((23 : Int32) &&& 31)) = nI (2 ^ 23 * E.val) := by decide +kernel
  rw [key ⟨E, hE⟩, nI_or, ← Nat.two_pow_add_eq_or_of_lt hm, Nat.mul_comm]
theorem bits_loop {c : Nat} (h1 : 2 ^ 23 ≤ c) (h2 : c < 2 ^ 24) {E : Nat} (hE1 : 1 ≤ E) (hE : E < 128) : ∀ (d fuel : Nat) (y : UInt32) (q : Int), FP.Core.val32 y = .fin false c q → q + d = -23 → -149 ≤ q → d < fuel → f_X6_bitsOf_13 fuel y (nI (E + d)) = some (nI (E * 2 ^ 23 + (c - 2 ^ 23))) := by
  intro d
  induction d with
  | zero =>
    intro fuel y q hy hq hq1 hf
    obtain ⟨n, rfl⟩ : ∃ n, fuel = n + 1 := ⟨fuel - 1, by omega⟩
    have hq : q = -23 := by omega
    subst hq
    obtain ⟨c1, c2, q1, q2, t1, t2, t3⟩ := tail_ev hy h1 h2
    show f_X6_bitsOf_13_b (f_X6_bitsOf_13 n) y (nI E) = _
    unfold f_X6_bitsOf_13_b f_X6_bitsOf_34
    rw [if_pos (cmp1_ge hy h1), zfl_fin t1, zfl_fin t2, t3, glue hE (by omega)]
  | succ d ih =>
    intro fuel y q hy hq hq1 hf
    obtain ⟨n, rfl⟩ : ∃ n, fuel = n + 1 := ⟨fuel - 1, by omega⟩
    have hd := dbl hy h1 h2 hq1 (by omega)
    show f_X6_bitsOf_13_b (f_X6_bitsOf_13 n) y (nI (E + d + 1)) = _
    unfold f_X6_bitsOf_13_b
    rw [cmp1_lt hy h2 (by omega), if_neg (show ¬ 0 ≤ Op.cmpValue (some Ordering.lt) .g from by decide), if_neg (fun h => by have := (nI_leI (a := E + d + 1) (b := 1) (by omega) (by decide)).mp h; omega), zfl_fin hd, pk_m1]
    exact ih n _ (q + 1) hd (by omega) (by omega) (by omega)
theorem bitsOf_ev {x : UInt32} {c : Nat} {q : Int} (h : FP.Core.val32 x = .fin false c q) (h1 : 2 ^ 23 ≤ c) (h2 : c < 2 ^ 24) (h3 : -149 ≤ q) (h4 : q ≤ -23) : f_X6_bitsOf x = some (nI ((q + 150).toNat * 2 ^ 23 + (c - 2 ^ 23))) := by
  have e0 : FP.fcmp x FP.fconst0 = some .gt := by
    rw [fcmp_val, h, v0]
    show some (compare (FP.Core.signed false (FP.Core.inUnits c q (min q (-149)))) (FP.Core.signed false (FP.Core.inUnits 0 (-149) (min q (-149))))) = _
    unfold FP.Core.signed FP.Core.inUnits
    rw [if_neg (by decide), if_neg (by decide), Nat.zero_mul]
    refine congrArg some (cmp_gt ?_)
    have := Nat.mul_pos (show 0 < c by omega) (Nat.two_pow_pos (q - min q (-149)).toNat)
    omega
  unfold f_X6_bitsOf
  rw [e0, if_pos (show 0 < Op.cmpValue (some Ordering.gt) .l from by decide)]
  have := bits_loop h1 h2 (E := (q + 150).toNat) (by omega) (by omega) (-23 - q).toNat zfuel x q h (by omega) h3 (by unfold zfuel; omega)
  rw [show (q + 150).toNat + (-23 - q).toNat = 127 by omega] at this
  exact this
theorem f2ib_ev {x : UInt32} {c : Nat} {q : Int} (h : FP.Core.val32 x = .fin false c q) (h1 : 2 ^ 23 ≤ c) (h2 : c < 2 ^ 24) (h3 : -149 ≤ q) : f_Jxf58ca_floatToIntBits_5c35a x = some (nI ((q + 150).toNat * 2 ^ 23 + (c - 2 ^ 23))) := by
  have e0 : FP.fcmp x x = some .eq := by
    rw [fcmp_val, h]
    show some (compare _ _) = _
    exact congrArg some (cmp_eq rfl)
  unfold f_Jxf58ca_floatToIntBits_5c35a f_Jxf58ca_isNaN_12338
  rw [e0, if_pos (show Op.cmpValue (some Ordering.eq) .l = 0 from by decide), zbind_some, if_pos rfl]
  have hx : x = FP.Core.of32 (.fin false c q) := by
    rw [← h]
    exact (FP.Core.of32_val32 (by rw [h]; intro e; cases e)).symm
  have he : FP.Core.encode FP.Core.b32 (.fin false c q) = (q + 150).toNat * 2 ^ 23 + (c - 2 ^ 23) := by
    have ht : FP.Core.b32.tails = 8388608 := by decide
    have hs : FP.Core.b32.exps = 256 := by decide
    show (if c < FP.Core.b32.tails then FP.Core.assemble FP.Core.b32 false 0 c else FP.Core.assemble FP.Core.b32 false ((q - FP.Core.b32.qmin).toNat + 1) (c - FP.Core.b32.tails)) = _
    unfold FP.Core.assemble
    rw [ht, hs, if_neg (by omega), q_min, show (q - -149).toNat + 1 = (q + 150).toNat by omega]
    simp only [Bool.toNat_false, Nat.zero_mul, Nat.zero_add]
  rw [hx]
  unfold FP.Core.of32
  rw [he]
  rfl
/-- a whole number as a float -/
theorem i2f_ev {n : Nat} (h0 : 0 < n) (h : n < 2 ^ 24) : ∃ k : Nat, k ≤ 23 ∧ FP.Core.val32 (FP.i2f (nI n)) = .fin false (n * 2 ^ k) (-k) := by
  obtain ⟨k, k1, k2, k3⟩ := normal h0 h
  refine ⟨k, k1, ?_⟩
  show FP.Core.val32 (FP.Core.i2f (nI n)) = _
  rw [FP.Core.val32_i2f, nI_toInt (by omega)]
  have e : FP.Core.ofInt (n : Int) = .fin false n 0 := by
    unfold FP.Core.ofInt
    rw [decide_eq_false (by omega), Int.natAbs_natCast]
  rw [e]
  show FP.Core.roundRatio FP.Core.b32 false n 1 0 = _
  refine FP.Core.roundRatio_exact FP.Core.good_b32 (by decide) (fitsN k2 k3 (by omega) (by omega)) ?_
  rw [show (0 - (-(k : Int))).toNat = k by omega, show (-(k : Int) - 0).toNat = 0 by omega, Nat.pow_zero, Nat.mul_one, Nat.mul_one]
theorem i2f_0 : FP.Core.val32 (FP.i2f (nI 0)) = .fin false 0 (-149) := by decide +kernel
theorem fdiv_0 {b : Nat} (hb0 : 0 < b) (hb : b < 2 ^ 24) : FP.Core.val32 (FP.fdiv (FP.i2f (nI 0)) (FP.i2f (nI b))) = .fin false 0 (-149) := by
  obtain ⟨j, j1, j2⟩ := i2f_ev hb0 hb
  show FP.Core.val32 (FP.Core.fdiv (FP.i2f (nI 0)) (FP.i2f (nI b))) = _
  rw [FP.Core.val32_fdiv, i2f_0, j2]
  have hp := Nat.mul_pos hb0 (Nat.two_pow_pos j)
  show (if b * 2 ^ j = 0 then _ else FP.Core.roundRatio FP.Core.b32 (false != false) 0 (b * 2 ^ j) _) = _
  rw [if_neg (by omega)]
  unfold FP.Core.roundRatio
  rw [if_pos rfl, q_min]
  rfl
theorem fdiv_ev {a b : Nat} (ha : 0 < a) (hab : a ≤ b) (hb : b < 2 ^ 13) : ∃ (c : Nat) (q : Int), FP.Core.val32 (FP.fdiv (FP.i2f (nI a)) (FP.i2f (nI b))) = .fin false c q ∧ 2 ^ 23 ≤ c ∧ c < 2 ^ 24 ∧ -149 ≤ q ∧ q ≤ -23 := by
  have hb0 : 0 < b := by omega
  obtain ⟨k, k1, k2⟩ := i2f_ev ha (show a < 2 ^ 24 by omega)
  obtain ⟨j, j1, j2⟩ := i2f_ev hb0 (show b < 2 ^ 24 by omega)
  have hv : FP.Core.val32 (FP.fdiv (FP.i2f (nI a)) (FP.i2f (nI b))) = FP.Core.roundRatio FP.Core.b32 false a b 0 := by
    show FP.Core.val32 (FP.Core.fdiv (FP.i2f (nI a)) (FP.i2f (nI b))) = _
    rw [FP.Core.val32_fdiv, k2, j2]
    have hp := Nat.mul_pos hb0 (Nat.two_pow_pos j)
    show (if b * 2 ^ j = 0 then _ else FP.Core.roundRatio FP.Core.b32 (false != false) (a * 2 ^ k) (b * 2 ^ j) (-(k : Int) - -(j : Int))) = _
    rw [if_neg (by omega)]
    refine FP.Core.roundRatio_congr (f := FP.Core.b32) (s := false) hp hb0 ?_
    rcases Nat.le_total k j with h | h
    · rw [show (-(k : Int) - -(j : Int) - 0).toNat = j - k by omega, show (0 - (-(k : Int) - -(j : Int))).toNat = 0 by omega, Nat.pow_zero, Nat.mul_one]
      have e : 2 ^ j = 2 ^ k * 2 ^ (j - k) := by rw [← Nat.pow_add]; congr 1; omega
      rw [e]
      ac_rfl
    · rw [show (-(k : Int) - -(j : Int) - 0).toNat = 0 by omega, show (0 - (-(k : Int) - -(j : Int))).toNat = k - j by omega, Nat.pow_zero, Nat.mul_one]
      have e : 2 ^ k = 2 ^ j * 2 ^ (k - j) := by rw [← Nat.pow_add]; congr 1; omega
      rw [e]
      ac_rfl
  rw [hv]
  obtain ⟨l1, l2⟩ := FP.Core.leading_spec ha hb0
  have L0 : FP.Core.leading a b ≤ 0 := by
    rcases Int.lt_or_le 0 (FP.Core.leading a b) with h | h
    · exfalso
      apply l1
      unfold FP.Core.Below
      rw [show (-FP.Core.leading a b).toNat = 0 by omega, Nat.pow_zero, Nat.mul_one]
      obtain ⟨d, hd⟩ : ∃ d : Nat, (FP.Core.leading a b).toNat = d + 1 := ⟨(FP.Core.leading a b).toNat - 1, by omega⟩
      rw [hd, Nat.pow_succ]
      have := Nat.mul_le_mul_left b (Nat.two_pow_pos d)
      have e : b * (2 ^ d * 2) = 2 * (b * 2 ^ d) := by ac_rfl
      omega
    · exact h
  have L1 : -13 ≤ FP.Core.leading a b := by
    rcases Int.lt_or_le (FP.Core.leading a b) (-13) with h | h
    · exfalso
      unfold FP.Core.Below at l2
      rw [show (FP.Core.leading a b + 1).toNat = 0 by omega, Nat.pow_zero, Nat.mul_one] at l2
      have h13 : 2 ^ 13 ≤ 2 ^ (-(FP.Core.leading a b + 1)).toNat := Nat.pow_le_pow_right (by decide) (by omega)
      have := Nat.mul_le_mul ha h13
      omega
    · exact h
  have hQ : FP.Core.quantum FP.Core.b32 a b 0 = FP.Core.leading a b - 23 := by
    unfold FP.Core.quantum
    rw [q_min]
    have : ((FP.Core.b32.p : Nat) : Int) = 24 := rfl
    rw [this]
    omega
  have n1 := FP.Core.nearest_units_le (f := FP.Core.b32) ha hb0 0
  have n2 : 2 ^ 23 ≤ FP.Core.nearest (FP.Core.unitsNum a 0 (FP.Core.quantum FP.Core.b32 a b 0)) (FP.Core.unitsDen b 0 (FP.Core.quantum FP.Core.b32 a b 0)) := by
    refine FP.Core.nearest_ge (FP.Core.unitsDen_pos hb0 ..) ?_
    refine Nat.le_of_not_lt (fun h => ?_)
    rw [FP.Core.units_below, hQ] at h
    apply l1
    rw [show FP.Core.leading a b - 23 - 0 + ((23 : Nat) : Int) = FP.Core.leading a b by omega] at h
    exact h
  have n1' : FP.Core.nearest (FP.Core.unitsNum a 0 (FP.Core.quantum FP.Core.b32 a b 0)) (FP.Core.unitsDen b 0 (FP.Core.quantum FP.Core.b32 a b 0)) ≤ 2 ^ 24 := n1
  unfold FP.Core.roundRatio FP.Core.roundAt
  rw [if_neg (by omega)]
  by_cases hL : FP.Core.leading a b = 0
  · have hab2 : a = b := by
      unfold FP.Core.Below at l1
      rw [hL] at l1
      simp at l1
      omega
    have hM : FP.Core.nearest (FP.Core.unitsNum a 0 (FP.Core.quantum FP.Core.b32 a b 0)) (FP.Core.unitsDen b 0 (FP.Core.quantum FP.Core.b32 a b 0)) = 2 ^ 23 := by
      rw [hQ, hL, hab2]
      unfold FP.Core.unitsNum FP.Core.unitsDen
      rw [show (0 - (0 - 23 : Int)).toNat = 23 by decide, show ((0 : Int) - 23 - 0).toNat = 0 by decide, Nat.pow_zero, Nat.mul_one, Nat.mul_comm]
      exact FP.Core.nearest_exact (2 ^ 23) hb0
    rw [hM, hQ, hL]
    refine ⟨2 ^ 23, -23, ?_, by decide, by decide, by decide, by decide⟩
    unfold FP.Core.settle FP.Core.bound
    rw [if_pos (show 2 ^ 23 < 2 ^ FP.Core.b32.p from by decide), if_pos (by rw [q_max]; decide)]
    rfl
  · generalize FP.Core.nearest (FP.Core.unitsNum a 0 (FP.Core.quantum FP.Core.b32 a b 0)) (FP.Core.unitsDen b 0 (FP.Core.quantum FP.Core.b32 a b 0)) = M at n1' n2 ⊢
    rw [hQ]
    have hp : 2 ^ FP.Core.b32.p = 2 ^ 24 := rfl
    unfold FP.Core.settle FP.Core.bound
    rw [hp]
    by_cases hM : M < 2 ^ 24
    · rw [if_pos hM, if_pos (by rw [q_max]; omega)]
      exact ⟨M, _, rfl, n2, hM, by omega, by omega⟩
    · rw [if_neg hM, if_pos (by rw [q_max]; omega)]
      exact ⟨2 ^ 23, FP.Core.leading a b - 23 + 1, rfl, by decide, by decide, by omega, by omega⟩
theorem sm_le {f f' : zL → Int32} : ∀ ls : List zL, (∀ q ∈ ls, 0 ≤ (f q).toInt ∧ (f q).toInt ≤ (f' q).toInt ∧ (f' q).toInt ≤ 999) → ls.length ≤ 8 → (sm f ls).toInt ≤ (sm f' ls).toInt := by
  intro ls
  induction ls with
  | nil => intro _ _; exact Int.le_refl _
  | cons q r ih =>
    intro h hl
    rw [List.length_cons] at hl
    have hr := fun x hx => h x (List.mem_cons_of_mem q hx)
    obtain ⟨a1, a2, a3⟩ := h q List.mem_cons_self
    have b1 := sm_bd (f := f) r (fun x hx => by have := hr x hx; omega) (by omega)
    have b2 := sm_bd (f := f') r (fun x hx => by have := hr x hx; omega) (by omega)
    have i := ih hr (by omega)
    have e : (sm f (q :: r)).toInt = (f q).toInt + (sm f r).toInt := iadd (by omega) (by omega)
    have e' : (sm f' (q :: r)).toInt = (f' q).toInt + (sm f' r).toInt := iadd (by omega) (by omega)
    rw [e, e']
    omega
theorem nI_toNat {x : Int32} (h : 0 ≤ x.toInt) : x = nI x.toInt.toNat := by
  have := x.toInt_lt
  apply Int32.toInt_inj.mp
  rw [nI_toInt (by omega)]
  omega
theorem pm_share {gB gX gY gN : zG} {h : Nat → Option zG} (hR : zRel gB gX gY h gN) (gM : zG) (gR : zG) : ∃ R R', f_X6_share gM gB gR = some R ∧ f_X7_share gN = some R' ∧ R.1 = R'.1 ∧ zRel gB gX gY h R'.2 := by
  obtain ⟨b, hs, tx, hA⟩ := zRel_abs hR
  have hA0 := hA
  obtain ⟨h1, h2, h3, h4, h5, h6, h7, h8, h9⟩ := hA
  have hn := h1.1
  obtain ⟨gR', r1, r2⟩ := ray_follow h3 h1 gR
  obtain ⟨gN', n1, n2⟩ := coming_s h1 h4
  have hS' : rS (gN' 0) b := by rw [kp_0 n2]; exact h4
  have hz := zAbs_rel (kp_abs hA0 n2)
  have okl := h1.2.2.2.2.1
  have bA := sm_bd (f := fun q => if cm b q then q.2 else 0) b.1 (fun q hq => by
    have := okL_bd (okl q hq)
    split
    · exact this
    · exact ⟨by decide, by decide⟩) hn
  have bB := sm_bd (f := fun q => q.2) b.1 (fun q hq => okL_bd (okl q hq)) hn
  have bAB := sm_le (f := fun q => if cm b q then q.2 else 0) (f' := fun q => q.2) b.1 (fun q hq => by
    have := okL_bd (okl q hq)
    split
    · exact ⟨this.1, Int.le_refl _, this.2⟩
    · exact ⟨by decide, by rw [Int32.toInt_zero]; exact this.1, this.2⟩) hn
  unfold f_X6_share f_X7_share f_X7_share_30
  rw [lightAll_ev h3 h1, zbind_some, r1, zbind_some, lightOn_ev h3 h1 r2, zbind_some, allLines_ev h1 h4, zbind_some, lightAllM_ev h1 h4, zbind_some, n1, zbind_some, lightIn_ev h1 hS', zbind_some]
  generalize sm (fun q => if cm b q then q.2 else 0) b.1 = sA at bA bAB ⊢
  generalize sm (fun q => q.2) b.1 = sB at bB bAB ⊢
  have eA := nI_toNat bA.1
  have eB := nI_toNat bB.1
  by_cases hB0 : sB = 0
  · subst hB0
    have hA0 : sA.toInt.toNat = 0 := by rw [Int32.toInt_zero] at bAB; omega
    rw [hA0] at eA
    rw [if_neg (show ¬ (0 : Int32) < 0 from by decide), if_pos rfl, eA, show (1 : Int32) = nI 1 from rfl, zfl_fin (fdiv_0 (b := 1) (by decide) (by decide)), if_pos rfl]
    exact ⟨_, _, rfl, rfl, rfl, hz⟩
  · have hBp : 0 < sB.toInt := by
      rcases Int.lt_or_le 0 sB.toInt with h | h
      · exact h
      · exact absurd (Int32.toInt_inj.mp (by rw [Int32.toInt_zero]; omega)) hB0
    rw [if_pos (show 0 < sB from by rw [ilt, Int32.toInt_zero]; exact hBp), if_neg hB0, if_neg hB0]
    by_cases hAz : sA.toInt.toNat = 0
    · have fz := fdiv_0 (b := sB.toInt.toNat) (by omega) (by omega)
      have eA0 : sA = nI 0 := by rw [← hAz]; exact eA
      rw [← eA0, ← eB] at fz
      have fx : FP.fdiv (FP.i2f sA) (FP.i2f sB) = FP.fconst0 := FP.Core.val32_inj (by rw [fz]; intro e; cases e) (by rw [fz, v0])
      have e1 : f_X6_bitsOf FP.fconst0 = some 0 := by
        unfold f_X6_bitsOf
        rw [if_neg (show ¬ 0 < Op.cmpValue (FP.fcmp FP.fconst0 FP.fconst0) .l from by decide +kernel)]
      have e2 : f_Jxf58ca_floatToIntBits_5c35a FP.fconst0 = some 0 := by
        unfold f_Jxf58ca_floatToIntBits_5c35a f_Jxf58ca_isNaN_12338
        rw [if_pos (show Op.cmpValue (FP.fcmp FP.fconst0 FP.fconst0) .l = 0 from by decide +kernel), zbind_some, if_pos rfl]
        rfl
      rw [zfl_fin fz, zfl_fin fz, fx, e1, zbind_some, e2, zbind_some]
      exact ⟨_, _, rfl, rfl, rfl, hz⟩
    · obtain ⟨c, q, f1, f2, f3, f4, f5⟩ := fdiv_ev (a := sA.toInt.toNat) (b := sB.toInt.toNat) (by omega) (by omega) (by omega)
      rw [← eA, ← eB] at f1
      rw [zfl_fin f1, zfl_fin f1, bitsOf_ev f1 f2 f3 f4 f5, zbind_some, f2ib_ev f1 f2 f3 f4, zbind_some]
      exact ⟨_, _, rfl, rfl, rfl, hz⟩
