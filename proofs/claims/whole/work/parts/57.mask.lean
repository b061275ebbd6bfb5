/-! ===== sets of lines as bits, and sums of lights ===== -/
def setB (p : zL → Bool) : List zL → Nat
  | [] => 0
  | q :: r => (if p q then 1 else 0) + 2 * setB p r
def sm (f : zL → Int32) : List zL → Int32
  | [] => 0
  | q :: r => f q + sm f r
theorem setB_lt (p : zL → Bool) : ∀ ls : List zL, setB p ls < 2 ^ ls.length := by
  intro ls
  induction ls with
  | nil => exact Nat.one_pos
  | cons q r ih =>
    unfold setB
    rw [List.length_cons, Nat.pow_succ]
    split <;> omega
theorem setB_256 (p : zL → Bool) {ls : List zL} (hn : ls.length ≤ 8) : setB p ls < 256 := by
  have h1 := setB_lt p ls
  have h2 : 2 ^ ls.length ≤ 2 ^ 8 := Nat.pow_le_pow_right (by decide) hn
  omega
theorem setB_congr {p p' : zL → Bool} : ∀ {ls : List zL}, (∀ q ∈ ls, p q = p' q) → setB p ls = setB p' ls := by
  intro ls
  induction ls with
  | nil => intro _; rfl
  | cons q r ih =>
    intro h
    unfold setB
    rw [h q List.mem_cons_self, ih (fun x hx => h x (List.mem_cons_of_mem _ hx))]
theorem sm_congr {f f' : zL → Int32} : ∀ {ls : List zL}, (∀ q ∈ ls, f q = f' q) → sm f ls = sm f' ls := by
  intro ls
  induction ls with
  | nil => intro _; rfl
  | cons q r ih =>
    intro h
    unfold sm
    rw [h q List.mem_cons_self, ih (fun x hx => h x (List.mem_cons_of_mem _ hx))]
theorem sm_add (f f' : zL → Int32) : ∀ ls : List zL, sm (fun q => f q + f' q) ls = sm f ls + sm f' ls := by
  intro ls
  induction ls with
  | nil => rfl
  | cons q r ih =>
    unfold sm
    rw [ih]
    ac_rfl
theorem or_bit {m i : Nat} (hi : i < 8) (hm : m < 2 ^ i) : nI m ||| ((1 : Int32) <<< (nI i &&& 31)) = nI (m + 2 ^ i) := by
  have key : ∀ i : Fin 8, ∀ m : Fin 256, m.val < 2 ^ i.val → nI m.val ||| ((1 : Int32) <<< (nI i.val &&& 31)) = nI (m.val + 2 ^ i.val) := by decide +kernel
  have h2 : 2 ^ i ≤ 2 ^ 8 := Nat.pow_le_pow_right (by decide) (by omega)
  exact key ⟨i, hi⟩ ⟨m, by omega⟩ hm
theorem bit_at {m l : Nat} (hl : l < 8) (hm : m < 256) : ((nI m >>> (nI l &&& 31)) &&& (1 : Int32)) = nI (m / 2 ^ l % 2) := by
  have key : ∀ l : Fin 8, ∀ m : Fin 256, ((nI m.val >>> (nI l.val &&& 31)) &&& (1 : Int32)) = nI (m.val / 2 ^ l.val % 2) := by decide +kernel
  exact key ⟨l, hl⟩ ⟨m, hm⟩
theorem setB_bit (p : zL → Bool) : ∀ (ls : List zL) (l : Nat) (q : zL), ls[l]? = some q → setB p ls / 2 ^ l % 2 = if p q then 1 else 0 := by
  intro ls
  induction ls with
  | nil => intro l q h; simp at h
  | cons x r ih =>
    intro l q h
    unfold setB
    cases l with
    | zero =>
      simp at h
      subst h
      rw [Nat.pow_zero, Nat.div_one]
      rcases bool_tf (p x) with h | h
      · rw [h, if_pos rfl]; omega
      · rw [h, if_neg (by decide)]; omega
    | succ l =>
      rw [List.getElem?_cons_succ] at h
      have e : ((if p x then 1 else 0) + 2 * setB p r) / 2 ^ (l + 1) = setB p r / 2 ^ l := by
        have e0 : ((if p x then 1 else 0) + 2 * setB p r) / 2 = setB p r := by
          rcases bool_tf (p x) with h | h
          · rw [h, if_pos rfl]; omega
          · rw [h, if_neg (by decide)]; omega
        rw [Nat.pow_succ, Nat.mul_comm (2 ^ l) 2, ← Nat.div_div_eq_div_mul, e0]
      rw [e, ih l q h]
theorem bit_yes {p : zL → Bool} {ls : List zL} {l : Nat} {q : zL} (hn : ls.length ≤ 8) (hq : ls[l]? = some q) (h : p q = true) : ((nI (setB p ls) >>> (nI l &&& 31)) &&& (1 : Int32)) = 1 := by
  have hl := (List.getElem?_eq_some_iff.mp hq).1
  rw [bit_at (by omega) (setB_256 p hn), setB_bit p ls l q hq, h]
  rfl
theorem bit_no {p : zL → Bool} {ls : List zL} {l : Nat} {q : zL} (hn : ls.length ≤ 8) (hq : ls[l]? = some q) (h : p q = false) : ((nI (setB p ls) >>> (nI l &&& 31)) &&& (1 : Int32)) = 0 := by
  have hl := (List.getElem?_eq_some_iff.mp hq).1
  rw [bit_at (by omega) (setB_256 p hn), setB_bit p ls l q hq, h]
  rfl
theorem setB_t {p : zL → Bool} {q : zL} (h : p q = true) (m i : Nat) (r : List zL) : m + 2 ^ i + 2 ^ (i + 1) * setB p r = m + 2 ^ i * setB p (q :: r) := by
  have e : setB p (q :: r) = 1 + 2 * setB p r := by
    show (if p q then 1 else 0) + 2 * setB p r = _
    rw [h, if_pos rfl]
  rw [e]
  generalize setB p r = s
  have e2 : 2 ^ (i + 1) * s = 2 ^ i * (2 * s) := by rw [Nat.pow_succ, Nat.mul_assoc]
  rw [e2, Nat.mul_add, Nat.mul_one]
  omega
theorem setB_f {p : zL → Bool} {q : zL} (h : p q = false) (m i : Nat) (r : List zL) : m + 2 ^ (i + 1) * setB p r = m + 2 ^ i * setB p (q :: r) := by
  have e : setB p (q :: r) = 2 * setB p r := by
    show (if p q then 1 else 0) + 2 * setB p r = _
    rw [h, if_neg (by decide), Nat.zero_add]
  rw [e]
  generalize setB p r = s
  rw [Nat.pow_succ, Nat.mul_assoc]
theorem pw2 {m i : Nat} (h : m < 2 ^ i) : m + 2 ^ i < 2 ^ (i + 1) := by
  rw [Nat.pow_succ]; omega
theorem pw2' {m i : Nat} (h : m < 2 ^ i) : m < 2 ^ (i + 1) := by
  rw [Nat.pow_succ]; omega
/-- does the line come to the screen -/
def cm (b : zB) (q : zL) : Bool := decide ((zE b q).2.2.2 = 0)
theorem cm_t {b : zB} {q : zL} : cm b q = true ↔ (zE b q).2.2.2 = 0 := by unfold cm; exact decide_eq_true_iff
theorem cm_f {b : zB} {q : zL} : cm b q = false ↔ ¬ (zE b q).2.2.2 = 0 := by unfold cm; exact decide_eq_false_iff_not
def rayC (gR : zG) (b : zB) : Prop := rayR gR b.1 b.2.1 1000 b.1.length ∧ gR 4 0 = nI b.1.length
theorem ray_follow {gB : zG} {b : zB} (hB : rB gB b) (ok : okB b) (g : zG) : ∃ g', f_X4_follow g gB = some g' ∧ rayC g' b := by
  obtain ⟨g', h1, h2, h3⟩ := follow_ev hB ok.2.1 ok.1 ok.2.2.2.2.2.1 g
  exact ⟨g', h1, h2, h3⟩
theorem ray_at {gR : zG} {b : zB} (hr : rayC gR b) {l : Nat} {q : zL} (hq : b.1[l]? = some q) : gR 2 l = (zE b q).1 ∧ gR 3 l = (zE b q).2.2.2 ∧ (cm b q = true → gR 0 l = (zE b q).2.1 ∧ gR 1 l = (zE b q).2.2.1) := by
  obtain ⟨a1, a2, a3⟩ := hr.1 l q (List.getElem?_eq_some_iff.mp hq).1 hq
  exact ⟨a1, a2, fun h => a3 (cm_t.mp h)⟩
theorem ray_yes {gR : zG} {b : zB} (hr : rayC gR b) (ok : okB b) {l : Nat} {q : zL} (hq : b.1[l]? = some q) (h : cm b q = true) : f_X4_comes gR (nI l) = some 1 := by
  have hl := (List.getElem?_eq_some_iff.mp hq).1
  have hn := ok.1
  rw [comes_ev (by omega) (ray_at hr hq).2.1, if_pos (cm_t.mp h)]
theorem ray_no {gR : zG} {b : zB} (hr : rayC gR b) (ok : okB b) {l : Nat} {q : zL} (hq : b.1[l]? = some q) (h : cm b q = false) : f_X4_comes gR (nI l) = some 0 := by
  have hl := (List.getElem?_eq_some_iff.mp hq).1
  have hn := ok.1
  rw [comes_ev (by omega) (ray_at hr hq).2.1, if_neg (cm_f.mp h)]
theorem has_nI {g : zG} {n k : Nat} (h : g 4 0 = nI n) (hn : n ≤ 8) (hk : k < 2 ^ 31) : f_X4_has g (nI k) = some (if k < n then 1 else 0) := by
  have := hasLine_nI (g := fun k => if k = 2 then g 4 else g k) (n := n) (by simpa using h) hn hk
  simpa [f_X0_hasLine, f_X4_has] using this
/-- one step of a loop over the lines: the class's side -/
theorem linesOn_loop {gR : zG} {b : zB} (ok : okB b) (hr : rayC gR b) : ∀ (r : List zL) (i fuel m : Nat), b.1.drop i = r → i ≤ b.1.length → r.length < fuel → m < 2 ^ i → f_X4_linesOnScreen_4 gR fuel (nI m) (nI i) = some (nI (m + 2 ^ i * setB (cm b) r)) := by
  have hn := ok.1
  intro r
  induction r with
  | nil =>
    intro i fuel m hd hi hf hm
    obtain ⟨n, rfl⟩ : ∃ n, fuel = n + 1 := ⟨fuel - 1, by omega⟩
    have hi2 : b.1.length ≤ i := List.drop_eq_nil_iff.mp hd
    show f_X4_linesOnScreen_4_b gR (f_X4_linesOnScreen_4 gR n) (nI m) (nI i) = _
    unfold f_X4_linesOnScreen_4_b
    rw [has_nI hr.2 hn (by omega), if_neg (c := i < b.1.length) (by omega), zbind_some, if_pos rfl, show setB (cm b) [] = 0 from rfl, Nat.mul_zero, Nat.add_zero]
    split <;> rfl
  | cons q r ih =>
    intro i fuel m hd hi hf hm
    obtain ⟨n, rfl⟩ : ∃ n, fuel = n + 1 := ⟨fuel - 1, by omega⟩
    obtain ⟨e1, e2, e3⟩ := drop_cons hd
    rw [List.length_cons] at hf
    show f_X4_linesOnScreen_4_b gR (f_X4_linesOnScreen_4 gR n) (nI m) (nI i) = _
    unfold f_X4_linesOnScreen_4_b
    rw [if_neg (c := (8 : Int32) ≤ nI i) (by rw [l8 (by omega)]; omega), has_nI hr.2 hn (by omega), if_pos e1, zbind_some, if_neg ne10, nIs]
    rcases bool_tf (cm b q) with hc | hc
    · rw [ray_yes hr ok e2 hc, zbind_some, if_neg ne10, or_bit (by omega) hm, ih (i + 1) n _ e3 (by omega) (by omega) (pw2 hm), setB_t hc]
    · rw [ray_no hr ok e2 hc, zbind_some, if_pos rfl, ih (i + 1) n _ e3 (by omega) (by omega) (pw2' hm), setB_f hc]
theorem linesOn_ev {gR : zG} {b : zB} (ok : okB b) (hr : rayC gR b) : f_X4_linesOnScreen gR = some (nI (setB (cm b) b.1)) := by
  unfold f_X4_linesOnScreen
  have hn := ok.1
  have := linesOn_loop ok hr b.1 0 zfuel 0 rfl (Nat.zero_le _) (by unfold zfuel; omega) (by decide)
  rw [Nat.zero_add, Nat.pow_zero, Nat.one_mul] at this
  exact this
/-- the lines that a set holds -/
theorem coming_loop {b : zB} (ok : okB b) {u : Int32} (hu : 0 ≤ u ∧ u ≤ 1000) : ∀ (r : List zL) (i fuel m : Nat) (g : zG), rS (g 0) b → b.1.drop i = r → i ≤ b.1.length → r.length < fuel → m < 2 ^ i → ∃ g', f_X7_coming_4 fuel u (nI m) (nI i) g = some (nI (m + 2 ^ i * setB (fun q => decide ((pth q.1 b.2.1 u).2.2.2 = 0)) r), g') ∧ kp g g' := by
  have hn := ok.1
  intro r
  induction r with
  | nil =>
    intro i fuel m g hS hd hi hf hm
    obtain ⟨n, rfl⟩ : ∃ n, fuel = n + 1 := ⟨fuel - 1, by omega⟩
    have hi2 : b.1.length ≤ i := List.drop_eq_nil_iff.mp hd
    refine ⟨g, ?_, kp_rf g⟩
    show f_X7_coming_4_b (f_X7_coming_4 n) u (nI m) (nI i) g = _
    unfold f_X7_coming_4_b
    rw [z0 (by decide) (by decide), tn0, hS.1, if_pos ((nI_leI (by omega) (by omega)).mpr hi2), show setB (fun q => decide ((pth q.1 b.2.1 u).2.2.2 = 0)) [] = 0 from rfl, Nat.mul_zero, Nat.add_zero]
  | cons q r ih =>
    intro i fuel m g hS hd hi hf hm
    obtain ⟨n, rfl⟩ : ∃ n, fuel = n + 1 := ⟨fuel - 1, by omega⟩
    obtain ⟨e1, e2, e3⟩ := drop_cons hd
    rw [List.length_cons] at hf
    obtain ⟨g1, k1, k2⟩ := follows_ev hS ok e2 hu
    have hS1 : rS (g1 0) b := by rw [kp_0 k2.1]; exact hS
    show ∃ g', f_X7_coming_4_b (f_X7_coming_4 n) u (nI m) (nI i) g = _ ∧ _
    unfold f_X7_coming_4_b
    rw [z0 (by decide) (by decide), tn0, hS.1, if_neg (fun q => by have := (nI_leI (by omega) (by omega)).mp q; omega), k1, zbind_some, nIs, k2.2.2.2.2]
    by_cases hw : (pth q.1 b.2.1 u).2.2.2 = 0
    · obtain ⟨g', j1, j2⟩ := ih (i + 1) n (m + 2 ^ i) g1 hS1 e3 (by omega) (by omega) (pw2 hm)
      rw [if_pos hw, or_bit (by omega) hm, j1, setB_t (p := fun q => decide ((pth q.1 b.2.1 u).2.2.2 = 0)) (decide_eq_true hw)]
      exact ⟨g', rfl, kp_tr k2.1 j2⟩
    · obtain ⟨g', j1, j2⟩ := ih (i + 1) n m g1 hS1 e3 (by omega) (by omega) (pw2' hm)
      rw [if_neg hw, Int32.or_zero, j1, setB_f (p := fun q => decide ((pth q.1 b.2.1 u).2.2.2 = 0)) (decide_eq_false hw)]
      exact ⟨g', rfl, kp_tr k2.1 j2⟩
theorem coming_ev {b : zB} (ok : okB b) {u : Int32} (hu : 0 ≤ u ∧ u ≤ 1000) {g : zG} (hS : rS (g 0) b) : ∃ g', f_X7_coming g u = some (nI (setB (fun q => decide ((pth q.1 b.2.1 u).2.2.2 = 0)) b.1), g') ∧ kp g g' := by
  unfold f_X7_coming
  have hn := ok.1
  have := coming_loop ok hu b.1 0 zfuel 0 g hS rfl (Nat.zero_le _) (by unfold zfuel; omega) (by decide)
  rw [Nat.zero_add, Nat.pow_zero, Nat.one_mul] at this
  exact this
theorem coming_s {b : zB} (ok : okB b) {g : zG} (hS : rS (g 0) b) : ∃ g', f_X7_coming g (1000 : Int32) = some (nI (setB (cm b) b.1), g') ∧ kp g g' := coming_ev ok (by decide) hS
theorem lightIn_loop {b : zB} (ok : okB b) {g : zG} (hS : rS (g 0) b) (p : zL → Bool) : ∀ (r : List zL) (i fuel : Nat) (a : Int32), b.1.drop i = r → i ≤ b.1.length → r.length < fuel → f_X7_lightIn_4 g fuel (nI (setB p b.1)) a (nI i) = some (a + sm (fun q => if p q then q.2 else 0) r) := by
  have hn := ok.1
  intro r
  induction r with
  | nil =>
    intro i fuel a hd hi hf
    obtain ⟨n, rfl⟩ : ∃ n, fuel = n + 1 := ⟨fuel - 1, by omega⟩
    have hi2 : b.1.length ≤ i := List.drop_eq_nil_iff.mp hd
    show f_X7_lightIn_4_b g (f_X7_lightIn_4 g n) (nI (setB p b.1)) a (nI i) = _
    unfold f_X7_lightIn_4_b
    rw [z0 (by decide) (by decide), tn0, hS.1, if_pos ((nI_leI (by omega) (by omega)).mpr hi2), show sm (fun q => if p q then q.2 else 0) [] = 0 from rfl, Int32.add_zero]
  | cons q r ih =>
    intro i fuel a hd hi hf
    obtain ⟨n, rfl⟩ : ∃ n, fuel = n + 1 := ⟨fuel - 1, by omega⟩
    obtain ⟨e1, e2, e3⟩ := drop_cons hd
    rw [List.length_cons] at hf
    show f_X7_lightIn_4_b g (f_X7_lightIn_4 g n) (nI (setB p b.1)) a (nI i) = _
    unfold f_X7_lightIn_4_b
    rw [z0 (by decide) (by decide), tn0, hS.1, if_neg (fun q => by have := (nI_leI (by omega) (by omega)).mp q; omega), nIs]
    have es : sm (fun q => if p q then q.2 else 0) (q :: r) = (if p q then q.2 else 0) + sm (fun q => if p q then q.2 else 0) r := rfl
    rcases bool_tf (p q) with hc | hc
    · rw [bit_yes hn e2 hc, if_pos rfl, lightOf_ev hS hn e2, zbind_some, ih (i + 1) n _ e3 (by omega) (by omega), es, hc, if_pos rfl, Int32.add_assoc]
    · rw [bit_no hn e2 hc, if_neg (by decide), ih (i + 1) n _ e3 (by omega) (by omega), es, hc, if_neg (by decide), Int32.add_assoc]
theorem lightIn_ev {b : zB} (ok : okB b) {g : zG} (hS : rS (g 0) b) (p : zL → Bool) : f_X7_lightIn g (nI (setB p b.1)) = some (sm (fun q => if p q then q.2 else 0) b.1) := by
  unfold f_X7_lightIn
  have hn := ok.1
  have := lightIn_loop ok hS p b.1 0 zfuel 0 rfl (Nat.zero_le _) (by unfold zfuel; omega)
  rw [Int32.zero_add] at this
  exact this
theorem lightOn_loop {gB gR : zG} {b : zB} (hB : rB gB b) (ok : okB b) (hr : rayC gR b) : ∀ (r : List zL) (i fuel : Nat) (a : Int32), b.1.drop i = r → i ≤ b.1.length → r.length < fuel → f_X4_lightOnScreen_4 gR gB fuel a (nI i) = some (a + sm (fun q => if cm b q then q.2 else 0) r) := by
  have hn := ok.1
  intro r
  induction r with
  | nil =>
    intro i fuel a hd hi hf
    obtain ⟨n, rfl⟩ : ∃ n, fuel = n + 1 := ⟨fuel - 1, by omega⟩
    have hi2 : b.1.length ≤ i := List.drop_eq_nil_iff.mp hd
    show f_X4_lightOnScreen_4_b gR gB (f_X4_lightOnScreen_4 gR gB n) a (nI i) = _
    unfold f_X4_lightOnScreen_4_b
    rw [hasLine_nI hB.1 hn (by omega), if_neg (c := i < b.1.length) (by omega), zbind_some, if_pos rfl, show sm (fun q => if cm b q then q.2 else 0) [] = 0 from rfl, Int32.add_zero]
    split <;> rfl
  | cons q r ih =>
    intro i fuel a hd hi hf
    obtain ⟨n, rfl⟩ : ∃ n, fuel = n + 1 := ⟨fuel - 1, by omega⟩
    obtain ⟨e1, e2, e3⟩ := drop_cons hd
    rw [List.length_cons] at hf
    show f_X4_lightOnScreen_4_b gR gB (f_X4_lightOnScreen_4 gR gB n) a (nI i) = _
    unfold f_X4_lightOnScreen_4_b
    rw [if_neg (c := (8 : Int32) ≤ nI i) (by rw [l8 (by omega)]; omega), hasLine_nI hB.1 hn (by omega), if_pos e1, zbind_some, if_neg ne10, nIs]
    have es : sm (fun q => if cm b q then q.2 else 0) (q :: r) = (if cm b q then q.2 else 0) + sm (fun q => if cm b q then q.2 else 0) r := rfl
    rcases bool_tf (cm b q) with hc | hc
    · rw [ray_yes hr ok e2 hc, zbind_some, if_neg ne10, zin_nI (by omega) (by decide), nI_clamp (by omega), (hB.2.2.2.1 i q e2).2, ih (i + 1) n _ e3 (by omega) (by omega), es, hc, if_pos rfl, Int32.add_assoc]
    · rw [ray_no hr ok e2 hc, zbind_some, if_pos rfl, ih (i + 1) n _ e3 (by omega) (by omega), es, hc, if_neg (by decide), Int32.zero_add]
theorem lightOn_ev {gB gR : zG} {b : zB} (hB : rB gB b) (ok : okB b) (hr : rayC gR b) : f_X4_lightOnScreen gR gB = some (sm (fun q => if cm b q then q.2 else 0) b.1) := by
  unfold f_X4_lightOnScreen
  have hn := ok.1
  have := lightOn_loop hB ok hr b.1 0 zfuel 0 rfl (Nat.zero_le _) (by unfold zfuel; omega)
  rw [Int32.zero_add] at this
  exact this
/-- the light of a line that is lost at a place -/
def lo (b : zB) (p : Int32) (q : zL) : Int32 := if ¬ (zE b q).2.2.2 = 0 ∧ (zE b q).1 = p then q.2 else 0
theorem lostC_loop {gB gR : zG} {b : zB} (hB : rB gB b) (ok : okB b) (hr : rayC gR b) (p : Int32) : ∀ (r : List zL) (i fuel : Nat) (a : Int32), b.1.drop i = r → i ≤ b.1.length → r.length < fuel → f_X4_lightLostAt_5 gR gB fuel p a (nI i) = some (a + sm (lo b p) r) := by
  have hn := ok.1
  intro r
  induction r with
  | nil =>
    intro i fuel a hd hi hf
    obtain ⟨n, rfl⟩ : ∃ n, fuel = n + 1 := ⟨fuel - 1, by omega⟩
    have hi2 : b.1.length ≤ i := List.drop_eq_nil_iff.mp hd
    show f_X4_lightLostAt_5_b gR gB (f_X4_lightLostAt_5 gR gB n) p a (nI i) = _
    unfold f_X4_lightLostAt_5_b
    rw [hasLine_nI hB.1 hn (by omega), if_neg (c := i < b.1.length) (by omega), zbind_some, if_pos rfl, show sm (lo b p) [] = 0 from rfl, Int32.add_zero]
    split <;> rfl
  | cons q r ih =>
    intro i fuel a hd hi hf
    obtain ⟨n, rfl⟩ : ∃ n, fuel = n + 1 := ⟨fuel - 1, by omega⟩
    obtain ⟨e1, e2, e3⟩ := drop_cons hd
    rw [List.length_cons] at hf
    show f_X4_lightLostAt_5_b gR gB (f_X4_lightLostAt_5 gR gB n) p a (nI i) = _
    unfold f_X4_lightLostAt_5_b
    rw [if_neg (c := (8 : Int32) ≤ nI i) (by rw [l8 (by omega)]; omega), hasLine_nI hB.1 hn (by omega), if_pos e1, zbind_some, if_neg ne10, nIs]
    have es : sm (lo b p) (q :: r) = lo b p q + sm (lo b p) r := rfl
    rcases bool_tf (cm b q) with hc | hc
    · have e0 : lo b p q = 0 := by unfold lo; rw [if_neg (fun h => h.1 (cm_t.mp hc))]
      rw [ray_yes hr ok e2 hc, zbind_some, if_neg ne10, ih (i + 1) n _ e3 (by omega) (by omega), es, e0, Int32.zero_add]
    · rw [ray_no hr ok e2 hc, zbind_some, if_pos rfl, zin_nI (by omega) (by decide), zin_nI (by omega) (by decide), nI_clamp (by omega), (ray_at hr e2).1, (hB.2.2.2.1 i q e2).2]
      by_cases hp : (zE b q).1 = p
      · have e0 : lo b p q = q.2 := by unfold lo; rw [if_pos ⟨cm_f.mp hc, hp⟩]
        rw [if_pos hp, ih (i + 1) n _ e3 (by omega) (by omega), es, e0, Int32.add_assoc]
      · have e0 : lo b p q = 0 := by unfold lo; rw [if_neg (fun h => hp h.2)]
        rw [if_neg hp, ih (i + 1) n _ e3 (by omega) (by omega), es, e0, Int32.zero_add]
theorem lostC_ev {gB gR : zG} {b : zB} (hB : rB gB b) (ok : okB b) (hr : rayC gR b) (p : Int32) : f_X4_lightLostAt gR gB p = some (sm (lo b p) b.1) := by
  unfold f_X4_lightLostAt
  have hn := ok.1
  have := lostC_loop hB ok hr p b.1 0 zfuel 0 rfl (Nat.zero_le _) (by unfold zfuel; omega)
  rw [Int32.zero_add] at this
  exact this
theorem lostM_loop {b : zB} (ok : okB b) (p : Int32) : ∀ (r : List zL) (i fuel : Nat) (a : Int32) (g : zG), rS (g 0) b → b.1.drop i = r → i ≤ b.1.length → r.length < fuel → ∃ g', f_X7_lostAt_4 fuel p a (nI i) g = some (a + sm (lo b p) r, g') ∧ kp g g' := by
  have hn := ok.1
  intro r
  induction r with
  | nil =>
    intro i fuel a g hS hd hi hf
    obtain ⟨n, rfl⟩ : ∃ n, fuel = n + 1 := ⟨fuel - 1, by omega⟩
    have hi2 : b.1.length ≤ i := List.drop_eq_nil_iff.mp hd
    refine ⟨g, ?_, kp_rf g⟩
    show f_X7_lostAt_4_b (f_X7_lostAt_4 n) p a (nI i) g = _
    unfold f_X7_lostAt_4_b
    rw [z0 (by decide) (by decide), tn0, hS.1, if_pos ((nI_leI (by omega) (by omega)).mpr hi2), show sm (lo b p) [] = 0 from rfl, Int32.add_zero]
  | cons q r ih =>
    intro i fuel a g hS hd hi hf
    obtain ⟨n, rfl⟩ : ∃ n, fuel = n + 1 := ⟨fuel - 1, by omega⟩
    obtain ⟨e1, e2, e3⟩ := drop_cons hd
    rw [List.length_cons] at hf
    obtain ⟨g1, k1, k2⟩ := follows_ev hS ok e2 (u := 1000) (by decide)
    have hS1 : rS (g1 0) b := by rw [kp_0 k2.1]; exact hS
    have es : sm (lo b p) (q :: r) = lo b p q + sm (lo b p) r := rfl
    have key : ∀ a' : Int32, a' = a + lo b p q → ∃ g', f_X7_lostAt_4 n p a' (nI (i + 1)) g1 = some (a + sm (lo b p) (q :: r), g') ∧ kp g g' := by
      intro a' ha
      obtain ⟨g', j1, j2⟩ := ih (i + 1) n a' g1 hS1 e3 (by omega) (by omega)
      refine ⟨g', ?_, kp_tr k2.1 j2⟩
      rw [j1, es, ha, Int32.add_assoc]
    show ∃ g', f_X7_lostAt_4_b (f_X7_lostAt_4 n) p a (nI i) g = _ ∧ _
    unfold f_X7_lostAt_4_b f_X7_lostAt_46
    rw [z0 (by decide) (by decide), tn0, hS.1, if_neg (fun q => by have := (nI_leI (by omega) (by omega)).mp q; omega), k1, zbind_some, nIs, k2.2.2.2.2, k2.2.1, lightOf_ev hS1 hn e2, zbind_some]
    have ez : pth q.1 b.2.1 1000 = zE b q := rfl
    rw [ez]
    by_cases hw : (zE b q).2.2.2 = 0
    · have e0 : lo b p q = 0 := by unfold lo; rw [if_neg (fun h => h.1 hw)]
      rw [if_pos (by rw [hw]; exact Int32.le_refl _)]
      exact key _ (by rw [e0])
    · have hn0 : ¬ (zE b q).2.2.2 ≤ 0 := by
        rcases path_why q.1 1000 b.2.1 0 0 0 with h | h | h
        · exact absurd h hw
        · have h : (zE b q).2.2.2 = 1 := h
          rw [h]; decide
        · have h : (zE b q).2.2.2 = 2 := h
          rw [h]; decide
      rw [if_neg hn0]
      by_cases hp : (zE b q).1 = p
      · rw [if_pos hp]
        exact key _ (by unfold lo; rw [if_pos ⟨hw, hp⟩])
      · rw [if_neg hp]
        exact key _ (by unfold lo; rw [if_neg (fun h => hp h.2)])
theorem lostM_ev {b : zB} (ok : okB b) (p : Int32) {g : zG} (hS : rS (g 0) b) : ∃ g', f_X7_lostAt g p = some (sm (lo b p) b.1, g') ∧ kp g g' := by
  unfold f_X7_lostAt
  have hn := ok.1
  have := lostM_loop ok p b.1 0 zfuel 0 g hS rfl (Nat.zero_le _) (by unfold zfuel; omega)
  rw [Int32.zero_add] at this
  exact this
theorem lightAll_loop {gB : zG} {b : zB} (hB : rB gB b) (ok : okB b) : ∀ (r : List zL) (i fuel : Nat) (a : Int32), b.1.drop i = r → i ≤ b.1.length → r.length < fuel → f_X0_lightOfAll_4 gB fuel a (nI i) = some (a + sm (fun q => q.2) r) := by
  have hn := ok.1
  intro r
  induction r with
  | nil =>
    intro i fuel a hd hi hf
    obtain ⟨n, rfl⟩ : ∃ n, fuel = n + 1 := ⟨fuel - 1, by omega⟩
    have hi2 : b.1.length ≤ i := List.drop_eq_nil_iff.mp hd
    show f_X0_lightOfAll_4_b gB (f_X0_lightOfAll_4 gB n) a (nI i) = _
    unfold f_X0_lightOfAll_4_b
    rw [hasLine_nI hB.1 hn (by omega), if_neg (c := i < b.1.length) (by omega), zbind_some, if_pos rfl, show sm (fun q => q.2) [] = 0 from rfl, Int32.add_zero]
    split <;> rfl
  | cons q r ih =>
    intro i fuel a hd hi hf
    obtain ⟨n, rfl⟩ : ∃ n, fuel = n + 1 := ⟨fuel - 1, by omega⟩
    obtain ⟨e1, e2, e3⟩ := drop_cons hd
    rw [List.length_cons] at hf
    show f_X0_lightOfAll_4_b gB (f_X0_lightOfAll_4 gB n) a (nI i) = _
    unfold f_X0_lightOfAll_4_b
    have es : sm (fun q => q.2) (q :: r) = q.2 + sm (fun q => q.2) r := rfl
    rw [if_neg (c := (8 : Int32) ≤ nI i) (by rw [l8 (by omega)]; omega), hasLine_nI hB.1 hn (by omega), if_pos e1, zbind_some, if_neg ne10, nIs, zin_nI (by omega) (by decide), nI_clamp (by omega), (hB.2.2.2.1 i q e2).2, ih (i + 1) n _ e3 (by omega) (by omega), es, Int32.add_assoc]
theorem lightAll_ev {gB : zG} {b : zB} (hB : rB gB b) (ok : okB b) : f_X0_lightOfAll gB = some (sm (fun q => q.2) b.1) := by
  unfold f_X0_lightOfAll
  have hn := ok.1
  have := lightAll_loop hB ok b.1 0 zfuel 0 rfl (Nat.zero_le _) (by unfold zfuel; omega)
  rw [Int32.zero_add] at this
  exact this
theorem setB_all : ∀ ls : List zL, setB (fun _ => true) ls = 2 ^ ls.length - 1 := by
  intro ls
  induction ls with
  | nil => rfl
  | cons q r ih =>
    unfold setB
    have := Nat.two_pow_pos r.length
    rw [ih, if_pos rfl, List.length_cons, Nat.pow_succ]
    omega
theorem allLines_ev {b : zB} (ok : okB b) {g : zG} (hS : rS (g 0) b) : f_X7_allLines g = some (nI (setB (fun _ => true) b.1)) := by
  have key : ∀ n : Fin 9, ((1 : Int32) <<< (nI n.val &&& 31)) - 1 = nI (2 ^ n.val - 1) := by decide +kernel
  unfold f_X7_allLines
  have hn := ok.1
  rw [z0 (by decide) (by decide), tn0, hS.1, setB_all]
  exact congrArg some (key ⟨b.1.length, by omega⟩)
theorem lightAllM_ev {b : zB} (ok : okB b) {g : zG} (hS : rS (g 0) b) : f_X7_lightIn g (nI (setB (fun _ => true) b.1)) = some (sm (fun q => q.2) b.1) := by
  rw [lightIn_ev ok hS]
  rfl
