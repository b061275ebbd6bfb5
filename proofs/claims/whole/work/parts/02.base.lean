/-! ===== the layer: worlds as lists of groups, contracts that tell a value, mirror words ===== -/
abbrev zG : Type := Nat → Nat → Int32
def gup (g : zG) (k i : Nat) (v : Int32) : zG := fun k' => if k' = k then upd (g k') i v else g k'
theorem gup_same (g : zG) (k i : Nat) (v : Int32) : gup g k i v k = upd (g k) i v := by simp [gup]
theorem gup_ne (g : zG) {k k' : Nat} (i : Nat) (v : Int32) (h : k' ≠ k) : gup g k i v k' = g k' := by simp [gup, h]
def gset (g : zG) (k : Nat) (f : Nat → Int32) : zG := fun k' => if k' = k then f else g k'
theorem gset_same (g : zG) (k : Nat) (f : Nat → Int32) : gset g k f k = f := by simp [gset]
theorem gset_ne (g : zG) {k k' : Nat} (f : Nat → Int32) (h : k' ≠ k) : gset g k f k' = g k' := by simp [gset, h]
-- mirror words
def zfuel : Nat := 1000
theorem zne_toInt {x k : Int32} {a : Int} (h : ¬ x = k) (hk : k.toInt = a) : x.toInt ≠ a := fun e => h (Int32.toInt_inj.mp (e.trans hk.symm))
def zlet {α β : Type} (a : α) (f : α → Option β) : Option β := f a
def zin {β : Type} (i : Int32) (n : Nat) (k : Option β) : Option β := if i < 0 ∨ n ≤ i.toNatClampNeg then none else k
def zne {β : Type} (y : Int32) (k : Option β) : Option β := if y = 0 then none else k
def zbl {β : Type} (v : Int32) (k : Option β) : Option β := if v = 0 ∨ v = 1 then k else none
def zch {β : Type} (v : Int32) (k : Option β) : Option β := if 0 ≤ v ∧ v < 65536 then k else none
def zfl {β : Type} (v : UInt32) (k : Option β) : Option β := if v &&& 0x7fffffff ≤ 0x7f800000 then k else none
def zbind {α β : Type} (o : Option α) (f : α → Option β) : Option β := match o with
  | none => none
  | some a => f a
theorem zlet_ex {α β : Type} {a : α} {f : α → Option β} {r : β} (h : zlet a f = some r) : ∃ x, x = a ∧ f x = some r := ⟨a, rfl, h⟩
theorem zin_ex {β : Type} {i : Int32} {n : Nat} {k : Option β} {r : β} (h : zin i n k = some r) : vp_in i n ∧ k = some r := by
  unfold zin at h
  split at h
  · cases h
  · exact ⟨by assumption, h⟩
theorem zne_ex {β : Type} {y : Int32} {k : Option β} {r : β} (h : zne y k = some r) : ¬ y = 0 ∧ k = some r := by
  unfold zne at h
  split at h
  · cases h
  · exact ⟨by assumption, h⟩
theorem zbl_ex {β : Type} {v : Int32} {k : Option β} {r : β} (h : zbl v k = some r) : narrow .boolean (.int v) = .int v ∧ k = some r := by
  unfold zbl at h
  split at h
  · rename_i hv
    refine ⟨?_, h⟩
    rcases hv with rfl | rfl <;> rfl
  · cases h
theorem zch_ex {β : Type} {v : Int32} {k : Option β} {r : β} (h : zch v k = some r) : (narrow .char (.int v) = .int v ∧ fits .char (.int v) = true ∧ vp_nar .char v = v) ∧ k = some r := by
  unfold zch at h
  split at h
  · rename_i hv
    refine ⟨?_, h⟩
    obtain ⟨j, hj, rfl⟩ := nI_of (x := v) (by have := hv.1; exact Int32.not_lt.mpr this)
    have h2 : j < 65536 := by
      have h3 := hv.2
      rw [show (65536 : Int32) = nI 65536 from rfl] at h3
      exact (nI_ltI hj (by decide)).mp h3
    have h4 := pk_charN h2
    refine ⟨h4.1, h4.2, ?_⟩
    unfold vp_nar
    rw [h4.1]
  · cases h
theorem zfl_ex {β : Type} {v : UInt32} {k : Option β} {r : β} (h : zfl v k = some r) : vf_n32 v ∧ k = some r := by
  unfold zfl at h
  split at h
  · exact ⟨by assumption, h⟩
  · cases h
theorem zbind_ex {α β : Type} {o : Option α} {f : α → Option β} {r : β} (h : zbind o f = some r) : ∃ a, o = some a ∧ f a = some r := by
  cases o with
  | none => cases h
  | some a => exact ⟨a, rfl, h⟩
theorem zif_t {c : Prop} [Decidable c] {β : Type} {a b : Option β} {r : β} (h : (if c then a else b) = some r) (hc : c) : a = some r := by rwa [if_pos hc] at h
theorem zif_f {c : Prop} [Decidable c] {β : Type} {a b : Option β} {r : β} (h : (if c then a else b) = some r) (hc : ¬ c) : b = some r := by rwa [if_neg hc] at h
-- the nest mates' words
def zN (U : State) : Prop := va_Nw (.methodLinkNest RX0 62 yX6_within RX6) U ∧ va_Nw (.methodLinkNest RX0 87 yX6_bendingOf RX6) U ∧ va_Nw (.methodLinkNest RX3 24 yX0_init RX6) U ∧ va_Nw (.methodLinkNest RX4 72 yX6_within RX6) U ∧ va_Nw (.methodLinkNest RX5 46 yX6_within RX6) U ∧ va_Nw (.methodLinkNest RX6 9 yX0_init RX6) U ∧ va_Nw (.methodLinkNest RX6 21 yX4_init RX6) U ∧ va_Nw (.methodLinkNest RX6 28 yX1_init RX6) U ∧ va_Nw (.methodLinkNest RX6 35 yX2_init RX6) U ∧ va_Nw (.methodLinkNest RX6 42 yX3_init RX6) U ∧ va_Nw (.methodLinkNest RX6 49 yX5_init RX6) U ∧ va_AO "JoinedLight$Bench" U
theorem zN.warm {s U : State} (hW : s.WarmedH U.vm) (h : zN s) : zN U := by
  obtain ⟨h1, h2, h3, h4, h5, h6, h7, h8, h9, h10, h11, h12⟩ := h
  exact ⟨va_Nw.warmM hW h1, va_Nw.warmM hW h2, va_Nw.warmM hW h3, va_Nw.warmM hW h4, va_Nw.warmM hW h5, va_Nw.warmM hW h6, va_Nw.warmM hW h7, va_Nw.warmM hW h8, va_Nw.warmM hW h9, va_Nw.warmM hW h10, va_Nw.warmM hW h11, va_AO.moved hW.alike h12⟩
theorem zN.same {s U : State} (hW : s.vm = U.vm) (h : zN s) : zN U := by
  obtain ⟨h1, h2, h3, h4, h5, h6, h7, h8, h9, h10, h11, h12⟩ := h
  exact ⟨va_Nw.same rfl hW h1, va_Nw.same rfl hW h2, va_Nw.same rfl hW h3, va_Nw.same rfl hW h4, va_Nw.same rfl hW h5, va_Nw.same rfl hW h6, va_Nw.same rfl hW h7, va_Nw.same rfl hW h8, va_Nw.same rfl hW h9, va_Nw.same rfl hW h10, va_Nw.same rfl hW h11, va_AO.moved (hW ▸ Vm.Alike.refl _) h12⟩
-- array classes: ints, chars, benches
abbrev zT (cI cC cO : ClassId) : List (ClassId × FieldType) := [(cI, .int), (cC, .char), (cO, .object "JoinedLight$Bench")]
-- worlds
theorem zP_mem {D : va_G} {cl : List vw_C} {ws : va_W} {H : Heap} : va_P D cl ws H ↔ ∀ q ∈ ws, va_at D cl q H := by
  constructor
  · intro h q hq
    obtain ⟨k, hk⟩ := List.mem_iff_getElem?.mp hq
    exact h k q hk
  · intro h k q hk
    exact h q (List.mem_of_getElem? hk)
theorem zD_mem {A : Nat → Prop} {ws : va_W} : va_D A ws ↔ (ws.map Prod.fst).Nodup ∧ ∀ q ∈ ws, A q.1 := by
  constructor
  · intro h
    refine ⟨?_, fun q hq => ?_⟩
    · rw [List.Nodup, List.pairwise_iff_getElem]
      intro i j hi hj hij e
      rw [List.length_map] at hi hj
      rw [List.getElem_map, List.getElem_map] at e
      have := h.1 i j ws[i] ws[j] (List.getElem?_eq_getElem hi) (List.getElem?_eq_getElem hj) e
      omega
    · obtain ⟨k, hk⟩ := List.mem_iff_getElem?.mp hq
      exact h.2 k q hk
  · intro h
    refine ⟨fun i j p q hp hq e => ?_, fun k q hk => h.2 q (List.mem_of_getElem? hk)⟩
    obtain ⟨hi, ei⟩ := List.getElem?_eq_some_iff.mp hp
    obtain ⟨hj, ej⟩ := List.getElem?_eq_some_iff.mp hq
    have h1 := h.1
    rw [List.Nodup, List.pairwise_iff_getElem] at h1
    rcases Nat.lt_trichotomy i j with c | c | c
    · exact absurd (by rw [List.getElem_map, List.getElem_map, ei, ej]; exact e) (h1 i j (by rw [List.length_map]; exact hi) (by rw [List.length_map]; exact hj) c)
    · exact c
    · exact absurd (by rw [List.getElem_map, List.getElem_map, ei, ej]; exact e.symm) (h1 j i (by rw [List.length_map]; exact hj) (by rw [List.length_map]; exact hi) c)
theorem zpick_all {α : Type} (gs : List α) : (List.range gs.length).filterMap (fun i => gs[i]?) = gs := by
  induction gs with
  | nil => rfl
  | cons a l ih =>
    rw [List.length_cons, List.range_succ_eq_map, List.filterMap_cons, List.filterMap_map]
    show a :: _ = _
    congr 1
theorem zpick {gs : List va_W} {isC isR : List Nat} (hp : (isC ++ isR).Perm (List.range gs.length)) : gs.flatten.Perm ((isC.filterMap (fun i => gs[i]?)).flatten ++ (isR.filterMap (fun i => gs[i]?)).flatten) := by
  have h := hp.filterMap (fun i => gs[i]?)
  rw [zpick_all, List.filterMap_append] at h
  have h2 := h.symm.flatten
  rwa [List.flatten_append] at h2
theorem zpick_sub {gs : List va_W} {isC : List Nat} {q : Nat × va_E} (h : q ∈ (isC.filterMap (fun i => gs[i]?)).flatten) : q ∈ gs.flatten := by
  obtain ⟨l, hl, hq⟩ := List.mem_flatten.mp h
  obtain ⟨i, -, hi⟩ := List.mem_filterMap.mp hl
  exact List.mem_flatten.mpr ⟨l, List.mem_of_getElem? hi, hq⟩
theorem z_subP {D : va_G} {cl : List vw_C} {gs gc : List va_W} {H : Heap} (hP : va_P D cl gs.flatten H) (isC : List Nat) (hC : isC.filterMap (fun i => gs[i]?) = gc) : va_P D cl gc.flatten H := by
  rw [zP_mem] at hP ⊢
  subst hC
  exact fun q hq => hP q (zpick_sub hq)
theorem z_subD {A : Nat → Prop} {gs gc : List va_W} (hD : va_D A gs.flatten) (isC isR : List Nat) (hC : isC.filterMap (fun i => gs[i]?) = gc) (hp : (isC ++ isR).Perm (List.range gs.length)) : va_D A gc.flatten := by
  rw [zD_mem] at hD ⊢
  subst hC
  refine ⟨?_, fun q hq => hD.2 q (zpick_sub hq)⟩
  have h := ((zpick hp).map Prod.fst).nodup_iff.mp hD.1
  rw [List.map_append] at h
  exact (List.nodup_append.mp h).1
theorem z_Amem {ws : va_W} {sz : Nat} {a : Nat} : va_A ws sz a ↔ (∃ q ∈ ws, q.1 = a) ∨ sz ≤ a := by
  unfold va_A
  constructor
  · rintro (⟨k, e, h⟩ | h)
    · exact Or.inl ⟨(a, e), List.mem_of_getElem? h, rfl⟩
    · exact Or.inr h
  · rintro (⟨q, h, rfl⟩ | h)
    · obtain ⟨k, hk⟩ := List.mem_iff_getElem?.mp h
      exact Or.inl ⟨k, q.2, hk⟩
    · exact Or.inr h
theorem z_free {A0 : Nat → Prop} {gs gc : List va_W} {H0 H : Heap} {locs : List Loc} (hD : va_D A0 gs.flatten) (hS : va_S A0 H0 H locs) (hA : ∀ q, H0.size ≤ q → A0 q) (isC : List Nat) (hC : isC.filterMap (fun i => gs[i]?) = gc) : ∀ q, va_A gc.flatten H.size q → A0 q := by
  intro a h
  subst hC
  rcases z_Amem.mp h with ⟨q, hq, rfl⟩ | h
  · exact (zD_mem.mp hD).2 q (zpick_sub hq)
  · exact hA a (Nat.le_trans hS.1 h)
theorem z_join {A0 : Nat → Prop} {D : va_G} {cl : List vw_C} {gs gs2 gc gc' : List va_W} {H H1 : Heap} (hP : va_P D cl gs.flatten H) (hD : va_D A0 gs.flatten) (isC isR : List Nat) (hC : isC.filterMap (fun i => gs[i]?) = gc) (hC2 : isC.filterMap (fun i => gs2[i]?) = gc') (hR : isR.filterMap (fun i => gs2[i]?) = isR.filterMap (fun i => gs[i]?)) (hp : (isC ++ isR).Perm (List.range gs.length)) (hlen : gs2.length = gs.length)
    (hk : ∀ q : Nat, q < H.size → ¬ va_A gc.flatten H.size q → H1[q]? = H[q]?) (hF : ∀ q, va_A gc.flatten H.size q → A0 q) (hP1 : va_P D cl gc'.flatten H1) (hD1 : va_D (va_A gc.flatten H.size) gc'.flatten) : va_P D cl gs2.flatten H1 ∧ va_D A0 gs2.flatten := by
  have h1 := zpick hp
  have h2 := zpick (gs := gs2) (isC := isC) (isR := isR) (by rw [hlen]; exact hp)
  rw [hC] at h1
  rw [hC2, hR] at h2
  rw [zP_mem] at hP hP1
  rw [zD_mem] at hD hD1
  have hnd := (h1.map Prod.fst).nodup_iff.mp hD.1
  rw [List.map_append, List.nodup_append] at hnd
  have hrest : ∀ q ∈ (isR.filterMap (fun i => gs[i]?)).flatten, q.1 < H.size ∧ ¬ va_A gc.flatten H.size q.1 := by
    intro q hq
    have hl := (hP q (zpick_sub hq)).lt
    refine ⟨hl, fun h => ?_⟩
    rcases z_Amem.mp h with ⟨q2, hq2, e⟩ | h
    · exact hnd.2.2 q2.1 (List.mem_map_of_mem hq2) q.1 (List.mem_map_of_mem hq) e
    · omega
  constructor
  · rw [zP_mem]
    intro q hq
    rcases List.mem_append.mp (h2.mem_iff.mp hq) with h | h
    · exact hP1 q h
    · obtain ⟨g1, g2⟩ := hrest q h
      exact (hP q (zpick_sub h)).kept (hk q.1 g1 g2)
  · rw [zD_mem]
    refine ⟨?_, fun q hq => ?_⟩
    · rw [(h2.map Prod.fst).nodup_iff, List.map_append, List.nodup_append]
      refine ⟨hD1.1, hnd.2.1, fun a ha b hb e => ?_⟩
      obtain ⟨qa, hqa, rfl⟩ := List.mem_map.mp ha
      obtain ⟨qb, hqb, rfl⟩ := List.mem_map.mp hb
      exact (hrest qb hqb).2 (e ▸ hD1.2 qa hqa)
    · rcases List.mem_append.mp (h2.mem_iff.mp hq) with h | h
      · exact hF _ (hD1.2 q h)
      · exact hD.2 q (zpick_sub h)
-- contracts
def zpR (D : va_G) (tys : List (ClassId × FieldType)) (gs : List va_W) (U : State) : Prop := va_P D vwCl gs.flatten U.heap ∧ va_K D vwCl tys U ∧ zN U
def zqR (r : Option Value) : Array Value → State → Outcome → State → Prop := fun _ st oc t => oc = .returned r ∧ t.heap = st.heap
def zpM (D : va_G) (tys : List (ClassId × FieldType)) (gs : List va_W) (sz : Nat) (U : State) : Prop := U.heap.size = sz ∧ va_P D vwCl gs.flatten U.heap ∧ va_K D vwCl tys U ∧ va_D (fun _ => True) gs.flatten ∧ zN U
def zqM (D : va_G) (r : Option Value) (gs : List va_W) (A : Nat → Prop) : Array Value → State → Outcome → State → Prop := fun _ st oc t => oc = .returned r ∧ va_P D vwCl gs.flatten t.heap ∧ va_D A gs.flatten ∧ va_F A st t
def cR (l : Launch) (D : va_G) (tys : List (ClassId × FieldType)) (y : MethodName) (ws : List Cond) (rm : Room) (as : List Value) (gs : List va_W) (r : Option Value) : Prop := Met l y ws rm (va_Pc as (zpR D tys gs)) (zqR r) 0 0 (fun _ => False)
def cM (l : Launch) (D : va_G) (tys : List (ClassId × FieldType)) (y : MethodName) (ws : List Cond) (rm : Room) (as : List Value) (gs gs' : List va_W) (r : Option Value) (mc ms : Nat) : Prop := ∀ sz, Met l y ws rm (va_Pc as (zpM D tys gs sz)) (zqM D r gs' (va_A gs.flatten sz)) mc ms (va_A gs.flatten sz)
theorem zpR_blind {D : va_G} {tys : List (ClassId × FieldType)} {gs : List va_W} {as : List Value} : FrameBlind (va_Pc as (zpR D tys gs)) :=
  fun a U g mk h => ⟨h.1, h.2.1, va_K.moved (u := U) (U := U.calling g mk a) (Vm.Alike.refl U.vm) h.2.2.1, zN.same (s := U) (U := U.calling g mk a) rfl h.2.2.2⟩
theorem zpM_blind {D : va_G} {tys : List (ClassId × FieldType)} {gs : List va_W} {as : List Value} {sz : Nat} : FrameBlind (va_Pc as (zpM D tys gs sz)) :=
  fun a U g mk h => ⟨h.1, h.2.1, h.2.2.1, va_K.moved (u := U) (U := U.calling g mk a) (Vm.Alike.refl U.vm) h.2.2.2.1, h.2.2.2.2.1, zN.same (s := U) (U := U.calling g mk a) rfl h.2.2.2.2.2⟩
theorem z_useR {D : va_G} {tys : List (ClassId × FieldType)} {gs gc : List va_W} {s : State} {H : Heap} {as : List Value} (hK : va_K D vwCl tys s) (hN : zN s) (hP : va_P D vwCl gs.flatten H) (isC : List Nat) (hC : isC.filterMap (fun i => gs[i]?) = gc) : ∀ U : State, U.heap = H → s.WarmedH U.vm → va_Pc as (zpR D tys gc) as.toArray U :=
  fun U hU hW => ⟨rfl, by rw [hU]; exact z_subP hP isC hC, va_K.moved hW.alike hK, hN.warm hW⟩
theorem z_useM {D : va_G} {tys : List (ClassId × FieldType)} {gs gc : List va_W} {s : State} {H : Heap} {A : Nat → Prop} {as : List Value} (hK : va_K D vwCl tys s) (hN : zN s) (hP : va_P D vwCl gs.flatten H) (hD : va_D A gs.flatten) (isC isR : List Nat) (hC : isC.filterMap (fun i => gs[i]?) = gc) (hp : (isC ++ isR).Perm (List.range gs.length)) : ∀ U : State, U.heap = H → s.WarmedH U.vm → va_Pc as (zpM D tys gc H.size) as.toArray U :=
  fun U hU hW => ⟨rfl, by rw [hU], by rw [hU]; exact z_subP hP isC hC, va_K.moved hW.alike hK, (z_subD hD isC isR hC hp).weaken (fun _ _ _ _ => trivial), hN.warm hW⟩
section ZC
variable {p : Program} {l : Launch} {e : Env} {R : Room} {s : State} {m : MethodId} {args : Array Value} {below : List Frame} {meth : Method} {c : Code} {H H0 : Heap} {locs : List Loc} {cells slots mc ms : Nat} {Q : State → Prop}
variable {pc : Nat} {ls : Array Slot} {rest st0 : List Value} {a : Array Value} {A : Nat → Prop} {D : va_G} {tys : List (ClassId × FieldType)} {cc : ByteArray}
theorem z_callRi {v : Int32} (hr : va_Run p l e R s m args below meth c H locs cells slots 0 0 (F0 m pc ls st0) rest (zqR (some (.int v)) a) (fun _ => False)) (kk : W p l e R s m args below meth c H locs cells slots Q (F0 m (pc + 3) ls (.int v :: rest))) : W p l e R s m args below meth c H locs cells slots Q (F0 m pc ls st0) := by
  intro T hT X
  obtain ⟨w, st₀, t, T', L, h0, X', hL, e1, e2, ⟨hv, hh⟩, st⟩ := hr T hT X
  cases hv
  obtain ⟨t2, a1, b1⟩ := kk T' (by rw [e1, hh, h0]) (Stand.forget X' (fun q h => (hL q h).elim))
  exact ⟨t2, st t2 a1, b1⟩
theorem z_callM {r : Option Value} {gs gs2 gc gc' : List va_W} (hP : va_P D vwCl gs.flatten H) (hD : va_D A gs.flatten) (hS : va_S A H0 H locs) (hA : ∀ q, H0.size ≤ q → A q) (isC isR : List Nat) (hC : isC.filterMap (fun i => gs[i]?) = gc) (hC2 : isC.filterMap (fun i => gs2[i]?) = gc') (hR : isR.filterMap (fun i => gs2[i]?) = isR.filterMap (fun i => gs[i]?)) (hp : (isC ++ isR).Perm (List.range gs.length)) (hlen : gs2.length = gs.length)
    (hr : va_Run p l e R s m args below meth c H locs cells slots mc ms (F0 m pc ls st0) rest (zqM D r gc' (va_A gc.flatten H.size) a) (va_A gc.flatten H.size))
    (kk : ∀ (H1 : Heap) (locs1 : List Loc), va_P D vwCl gs2.flatten H1 → va_D A gs2.flatten → va_S A H0 H1 locs1 → W p l e R s m args below meth c H1 locs1 (cells + mc) (slots + ms) Q (F0 m (pc + 3) ls (r.toList ++ rest))) : W p l e R s m args below meth c H locs cells slots Q (F0 m pc ls st0) := by
  intro T hT X
  obtain ⟨v, st₀, t, T', L, h0, X', hL, e1, e2, ⟨hv, hP1, hD1, hz, hk⟩, st⟩ := hr T hT X
  cases hv
  rw [h0] at hz hk
  have hF := z_free hD hS hA isC hC
  have hk' : ∀ q : Nat, q < H.size → ¬ va_A gc.flatten H.size q → t.heap[q]? = H[q]? := hk
  obtain ⟨hP2, hD2⟩ := z_join hP hD isC isR hC hC2 hR hp hlen hk' hF hP1 hD1
  obtain ⟨t2, a1, b1⟩ := kk T'.heap (locs ++ L) (by rw [e1]; exact hP2) hD2
    ⟨Nat.le_trans hS.1 (by rw [e1]; exact hz), fun q h1 h2 => by rw [e1, hk' q (Nat.lt_of_lt_of_le h1 hS.1) (fun z => h2 (hF q z))]; exact hS.2.1 q h1 h2, fun q hq => by
      rcases List.mem_append.mp hq with h | h
      · exact hS.2.2 q h
      · exact hF _ (hL q h)⟩ T' rfl X'
  exact ⟨t2, st t2 a1, b1⟩
-- writes
theorem z_iast {gs gs' : List va_W} {i x : Int32} {q : Nat} (hexec : p.tables.exec = Jvm.exec) (hb : c.code = cc) (hK : va_K D vwCl tys s) (hP : va_P D vwCl gs.flatten H) (hD : va_D A gs.flatten) (hS : va_S A H0 H locs) (q0 t0 : Nat) {cA : ClassId} {n : Nat} {f : Nat → Int32} (ha : gs.flatten[q0]? = some (q, .inl (cA, n, .inl f))) (ht : tys[t0]? = some (cA, .int)) (hin : vp_in i n) (hg : gs'.flatten = gs.flatten.set q0 (q, .inl (cA, n, .inl (upd f i.toNatClampNeg x)))) (hdg : decode cc pc = .ok (.iastore, 1))
    (kk : ∀ (H1 : Heap) (locs1 : List Loc), va_P D vwCl gs'.flatten H1 → va_D A gs'.flatten → va_S A H0 H1 locs1 → W p l e R s m args below meth c H1 locs1 cells slots Q (F0 m (pc + 1) ls rest)) : W p l e R s m args below meth c H locs cells slots Q (F0 m pc ls (.int x :: .int i :: .ref q :: rest)) := by
  rw [hg] at kk
  exact va_iast hexec hb hK hP hD hS q0 t0 ha ht hin hdg kk
theorem z_cast {gs gs' : List va_W} {i x : Int32} {q : Nat} (hexec : p.tables.exec = Jvm.exec) (hb : c.code = cc) (hK : va_K D vwCl tys s) (hP : va_P D vwCl gs.flatten H) (hD : va_D A gs.flatten) (hS : va_S A H0 H locs) (q0 t0 : Nat) {cA : ClassId} {n : Nat} {f : Nat → Int32} (ha : gs.flatten[q0]? = some (q, .inl (cA, n, .inl f))) (ht : tys[t0]? = some (cA, .char)) (hin : vp_in i n) (hx : vp_nar .char x = x) (hg : gs'.flatten = gs.flatten.set q0 (q, .inl (cA, n, .inl (upd f i.toNatClampNeg x)))) (hdg : decode cc pc = .ok (.castore, 1))
    (kk : ∀ (H1 : Heap) (locs1 : List Loc), va_P D vwCl gs'.flatten H1 → va_D A gs'.flatten → va_S A H0 H1 locs1 → W p l e R s m args below meth c H1 locs1 cells slots Q (F0 m (pc + 1) ls rest)) : W p l e R s m args below meth c H locs cells slots Q (F0 m pc ls (.int x :: .int i :: .ref q :: rest)) := by
  rw [hg] at kk
  refine va_cast hexec hb hK hP hD hS q0 t0 ha ht hin hdg ?_
  rw [hx]
  exact kk
theorem z_put {gs gs' : List va_W} {v : Value} {q : Nat} (hexec : p.tables.exec = Jvm.exec) (hb : c.code = cc) {own ref C : String} {T : u_T} {N ci index : Nat} {Ts : List Cond} (hts : ∀ w ∈ Ts, w.before args s = true) (hin : ∀ w ∈ u_ws C T N, w ∈ Ts) (ty0 : Nat → FieldType) (hty : ∀ k, k < N → parseFieldDescriptor (T k).2.2.1 = some (ty0 k)) (hnm : ∀ a, a < N → ∀ b, b < N → a ≠ b → (T a).2.1 ≠ (T b).2.1) (hown : s.vm.findClass own = some m.cls) (hK : va_K D vwCl tys s) (hP : va_P D vwCl gs.flatten H) (hD : va_D A gs.flatten) (hS0 : va_S A H0 H locs) (q0 : Nat) {fs : List Value} (he : gs.flatten[q0]? = some (q, .inr (ci, fs))) (hc : vwCl[ci]? = some (C, T, N)) (k : Nat) (hk : k < N) (hlink : (Cond.fieldLink own index ref (T k).2.1 (T k).2.2.1).before args s = true) (hsame : ∀ x, s.fieldFound? (T k).1 (T k).2.1 (T k).2.2.1 = some x → s.fieldFound? ref (T k).2.1 (T k).2.2.1 = some x) (hfin : (T k).2.2.2 = false) {ty : FieldType} (hd : parseFieldDescriptor (T k).2.2.1 = some ty) (hn : narrow ty v = v) (hfit : fits ty v = true) (hl : k < fs.length)
    (hg : gs'.flatten = gs.flatten.set q0 (q, .inr (ci, fs.set k v))) (hdg : decode cc pc = .ok (.putfield index, 3)) (kk : ∀ (H1 : Heap) (locs1 : List Loc), va_P D vwCl gs'.flatten H1 → va_D A gs'.flatten → va_S A H0 H1 locs1 → W p l e R s m args below meth c H1 locs1 cells slots Q (F0 m (pc + 3) ls rest)) : W p l e R s m args below meth c H locs cells slots Q (F0 m pc ls (v :: .ref q :: rest)) := by
  rw [hg] at kk
  exact va_put hexec hb hts hin ty0 hty hnm hown hK hP hD hS0 q0 he hc k hk hlink hsame hfin hd hn hfit hl hdg kk
theorem z_copyi {gs gs' : List va_W} {q : Nat} (hexec : p.tables.exec = Jvm.exec) (hb : c.code = cc) (hml : c.maxLocals = ls.size) {own : String} {index : Nat} (hown : s.vm.findClass own = some m.cls) (hlink : (Cond.methodLink own index arraycopyName).before args s = true) (hnat : (Cond.native arraycopyName).before args s = true) (hstat : (Cond.static arraycopyName).before args s = true) (hini : (Cond.initialized "java/lang/System").before args s = true)
    (hK : va_K D vwCl tys s) (hP : va_P D vwCl gs.flatten H) (hD : va_D A gs.flatten) (hS : va_S A H0 H locs) (q0 q1 t0 t1 : Nat) {a0 : Nat} {c0 c1 : ClassId} {n0 n1 : Nat} {f g : Nat → Int32} {ty : FieldType} (ha0 : gs.flatten[q0]? = some (a0, .inl (c0, n0, .inl f))) (ha1 : gs.flatten[q1]? = some (q, .inl (c1, n1, .inl g))) (ht0 : tys[t0]? = some (c0, ty)) (ht1 : tys[t1]? = some (c1, ty)) (hprim : refKind ty = false)
    {sp dp n : Int32} (h1 : ¬ sp < 0) (h2 : ¬ dp < 0) (h3 : ¬ n < 0) (h4 : sp.toNatClampNeg + n.toNatClampNeg ≤ n0) (h5 : dp.toNatClampNeg + n.toNatClampNeg ≤ n1) (hfit : ∀ i, i < n.toNatClampNeg → fits ty (.int (f (sp.toNatClampNeg + i))) = true)
    (hframes : 1 ≤ R.frames) (hlocals : (rest.map fun v => v.category).sum + (nativeFrameWords "java/lang/System" "arraycopy" 5 + 11) ≤ R.locals) (hg : gs'.flatten = gs.flatten.set q1 (q, .inl (c1, n1, .inl (va_cpy f g sp.toNatClampNeg dp.toNatClampNeg n.toNatClampNeg)))) (hdg : decode cc pc = .ok (.invokestatic index, 3))
    (kk : ∀ (H1 : Heap) (locs1 : List Loc), va_P D vwCl gs'.flatten H1 → va_D A gs'.flatten → va_S A H0 H1 locs1 → W p l e R s m args below meth c H1 locs1 cells slots Q (F0 m (pc + 3) ls rest)) : W p l e R s m args below meth c H locs cells slots Q (F0 m pc ls (.int n :: .int dp :: .ref q :: .int sp :: .ref a0 :: rest)) := by
  rw [hg] at kk
  exact va_copyi hexec hb hml hown hlink hnat hstat hini hK hP hD hS q0 q1 t0 t1 ha0 ha1 ht0 ht1 hprim h1 h2 h3 h4 h5 hfit hframes hlocals hdg kk
theorem z_ldcwf (hexec : p.tables.exec = Jvm.exec) (hb : c.code = cc) {own : String} {index : Nat} {v : UInt32} (hown : s.vm.findClass own = some m.cls) (hconst : (Jvm.Cond.constantFloat own index v).before args s = true) (hdg : decode cc pc = .ok (.ldc_w index, 3)) (kk : W p l e R s m args below meth c H locs cells slots Q (F0 m (pc + 3) ls (.float v :: rest))) : W p l e R s m args below meth c H locs cells slots Q (F0 m pc ls rest) := by
  intro T hT X
  obtain ⟨t, a1, b1⟩ := kk T hT X
  obtain ⟨k, cf, hk, hcf, hcp⟩ := Cond.constantFloat_spec hown hconst
  obtain ⟨k', hk', he⟩ := X.warmed.alike.2.2 _ _ hk
  subst hb
  refine ⟨t, ?_, b1⟩
  jvm_step X.here [hexec, hdg, ldc_w.wp_float (s := T) (f := F0 m pc ls rest) X.here.top hk' (by rw [he]; exact hcf) hcp]
  exact a1
theorem zheap {g : JFrame} (hH : H = s.heap) (hl : locs = []) (k : W p l e R s m args below meth c H locs cells slots Q g) : W p l e R s m args below meth c s.heap [] cells slots Q g := by
  subst hH; subst hl
  exact k
-- ends
theorem zR_ret {v r : Int32} {ty : FieldType} (hexec : p.tables.exec = Jvm.exec) (hb : c.code = cc) (hr : meth.sig.returnType = some ty) (hn : narrow ty (.int v) = .int v) (hf : some v = some r) (hlocks : meth.locks = false) (hdg : decode cc pc = .ok (.ireturn, 1)) : W p l e R s m args below meth c s.heap [] cells slots (MQ below (zqR (some (.int r))) args s cells slots (fun _ => False)) (F0 m pc ls [.int v]) := by
  cases hf
  exact W.zret hexec hb hr hn (fun t ht _ => ⟨rfl, ht⟩) (fun _ h => nomatch h) hdg hlocks
theorem zM_ret {v : Int32} {r : Option Value} {ty : FieldType} {gs gs' : List va_W} (hexec : p.tables.exec = Jvm.exec) (hb : c.code = cc) (hr : meth.sig.returnType = some ty) (hn : narrow ty (.int v) = .int v) (hP : va_P D vwCl gs.flatten H) (hD : va_D A gs.flatten) (hS : va_S A s.heap H locs) (hf : some (.int v) = r ∧ gs = gs') (hlocks : meth.locks = false) (hdg : decode cc pc = .ok (.ireturn, 1)) : W p l e R s m args below meth c H locs cells slots (MQ below (zqM D r gs' A) args s cells slots A) (F0 m pc ls [.int v]) := by
  obtain ⟨rfl, rfl⟩ := hf
  exact W.zret hexec hb hr hn (fun t ht _ => ⟨rfl, by rw [ht]; exact hP, hD, hS.F ht⟩) hS.2.2 hdg hlocks
theorem zM_vret {r : Option Value} {gs gs' : List va_W} (hexec : p.tables.exec = Jvm.exec) (hb : c.code = cc) (hr : meth.sig.returnType = none) (hP : va_P D vwCl gs.flatten H) (hD : va_D A gs.flatten) (hS : va_S A s.heap H locs) (hf : none = r ∧ gs = gs') (hlocks : meth.locks = false) (hdg : decode cc pc = .ok (.return_, 1)) : W p l e R s m args below meth c H locs cells slots (MQ below (zqM D r gs' A) args s cells slots A) (F0 m pc ls []) := by
  obtain ⟨rfl, rfl⟩ := hf
  exact W.vret hexec hb hr (fun t ht _ => ⟨rfl, by rw [ht]; exact hP, hD, hS.F ht⟩) hS.2.2 hdg hlocks
end ZC
-- entries
theorem zMet_of {l : Launch} {y : MethodName} {ws ws' : List Cond} {rm : Room} {Pc : Array Value → State → Prop} {Qc : Array Value → State → Outcome → State → Prop} {mc ms : Nat} {free : Addr → Prop} {cc : ByteArray} {maxL : Nat} {ret : Option FieldType}
    (hy : plainFor y = true) (hw : ws = Cond.code y cc maxL ret :: ws')
    (body : ∀ p e s m args below meth c s₁, BodyLoose p l y (headSpec ws rm) cc maxL ret e s m args below meth c s₁ → c.maxLocals = maxL → Pc args s →
      W p l e (headSpec ws rm).room s m args below meth c s.heap [] 0 0 (MQ below Qc args s mc ms free) (entryFrame m args maxL)) : Met l y ws rm Pc Qc mc ms free := by
  refine MetFree.of_bodySF (code := cc) (maxLocals := maxL) (ret := ret) hy ?_ ?_
  · intro args s m h hn
    obtain ⟨meth, c, h1, h2, h3, h4, h5, h6, -, -⟩ := Cond.code_spec hn (atoms_spec (ws := ws) h _ (by rw [hw]; exact List.mem_cons_self))
    exact ⟨meth, c, h1, h2, h3, h4, h5, h6⟩
  · intro p e s m args below meth c s₁ B hml hP _
    have hh0 : s₁.heap = s.heap := by rw [B.state]; rfl
    obtain ⟨t, a1, o, b1, b2, b3⟩ := body p e s m args below meth c s₁ B hml hP s₁ hh0 (Stand.of_body B)
    exact ⟨t, o, a1, b1, b2, ⟨b3.1, b3.2⟩⟩
theorem zR_in {l : Launch} {D : va_G} {tys : List (ClassId × FieldType)} {y : MethodName} {ws ws' : List Cond} {rm : Room} {as : List Value} {gs : List va_W} {r : Option Value} {cc : ByteArray} {maxL : Nat} {ret : Option FieldType} (hy : plainFor y = true) (hw : ws = Cond.code y cc maxL ret :: ws') (hlen : (lg_sl as).length ≤ maxL)
    (body : ∀ (p : Program) (e : Env) (s : State) (m : MethodId) (below : List Frame) (meth : Method) (c : Code), p.tables.exec = Jvm.exec → c.code = cc → c.maxLocals = maxL → meth.sig.returnType = ret → meth.locks = false → s.vm.findClass y.cls = some m.cls → (∀ w ∈ ws, w.before as.toArray s = true) → va_K D vwCl tys s → zN s → va_P D vwCl gs.flatten s.heap → ∀ ls : Array Slot, lv_has ls maxL (lv_args 0 as) → W p l e (headSpec ws rm).room s m as.toArray below meth c s.heap [] 0 0 (MQ below (zqR r) as.toArray s 0 0 (fun _ => False)) (F0 m 0 ls [])) : cR l D tys y ws rm as gs r := by
  refine zMet_of (cc := cc) (maxL := maxL) (ret := ret) hy hw ?_
  intro p e s m args below meth c s₁ B hml hv
  obtain ⟨rfl, hP, hK, hN⟩ := hv
  have hl := lv_entry as (n := maxL) hlen
  rw [lg_entry_eq]
  exact body p e s m below meth c B.exec B.bytes hml B.returns B.notSynchronized (findClass_of_methodNamed B.named) (atoms_spec (ws := ws) B.pre) hK hN hP _ hl
theorem zM_in {l : Launch} {D : va_G} {tys : List (ClassId × FieldType)} {y : MethodName} {ws ws' : List Cond} {rm : Room} {as : List Value} {gs gs' : List va_W} {r : Option Value} {mc ms : Nat} {cc : ByteArray} {maxL : Nat} {ret : Option FieldType} (hy : plainFor y = true) (hw : ws = Cond.code y cc maxL ret :: ws') (hlen : (lg_sl as).length ≤ maxL)
    (body : ∀ (p : Program) (e : Env) (s : State) (m : MethodId) (below : List Frame) (meth : Method) (c : Code), p.tables.exec = Jvm.exec → c.code = cc → c.maxLocals = maxL → meth.sig.returnType = ret → meth.locks = false → s.vm.findClass y.cls = some m.cls → (∀ w ∈ ws, w.before as.toArray s = true) → va_K D vwCl tys s → zN s → ∀ A : Nat → Prop, (∀ q, s.heap.size ≤ q → A q) → va_P D vwCl gs.flatten s.heap → va_D A gs.flatten → va_S A s.heap s.heap [] → ∀ ls : Array Slot, lv_has ls maxL (lv_args 0 as) → W p l e (headSpec ws rm).room s m as.toArray below meth c s.heap [] 0 0 (MQ below (zqM D r gs' A) as.toArray s mc ms A) (F0 m 0 ls [])) : cM l D tys y ws rm as gs gs' r mc ms := by
  intro sz
  refine zMet_of (cc := cc) (maxL := maxL) (ret := ret) hy hw ?_
  intro p e s m args below meth c s₁ B hml hv
  obtain ⟨rfl, hsz, hP, hK, hD0, hN⟩ := hv
  subst hsz
  have hl := lv_entry as (n := maxL) hlen
  rw [lg_entry_eq]
  exact body p e s m below meth c B.exec B.bytes hml B.returns B.notSynchronized (findClass_of_methodNamed B.named) (atoms_spec (ws := ws) B.pre) hK hN (va_A gs.flatten s.heap.size) (fun q h => Or.inr h) hP (hD0.self (sz := s.heap.size)) va_S.rf _ hl
-- the groups
def wX0 (cI : ClassId) (q : Nat) (a : Nat → Nat) (g : zG) : va_W := [(q, .inr (0, [.ref (a 0), .ref (a 1), .int (g 2 0), .ref (a 3), .ref (a 4), .ref (a 5), .ref (a 6), .ref (a 7), .int (g 8 0), .int (g 9 0)])), (a 0, .inl (cI, 8, .inl (g 0))), (a 1, .inl (cI, 8, .inl (g 1))), (a 3, .inl (cI, 8, .inl (g 3))), (a 4, .inl (cI, 8, .inl (g 4))), (a 5, .inl (cI, 8, .inl (g 5))), (a 6, .inl (cI, 8, .inl (g 6))), (a 7, .inl (cI, 8, .inl (g 7)))]
def wX1 (cI : ClassId) (q : Nat) (a : Nat → Nat) (g : zG) : va_W := [(q, .inr (1, [.ref (a 0), .ref (a 1), .ref (a 2), .int (g 3 0)])), (a 0, .inl (cI, 8, .inl (g 0))), (a 1, .inl (cI, 8, .inl (g 1))), (a 2, .inl (cI, 8, .inl (g 2)))]
def wX2 (q : Nat) (g : zG) : va_W := [(q, .inr (2, [.int (g 0 0), .int (g 1 0), .int (g 2 0)]))]
def wX3 (cO : ClassId) (q : Nat) (a : Nat → Nat) (g : zG) (rm : Nat → Option Nat) : va_W := [(q, .inr (3, [.ref (a 0), .int (g 1 0)])), (a 0, .inl (cO, 4, .inr (.inr (.inr (.inr rm)))))]
def wX4 (cI : ClassId) (q : Nat) (a : Nat → Nat) (g : zG) : va_W := [(q, .inr (4, [.ref (a 0), .ref (a 1), .ref (a 2), .ref (a 3), .int (g 4 0)])), (a 0, .inl (cI, 8, .inl (g 0))), (a 1, .inl (cI, 8, .inl (g 1))), (a 2, .inl (cI, 8, .inl (g 2))), (a 3, .inl (cI, 8, .inl (g 3)))]
def wX5 (cI cC : ClassId) (q : Nat) (a : Nat → Nat) (g : zG) : va_W := [(q, .inr (5, [.ref (a 0), .int (g 1 0), .int (g 2 0), .ref (a 3), .int (g 4 0)])), (a 0, .inl (cC, 60, .inl (g 0))), (a 3, .inl (cI, 3, .inl (g 3)))]
def wX6 (q : Nat) (b : Nat → Nat) (g : zG) : va_W := [(q, .inr (6, [.ref (b 0), .ref (b 1), .ref (b 2), .ref (b 3), .ref (b 4), .ref (b 5), .ref (b 6), .int (g 7 0), .int (g 8 0), .int (g 9 0), .int (g 10 0)]))]
def wX7 (cI : ClassId) (q : Nat) (a : Nat → Nat) (g : zG) : va_W := [(q, .inr (7, [.ref (a 0), .ref (a 1), .ref (a 2), .ref (a 3), .int (g 4 0), .int (g 5 0), .ref (a 6), .int (g 7 0), .int (g 8 0), .int (g 9 0), .int (g 10 0), .int (g 11 0), .ref (a 12), .ref (a 13), .int (g 14 0), .int (g 15 0), .int (g 16 0), .int (g 17 0), .int (g 18 0), .int (g 19 0), .ref (a 20)])), (a 0, .inl (cI, 59, .inl (g 0))), (a 1, .inl (cI, 236, .inl (g 1))), (a 2, .inl (cI, 59, .inl (g 2))), (a 3, .inl (cI, 59, .inl (g 3))), (a 6, .inl (cI, 60, .inl (g 6))), (a 12, .inl (cI, 8, .inl (g 12))), (a 13, .inl (cI, 8, .inl (g 13))), (a 20, .inl (cI, 3, .inl (g 20)))]
