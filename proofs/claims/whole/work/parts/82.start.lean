/-! ===== the law's start ===== -/
theorem cE_flat {α : Type} {l : Launch} {D : va_G} {tys : List (ClassId × FieldType)} {y : MethodName} {ws : List Cond} {rm : Room} {as : List Value} {gs : List va_W} {gs' : α → List va_W} {φ : α → Prop} {r : Option Value} {mc ms : Nat} (h : cE l D tys y ws rm as gs gs' φ r mc ms) : cE l D tys y ws rm as gs (fun u => [(gs' u).flatten]) φ r mc ms := by
  have e : ∀ A : Nat → Prop, zqE D r gs' φ A = zqE D r (fun u => [(gs' u).flatten]) φ A := by
    intro A
    unfold zqE
    simp
  intro sz
  have := h sz
  rw [e] at this
  exact this
theorem z_arr {s : State} {args : Array Value} {ty : FieldType} (hty : ∀ C, ty ≠ .object C) (h : (Cond.arrayClass ty).before args s = true) : ∃ cA : ClassId, ArrOfT s cA ty ∧ va_RA s cA ty := by
  obtain ⟨cA, k, comp, h1, h2, h3⟩ := Cond.arrayClass_spec h
  refine ⟨cA, fun n z => ⟨fun k h => (by cases h), k, h2, comp, h3⟩, ?_⟩
  cases ty with
  | object C => exact absurd rfl (hty C)
  | _ => exact h1
theorem z_arrO {s : State} {args : Array Value} {C : String} (h : (Cond.arrayOver (.object C)).before args s = true) : ∃ cA : ClassId, ArrOfT s cA (.object C) ∧ va_RA s cA (.object C) := by
  obtain ⟨comp, cA, k, h1, h2, h3, h4, h5⟩ := Cond.arrayOver_spec h
  exact ⟨cA, fun n z => ⟨fun k h => (by cases h), k, h3, comp, h4⟩, k, comp, h3, h4, h1, h5⟩
set_option maxRecDepth 20000 in
theorem lw_nest : ∀ w ∈ ([.methodLinkNest RX0 62 yX6_within RX6, .methodLinkNest RX0 87 yX6_bendingOf RX6, .methodLinkNest RX3 24 yX0_init RX6, .methodLinkNest RX4 72 yX6_within RX6, .methodLinkNest RX5 46 yX6_within RX6, .methodLinkNest RX6 9 yX0_init RX6, .methodLinkNest RX6 21 yX4_init RX6, .methodLinkNest RX6 28 yX1_init RX6, .methodLinkNest RX6 35 yX2_init RX6, .methodLinkNest RX6 42 yX3_init RX6, .methodLinkNest RX6 49 yX5_init RX6, .arrayOver (.object "JoinedLight$Bench"), .arrayClass .int, .arrayClass .char] : List Cond), w ∈ lw_tbl := by decide +kernel
set_option maxHeartbeats 4000000 in
set_option maxRecDepth 100000 in
theorem whole_start {p : Program} {e : Env} {s : State} {m : MethodId} {below : List Frame} {meth : Method} {c : Code} (l : Launch) (hflags : l.flags = flags0) {b L : Nat} {xs : Nat → Int32} (hL : L ≤ 2560) (C0 : lw_At p s m meth c b L xs) : W p l e room_1 s m #[Value.ref b] below meth c s.heap [] 0 0 (lw_Z below #[Value.ref b] s) (entryFrame m ([Value.ref b] : List Value).toArray 4) := by
  obtain ⟨hx, hb, hr, hml, hown, hts0, hX, hbl, hlk, hgv⟩ := id C0
  have hts : ∀ w ∈ wsL_law, w.before #[Value.ref b] s = true := fun w h => hts0 w (wsL_law_in w h)
  have hA : ∀ q : Nat, s.heap.size ≤ q → (fun q : Nat => s.heap.size ≤ q) q := fun _ h => h
  have nw : ∀ w : Cond, w ∈ _ → w.before #[Value.ref b] s = true := fun w h => hts0 w (lw_nest w h)
  have hN : zN s := ⟨va_Nw.of rfl (nw _ (List.mem_of_getElem? (i := 0) rfl)), va_Nw.of rfl (nw _ (List.mem_of_getElem? (i := 1) rfl)), va_Nw.of rfl (nw _ (List.mem_of_getElem? (i := 2) rfl)), va_Nw.of rfl (nw _ (List.mem_of_getElem? (i := 3) rfl)), va_Nw.of rfl (nw _ (List.mem_of_getElem? (i := 4) rfl)), va_Nw.of rfl (nw _ (List.mem_of_getElem? (i := 5) rfl)), va_Nw.of rfl (nw _ (List.mem_of_getElem? (i := 6) rfl)), va_Nw.of rfl (nw _ (List.mem_of_getElem? (i := 7) rfl)), va_Nw.of rfl (nw _ (List.mem_of_getElem? (i := 8) rfl)), va_Nw.of rfl (nw _ (List.mem_of_getElem? (i := 9) rfl)), va_Nw.of rfl (nw _ (List.mem_of_getElem? (i := 10) rfl)), va_AO.of (nw _ (List.mem_of_getElem? (i := 11) rfl))⟩
  obtain ⟨cI, aI1, aI2⟩ := z_arr (ty := .int) (fun C h => by cases h) (nw _ (List.mem_of_getElem? (i := 12) rfl))
  obtain ⟨cC, aC1, aC2⟩ := z_arr (ty := .char) (fun C h => by cases h) (nw _ (List.mem_of_getElem? (i := 13) rfl))
  obtain ⟨cO, aO1, aO2⟩ := z_arrO (C := "JoinedLight$Bench") (nw _ (List.mem_of_getElem? (i := 11) rfl))
  obtain ⟨c0, i0, k0⟩ := u_known (C := RX0) (T := TX0) (N := 10) (n := 10) hts inlX0 (hts (.instantiable RX0 10) (by decide +kernel))
  obtain ⟨c1, i1, k1⟩ := u_known (C := RX1) (T := TX1) (N := 4) (n := 4) hts inlX1 (hts (.instantiable RX1 4) (by decide +kernel))
  obtain ⟨c2, i2, k2⟩ := u_known (C := RX2) (T := TX2) (N := 3) (n := 3) hts inlX2 (hts (.instantiable RX2 3) (by decide +kernel))
  obtain ⟨c3, i3, k3⟩ := u_known (C := RX3) (T := TX3) (N := 2) (n := 2) hts inlX3 (hts (.instantiable RX3 2) (by decide +kernel))
  obtain ⟨c4, i4, k4⟩ := u_known (C := RX4) (T := TX4) (N := 5) (n := 5) hts inlX4 (hts (.instantiable RX4 5) (by decide +kernel))
  obtain ⟨c5, i5, k5⟩ := u_known (C := RX5) (T := TX5) (N := 5) (n := 5) hts inlX5 (hts (.instantiable RX5 5) (by decide +kernel))
  obtain ⟨c6, i6, k6⟩ := u_known (C := RX6) (T := TX6) (N := 11) (n := 11) hts inlX6 (hts (.instantiable RX6 11) (by decide +kernel))
  obtain ⟨c7, i7, k7⟩ := u_known (C := RX7) (T := TX7) (N := 21) (n := 21) hts inlX7 (hts (.instantiable RX7 21) (by decide +kernel))
  obtain ⟨dC, dI, hKc⟩ : ∃ (dC : Nat → ClassId) (dI : Nat → Nat → Nat), ∀ (k : Nat) (q : vw_C), vwCl[k]? = some q → u_Kn s q.1 q.2.1 q.2.2 (dC k) (dI k) := by
    refine ⟨fun k => if k = 0 then c0 else if k = 1 then c1 else if k = 2 then c2 else if k = 3 then c3 else if k = 4 then c4 else if k = 5 then c5 else if k = 6 then c6 else c7, fun k => if k = 0 then i0 else if k = 1 then i1 else if k = 2 then i2 else if k = 3 then i3 else if k = 4 then i4 else if k = 5 then i5 else if k = 6 then i6 else i7, ?_⟩
    intro k q hq
    match k, hq with
    | 0, hq => cases hq; exact k0
    | 1, hq => cases hq; exact k1
    | 2, hq => cases hq; exact k2
    | 3, hq => cases hq; exact k3
    | 4, hq => cases hq; exact k4
    | 5, hq => cases hq; exact k5
    | 6, hq => cases hq; exact k6
    | 7, hq => cases hq; exact k7
    | k + 8, hq => simp [vwCl] at hq
  have hK : va_K (dC, dI) vwCl (zT cI cC cO) s := by
    refine ⟨hKc, ?_⟩
    intro k q hq
    match k, hq with
    | 0, hq => cases hq; exact ⟨aI1, aI2⟩
    | 1, hq => cases hq; exact ⟨aC1, aC2⟩
    | 2, hq => cases hq; exact ⟨aO1, aO2⟩
    | k + 3, hq => simp [zT] at hq
  have X : lwC p s m c b L xs dC dI cI cC cO := ⟨hx, hb, hml, hown, hts, hX, hbl, hK, hN⟩
  have hS : va_S (fun q : Nat => s.heap.size ≤ q) s.heap s.heap [] := va_S.rf
  have hP : va_P (dC, dI) vwCl ([] : List va_W).flatten s.heap := fun k q h => by simp at h
  have hD : va_D (fun q : Nat => s.heap.size ≤ q) ([] : List va_W).flatten := ⟨fun i j p q h => by simp at h, fun k q h => by simp at h⟩
  have hl := lv_entry ([.ref b]) (n := 4) (Nat.le_of_ble_eq_true rfl)
  rw [lg_entry_eq]
  generalize (lg_sl ([.ref b]) ++ List.replicate (4 - (lg_sl ([.ref b])).length) Slot.unset).toArray = ls at hl ⊢
  have hl : lv_has ls 4 [(0, .ref b)] := hl
  refine z_new (ci := 6) (fs := [.null, .null, .null, .null, .null, .null, .null, .int 0, .int 0, .int 0, .int 0]) (C := RX6) (T := TX6) (N := 11) hx hb hts inlX6 tyX6 tyX6_ok hown (hts (.classLink RL 7 RX6) (by decide +kernel)) (hts (.instantiable RX6 11) (by decide +kernel)) (hts (.initialized RX6) (by decide +kernel)) hK hP hD hS hA rfl (fun j hj => by rcases (show j = 0 ∨ j = 1 ∨ j = 2 ∨ j = 3 ∨ j = 4 ∨ j = 5 ∨ j = 6 ∨ j = 7 ∨ j = 8 ∨ j = 9 ∨ j = 10 by omega) with rfl | rfl | rfl | rfl | rfl | rfl | rfl | rfl | rfl | rfl | rfl <;> rfl) (Nat.le_of_ble_eq_true rfl) (Nat.le_of_ble_eq_true rfl) dL_law_0 (fun qM H hP hD hS => ?_)
  have hP : va_P (dC, dI) vwCl ([[(qM, .inr (6, [.null, .null, .null, .null, .null, .null, .null, .int 0, .int 0, .int 0, .int 0]))]] : List va_W).flatten H := hP
  have hD : va_D (fun q : Nat => s.heap.size ≤ q) ([[(qM, .inr (6, [.null, .null, .null, .null, .null, .null, .null, .int 0, .int 0, .int 0, .int 0]))]] : List va_W).flatten := hD
  refine lv_dup hx hb dL_law_3 rfl ?_
  refine z_callE (gs2 := fun u : (Nat → Nat) × (Nat → Nat → Nat) => [[(wX6 qM u.1 iX6), (wX0 cI (u.1 0) (u.2 0) iX0), (wX0 cI (u.1 1) (u.2 1) iX0), (wX4 cI (u.1 2) (u.2 2) iX4), (wX1 cI (u.1 3) (u.2 3) iX1), (wX2 (u.1 4) iX2), (wX3 cO (u.1 5) (u.2 5) iX3 (fun _ => none)), (wX5 cI cC (u.1 6) (u.2 6) iX5)].flatten]) hP hD hS hA [0] [] rfl (fun _ => rfl) (fun _ => rfl) (show List.Perm [0] (List.range 1) from by decide) (fun _ => rfl) (va_runI (As := []) (rest := [.ref qM]) ⟨hx, hb, hml, hown, hts⟩ (cE_flat (c_X6_init l dC dI cI cC cO qM) H.size) (cwI 0 hts gL_law_X6_init rfl rfl rfl (hts (.initialized RX6) (by decide +kernel)) (hts (.methodLink RL 9 yX6_init) (by decide +kernel)) (hts (.instanceMethod yX6_init) (by decide +kernel)) rfl (by decide +kernel) ⟨Nat.le_of_ble_eq_true rfl, Nat.le_of_ble_eq_true rfl⟩) ⟨zpM_blind, z_useM hK hN hP hD [0] [] rfl (show List.Perm [0] (List.range 1) from by decide)⟩ rfl rfl hl.1 rfl (lv_room (Nat.le_of_ble_eq_true rfl)) dL_law_4 ⟨Nat.le_of_ble_eq_true rfl, Nat.le_of_ble_eq_true rfl⟩) (fun u _ H locs hP hD hS => ?_)
  obtain ⟨bM, aU⟩ := u
  rw [List.flatten_singleton] at hP hD
  have hP : va_P (dC, dI) vwCl [(wX6 qM bM iX6), (wX0 cI (bM 0) (aU 0) iX0), (wX0 cI (bM 1) (aU 1) iX0), (wX4 cI (bM 2) (aU 2) iX4), (wX1 cI (bM 3) (aU 3) iX1), (wX2 (bM 4) iX2), (wX3 cO (bM 5) (aU 5) iX3 (fun _ => none)), (wX5 cI cC (bM 6) (aU 6) iX5)].flatten H := hP
  have hD : va_D (fun q : Nat => s.heap.size ≤ q) [(wX6 qM bM iX6), (wX0 cI (bM 0) (aU 0) iX0), (wX0 cI (bM 1) (aU 1) iX0), (wX4 cI (bM 2) (aU 2) iX4), (wX1 cI (bM 3) (aU 3) iX1), (wX2 (bM 4) iX2), (wX3 cO (bM 5) (aU 5) iX3 (fun _ => none)), (wX5 cI cC (bM 6) (aU 6) iX5)].flatten := hD
  refine W.eq (g2 := F0 m 7 ls [.ref qM]) rfl ?_
  refine lv_astore_n (lv' := [(1, .ref qM), (0, .ref b)]) hx hb dL_law_7 rfl hl (by decide) rfl (fun ls hl => ?_)
  refine z_new (ci := 7) (fs := [.null, .null, .null, .null, .int 0, .int 0, .null, .int 0, .int 0, .int 0, .int 0, .int 0, .null, .null, .int 0, .int 0, .int 0, .int 0, .int 0, .int 0, .null]) (C := RX7) (T := TX7) (N := 21) hx hb hts inlX7 tyX7 tyX7_ok hown (hts (.classLink RL 10 RX7) (by decide +kernel)) (hts (.instantiable RX7 21) (by decide +kernel)) (hts (.initialized RX7) (by decide +kernel)) hK hP hD hS hA rfl (fun j hj => by rcases (show j = 0 ∨ j = 1 ∨ j = 2 ∨ j = 3 ∨ j = 4 ∨ j = 5 ∨ j = 6 ∨ j = 7 ∨ j = 8 ∨ j = 9 ∨ j = 10 ∨ j = 11 ∨ j = 12 ∨ j = 13 ∨ j = 14 ∨ j = 15 ∨ j = 16 ∨ j = 17 ∨ j = 18 ∨ j = 19 ∨ j = 20 by omega) with rfl | rfl | rfl | rfl | rfl | rfl | rfl | rfl | rfl | rfl | rfl | rfl | rfl | rfl | rfl | rfl | rfl | rfl | rfl | rfl | rfl <;> rfl) (Nat.le_of_ble_eq_true rfl) (Nat.le_of_ble_eq_true rfl) dL_law_8 (fun qN H hP hD hS => ?_)
  have hP : va_P (dC, dI) vwCl ([(wX6 qM bM iX6), (wX0 cI (bM 0) (aU 0) iX0), (wX0 cI (bM 1) (aU 1) iX0), (wX4 cI (bM 2) (aU 2) iX4), (wX1 cI (bM 3) (aU 3) iX1), (wX2 (bM 4) iX2), (wX3 cO (bM 5) (aU 5) iX3 (fun _ => none)), (wX5 cI cC (bM 6) (aU 6) iX5), [(qN, .inr (7, [.null, .null, .null, .null, .int 0, .int 0, .null, .int 0, .int 0, .int 0, .int 0, .int 0, .null, .null, .int 0, .int 0, .int 0, .int 0, .int 0, .int 0, .null]))]] : List va_W).flatten H := hP
  have hD : va_D (fun q : Nat => s.heap.size ≤ q) ([(wX6 qM bM iX6), (wX0 cI (bM 0) (aU 0) iX0), (wX0 cI (bM 1) (aU 1) iX0), (wX4 cI (bM 2) (aU 2) iX4), (wX1 cI (bM 3) (aU 3) iX1), (wX2 (bM 4) iX2), (wX3 cO (bM 5) (aU 5) iX3 (fun _ => none)), (wX5 cI cC (bM 6) (aU 6) iX5), [(qN, .inr (7, [.null, .null, .null, .null, .int 0, .int 0, .null, .int 0, .int 0, .int 0, .int 0, .int 0, .null, .null, .int 0, .int 0, .int 0, .int 0, .int 0, .int 0, .null]))]] : List va_W).flatten := hD
  refine lv_dup hx hb dL_law_11 rfl ?_
  refine z_callE (gs2 := fun u : Nat → Nat => [(wX6 qM bM iX6), (wX0 cI (bM 0) (aU 0) iX0), (wX0 cI (bM 1) (aU 1) iX0), (wX4 cI (bM 2) (aU 2) iX4), (wX1 cI (bM 3) (aU 3) iX1), (wX2 (bM 4) iX2), (wX3 cO (bM 5) (aU 5) iX3 (fun _ => none)), (wX5 cI cC (bM 6) (aU 6) iX5), (wX7 cI qN u iX7)]) hP hD hS hA [8] [0, 1, 2, 3, 4, 5, 6, 7] rfl (fun _ => rfl) (fun _ => rfl) (show List.Perm [8, 0, 1, 2, 3, 4, 5, 6, 7] (List.range 9) from by decide) (fun _ => rfl) (va_runI (As := []) (rest := [.ref qN]) ⟨hx, hb, hml, hown, hts⟩ (c_X7_init l dC dI cI cC cO qN H.size) (cwI 0 hts gL_law_X7_init rfl rfl rfl (hts (.initialized RX7) (by decide +kernel)) (hts (.methodLink RL 12 yX7_init) (by decide +kernel)) (hts (.instanceMethod yX7_init) (by decide +kernel)) rfl (by decide +kernel) ⟨Nat.le_of_ble_eq_true rfl, Nat.le_of_ble_eq_true rfl⟩) ⟨zpM_blind, z_useM hK hN hP hD [8] [0, 1, 2, 3, 4, 5, 6, 7] rfl (show List.Perm [8, 0, 1, 2, 3, 4, 5, 6, 7] (List.range 9) from by decide)⟩ rfl rfl hl.1 rfl (lv_room (Nat.le_of_ble_eq_true rfl)) dL_law_12 ⟨Nat.le_of_ble_eq_true rfl, Nat.le_of_ble_eq_true rfl⟩) (fun aN _ H locs hP hD hS => ?_)
  refine W.eq (g2 := F0 m 15 ls [.ref qN]) rfl ?_
  refine lv_astore_n (lv' := [(2, .ref qN), (1, .ref qM), (0, .ref b)]) hx hb dL_law_15 rfl hl (by decide) rfl (fun ls hl => ?_)
  refine lv_iconst (v := (0 : Int32)) hx hb dL_law_16 (by decide) ?_
  refine lv_istore_n (lv' := [(3, .int (0 : Int32)), (2, .ref qN), (1, .ref qM), (0, .ref b)]) hx hb dL_law_17 rfl hl (by decide) rfl (fun ls hl => ?_)
  refine W.widen (k := 41 + 8 * 0) (n := 798 + 66 * 0) (by decide) (by decide) ?_
  exact law_loop hL X hr hlk L 0 (by omega) (by omega) iX6 iX0 iX0 iX4 iX1 iX2 iX3 iX5 iX7 (fun _ => none) pm_init H locs ls hP hD hS (lv_sub hl [3, 2, 1, 0] rfl)
