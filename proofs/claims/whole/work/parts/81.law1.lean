set_option maxHeartbeats 4000000 in
set_option maxRecDepth 100000 in
theorem lc_line_a {p : Program} {l : Launch} {e : Env} {s : State} {m : MethodId} {below : List Frame} {meth : Method} {c : Code} {b L : Nat} {xs : Nat → Int32} {dC : Nat → ClassId} {dI : Nat → Nat → Nat} {cI cC cO : ClassId} (X : lwC p s m c b L xs dC dI cI cC cO) {qM qN : Nat} {bM aB aT aR aC aY aX aN : Nat → Nat} {Q : State → Prop} {x3 : Int32} (h1 : vp_in (x3 + (1 : Int32)) L) (h2 : vp_in (x3 + (2 : Int32)) L) (h3 : vp_in (x3 + (3 : Int32)) L) (h4 : vp_in (x3 + (4 : Int32)) L) {gM gB gT gR gC gH gY gX gN : zG} {zZ : Nat → zS} (hR : zRel gB gX gY (zcn zZ) gN) {k n : Nat} (hk : k + 8 ≤ 600000) (hn : n + 66 ≤ 7302250) (K : lwK p l e s m below meth c b qM qN bM aB aT aR aC aY aX aN dC dI cI cC cO Q x3 (k + 8) (n + 66)) (H : Heap) (locs : List Loc) (ls : Array Slot) (hP : va_P (dC, dI) vwCl [(wX6 qM bM gM), (wX0 cI (bM 0) aB gB), (wX0 cI (bM 1) aT gT), (wX4 cI (bM 2) aR gR), (wX1 cI (bM 3) aC gC), (wX2 (bM 4) gH), (wX3 cO (bM 5) aY gY (zrm zZ)), (wX5 cI cC (bM 6) aX gX), (wZ cI (zZ 0)), (wZ cI (zZ 1)), (wZ cI (zZ 2)), (wZ cI (zZ 3)), (wX7 cI qN aN gN)].flatten H) (hD : va_D (fun q : Nat => s.heap.size ≤ q) [(wX6 qM bM gM), (wX0 cI (bM 0) aB gB), (wX0 cI (bM 1) aT gT), (wX4 cI (bM 2) aR gR), (wX1 cI (bM 3) aC gC), (wX2 (bM 4) gH), (wX3 cO (bM 5) aY gY (zrm zZ)), (wX5 cI cC (bM 6) aX gX), (wZ cI (zZ 0)), (wZ cI (zZ 1)), (wZ cI (zZ 2)), (wZ cI (zZ 3)), (wX7 cI qN aN gN)].flatten) (hS : va_S (fun q : Nat => s.heap.size ≤ q) s.heap H locs) (hl : lv_has ls 4 [(0, .ref b), (1, .ref qM), (2, .ref qN), (3, .int x3)]) : W p l e room_1 s m #[.ref b] below meth c H locs k n Q (F0 m 140 ls []) := by
  obtain ⟨hx, hb, hml, hown, hts, hX, hbl, hK, hN⟩ := X
  have hA : ∀ q : Nat, s.heap.size ≤ q → (fun q : Nat => s.heap.size ≤ q) q := fun _ h => h
  have hbA : ¬ (fun q : Nat => s.heap.size ≤ q) b := Nat.not_le.mpr hbl
  obtain ⟨R, R', hfa, hfb, hEq, hR'⟩ := pm_line hR gM gT (xs (x3 + (1 : Int32)).toNatClampNeg) (xs (x3 + (2 : Int32)).toNatClampNeg)
  refine lv_aload_n hx hb dL_law_140 rfl (lv_at hl 1 rfl) ?_
  refine lv_aload_n hx hb dL_law_141 rfl (lv_at hl 0 rfl) ?_
  refine lv_iload_n hx hb dL_law_142 rfl (lv_at hl 3 rfl) ?_
  refine lv_iconst (v := (1 : Int32)) hx hb dL_law_143 (by decide) ?_
  refine lv_iadd hx hb dL_law_144 ?_
  refine va_sld hx hb hX hbl hbA hS h1 dL_law_145 ?_
  refine lv_aload_n hx hb dL_law_146 rfl (lv_at hl 0 rfl) ?_
  refine lv_iload_n hx hb dL_law_147 rfl (lv_at hl 3 rfl) ?_
  refine lv_iconst (v := (2 : Int32)) hx hb dL_law_148 (by decide) ?_
  refine lv_iadd hx hb dL_law_149 ?_
  refine va_sld hx hb hX hbl hbA hS h2 dL_law_150 ?_
  sorry
set_option maxHeartbeats 4000000 in
set_option maxRecDepth 100000 in
theorem lc_line {p : Program} {l : Launch} {e : Env} {s : State} {m : MethodId} {below : List Frame} {meth : Method} {c : Code} {b L : Nat} {xs : Nat → Int32} {dC : Nat → ClassId} {dI : Nat → Nat → Nat} {cI cC cO : ClassId} (X : lwC p s m c b L xs dC dI cI cC cO) {qM qN : Nat} {bM aB aT aR aC aY aX aN : Nat → Nat} {Q : State → Prop} {x3 : Int32} (h1 : vp_in (x3 + (1 : Int32)) L) (h2 : vp_in (x3 + (2 : Int32)) L) (h3 : vp_in (x3 + (3 : Int32)) L) (h4 : vp_in (x3 + (4 : Int32)) L) {gM gB gT gR gC gH gY gX gN : zG} {zZ : Nat → zS} (hR : zRel gB gX gY (zcn zZ) gN) {k n : Nat} (hk : k + 8 ≤ 600000) (hn : n + 66 ≤ 7302250) (K : lwK p l e s m below meth c b qM qN bM aB aT aR aC aY aX aN dC dI cI cC cO Q x3 (k + 8) (n + 66)) (H : Heap) (locs : List Loc) (ls : Array Slot) (hP : va_P (dC, dI) vwCl [(wX6 qM bM gM), (wX0 cI (bM 0) aB gB), (wX0 cI (bM 1) aT gT), (wX4 cI (bM 2) aR gR), (wX1 cI (bM 3) aC gC), (wX2 (bM 4) gH), (wX3 cO (bM 5) aY gY (zrm zZ)), (wX5 cI cC (bM 6) aX gX), (wZ cI (zZ 0)), (wZ cI (zZ 1)), (wZ cI (zZ 2)), (wZ cI (zZ 3)), (wX7 cI qN aN gN)].flatten H) (hD : va_D (fun q : Nat => s.heap.size ≤ q) [(wX6 qM bM gM), (wX0 cI (bM 0) aB gB), (wX0 cI (bM 1) aT gT), (wX4 cI (bM 2) aR gR), (wX1 cI (bM 3) aC gC), (wX2 (bM 4) gH), (wX3 cO (bM 5) aY gY (zrm zZ)), (wX5 cI cC (bM 6) aX gX), (wZ cI (zZ 0)), (wZ cI (zZ 1)), (wZ cI (zZ 2)), (wZ cI (zZ 3)), (wX7 cI qN aN gN)].flatten) (hS : va_S (fun q : Nat => s.heap.size ≤ q) s.heap H locs) (hl : lv_has ls 4 [(0, .ref b), (1, .ref qM), (2, .ref qN), (3, .int x3)]) : W p l e room_1 s m #[.ref b] below meth c H locs k n Q (F0 m 140 ls []) := by
  obtain ⟨hx, hb, hml, hown, hts, hX, hbl, hK, hN⟩ := X
  have hA : ∀ q : Nat, s.heap.size ≤ q → (fun q : Nat => s.heap.size ≤ q) q := fun _ h => h
  have hbA : ¬ (fun q : Nat => s.heap.size ≤ q) b := Nat.not_le.mpr hbl
  obtain ⟨R, R', hfa, hfb, hEq, hR'⟩ := pm_line hR gM gT (xs (x3 + (1 : Int32)).toNatClampNeg) (xs (x3 + (2 : Int32)).toNatClampNeg)
  refine lv_aload_n hx hb dL_law_140 rfl (lv_at hl 1 rfl) ?_
  refine lv_aload_n hx hb dL_law_141 rfl (lv_at hl 0 rfl) ?_
  refine lv_iload_n hx hb dL_law_142 rfl (lv_at hl 3 rfl) ?_
  refine lv_iconst (v := (1 : Int32)) hx hb dL_law_143 (by decide) ?_
  refine lv_iadd hx hb dL_law_144 ?_
  refine va_sld hx hb hX hbl hbA hS h1 dL_law_145 ?_
  refine lv_aload_n hx hb dL_law_146 rfl (lv_at hl 0 rfl) ?_
  refine lv_iload_n hx hb dL_law_147 rfl (lv_at hl 3 rfl) ?_
  refine lv_iconst (v := (2 : Int32)) hx hb dL_law_148 (by decide) ?_
  refine lv_iadd hx hb dL_law_149 ?_
  refine va_sld hx hb hX hbl hbA hS h2 dL_law_150 ?_
  refine z_callE (gs2 := fun u : Nat → zS => [(wX6 qM bM gM), (wX0 cI (bM 0) aB R.2.1), (wX0 cI (bM 1) aT R.2.2.1), (wX4 cI (bM 2) aR gR), (wX1 cI (bM 3) aC gC), (wX2 (bM 4) gH), (wX3 cO (bM 5) aY R.2.2.2.1 (zrm u)), (wX5 cI cC (bM 6) aX gX), (wZ cI (u 0)), (wZ cI (u 1)), (wZ cI (u 2)), (wZ cI (u 3)), (wX7 cI qN aN gN)]) hP hD hS hA [0, 1, 2, 6, 8, 9, 10, 11] [3, 4, 5, 7, 12] rfl (fun _ => rfl) (fun _ => rfl) (show List.Perm [0, 1, 2, 6, 8, 9, 10, 11, 3, 4, 5, 7, 12] (List.range 13) from by decide +kernel) (fun _ => rfl) (va_runV (As := [.int (xs (x3 + (1 : Int32)).toNatClampNeg), .int (xs (x3 + (2 : Int32)).toNatClampNeg)]) (rest := []) ⟨hx, hb, hml, hown, hts⟩ (c_X6_line l dC dI cI cC cO qM bM gM aB gB aT gT aY gY zZ (xs (x3 + (1 : Int32)).toNatClampNeg) (xs (x3 + (2 : Int32)).toNatClampNeg) R hfa H.size) (cwV 2 hts gL_law_X6_line rfl rfl rfl (by decide +kernel) ⟨Nat.le_of_ble_eq_true rfl, Nat.le_of_ble_eq_true rfl⟩) ⟨zpM_blind, va_recv hK hP (ci := 6) (q0 := 0) rfl rfl, z_useM hK hN hP hD [0, 1, 2, 6, 8, 9, 10, 11] [3, 4, 5, 7, 12] rfl (show List.Perm [0, 1, 2, 6, 8, 9, 10, 11, 3, 4, 5, 7, 12] (List.range 13) from by decide +kernel)⟩ rfl rfl hl.1 rfl (lv_room (Nat.le_of_ble_eq_true rfl)) dL_law_151 ⟨by show k + 8 ≤ 600000; omega, by show n + 66 ≤ 7302250; omega⟩) (fun u pu H locs hP hD hS => ?_)
  sorry
