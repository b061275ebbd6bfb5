set_option maxHeartbeats 4000000 in
set_option maxRecDepth 100000 in
theorem lc_bending {p : Program} {l : Launch} {e : Env} {s : State} {m : MethodId} {below : List Frame} {meth : Method} {c : Code} {b L : Nat} {xs : Nat → Int32} {dC : Nat → ClassId} {dI : Nat → Nat → Nat} {cI cC cO : ClassId} (X : lwC p s m c b L xs dC dI cI cC cO) {qM qN : Nat} {bM aB aT aR aC aY aX aN : Nat → Nat} {Q : State → Prop} {x3 : Int32} (h1 : vp_in (x3 + (1 : Int32)) L) (h2 : vp_in (x3 + (2 : Int32)) L) (h3 : vp_in (x3 + (3 : Int32)) L) (h4 : vp_in (x3 + (4 : Int32)) L) {gM gB gT gR gC gH gY gX gN : zG} {zZ : Nat → zS} (hR : zRel gB gX gY (zcn zZ) gN) {k n : Nat} (hk : k + 8 ≤ 600000) (hn : n + 66 ≤ 7302250) (K : lwK p l e s m below meth c b qM qN bM aB aT aR aC aY aX aN dC dI cI cC cO Q x3 (k + 8) (n + 66)) (H : Heap) (locs : List Loc) (ls : Array Slot) (hP : va_P (dC, dI) vwCl [(wX6 qM bM gM), (wX0 cI (bM 0) aB gB), (wX0 cI (bM 1) aT gT), (wX4 cI (bM 2) aR gR), (wX1 cI (bM 3) aC gC), (wX2 (bM 4) gH), (wX3 cO (bM 5) aY gY (zrm zZ)), (wX5 cI cC (bM 6) aX gX), (wX7 cI qN aN gN), (wZ cI (zZ 0)), (wZ cI (zZ 1)), (wZ cI (zZ 2)), (wZ cI (zZ 3))].flatten H) (hD : va_D (fun q : Nat => s.heap.size ≤ q) [(wX6 qM bM gM), (wX0 cI (bM 0) aB gB), (wX0 cI (bM 1) aT gT), (wX4 cI (bM 2) aR gR), (wX1 cI (bM 3) aC gC), (wX2 (bM 4) gH), (wX3 cO (bM 5) aY gY (zrm zZ)), (wX5 cI cC (bM 6) aX gX), (wX7 cI qN aN gN), (wZ cI (zZ 0)), (wZ cI (zZ 1)), (wZ cI (zZ 2)), (wZ cI (zZ 3))].flatten) (hS : va_S (fun q : Nat => s.heap.size ≤ q) s.heap H locs) (hl : lv_has ls 4 [(0, .ref b), (1, .ref qM), (2, .ref qN), (3, .int x3)]) : W p l e room_1 s m #[.ref b] below meth c H locs k n Q (F0 m 546 ls []) := by
  obtain ⟨hx, hb, hml, hown, hts, hX, hbl, hK, hN⟩ := X
  have hA : ∀ q : Nat, s.heap.size ≤ q → (fun q : Nat => s.heap.size ≤ q) q := fun _ h => h
  have hbA : ¬ (fun q : Nat => s.heap.size ≤ q) b := Nat.not_le.mpr hbl
  obtain ⟨R, R', hfa, hfb, hEq, hR'⟩ := pm_bending hR gM (xs (x3 + (1 : Int32)).toNatClampNeg) (xs (x3 + (2 : Int32)).toNatClampNeg)
  refine lv_aload_n hx hb dL_law_546 rfl (lv_at hl 1 rfl) ?_
  refine lv_aload_n hx hb dL_law_547 rfl (lv_at hl 0 rfl) ?_
  refine lv_iload_n hx hb dL_law_548 rfl (lv_at hl 3 rfl) ?_
  refine lv_iconst (v := (1 : Int32)) hx hb dL_law_549 (by decide) ?_
  refine lv_iadd hx hb dL_law_550 ?_
  refine va_sld hx hb hX hbl hbA hS h1 dL_law_551 ?_
  refine lv_aload_n hx hb dL_law_552 rfl (lv_at hl 0 rfl) ?_
  refine lv_iload_n hx hb dL_law_553 rfl (lv_at hl 3 rfl) ?_
  refine lv_iconst (v := (2 : Int32)) hx hb dL_law_554 (by decide) ?_
  refine lv_iadd hx hb dL_law_555 ?_
  refine va_sld hx hb hX hbl hbA hS h2 dL_law_556 ?_
  refine z_callRi (va_runV (As := [.int (xs (x3 + (1 : Int32)).toNatClampNeg), .int (xs (x3 + (2 : Int32)).toNatClampNeg)]) (rest := []) ⟨hx, hb, hml, hown, hts⟩ (c_X6_bending l dC dI cI cC cO qM bM gM (xs (x3 + (1 : Int32)).toNatClampNeg) (xs (x3 + (2 : Int32)).toNatClampNeg) R hfa) (cwV 2 hts gL_law_X6_bending rfl rfl rfl (by decide +kernel) ⟨Nat.le_of_ble_eq_true rfl, Nat.le_of_ble_eq_true rfl⟩) ⟨zpR_blind, va_recv hK hP (ci := 6) (q0 := 0) rfl rfl, z_useR hK hN hP [0] rfl⟩ rfl rfl hl.1 rfl (lv_room (Nat.le_of_ble_eq_true rfl)) dL_law_557 ⟨by show k + 0 ≤ 600000; omega, by show n + 0 ≤ 7302250; omega⟩) ?_
  refine lv_aload_n hx hb dL_law_560 rfl (lv_at hl 2 rfl) ?_
  refine lv_aload_n hx hb dL_law_561 rfl (lv_at hl 0 rfl) ?_
  refine lv_iload_n hx hb dL_law_562 rfl (lv_at hl 3 rfl) ?_
  refine lv_iconst (v := (1 : Int32)) hx hb dL_law_563 (by decide) ?_
  refine lv_iadd hx hb dL_law_564 ?_
  refine va_sld hx hb hX hbl hbA hS h1 dL_law_565 ?_
  refine lv_aload_n hx hb dL_law_566 rfl (lv_at hl 0 rfl) ?_
  refine lv_iload_n hx hb dL_law_567 rfl (lv_at hl 3 rfl) ?_
  refine lv_iconst (v := (2 : Int32)) hx hb dL_law_568 (by decide) ?_
  refine lv_iadd hx hb dL_law_569 ?_
  refine va_sld hx hb hX hbl hbA hS h2 dL_law_570 ?_
  refine z_callRi (va_runV (As := [.int (xs (x3 + (1 : Int32)).toNatClampNeg), .int (xs (x3 + (2 : Int32)).toNatClampNeg)]) (rest := [.int R]) ⟨hx, hb, hml, hown, hts⟩ (c_X7_bending l dC dI cI cC cO qN aN gN (xs (x3 + (1 : Int32)).toNatClampNeg) (xs (x3 + (2 : Int32)).toNatClampNeg) R' hfb) (cwV 2 hts gL_law_X7_bending rfl rfl rfl (by decide +kernel) ⟨Nat.le_of_ble_eq_true rfl, Nat.le_of_ble_eq_true rfl⟩) ⟨zpR_blind, va_recv hK hP (ci := 7) (q0 := 32) rfl rfl, z_useR hK hN hP [8] rfl⟩ rfl rfl hl.1 rfl (lv_room (Nat.le_of_ble_eq_true rfl)) dL_law_571 ⟨by show k + 0 ≤ 600000; omega, by show n + 0 ≤ 7302250; omega⟩) ?_
  refine lv_icmp_eq (tgt := 789) hx hb dL_law_574 (by decide) (fun _ => ?_) (fun c_ => absurd hEq c_)
  refine W.widen (k := k + 8) (n := n + 66) (by omega) (by omega) ?_
  exact K gM gB gT gR gC gH gY gX gN zZ hR' H locs ls hP hD hS hl

set_option maxHeartbeats 4000000 in
set_option maxRecDepth 100000 in
theorem lc_best {p : Program} {l : Launch} {e : Env} {s : State} {m : MethodId} {below : List Frame} {meth : Method} {c : Code} {b L : Nat} {xs : Nat → Int32} {dC : Nat → ClassId} {dI : Nat → Nat → Nat} {cI cC cO : ClassId} (X : lwC p s m c b L xs dC dI cI cC cO) {qM qN : Nat} {bM aB aT aR aC aY aX aN : Nat → Nat} {Q : State → Prop} {x3 : Int32} (h1 : vp_in (x3 + (1 : Int32)) L) (h2 : vp_in (x3 + (2 : Int32)) L) (h3 : vp_in (x3 + (3 : Int32)) L) (h4 : vp_in (x3 + (4 : Int32)) L) {gM gB gT gR gC gH gY gX gN : zG} {zZ : Nat → zS} (hR : zRel gB gX gY (zcn zZ) gN) {k n : Nat} (hk : k + 8 ≤ 600000) (hn : n + 66 ≤ 7302250) (K : lwK p l e s m below meth c b qM qN bM aB aT aR aC aY aX aN dC dI cI cC cO Q x3 (k + 8) (n + 66)) (H : Heap) (locs : List Loc) (ls : Array Slot) (hP : va_P (dC, dI) vwCl [(wX6 qM bM gM), (wX0 cI (bM 0) aB gB), (wX0 cI (bM 1) aT gT), (wX4 cI (bM 2) aR gR), (wX1 cI (bM 3) aC gC), (wX2 (bM 4) gH), (wX3 cO (bM 5) aY gY (zrm zZ)), (wX5 cI cC (bM 6) aX gX), (wX7 cI qN aN gN), (wZ cI (zZ 0)), (wZ cI (zZ 1)), (wZ cI (zZ 2)), (wZ cI (zZ 3))].flatten H) (hD : va_D (fun q : Nat => s.heap.size ≤ q) [(wX6 qM bM gM), (wX0 cI (bM 0) aB gB), (wX0 cI (bM 1) aT gT), (wX4 cI (bM 2) aR gR), (wX1 cI (bM 3) aC gC), (wX2 (bM 4) gH), (wX3 cO (bM 5) aY gY (zrm zZ)), (wX5 cI cC (bM 6) aX gX), (wX7 cI qN aN gN), (wZ cI (zZ 0)), (wZ cI (zZ 1)), (wZ cI (zZ 2)), (wZ cI (zZ 3))].flatten) (hS : va_S (fun q : Nat => s.heap.size ≤ q) s.heap H locs) (hl : lv_has ls 4 [(0, .ref b), (1, .ref qM), (2, .ref qN), (3, .int x3)]) : W p l e room_1 s m #[.ref b] below meth c H locs k n Q (F0 m 579 ls []) := by
  obtain ⟨hx, hb, hml, hown, hts, hX, hbl, hK, hN⟩ := X
  have hA : ∀ q : Nat, s.heap.size ≤ q → (fun q : Nat => s.heap.size ≤ q) q := fun _ h => h
  have hbA : ¬ (fun q : Nat => s.heap.size ≤ q) b := Nat.not_le.mpr hbl
  obtain ⟨R, R', hfa, hfb, hEq, hR'⟩ := pm_best hR gM gT gR gH (xs (x3 + (1 : Int32)).toNatClampNeg) (xs (x3 + (2 : Int32)).toNatClampNeg)
  refine lv_aload_n hx hb dL_law_579 rfl (lv_at hl 1 rfl) ?_
  refine lv_aload_n hx hb dL_law_580 rfl (lv_at hl 0 rfl) ?_
  refine lv_iload_n hx hb dL_law_581 rfl (lv_at hl 3 rfl) ?_
  refine lv_iconst (v := (1 : Int32)) hx hb dL_law_582 (by decide) ?_
  refine lv_iadd hx hb dL_law_583 ?_
  refine va_sld hx hb hX hbl hbA hS h1 dL_law_584 ?_
  refine lv_aload_n hx hb dL_law_585 rfl (lv_at hl 0 rfl) ?_
  refine lv_iload_n hx hb dL_law_586 rfl (lv_at hl 3 rfl) ?_
  refine lv_iconst (v := (2 : Int32)) hx hb dL_law_587 (by decide) ?_
  refine lv_iadd hx hb dL_law_588 ?_
  refine va_sld hx hb hX hbl hbA hS h2 dL_law_589 ?_
  refine z_callM (gs2 := [(wX6 qM bM gM), (wX0 cI (bM 0) aB gB), (wX0 cI (bM 1) aT R.2.1), (wX4 cI (bM 2) aR R.2.2.1), (wX1 cI (bM 3) aC gC), (wX2 (bM 4) R.2.2.2), (wX3 cO (bM 5) aY gY (zrm zZ)), (wX5 cI cC (bM 6) aX gX), (wX7 cI qN aN gN), (wZ cI (zZ 0)), (wZ cI (zZ 1)), (wZ cI (zZ 2)), (wZ cI (zZ 3))]) hP hD hS hA [0, 1, 2, 3, 5] [4, 6, 7, 8, 9, 10, 11, 12] rfl rfl rfl (show List.Perm [0, 1, 2, 3, 5, 4, 6, 7, 8, 9, 10, 11, 12] (List.range 13) from by decide +kernel) rfl (va_runV (As := [.int (xs (x3 + (1 : Int32)).toNatClampNeg), .int (xs (x3 + (2 : Int32)).toNatClampNeg)]) (rest := []) ⟨hx, hb, hml, hown, hts⟩ (c_X6_best l dC dI cI cC cO qM bM gM aB gB aT gT aR gR gH (xs (x3 + (1 : Int32)).toNatClampNeg) (xs (x3 + (2 : Int32)).toNatClampNeg) R hfa H.size) (cwV 2 hts gL_law_X6_best rfl rfl rfl (by decide +kernel) ⟨Nat.le_of_ble_eq_true rfl, Nat.le_of_ble_eq_true rfl⟩) ⟨zpM_blind, va_recv hK hP (ci := 6) (q0 := 0) rfl rfl, z_useM hK hN hP hD [0, 1, 2, 3, 5] [4, 6, 7, 8, 9, 10, 11, 12] rfl (show List.Perm [0, 1, 2, 3, 5, 4, 6, 7, 8, 9, 10, 11, 12] (List.range 13) from by decide +kernel)⟩ rfl rfl hl.1 rfl (lv_room (Nat.le_of_ble_eq_true rfl)) dL_law_590 ⟨by show k + 0 ≤ 600000; omega, by show n + 0 ≤ 7302250; omega⟩) (fun H locs hP hD hS => ?_)
  have hP : va_P (dC, dI) vwCl [(wX6 qM bM gM), (wX0 cI (bM 0) aB gB), (wX0 cI (bM 1) aT R.2.1), (wX4 cI (bM 2) aR R.2.2.1), (wX1 cI (bM 3) aC gC), (wX2 (bM 4) R.2.2.2), (wX3 cO (bM 5) aY gY (zrm zZ)), (wX5 cI cC (bM 6) aX gX), (wX7 cI qN aN gN), (wZ cI (zZ 0)), (wZ cI (zZ 1)), (wZ cI (zZ 2)), (wZ cI (zZ 3))].flatten H := hP
  have hD : va_D (fun q : Nat => s.heap.size ≤ q) [(wX6 qM bM gM), (wX0 cI (bM 0) aB gB), (wX0 cI (bM 1) aT R.2.1), (wX4 cI (bM 2) aR R.2.2.1), (wX1 cI (bM 3) aC gC), (wX2 (bM 4) R.2.2.2), (wX3 cO (bM 5) aY gY (zrm zZ)), (wX5 cI cC (bM 6) aX gX), (wX7 cI qN aN gN), (wZ cI (zZ 0)), (wZ cI (zZ 1)), (wZ cI (zZ 2)), (wZ cI (zZ 3))].flatten := hD
  refine W.eq (g2 := F0 m 593 ls [.int R.1]) rfl ?_
  refine lv_aload_n hx hb dL_law_593 rfl (lv_at hl 2 rfl) ?_
  refine lv_aload_n hx hb dL_law_594 rfl (lv_at hl 0 rfl) ?_
  refine lv_iload_n hx hb dL_law_595 rfl (lv_at hl 3 rfl) ?_
  refine lv_iconst (v := (1 : Int32)) hx hb dL_law_596 (by decide) ?_
  refine lv_iadd hx hb dL_law_597 ?_
  refine va_sld hx hb hX hbl hbA hS h1 dL_law_598 ?_
  refine lv_aload_n hx hb dL_law_599 rfl (lv_at hl 0 rfl) ?_
  refine lv_iload_n hx hb dL_law_600 rfl (lv_at hl 3 rfl) ?_
  refine lv_iconst (v := (2 : Int32)) hx hb dL_law_601 (by decide) ?_
  refine lv_iadd hx hb dL_law_602 ?_
  refine va_sld hx hb hX hbl hbA hS h2 dL_law_603 ?_
  refine z_callM (gs2 := [(wX6 qM bM gM), (wX0 cI (bM 0) aB gB), (wX0 cI (bM 1) aT R.2.1), (wX4 cI (bM 2) aR R.2.2.1), (wX1 cI (bM 3) aC gC), (wX2 (bM 4) R.2.2.2), (wX3 cO (bM 5) aY gY (zrm zZ)), (wX5 cI cC (bM 6) aX gX), (wX7 cI qN aN R'.2), (wZ cI (zZ 0)), (wZ cI (zZ 1)), (wZ cI (zZ 2)), (wZ cI (zZ 3))]) hP hD hS hA [8] [0, 1, 2, 3, 4, 5, 6, 7, 9, 10, 11, 12] rfl rfl rfl (show List.Perm [8, 0, 1, 2, 3, 4, 5, 6, 7, 9, 10, 11, 12] (List.range 13) from by decide +kernel) rfl (va_runV (As := [.int (xs (x3 + (1 : Int32)).toNatClampNeg), .int (xs (x3 + (2 : Int32)).toNatClampNeg)]) (rest := [.int R.1]) ⟨hx, hb, hml, hown, hts⟩ (c_X7_best l dC dI cI cC cO qN aN gN (xs (x3 + (1 : Int32)).toNatClampNeg) (xs (x3 + (2 : Int32)).toNatClampNeg) R' hfb H.size) (cwV 2 hts gL_law_X7_best rfl rfl rfl (by decide +kernel) ⟨Nat.le_of_ble_eq_true rfl, Nat.le_of_ble_eq_true rfl⟩) ⟨zpM_blind, va_recv hK hP (ci := 7) (q0 := 32) rfl rfl, z_useM hK hN hP hD [8] [0, 1, 2, 3, 4, 5, 6, 7, 9, 10, 11, 12] rfl (show List.Perm [8, 0, 1, 2, 3, 4, 5, 6, 7, 9, 10, 11, 12] (List.range 13) from by decide +kernel)⟩ rfl rfl hl.1 rfl (lv_room (Nat.le_of_ble_eq_true rfl)) dL_law_604 ⟨by show (k + 0) + 0 ≤ 600000; omega, by show (n + 0) + 0 ≤ 7302250; omega⟩) (fun H locs hP hD hS => ?_)
  have hP : va_P (dC, dI) vwCl [(wX6 qM bM gM), (wX0 cI (bM 0) aB gB), (wX0 cI (bM 1) aT R.2.1), (wX4 cI (bM 2) aR R.2.2.1), (wX1 cI (bM 3) aC gC), (wX2 (bM 4) R.2.2.2), (wX3 cO (bM 5) aY gY (zrm zZ)), (wX5 cI cC (bM 6) aX gX), (wX7 cI qN aN R'.2), (wZ cI (zZ 0)), (wZ cI (zZ 1)), (wZ cI (zZ 2)), (wZ cI (zZ 3))].flatten H := hP
  have hD : va_D (fun q : Nat => s.heap.size ≤ q) [(wX6 qM bM gM), (wX0 cI (bM 0) aB gB), (wX0 cI (bM 1) aT R.2.1), (wX4 cI (bM 2) aR R.2.2.1), (wX1 cI (bM 3) aC gC), (wX2 (bM 4) R.2.2.2), (wX3 cO (bM 5) aY gY (zrm zZ)), (wX5 cI cC (bM 6) aX gX), (wX7 cI qN aN R'.2), (wZ cI (zZ 0)), (wZ cI (zZ 1)), (wZ cI (zZ 2)), (wZ cI (zZ 3))].flatten := hD
  refine W.eq (g2 := F0 m 607 ls [.int R'.1, .int R.1]) rfl ?_
  refine lv_icmp_eq (tgt := 789) hx hb dL_law_607 (by decide) (fun _ => ?_) (fun c_ => absurd hEq c_)
  refine W.widen (k := k + 8) (n := n + 66) (by omega) (by omega) ?_
  exact K gM gB R.2.1 R.2.2.1 gC R.2.2.2 gY gX R'.2 zZ hR' H locs ls hP hD hS hl

set_option maxHeartbeats 4000000 in
set_option maxRecDepth 100000 in
theorem lc_alone {p : Program} {l : Launch} {e : Env} {s : State} {m : MethodId} {below : List Frame} {meth : Method} {c : Code} {b L : Nat} {xs : Nat → Int32} {dC : Nat → ClassId} {dI : Nat → Nat → Nat} {cI cC cO : ClassId} (X : lwC p s m c b L xs dC dI cI cC cO) {qM qN : Nat} {bM aB aT aR aC aY aX aN : Nat → Nat} {Q : State → Prop} {x3 : Int32} (h1 : vp_in (x3 + (1 : Int32)) L) (h2 : vp_in (x3 + (2 : Int32)) L) (h3 : vp_in (x3 + (3 : Int32)) L) (h4 : vp_in (x3 + (4 : Int32)) L) {gM gB gT gR gC gH gY gX gN : zG} {zZ : Nat → zS} (hR : zRel gB gX gY (zcn zZ) gN) {k n : Nat} (hk : k + 8 ≤ 600000) (hn : n + 66 ≤ 7302250) (K : lwK p l e s m below meth c b qM qN bM aB aT aR aC aY aX aN dC dI cI cC cO Q x3 (k + 8) (n + 66)) (H : Heap) (locs : List Loc) (ls : Array Slot) (hP : va_P (dC, dI) vwCl [(wX6 qM bM gM), (wX0 cI (bM 0) aB gB), (wX0 cI (bM 1) aT gT), (wX4 cI (bM 2) aR gR), (wX1 cI (bM 3) aC gC), (wX2 (bM 4) gH), (wX3 cO (bM 5) aY gY (zrm zZ)), (wX5 cI cC (bM 6) aX gX), (wX7 cI qN aN gN), (wZ cI (zZ 0)), (wZ cI (zZ 1)), (wZ cI (zZ 2)), (wZ cI (zZ 3))].flatten H) (hD : va_D (fun q : Nat => s.heap.size ≤ q) [(wX6 qM bM gM), (wX0 cI (bM 0) aB gB), (wX0 cI (bM 1) aT gT), (wX4 cI (bM 2) aR gR), (wX1 cI (bM 3) aC gC), (wX2 (bM 4) gH), (wX3 cO (bM 5) aY gY (zrm zZ)), (wX5 cI cC (bM 6) aX gX), (wX7 cI qN aN gN), (wZ cI (zZ 0)), (wZ cI (zZ 1)), (wZ cI (zZ 2)), (wZ cI (zZ 3))].flatten) (hS : va_S (fun q : Nat => s.heap.size ≤ q) s.heap H locs) (hl : lv_has ls 4 [(0, .ref b), (1, .ref qM), (2, .ref qN), (3, .int x3)]) : W p l e room_1 s m #[.ref b] below meth c H locs k n Q (F0 m 612 ls []) := by
  obtain ⟨hx, hb, hml, hown, hts, hX, hbl, hK, hN⟩ := X
  have hA : ∀ q : Nat, s.heap.size ≤ q → (fun q : Nat => s.heap.size ≤ q) q := fun _ h => h
  have hbA : ¬ (fun q : Nat => s.heap.size ≤ q) b := Nat.not_le.mpr hbl
  obtain ⟨R, R', hfa, hfb, hEq, hR'⟩ := pm_alone hR gM gR (xs (x3 + (1 : Int32)).toNatClampNeg) (xs (x3 + (2 : Int32)).toNatClampNeg)
  refine lv_aload_n hx hb dL_law_612 rfl (lv_at hl 1 rfl) ?_
  refine lv_aload_n hx hb dL_law_613 rfl (lv_at hl 0 rfl) ?_
  refine lv_iload_n hx hb dL_law_614 rfl (lv_at hl 3 rfl) ?_
  refine lv_iconst (v := (1 : Int32)) hx hb dL_law_615 (by decide) ?_
  refine lv_iadd hx hb dL_law_616 ?_
  refine va_sld hx hb hX hbl hbA hS h1 dL_law_617 ?_
  refine lv_aload_n hx hb dL_law_618 rfl (lv_at hl 0 rfl) ?_
  refine lv_iload_n hx hb dL_law_619 rfl (lv_at hl 3 rfl) ?_
  refine lv_iconst (v := (2 : Int32)) hx hb dL_law_620 (by decide) ?_
  refine lv_iadd hx hb dL_law_621 ?_
  refine va_sld hx hb hX hbl hbA hS h2 dL_law_622 ?_
  refine z_callM (gs2 := [(wX6 qM bM gM), (wX0 cI (bM 0) aB gB), (wX0 cI (bM 1) aT gT), (wX4 cI (bM 2) aR R.2), (wX1 cI (bM 3) aC gC), (wX2 (bM 4) gH), (wX3 cO (bM 5) aY gY (zrm zZ)), (wX5 cI cC (bM 6) aX gX), (wX7 cI qN aN gN), (wZ cI (zZ 0)), (wZ cI (zZ 1)), (wZ cI (zZ 2)), (wZ cI (zZ 3))]) hP hD hS hA [0, 1, 3] [2, 4, 5, 6, 7, 8, 9, 10, 11, 12] rfl rfl rfl (show List.Perm [0, 1, 3, 2, 4, 5, 6, 7, 8, 9, 10, 11, 12] (List.range 13) from by decide +kernel) rfl (va_runV (As := [.int (xs (x3 + (1 : Int32)).toNatClampNeg), .int (xs (x3 + (2 : Int32)).toNatClampNeg)]) (rest := []) ⟨hx, hb, hml, hown, hts⟩ (c_X6_alone l dC dI cI cC cO qM bM gM aB gB aR gR (xs (x3 + (1 : Int32)).toNatClampNeg) (xs (x3 + (2 : Int32)).toNatClampNeg) R hfa H.size) (cwV 2 hts gL_law_X6_alone rfl rfl rfl (by decide +kernel) ⟨Nat.le_of_ble_eq_true rfl, Nat.le_of_ble_eq_true rfl⟩) ⟨zpM_blind, va_recv hK hP (ci := 6) (q0 := 0) rfl rfl, z_useM hK hN hP hD [0, 1, 3] [2, 4, 5, 6, 7, 8, 9, 10, 11, 12] rfl (show List.Perm [0, 1, 3, 2, 4, 5, 6, 7, 8, 9, 10, 11, 12] (List.range 13) from by decide +kernel)⟩ rfl rfl hl.1 rfl (lv_room (Nat.le_of_ble_eq_true rfl)) dL_law_623 ⟨by show k + 0 ≤ 600000; omega, by show n + 0 ≤ 7302250; omega⟩) (fun H locs hP hD hS => ?_)
  have hP : va_P (dC, dI) vwCl [(wX6 qM bM gM), (wX0 cI (bM 0) aB gB), (wX0 cI (bM 1) aT gT), (wX4 cI (bM 2) aR R.2), (wX1 cI (bM 3) aC gC), (wX2 (bM 4) gH), (wX3 cO (bM 5) aY gY (zrm zZ)), (wX5 cI cC (bM 6) aX gX), (wX7 cI qN aN gN), (wZ cI (zZ 0)), (wZ cI (zZ 1)), (wZ cI (zZ 2)), (wZ cI (zZ 3))].flatten H := hP
  have hD : va_D (fun q : Nat => s.heap.size ≤ q) [(wX6 qM bM gM), (wX0 cI (bM 0) aB gB), (wX0 cI (bM 1) aT gT), (wX4 cI (bM 2) aR R.2), (wX1 cI (bM 3) aC gC), (wX2 (bM 4) gH), (wX3 cO (bM 5) aY gY (zrm zZ)), (wX5 cI cC (bM 6) aX gX), (wX7 cI qN aN gN), (wZ cI (zZ 0)), (wZ cI (zZ 1)), (wZ cI (zZ 2)), (wZ cI (zZ 3))].flatten := hD
  refine W.eq (g2 := F0 m 626 ls [.int R.1]) rfl ?_
  refine lv_aload_n hx hb dL_law_626 rfl (lv_at hl 2 rfl) ?_
  refine lv_aload_n hx hb dL_law_627 rfl (lv_at hl 0 rfl) ?_
  refine lv_iload_n hx hb dL_law_628 rfl (lv_at hl 3 rfl) ?_
  refine lv_iconst (v := (1 : Int32)) hx hb dL_law_629 (by decide) ?_
  refine lv_iadd hx hb dL_law_630 ?_
  refine va_sld hx hb hX hbl hbA hS h1 dL_law_631 ?_
  refine lv_aload_n hx hb dL_law_632 rfl (lv_at hl 0 rfl) ?_
  refine lv_iload_n hx hb dL_law_633 rfl (lv_at hl 3 rfl) ?_
  refine lv_iconst (v := (2 : Int32)) hx hb dL_law_634 (by decide) ?_
  refine lv_iadd hx hb dL_law_635 ?_
  refine va_sld hx hb hX hbl hbA hS h2 dL_law_636 ?_
  refine z_callM (gs2 := [(wX6 qM bM gM), (wX0 cI (bM 0) aB gB), (wX0 cI (bM 1) aT gT), (wX4 cI (bM 2) aR R.2), (wX1 cI (bM 3) aC gC), (wX2 (bM 4) gH), (wX3 cO (bM 5) aY gY (zrm zZ)), (wX5 cI cC (bM 6) aX gX), (wX7 cI qN aN R'.2), (wZ cI (zZ 0)), (wZ cI (zZ 1)), (wZ cI (zZ 2)), (wZ cI (zZ 3))]) hP hD hS hA [8] [0, 1, 2, 3, 4, 5, 6, 7, 9, 10, 11, 12] rfl rfl rfl (show List.Perm [8, 0, 1, 2, 3, 4, 5, 6, 7, 9, 10, 11, 12] (List.range 13) from by decide +kernel) rfl (va_runV (As := [.int (xs (x3 + (1 : Int32)).toNatClampNeg), .int (xs (x3 + (2 : Int32)).toNatClampNeg)]) (rest := [.int R.1]) ⟨hx, hb, hml, hown, hts⟩ (c_X7_alone l dC dI cI cC cO qN aN gN (xs (x3 + (1 : Int32)).toNatClampNeg) (xs (x3 + (2 : Int32)).toNatClampNeg) R' hfb H.size) (cwV 2 hts gL_law_X7_alone rfl rfl rfl (by decide +kernel) ⟨Nat.le_of_ble_eq_true rfl, Nat.le_of_ble_eq_true rfl⟩) ⟨zpM_blind, va_recv hK hP (ci := 7) (q0 := 32) rfl rfl, z_useM hK hN hP hD [8] [0, 1, 2, 3, 4, 5, 6, 7, 9, 10, 11, 12] rfl (show List.Perm [8, 0, 1, 2, 3, 4, 5, 6, 7, 9, 10, 11, 12] (List.range 13) from by decide +kernel)⟩ rfl rfl hl.1 rfl (lv_room (Nat.le_of_ble_eq_true rfl)) dL_law_637 ⟨by show (k + 0) + 0 ≤ 600000; omega, by show (n + 0) + 0 ≤ 7302250; omega⟩) (fun H locs hP hD hS => ?_)
  have hP : va_P (dC, dI) vwCl [(wX6 qM bM gM), (wX0 cI (bM 0) aB gB), (wX0 cI (bM 1) aT gT), (wX4 cI (bM 2) aR R.2), (wX1 cI (bM 3) aC gC), (wX2 (bM 4) gH), (wX3 cO (bM 5) aY gY (zrm zZ)), (wX5 cI cC (bM 6) aX gX), (wX7 cI qN aN R'.2), (wZ cI (zZ 0)), (wZ cI (zZ 1)), (wZ cI (zZ 2)), (wZ cI (zZ 3))].flatten H := hP
  have hD : va_D (fun q : Nat => s.heap.size ≤ q) [(wX6 qM bM gM), (wX0 cI (bM 0) aB gB), (wX0 cI (bM 1) aT gT), (wX4 cI (bM 2) aR R.2), (wX1 cI (bM 3) aC gC), (wX2 (bM 4) gH), (wX3 cO (bM 5) aY gY (zrm zZ)), (wX5 cI cC (bM 6) aX gX), (wX7 cI qN aN R'.2), (wZ cI (zZ 0)), (wZ cI (zZ 1)), (wZ cI (zZ 2)), (wZ cI (zZ 3))].flatten := hD
  refine W.eq (g2 := F0 m 640 ls [.int R'.1, .int R.1]) rfl ?_
  refine lv_icmp_eq (tgt := 789) hx hb dL_law_640 (by decide) (fun _ => ?_) (fun c_ => absurd hEq c_)
  refine W.widen (k := k + 8) (n := n + 66) (by omega) (by omega) ?_
  exact K gM gB gT R.2 gC gH gY gX R'.2 zZ hR' H locs ls hP hD hS hl

set_option maxHeartbeats 4000000 in
set_option maxRecDepth 100000 in
theorem lc_tuned {p : Program} {l : Launch} {e : Env} {s : State} {m : MethodId} {below : List Frame} {meth : Method} {c : Code} {b L : Nat} {xs : Nat → Int32} {dC : Nat → ClassId} {dI : Nat → Nat → Nat} {cI cC cO : ClassId} (X : lwC p s m c b L xs dC dI cI cC cO) {qM qN : Nat} {bM aB aT aR aC aY aX aN : Nat → Nat} {Q : State → Prop} {x3 : Int32} (h1 : vp_in (x3 + (1 : Int32)) L) (h2 : vp_in (x3 + (2 : Int32)) L) (h3 : vp_in (x3 + (3 : Int32)) L) (h4 : vp_in (x3 + (4 : Int32)) L) {gM gB gT gR gC gH gY gX gN : zG} {zZ : Nat → zS} (hR : zRel gB gX gY (zcn zZ) gN) {k n : Nat} (hk : k + 8 ≤ 600000) (hn : n + 66 ≤ 7302250) (K : lwK p l e s m below meth c b qM qN bM aB aT aR aC aY aX aN dC dI cI cC cO Q x3 (k + 8) (n + 66)) (H : Heap) (locs : List Loc) (ls : Array Slot) (hP : va_P (dC, dI) vwCl [(wX6 qM bM gM), (wX0 cI (bM 0) aB gB), (wX0 cI (bM 1) aT gT), (wX4 cI (bM 2) aR gR), (wX1 cI (bM 3) aC gC), (wX2 (bM 4) gH), (wX3 cO (bM 5) aY gY (zrm zZ)), (wX5 cI cC (bM 6) aX gX), (wX7 cI qN aN gN), (wZ cI (zZ 0)), (wZ cI (zZ 1)), (wZ cI (zZ 2)), (wZ cI (zZ 3))].flatten H) (hD : va_D (fun q : Nat => s.heap.size ≤ q) [(wX6 qM bM gM), (wX0 cI (bM 0) aB gB), (wX0 cI (bM 1) aT gT), (wX4 cI (bM 2) aR gR), (wX1 cI (bM 3) aC gC), (wX2 (bM 4) gH), (wX3 cO (bM 5) aY gY (zrm zZ)), (wX5 cI cC (bM 6) aX gX), (wX7 cI qN aN gN), (wZ cI (zZ 0)), (wZ cI (zZ 1)), (wZ cI (zZ 2)), (wZ cI (zZ 3))].flatten) (hS : va_S (fun q : Nat => s.heap.size ≤ q) s.heap H locs) (hl : lv_has ls 4 [(0, .ref b), (1, .ref qM), (2, .ref qN), (3, .int x3)]) : W p l e room_1 s m #[.ref b] below meth c H locs k n Q (F0 m 645 ls []) := by
  obtain ⟨hx, hb, hml, hown, hts, hX, hbl, hK, hN⟩ := X
  have hA : ∀ q : Nat, s.heap.size ≤ q → (fun q : Nat => s.heap.size ≤ q) q := fun _ h => h
  have hbA : ¬ (fun q : Nat => s.heap.size ≤ q) b := Nat.not_le.mpr hbl
  obtain ⟨R, R', hfa, hfb, hEq, hR'⟩ := pm_tuned hR gM gT gR gH (xs (x3 + (1 : Int32)).toNatClampNeg)
  refine lv_aload_n hx hb dL_law_645 rfl (lv_at hl 1 rfl) ?_
  refine lv_aload_n hx hb dL_law_646 rfl (lv_at hl 0 rfl) ?_
  refine lv_iload_n hx hb dL_law_647 rfl (lv_at hl 3 rfl) ?_
  refine lv_iconst (v := (1 : Int32)) hx hb dL_law_648 (by decide) ?_
  refine lv_iadd hx hb dL_law_649 ?_
  refine va_sld hx hb hX hbl hbA hS h1 dL_law_650 ?_
  refine z_callM (gs2 := [(wX6 qM bM gM), (wX0 cI (bM 0) aB gB), (wX0 cI (bM 1) aT R.2.1), (wX4 cI (bM 2) aR R.2.2.1), (wX1 cI (bM 3) aC gC), (wX2 (bM 4) R.2.2.2), (wX3 cO (bM 5) aY gY (zrm zZ)), (wX5 cI cC (bM 6) aX gX), (wX7 cI qN aN gN), (wZ cI (zZ 0)), (wZ cI (zZ 1)), (wZ cI (zZ 2)), (wZ cI (zZ 3))]) hP hD hS hA [0, 1, 2, 3, 5] [4, 6, 7, 8, 9, 10, 11, 12] rfl rfl rfl (show List.Perm [0, 1, 2, 3, 5, 4, 6, 7, 8, 9, 10, 11, 12] (List.range 13) from by decide +kernel) rfl (va_runV (As := [.int (xs (x3 + (1 : Int32)).toNatClampNeg)]) (rest := []) ⟨hx, hb, hml, hown, hts⟩ (c_X6_tuned l dC dI cI cC cO qM bM gM aB gB aT gT aR gR gH (xs (x3 + (1 : Int32)).toNatClampNeg) R hfa H.size) (cwV 1 hts gL_law_X6_tuned rfl rfl rfl (by decide +kernel) ⟨Nat.le_of_ble_eq_true rfl, Nat.le_of_ble_eq_true rfl⟩) ⟨zpM_blind, va_recv hK hP (ci := 6) (q0 := 0) rfl rfl, z_useM hK hN hP hD [0, 1, 2, 3, 5] [4, 6, 7, 8, 9, 10, 11, 12] rfl (show List.Perm [0, 1, 2, 3, 5, 4, 6, 7, 8, 9, 10, 11, 12] (List.range 13) from by decide +kernel)⟩ rfl rfl hl.1 rfl (lv_room (Nat.le_of_ble_eq_true rfl)) dL_law_651 ⟨by show k + 0 ≤ 600000; omega, by show n + 0 ≤ 7302250; omega⟩) (fun H locs hP hD hS => ?_)
  have hP : va_P (dC, dI) vwCl [(wX6 qM bM gM), (wX0 cI (bM 0) aB gB), (wX0 cI (bM 1) aT R.2.1), (wX4 cI (bM 2) aR R.2.2.1), (wX1 cI (bM 3) aC gC), (wX2 (bM 4) R.2.2.2), (wX3 cO (bM 5) aY gY (zrm zZ)), (wX5 cI cC (bM 6) aX gX), (wX7 cI qN aN gN), (wZ cI (zZ 0)), (wZ cI (zZ 1)), (wZ cI (zZ 2)), (wZ cI (zZ 3))].flatten H := hP
  have hD : va_D (fun q : Nat => s.heap.size ≤ q) [(wX6 qM bM gM), (wX0 cI (bM 0) aB gB), (wX0 cI (bM 1) aT R.2.1), (wX4 cI (bM 2) aR R.2.2.1), (wX1 cI (bM 3) aC gC), (wX2 (bM 4) R.2.2.2), (wX3 cO (bM 5) aY gY (zrm zZ)), (wX5 cI cC (bM 6) aX gX), (wX7 cI qN aN gN), (wZ cI (zZ 0)), (wZ cI (zZ 1)), (wZ cI (zZ 2)), (wZ cI (zZ 3))].flatten := hD
  refine W.eq (g2 := F0 m 654 ls [.int R.1]) rfl ?_
  refine lv_aload_n hx hb dL_law_654 rfl (lv_at hl 2 rfl) ?_
  refine lv_aload_n hx hb dL_law_655 rfl (lv_at hl 0 rfl) ?_
  refine lv_iload_n hx hb dL_law_656 rfl (lv_at hl 3 rfl) ?_
  refine lv_iconst (v := (1 : Int32)) hx hb dL_law_657 (by decide) ?_
  refine lv_iadd hx hb dL_law_658 ?_
  refine va_sld hx hb hX hbl hbA hS h1 dL_law_659 ?_
  refine z_callM (gs2 := [(wX6 qM bM gM), (wX0 cI (bM 0) aB gB), (wX0 cI (bM 1) aT R.2.1), (wX4 cI (bM 2) aR R.2.2.1), (wX1 cI (bM 3) aC gC), (wX2 (bM 4) R.2.2.2), (wX3 cO (bM 5) aY gY (zrm zZ)), (wX5 cI cC (bM 6) aX gX), (wX7 cI qN aN R'.2), (wZ cI (zZ 0)), (wZ cI (zZ 1)), (wZ cI (zZ 2)), (wZ cI (zZ 3))]) hP hD hS hA [8] [0, 1, 2, 3, 4, 5, 6, 7, 9, 10, 11, 12] rfl rfl rfl (show List.Perm [8, 0, 1, 2, 3, 4, 5, 6, 7, 9, 10, 11, 12] (List.range 13) from by decide +kernel) rfl (va_runV (As := [.int (xs (x3 + (1 : Int32)).toNatClampNeg)]) (rest := [.int R.1]) ⟨hx, hb, hml, hown, hts⟩ (c_X7_tuned l dC dI cI cC cO qN aN gN (xs (x3 + (1 : Int32)).toNatClampNeg) R' hfb H.size) (cwV 1 hts gL_law_X7_tuned rfl rfl rfl (by decide +kernel) ⟨Nat.le_of_ble_eq_true rfl, Nat.le_of_ble_eq_true rfl⟩) ⟨zpM_blind, va_recv hK hP (ci := 7) (q0 := 32) rfl rfl, z_useM hK hN hP hD [8] [0, 1, 2, 3, 4, 5, 6, 7, 9, 10, 11, 12] rfl (show List.Perm [8, 0, 1, 2, 3, 4, 5, 6, 7, 9, 10, 11, 12] (List.range 13) from by decide +kernel)⟩ rfl rfl hl.1 rfl (lv_room (Nat.le_of_ble_eq_true rfl)) dL_law_660 ⟨by show (k + 0) + 0 ≤ 600000; omega, by show (n + 0) + 0 ≤ 7302250; omega⟩) (fun H locs hP hD hS => ?_)
  have hP : va_P (dC, dI) vwCl [(wX6 qM bM gM), (wX0 cI (bM 0) aB gB), (wX0 cI (bM 1) aT R.2.1), (wX4 cI (bM 2) aR R.2.2.1), (wX1 cI (bM 3) aC gC), (wX2 (bM 4) R.2.2.2), (wX3 cO (bM 5) aY gY (zrm zZ)), (wX5 cI cC (bM 6) aX gX), (wX7 cI qN aN R'.2), (wZ cI (zZ 0)), (wZ cI (zZ 1)), (wZ cI (zZ 2)), (wZ cI (zZ 3))].flatten H := hP
  have hD : va_D (fun q : Nat => s.heap.size ≤ q) [(wX6 qM bM gM), (wX0 cI (bM 0) aB gB), (wX0 cI (bM 1) aT R.2.1), (wX4 cI (bM 2) aR R.2.2.1), (wX1 cI (bM 3) aC gC), (wX2 (bM 4) R.2.2.2), (wX3 cO (bM 5) aY gY (zrm zZ)), (wX5 cI cC (bM 6) aX gX), (wX7 cI qN aN R'.2), (wZ cI (zZ 0)), (wZ cI (zZ 1)), (wZ cI (zZ 2)), (wZ cI (zZ 3))].flatten := hD
  refine W.eq (g2 := F0 m 663 ls [.int R'.1, .int R.1]) rfl ?_
  refine lv_icmp_eq (tgt := 789) hx hb dL_law_663 (by decide) (fun _ => ?_) (fun c_ => absurd hEq c_)
  refine W.widen (k := k + 8) (n := n + 66) (by omega) (by omega) ?_
  exact K gM gB R.2.1 R.2.2.1 gC R.2.2.2 gY gX R'.2 zZ hR' H locs ls hP hD hS hl

