set_option maxHeartbeats 4000000 in
set_option maxRecDepth 100000 in
theorem lc_line {p : Program} {l : Launch} {e : Env} {s : State} {m : MethodId} {below : List Frame} {meth : Method} {c : Code} {b L : Nat} {xs : Nat → Int32} {dC : Nat → ClassId} {dI : Nat → Nat → Nat} {cI cC cO : ClassId} (X : lwC p s m c b L xs dC dI cI cC cO) {qM qN : Nat} {bM aB aT aR aC aY aX aN : Nat → Nat} {Q : State → Prop} {x3 : Int32} (h1 : vp_in (x3 + (1 : Int32)) L) (h2 : vp_in (x3 + (2 : Int32)) L) (h3 : vp_in (x3 + (3 : Int32)) L) (h4 : vp_in (x3 + (4 : Int32)) L) {gM gB gT gR gC gH gY gX gN : zG} {zZ : Nat → zS} (hR : zRel gB gX gY (zcn zZ) gN) {k n : Nat} (hk : k + 8 ≤ 600000) (hn : n + 66 ≤ 7302250) (K : lwK p l e s m below meth c b qM qN bM aB aT aR aC aY aX aN dC dI cI cC cO Q x3 (k + 8) (n + 66)) (H : Heap) (locs : List Loc) (ls : Array Slot) (hP : va_P (dC, dI) vwCl [(wX6 qM bM gM), (wX0 cI (bM 0) aB gB), (wX0 cI (bM 1) aT gT), (wX4 cI (bM 2) aR gR), (wX1 cI (bM 3) aC gC), (wX2 (bM 4) gH), (wX3 cO (bM 5) aY gY (zrm zZ)), (wX5 cI cC (bM 6) aX gX), (wX7 cI qN aN gN), (wZ cI (zZ 0)), (wZ cI (zZ 1)), (wZ cI (zZ 2)), (wZ cI (zZ 3))].flatten H) (hD : va_D (fun q : Nat => s.heap.size ≤ q) [(wX6 qM bM gM), (wX0 cI (bM 0) aB gB), (wX0 cI (bM 1) aT gT), (wX4 cI (bM 2) aR gR), (wX1 cI (bM 3) aC gC), (wX2 (bM 4) gH), (wX3 cO (bM 5) aY gY (zrm zZ)), (wX5 cI cC (bM 6) aX gX), (wX7 cI qN aN gN), (wZ cI (zZ 0)), (wZ cI (zZ 1)), (wZ cI (zZ 2)), (wZ cI (zZ 3))].flatten) (hS : va_S (fun q : Nat => s.heap.size ≤ q) s.heap H locs) (hl : lv_has ls 4 [(0, .ref b), (1, .ref qM), (2, .ref qN), (3, .int x3)]) : W p l e room_1 s m #[.ref b] below meth c H locs k n Q (F0 m 140 ls []) := by
  obtain ⟨hx, hb, hml, hown, hts, hX, hbl, hK, hN⟩ := X
  have hA : ∀ q : Nat, s.heap.size ≤ q → (fun q : Nat => s.heap.size ≤ q) q := fun _ h => h
  have hbA : ¬ (fun q : Nat => s.heap.size ≤ q) b := Nat.not_le.mpr hbl
  obtain ⟨R, R', hfa, hfb, hEq, hR'⟩ := pm_line hR gM gT (xs (x3 + (1 : Int32)).toNatClampNeg) (xs (x3 + (2 : Int32)).toNatClampNeg)
  refine lv_aload_n hx hb dL_law_140 rfl (lv_at hl 1 rfl) ?_
  refine lv_aload_n hx hb dL_law_141 rfl (lv_at hl 0 rfl) ?_
  refine lv_iload_n hx hb dL_law_142 rfl (lv_at hl 3 rfl) ?_
  refine lv_iconst (v := (1 : Int32)) hx hb dL_law_143 (by decide) ?_
  refine lv_iadd hx hb dL_law_144 ?_
  refine va_sld hx hb hX hbl hbA hS h1 dL_law_145 ?_
  refine lv_aload_n hx hb dL_law_146 rfl (lv_at hl 0 rfl) ?_
  refine lv_iload_n hx hb dL_law_147 rfl (lv_at hl 3 rfl) ?_
  refine lv_iconst (v := (2 : Int32)) hx hb dL_law_148 (by decide) ?_
  refine lv_iadd hx hb dL_law_149 ?_
  refine va_sld hx hb hX hbl hbA hS h2 dL_law_150 ?_
  refine z_callE (gs2 := fun u : Nat → zS => [(wX6 qM bM gM), (wX0 cI (bM 0) aB R.2.1), (wX0 cI (bM 1) aT R.2.2.1), (wX4 cI (bM 2) aR gR), (wX1 cI (bM 3) aC gC), (wX2 (bM 4) gH), (wX3 cO (bM 5) aY R.2.2.2.1 (zrm u)), (wX5 cI cC (bM 6) aX gX), (wX7 cI qN aN gN), (wZ cI (u 0)), (wZ cI (u 1)), (wZ cI (u 2)), (wZ cI (u 3))]) hP hD hS hA [0, 1, 2, 6, 9, 10, 11, 12] [3, 4, 5, 7, 8] rfl (fun _ => rfl) (fun _ => rfl) (show List.Perm [0, 1, 2, 6, 9, 10, 11, 12, 3, 4, 5, 7, 8] (List.range 13) from by decide +kernel) (fun _ => rfl) (va_runV (As := [.int (xs (x3 + (1 : Int32)).toNatClampNeg), .int (xs (x3 + (2 : Int32)).toNatClampNeg)]) (rest := []) ⟨hx, hb, hml, hown, hts⟩ (c_X6_line l dC dI cI cC cO qM bM gM aB gB aT gT aY gY zZ (xs (x3 + (1 : Int32)).toNatClampNeg) (xs (x3 + (2 : Int32)).toNatClampNeg) R hfa H.size) (cwV 2 hts gL_law_X6_line rfl rfl rfl (by decide +kernel) ⟨Nat.le_of_ble_eq_true rfl, Nat.le_of_ble_eq_true rfl⟩) ⟨zpM_blind, va_recv hK hP (ci := 6) (q0 := 0) rfl rfl, z_useM hK hN hP hD [0, 1, 2, 6, 9, 10, 11, 12] [3, 4, 5, 7, 8] rfl (show List.Perm [0, 1, 2, 6, 9, 10, 11, 12, 3, 4, 5, 7, 8] (List.range 13) from by decide +kernel)⟩ rfl rfl hl.1 rfl (lv_room (Nat.le_of_ble_eq_true rfl)) dL_law_151 ⟨by show k + 8 ≤ 600000; omega, by show n + 66 ≤ 7302250; omega⟩) (fun u pu H locs hP hD hS => ?_)
  have hP : va_P (dC, dI) vwCl [(wX6 qM bM gM), (wX0 cI (bM 0) aB R.2.1), (wX0 cI (bM 1) aT R.2.2.1), (wX4 cI (bM 2) aR gR), (wX1 cI (bM 3) aC gC), (wX2 (bM 4) gH), (wX3 cO (bM 5) aY R.2.2.2.1 (zrm u)), (wX5 cI cC (bM 6) aX gX), (wX7 cI qN aN gN), (wZ cI (u 0)), (wZ cI (u 1)), (wZ cI (u 2)), (wZ cI (u 3))].flatten H := hP
  have hD : va_D (fun q : Nat => s.heap.size ≤ q) [(wX6 qM bM gM), (wX0 cI (bM 0) aB R.2.1), (wX0 cI (bM 1) aT R.2.2.1), (wX4 cI (bM 2) aR gR), (wX1 cI (bM 3) aC gC), (wX2 (bM 4) gH), (wX3 cO (bM 5) aY R.2.2.2.1 (zrm u)), (wX5 cI cC (bM 6) aX gX), (wX7 cI qN aN gN), (wZ cI (u 0)), (wZ cI (u 1)), (wZ cI (u 2)), (wZ cI (u 3))].flatten := hD
  refine W.eq (g2 := F0 m 154 ls [.int R.1]) rfl ?_
  refine lv_aload_n hx hb dL_law_154 rfl (lv_at hl 2 rfl) ?_
  refine lv_aload_n hx hb dL_law_155 rfl (lv_at hl 0 rfl) ?_
  refine lv_iload_n hx hb dL_law_156 rfl (lv_at hl 3 rfl) ?_
  refine lv_iconst (v := (1 : Int32)) hx hb dL_law_157 (by decide) ?_
  refine lv_iadd hx hb dL_law_158 ?_
  refine va_sld hx hb hX hbl hbA hS h1 dL_law_159 ?_
  refine lv_aload_n hx hb dL_law_160 rfl (lv_at hl 0 rfl) ?_
  refine lv_iload_n hx hb dL_law_161 rfl (lv_at hl 3 rfl) ?_
  refine lv_iconst (v := (2 : Int32)) hx hb dL_law_162 (by decide) ?_
  refine lv_iadd hx hb dL_law_163 ?_
  refine va_sld hx hb hX hbl hbA hS h2 dL_law_164 ?_
  refine z_callM (gs2 := [(wX6 qM bM gM), (wX0 cI (bM 0) aB R.2.1), (wX0 cI (bM 1) aT R.2.2.1), (wX4 cI (bM 2) aR gR), (wX1 cI (bM 3) aC gC), (wX2 (bM 4) gH), (wX3 cO (bM 5) aY R.2.2.2.1 (zrm u)), (wX5 cI cC (bM 6) aX gX), (wX7 cI qN aN R'.2), (wZ cI (u 0)), (wZ cI (u 1)), (wZ cI (u 2)), (wZ cI (u 3))]) hP hD hS hA [8] [0, 1, 2, 3, 4, 5, 6, 7, 9, 10, 11, 12] rfl rfl rfl (show List.Perm [8, 0, 1, 2, 3, 4, 5, 6, 7, 9, 10, 11, 12] (List.range 13) from by decide +kernel) rfl (va_runV (As := [.int (xs (x3 + (1 : Int32)).toNatClampNeg), .int (xs (x3 + (2 : Int32)).toNatClampNeg)]) (rest := [.int R.1]) ⟨hx, hb, hml, hown, hts⟩ (c_X7_line l dC dI cI cC cO qN aN gN (xs (x3 + (1 : Int32)).toNatClampNeg) (xs (x3 + (2 : Int32)).toNatClampNeg) R' hfb H.size) (cwV 2 hts gL_law_X7_line rfl rfl rfl (by decide +kernel) ⟨Nat.le_of_ble_eq_true rfl, Nat.le_of_ble_eq_true rfl⟩) ⟨zpM_blind, va_recv hK hP (ci := 7) (q0 := 32) rfl rfl, z_useM hK hN hP hD [8] [0, 1, 2, 3, 4, 5, 6, 7, 9, 10, 11, 12] rfl (show List.Perm [8, 0, 1, 2, 3, 4, 5, 6, 7, 9, 10, 11, 12] (List.range 13) from by decide +kernel)⟩ rfl rfl hl.1 rfl (lv_room (Nat.le_of_ble_eq_true rfl)) dL_law_165 ⟨by show (k + 8) + 0 ≤ 600000; omega, by show (n + 66) + 0 ≤ 7302250; omega⟩) (fun H locs hP hD hS => ?_)
  have hP : va_P (dC, dI) vwCl [(wX6 qM bM gM), (wX0 cI (bM 0) aB R.2.1), (wX0 cI (bM 1) aT R.2.2.1), (wX4 cI (bM 2) aR gR), (wX1 cI (bM 3) aC gC), (wX2 (bM 4) gH), (wX3 cO (bM 5) aY R.2.2.2.1 (zrm u)), (wX5 cI cC (bM 6) aX gX), (wX7 cI qN aN R'.2), (wZ cI (u 0)), (wZ cI (u 1)), (wZ cI (u 2)), (wZ cI (u 3))].flatten H := hP
  have hD : va_D (fun q : Nat => s.heap.size ≤ q) [(wX6 qM bM gM), (wX0 cI (bM 0) aB R.2.1), (wX0 cI (bM 1) aT R.2.2.1), (wX4 cI (bM 2) aR gR), (wX1 cI (bM 3) aC gC), (wX2 (bM 4) gH), (wX3 cO (bM 5) aY R.2.2.2.1 (zrm u)), (wX5 cI cC (bM 6) aX gX), (wX7 cI qN aN R'.2), (wZ cI (u 0)), (wZ cI (u 1)), (wZ cI (u 2)), (wZ cI (u 3))].flatten := hD
  refine W.eq (g2 := F0 m 168 ls [.int R'.1, .int R.1]) rfl ?_
  refine lv_icmp_eq (tgt := 789) hx hb dL_law_168 (by decide) (fun _ => ?_) (fun c_ => absurd hEq c_)
  refine W.widen (k := k + 8) (n := n + 66) (by omega) (by omega) ?_
  exact K gM R.2.1 R.2.2.1 gR gC gH R.2.2.2.1 gX R'.2 u (by rw [pu]; exact hR') H locs ls hP hD hS hl

set_option maxHeartbeats 4000000 in
set_option maxRecDepth 100000 in
theorem lc_dim {p : Program} {l : Launch} {e : Env} {s : State} {m : MethodId} {below : List Frame} {meth : Method} {c : Code} {b L : Nat} {xs : Nat → Int32} {dC : Nat → ClassId} {dI : Nat → Nat → Nat} {cI cC cO : ClassId} (X : lwC p s m c b L xs dC dI cI cC cO) {qM qN : Nat} {bM aB aT aR aC aY aX aN : Nat → Nat} {Q : State → Prop} {x3 : Int32} (h1 : vp_in (x3 + (1 : Int32)) L) (h2 : vp_in (x3 + (2 : Int32)) L) (h3 : vp_in (x3 + (3 : Int32)) L) (h4 : vp_in (x3 + (4 : Int32)) L) {gM gB gT gR gC gH gY gX gN : zG} {zZ : Nat → zS} (hR : zRel gB gX gY (zcn zZ) gN) {k n : Nat} (hk : k + 8 ≤ 600000) (hn : n + 66 ≤ 7302250) (K : lwK p l e s m below meth c b qM qN bM aB aT aR aC aY aX aN dC dI cI cC cO Q x3 (k + 8) (n + 66)) (H : Heap) (locs : List Loc) (ls : Array Slot) (hP : va_P (dC, dI) vwCl [(wX6 qM bM gM), (wX0 cI (bM 0) aB gB), (wX0 cI (bM 1) aT gT), (wX4 cI (bM 2) aR gR), (wX1 cI (bM 3) aC gC), (wX2 (bM 4) gH), (wX3 cO (bM 5) aY gY (zrm zZ)), (wX5 cI cC (bM 6) aX gX), (wX7 cI qN aN gN), (wZ cI (zZ 0)), (wZ cI (zZ 1)), (wZ cI (zZ 2)), (wZ cI (zZ 3))].flatten H) (hD : va_D (fun q : Nat => s.heap.size ≤ q) [(wX6 qM bM gM), (wX0 cI (bM 0) aB gB), (wX0 cI (bM 1) aT gT), (wX4 cI (bM 2) aR gR), (wX1 cI (bM 3) aC gC), (wX2 (bM 4) gH), (wX3 cO (bM 5) aY gY (zrm zZ)), (wX5 cI cC (bM 6) aX gX), (wX7 cI qN aN gN), (wZ cI (zZ 0)), (wZ cI (zZ 1)), (wZ cI (zZ 2)), (wZ cI (zZ 3))].flatten) (hS : va_S (fun q : Nat => s.heap.size ≤ q) s.heap H locs) (hl : lv_has ls 4 [(0, .ref b), (1, .ref qM), (2, .ref qN), (3, .int x3)]) : W p l e room_1 s m #[.ref b] below meth c H locs k n Q (F0 m 173 ls []) := by
  obtain ⟨hx, hb, hml, hown, hts, hX, hbl, hK, hN⟩ := X
  have hA : ∀ q : Nat, s.heap.size ≤ q → (fun q : Nat => s.heap.size ≤ q) q := fun _ h => h
  have hbA : ¬ (fun q : Nat => s.heap.size ≤ q) b := Nat.not_le.mpr hbl
  obtain ⟨R, R', hfa, hfb, hEq, hR'⟩ := pm_dim hR gM gT (xs (x3 + (1 : Int32)).toNatClampNeg) (xs (x3 + (2 : Int32)).toNatClampNeg)
  refine lv_aload_n hx hb dL_law_173 rfl (lv_at hl 1 rfl) ?_
  refine lv_aload_n hx hb dL_law_174 rfl (lv_at hl 0 rfl) ?_
  refine lv_iload_n hx hb dL_law_175 rfl (lv_at hl 3 rfl) ?_
  refine lv_iconst (v := (1 : Int32)) hx hb dL_law_176 (by decide) ?_
  refine lv_iadd hx hb dL_law_177 ?_
  refine va_sld hx hb hX hbl hbA hS h1 dL_law_178 ?_
  refine lv_aload_n hx hb dL_law_179 rfl (lv_at hl 0 rfl) ?_
  refine lv_iload_n hx hb dL_law_180 rfl (lv_at hl 3 rfl) ?_
  refine lv_iconst (v := (2 : Int32)) hx hb dL_law_181 (by decide) ?_
  refine lv_iadd hx hb dL_law_182 ?_
  refine va_sld hx hb hX hbl hbA hS h2 dL_law_183 ?_
  refine z_callE (gs2 := fun u : Nat → zS => [(wX6 qM bM gM), (wX0 cI (bM 0) aB R.2.1), (wX0 cI (bM 1) aT R.2.2.1), (wX4 cI (bM 2) aR gR), (wX1 cI (bM 3) aC gC), (wX2 (bM 4) gH), (wX3 cO (bM 5) aY R.2.2.2.1 (zrm u)), (wX5 cI cC (bM 6) aX gX), (wX7 cI qN aN gN), (wZ cI (u 0)), (wZ cI (u 1)), (wZ cI (u 2)), (wZ cI (u 3))]) hP hD hS hA [0, 1, 2, 6, 9, 10, 11, 12] [3, 4, 5, 7, 8] rfl (fun _ => rfl) (fun _ => rfl) (show List.Perm [0, 1, 2, 6, 9, 10, 11, 12, 3, 4, 5, 7, 8] (List.range 13) from by decide +kernel) (fun _ => rfl) (va_runV (As := [.int (xs (x3 + (1 : Int32)).toNatClampNeg), .int (xs (x3 + (2 : Int32)).toNatClampNeg)]) (rest := []) ⟨hx, hb, hml, hown, hts⟩ (c_X6_dim l dC dI cI cC cO qM bM gM aB gB aT gT aY gY zZ (xs (x3 + (1 : Int32)).toNatClampNeg) (xs (x3 + (2 : Int32)).toNatClampNeg) R hfa H.size) (cwV 2 hts gL_law_X6_dim rfl rfl rfl (by decide +kernel) ⟨Nat.le_of_ble_eq_true rfl, Nat.le_of_ble_eq_true rfl⟩) ⟨zpM_blind, va_recv hK hP (ci := 6) (q0 := 0) rfl rfl, z_useM hK hN hP hD [0, 1, 2, 6, 9, 10, 11, 12] [3, 4, 5, 7, 8] rfl (show List.Perm [0, 1, 2, 6, 9, 10, 11, 12, 3, 4, 5, 7, 8] (List.range 13) from by decide +kernel)⟩ rfl rfl hl.1 rfl (lv_room (Nat.le_of_ble_eq_true rfl)) dL_law_184 ⟨by show k + 8 ≤ 600000; omega, by show n + 66 ≤ 7302250; omega⟩) (fun u pu H locs hP hD hS => ?_)
  have hP : va_P (dC, dI) vwCl [(wX6 qM bM gM), (wX0 cI (bM 0) aB R.2.1), (wX0 cI (bM 1) aT R.2.2.1), (wX4 cI (bM 2) aR gR), (wX1 cI (bM 3) aC gC), (wX2 (bM 4) gH), (wX3 cO (bM 5) aY R.2.2.2.1 (zrm u)), (wX5 cI cC (bM 6) aX gX), (wX7 cI qN aN gN), (wZ cI (u 0)), (wZ cI (u 1)), (wZ cI (u 2)), (wZ cI (u 3))].flatten H := hP
  have hD : va_D (fun q : Nat => s.heap.size ≤ q) [(wX6 qM bM gM), (wX0 cI (bM 0) aB R.2.1), (wX0 cI (bM 1) aT R.2.2.1), (wX4 cI (bM 2) aR gR), (wX1 cI (bM 3) aC gC), (wX2 (bM 4) gH), (wX3 cO (bM 5) aY R.2.2.2.1 (zrm u)), (wX5 cI cC (bM 6) aX gX), (wX7 cI qN aN gN), (wZ cI (u 0)), (wZ cI (u 1)), (wZ cI (u 2)), (wZ cI (u 3))].flatten := hD
  refine W.eq (g2 := F0 m 187 ls [.int R.1]) rfl ?_
  refine lv_aload_n hx hb dL_law_187 rfl (lv_at hl 2 rfl) ?_
  refine lv_aload_n hx hb dL_law_188 rfl (lv_at hl 0 rfl) ?_
  refine lv_iload_n hx hb dL_law_189 rfl (lv_at hl 3 rfl) ?_
  refine lv_iconst (v := (1 : Int32)) hx hb dL_law_190 (by decide) ?_
  refine lv_iadd hx hb dL_law_191 ?_
  refine va_sld hx hb hX hbl hbA hS h1 dL_law_192 ?_
  refine lv_aload_n hx hb dL_law_193 rfl (lv_at hl 0 rfl) ?_
  refine lv_iload_n hx hb dL_law_194 rfl (lv_at hl 3 rfl) ?_
  refine lv_iconst (v := (2 : Int32)) hx hb dL_law_195 (by decide) ?_
  refine lv_iadd hx hb dL_law_196 ?_
  refine va_sld hx hb hX hbl hbA hS h2 dL_law_197 ?_
  refine z_callM (gs2 := [(wX6 qM bM gM), (wX0 cI (bM 0) aB R.2.1), (wX0 cI (bM 1) aT R.2.2.1), (wX4 cI (bM 2) aR gR), (wX1 cI (bM 3) aC gC), (wX2 (bM 4) gH), (wX3 cO (bM 5) aY R.2.2.2.1 (zrm u)), (wX5 cI cC (bM 6) aX gX), (wX7 cI qN aN R'.2), (wZ cI (u 0)), (wZ cI (u 1)), (wZ cI (u 2)), (wZ cI (u 3))]) hP hD hS hA [8] [0, 1, 2, 3, 4, 5, 6, 7, 9, 10, 11, 12] rfl rfl rfl (show List.Perm [8, 0, 1, 2, 3, 4, 5, 6, 7, 9, 10, 11, 12] (List.range 13) from by decide +kernel) rfl (va_runV (As := [.int (xs (x3 + (1 : Int32)).toNatClampNeg), .int (xs (x3 + (2 : Int32)).toNatClampNeg)]) (rest := [.int R.1]) ⟨hx, hb, hml, hown, hts⟩ (c_X7_dim l dC dI cI cC cO qN aN gN (xs (x3 + (1 : Int32)).toNatClampNeg) (xs (x3 + (2 : Int32)).toNatClampNeg) R' hfb H.size) (cwV 2 hts gL_law_X7_dim rfl rfl rfl (by decide +kernel) ⟨Nat.le_of_ble_eq_true rfl, Nat.le_of_ble_eq_true rfl⟩) ⟨zpM_blind, va_recv hK hP (ci := 7) (q0 := 32) rfl rfl, z_useM hK hN hP hD [8] [0, 1, 2, 3, 4, 5, 6, 7, 9, 10, 11, 12] rfl (show List.Perm [8, 0, 1, 2, 3, 4, 5, 6, 7, 9, 10, 11, 12] (List.range 13) from by decide +kernel)⟩ rfl rfl hl.1 rfl (lv_room (Nat.le_of_ble_eq_true rfl)) dL_law_198 ⟨by show (k + 8) + 0 ≤ 600000; omega, by show (n + 66) + 0 ≤ 7302250; omega⟩) (fun H locs hP hD hS => ?_)
  have hP : va_P (dC, dI) vwCl [(wX6 qM bM gM), (wX0 cI (bM 0) aB R.2.1), (wX0 cI (bM 1) aT R.2.2.1), (wX4 cI (bM 2) aR gR), (wX1 cI (bM 3) aC gC), (wX2 (bM 4) gH), (wX3 cO (bM 5) aY R.2.2.2.1 (zrm u)), (wX5 cI cC (bM 6) aX gX), (wX7 cI qN aN R'.2), (wZ cI (u 0)), (wZ cI (u 1)), (wZ cI (u 2)), (wZ cI (u 3))].flatten H := hP
  have hD : va_D (fun q : Nat => s.heap.size ≤ q) [(wX6 qM bM gM), (wX0 cI (bM 0) aB R.2.1), (wX0 cI (bM 1) aT R.2.2.1), (wX4 cI (bM 2) aR gR), (wX1 cI (bM 3) aC gC), (wX2 (bM 4) gH), (wX3 cO (bM 5) aY R.2.2.2.1 (zrm u)), (wX5 cI cC (bM 6) aX gX), (wX7 cI qN aN R'.2), (wZ cI (u 0)), (wZ cI (u 1)), (wZ cI (u 2)), (wZ cI (u 3))].flatten := hD
  refine W.eq (g2 := F0 m 201 ls [.int R'.1, .int R.1]) rfl ?_
  refine lv_icmp_eq (tgt := 789) hx hb dL_law_201 (by decide) (fun _ => ?_) (fun c_ => absurd hEq c_)
  refine W.widen (k := k + 8) (n := n + 66) (by omega) (by omega) ?_
  exact K gM R.2.1 R.2.2.1 gR gC gH R.2.2.2.1 gX R'.2 u (by rw [pu]; exact hR') H locs ls hP hD hS hl

set_option maxHeartbeats 4000000 in
set_option maxRecDepth 100000 in
theorem lc_prism {p : Program} {l : Launch} {e : Env} {s : State} {m : MethodId} {below : List Frame} {meth : Method} {c : Code} {b L : Nat} {xs : Nat → Int32} {dC : Nat → ClassId} {dI : Nat → Nat → Nat} {cI cC cO : ClassId} (X : lwC p s m c b L xs dC dI cI cC cO) {qM qN : Nat} {bM aB aT aR aC aY aX aN : Nat → Nat} {Q : State → Prop} {x3 : Int32} (h1 : vp_in (x3 + (1 : Int32)) L) (h2 : vp_in (x3 + (2 : Int32)) L) (h3 : vp_in (x3 + (3 : Int32)) L) (h4 : vp_in (x3 + (4 : Int32)) L) {gM gB gT gR gC gH gY gX gN : zG} {zZ : Nat → zS} (hR : zRel gB gX gY (zcn zZ) gN) {k n : Nat} (hk : k + 8 ≤ 600000) (hn : n + 66 ≤ 7302250) (K : lwK p l e s m below meth c b qM qN bM aB aT aR aC aY aX aN dC dI cI cC cO Q x3 (k + 8) (n + 66)) (H : Heap) (locs : List Loc) (ls : Array Slot) (hP : va_P (dC, dI) vwCl [(wX6 qM bM gM), (wX0 cI (bM 0) aB gB), (wX0 cI (bM 1) aT gT), (wX4 cI (bM 2) aR gR), (wX1 cI (bM 3) aC gC), (wX2 (bM 4) gH), (wX3 cO (bM 5) aY gY (zrm zZ)), (wX5 cI cC (bM 6) aX gX), (wX7 cI qN aN gN), (wZ cI (zZ 0)), (wZ cI (zZ 1)), (wZ cI (zZ 2)), (wZ cI (zZ 3))].flatten H) (hD : va_D (fun q : Nat => s.heap.size ≤ q) [(wX6 qM bM gM), (wX0 cI (bM 0) aB gB), (wX0 cI (bM 1) aT gT), (wX4 cI (bM 2) aR gR), (wX1 cI (bM 3) aC gC), (wX2 (bM 4) gH), (wX3 cO (bM 5) aY gY (zrm zZ)), (wX5 cI cC (bM 6) aX gX), (wX7 cI qN aN gN), (wZ cI (zZ 0)), (wZ cI (zZ 1)), (wZ cI (zZ 2)), (wZ cI (zZ 3))].flatten) (hS : va_S (fun q : Nat => s.heap.size ≤ q) s.heap H locs) (hl : lv_has ls 4 [(0, .ref b), (1, .ref qM), (2, .ref qN), (3, .int x3)]) : W p l e room_1 s m #[.ref b] below meth c H locs k n Q (F0 m 206 ls []) := by
  obtain ⟨hx, hb, hml, hown, hts, hX, hbl, hK, hN⟩ := X
  have hA : ∀ q : Nat, s.heap.size ≤ q → (fun q : Nat => s.heap.size ≤ q) q := fun _ h => h
  have hbA : ¬ (fun q : Nat => s.heap.size ≤ q) b := Nat.not_le.mpr hbl
  obtain ⟨R, R', hfa, hfb, hEq, hR'⟩ := pm_prism hR gM gT (xs (x3 + (1 : Int32)).toNatClampNeg) (xs (x3 + (2 : Int32)).toNatClampNeg) (xs (x3 + (3 : Int32)).toNatClampNeg) (xs (x3 + (4 : Int32)).toNatClampNeg)
  refine lv_aload_n hx hb dL_law_206 rfl (lv_at hl 1 rfl) ?_
  refine lv_aload_n hx hb dL_law_207 rfl (lv_at hl 0 rfl) ?_
  refine lv_iload_n hx hb dL_law_208 rfl (lv_at hl 3 rfl) ?_
  refine lv_iconst (v := (1 : Int32)) hx hb dL_law_209 (by decide) ?_
  refine lv_iadd hx hb dL_law_210 ?_
  refine va_sld hx hb hX hbl hbA hS h1 dL_law_211 ?_
  refine lv_aload_n hx hb dL_law_212 rfl (lv_at hl 0 rfl) ?_
  refine lv_iload_n hx hb dL_law_213 rfl (lv_at hl 3 rfl) ?_
  refine lv_iconst (v := (2 : Int32)) hx hb dL_law_214 (by decide) ?_
  refine lv_iadd hx hb dL_law_215 ?_
  refine va_sld hx hb hX hbl hbA hS h2 dL_law_216 ?_
  refine lv_aload_n hx hb dL_law_217 rfl (lv_at hl 0 rfl) ?_
  refine lv_iload_n hx hb dL_law_218 rfl (lv_at hl 3 rfl) ?_
  refine lv_iconst (v := (3 : Int32)) hx hb dL_law_219 (by decide) ?_
  refine lv_iadd hx hb dL_law_220 ?_
  refine va_sld hx hb hX hbl hbA hS h3 dL_law_221 ?_
  refine lv_aload_n hx hb dL_law_222 rfl (lv_at hl 0 rfl) ?_
  refine lv_iload_n hx hb dL_law_223 rfl (lv_at hl 3 rfl) ?_
  refine lv_iconst (v := (4 : Int32)) hx hb dL_law_224 (by decide) ?_
  refine lv_iadd hx hb dL_law_225 ?_
  refine va_sld hx hb hX hbl hbA hS h4 dL_law_226 ?_
  refine z_callE (gs2 := fun u : Nat → zS => [(wX6 qM bM gM), (wX0 cI (bM 0) aB R.2.1), (wX0 cI (bM 1) aT R.2.2.1), (wX4 cI (bM 2) aR gR), (wX1 cI (bM 3) aC gC), (wX2 (bM 4) gH), (wX3 cO (bM 5) aY R.2.2.2.1 (zrm u)), (wX5 cI cC (bM 6) aX gX), (wX7 cI qN aN gN), (wZ cI (u 0)), (wZ cI (u 1)), (wZ cI (u 2)), (wZ cI (u 3))]) hP hD hS hA [0, 1, 2, 6, 9, 10, 11, 12] [3, 4, 5, 7, 8] rfl (fun _ => rfl) (fun _ => rfl) (show List.Perm [0, 1, 2, 6, 9, 10, 11, 12, 3, 4, 5, 7, 8] (List.range 13) from by decide +kernel) (fun _ => rfl) (va_runV (As := [.int (xs (x3 + (1 : Int32)).toNatClampNeg), .int (xs (x3 + (2 : Int32)).toNatClampNeg), .int (xs (x3 + (3 : Int32)).toNatClampNeg), .int (xs (x3 + (4 : Int32)).toNatClampNeg)]) (rest := []) ⟨hx, hb, hml, hown, hts⟩ (c_X6_prism l dC dI cI cC cO qM bM gM aB gB aT gT aY gY zZ (xs (x3 + (1 : Int32)).toNatClampNeg) (xs (x3 + (2 : Int32)).toNatClampNeg) (xs (x3 + (3 : Int32)).toNatClampNeg) (xs (x3 + (4 : Int32)).toNatClampNeg) R hfa H.size) (cwV 4 hts gL_law_X6_prism rfl rfl rfl (by decide +kernel) ⟨Nat.le_of_ble_eq_true rfl, Nat.le_of_ble_eq_true rfl⟩) ⟨zpM_blind, va_recv hK hP (ci := 6) (q0 := 0) rfl rfl, z_useM hK hN hP hD [0, 1, 2, 6, 9, 10, 11, 12] [3, 4, 5, 7, 8] rfl (show List.Perm [0, 1, 2, 6, 9, 10, 11, 12, 3, 4, 5, 7, 8] (List.range 13) from by decide +kernel)⟩ rfl rfl hl.1 rfl (lv_room (Nat.le_of_ble_eq_true rfl)) dL_law_227 ⟨by show k + 8 ≤ 600000; omega, by show n + 66 ≤ 7302250; omega⟩) (fun u pu H locs hP hD hS => ?_)
  have hP : va_P (dC, dI) vwCl [(wX6 qM bM gM), (wX0 cI (bM 0) aB R.2.1), (wX0 cI (bM 1) aT R.2.2.1), (wX4 cI (bM 2) aR gR), (wX1 cI (bM 3) aC gC), (wX2 (bM 4) gH), (wX3 cO (bM 5) aY R.2.2.2.1 (zrm u)), (wX5 cI cC (bM 6) aX gX), (wX7 cI qN aN gN), (wZ cI (u 0)), (wZ cI (u 1)), (wZ cI (u 2)), (wZ cI (u 3))].flatten H := hP
  have hD : va_D (fun q : Nat => s.heap.size ≤ q) [(wX6 qM bM gM), (wX0 cI (bM 0) aB R.2.1), (wX0 cI (bM 1) aT R.2.2.1), (wX4 cI (bM 2) aR gR), (wX1 cI (bM 3) aC gC), (wX2 (bM 4) gH), (wX3 cO (bM 5) aY R.2.2.2.1 (zrm u)), (wX5 cI cC (bM 6) aX gX), (wX7 cI qN aN gN), (wZ cI (u 0)), (wZ cI (u 1)), (wZ cI (u 2)), (wZ cI (u 3))].flatten := hD
  refine W.eq (g2 := F0 m 230 ls [.int R.1]) rfl ?_
  refine lv_aload_n hx hb dL_law_230 rfl (lv_at hl 2 rfl) ?_
  refine lv_aload_n hx hb dL_law_231 rfl (lv_at hl 0 rfl) ?_
  refine lv_iload_n hx hb dL_law_232 rfl (lv_at hl 3 rfl) ?_
  refine lv_iconst (v := (1 : Int32)) hx hb dL_law_233 (by decide) ?_
  refine lv_iadd hx hb dL_law_234 ?_
  refine va_sld hx hb hX hbl hbA hS h1 dL_law_235 ?_
  refine lv_aload_n hx hb dL_law_236 rfl (lv_at hl 0 rfl) ?_
  refine lv_iload_n hx hb dL_law_237 rfl (lv_at hl 3 rfl) ?_
  refine lv_iconst (v := (2 : Int32)) hx hb dL_law_238 (by decide) ?_
  refine lv_iadd hx hb dL_law_239 ?_
  refine va_sld hx hb hX hbl hbA hS h2 dL_law_240 ?_
  refine lv_aload_n hx hb dL_law_241 rfl (lv_at hl 0 rfl) ?_
  refine lv_iload_n hx hb dL_law_242 rfl (lv_at hl 3 rfl) ?_
  refine lv_iconst (v := (3 : Int32)) hx hb dL_law_243 (by decide) ?_
  refine lv_iadd hx hb dL_law_244 ?_
  refine va_sld hx hb hX hbl hbA hS h3 dL_law_245 ?_
  refine lv_aload_n hx hb dL_law_246 rfl (lv_at hl 0 rfl) ?_
  refine lv_iload_n hx hb dL_law_247 rfl (lv_at hl 3 rfl) ?_
  refine lv_iconst (v := (4 : Int32)) hx hb dL_law_248 (by decide) ?_
  refine lv_iadd hx hb dL_law_249 ?_
  refine va_sld hx hb hX hbl hbA hS h4 dL_law_250 ?_
  refine z_callM (gs2 := [(wX6 qM bM gM), (wX0 cI (bM 0) aB R.2.1), (wX0 cI (bM 1) aT R.2.2.1), (wX4 cI (bM 2) aR gR), (wX1 cI (bM 3) aC gC), (wX2 (bM 4) gH), (wX3 cO (bM 5) aY R.2.2.2.1 (zrm u)), (wX5 cI cC (bM 6) aX gX), (wX7 cI qN aN R'.2), (wZ cI (u 0)), (wZ cI (u 1)), (wZ cI (u 2)), (wZ cI (u 3))]) hP hD hS hA [8] [0, 1, 2, 3, 4, 5, 6, 7, 9, 10, 11, 12] rfl rfl rfl (show List.Perm [8, 0, 1, 2, 3, 4, 5, 6, 7, 9, 10, 11, 12] (List.range 13) from by decide +kernel) rfl (va_runV (As := [.int (xs (x3 + (1 : Int32)).toNatClampNeg), .int (xs (x3 + (2 : Int32)).toNatClampNeg), .int (xs (x3 + (3 : Int32)).toNatClampNeg), .int (xs (x3 + (4 : Int32)).toNatClampNeg)]) (rest := [.int R.1]) ⟨hx, hb, hml, hown, hts⟩ (c_X7_prism l dC dI cI cC cO qN aN gN (xs (x3 + (1 : Int32)).toNatClampNeg) (xs (x3 + (2 : Int32)).toNatClampNeg) (xs (x3 + (3 : Int32)).toNatClampNeg) (xs (x3 + (4 : Int32)).toNatClampNeg) R' hfb H.size) (cwV 4 hts gL_law_X7_prism rfl rfl rfl (by decide +kernel) ⟨Nat.le_of_ble_eq_true rfl, Nat.le_of_ble_eq_true rfl⟩) ⟨zpM_blind, va_recv hK hP (ci := 7) (q0 := 32) rfl rfl, z_useM hK hN hP hD [8] [0, 1, 2, 3, 4, 5, 6, 7, 9, 10, 11, 12] rfl (show List.Perm [8, 0, 1, 2, 3, 4, 5, 6, 7, 9, 10, 11, 12] (List.range 13) from by decide +kernel)⟩ rfl rfl hl.1 rfl (lv_room (Nat.le_of_ble_eq_true rfl)) dL_law_251 ⟨by show (k + 8) + 0 ≤ 600000; omega, by show (n + 66) + 0 ≤ 7302250; omega⟩) (fun H locs hP hD hS => ?_)
  have hP : va_P (dC, dI) vwCl [(wX6 qM bM gM), (wX0 cI (bM 0) aB R.2.1), (wX0 cI (bM 1) aT R.2.2.1), (wX4 cI (bM 2) aR gR), (wX1 cI (bM 3) aC gC), (wX2 (bM 4) gH), (wX3 cO (bM 5) aY R.2.2.2.1 (zrm u)), (wX5 cI cC (bM 6) aX gX), (wX7 cI qN aN R'.2), (wZ cI (u 0)), (wZ cI (u 1)), (wZ cI (u 2)), (wZ cI (u 3))].flatten H := hP
  have hD : va_D (fun q : Nat => s.heap.size ≤ q) [(wX6 qM bM gM), (wX0 cI (bM 0) aB R.2.1), (wX0 cI (bM 1) aT R.2.2.1), (wX4 cI (bM 2) aR gR), (wX1 cI (bM 3) aC gC), (wX2 (bM 4) gH), (wX3 cO (bM 5) aY R.2.2.2.1 (zrm u)), (wX5 cI cC (bM 6) aX gX), (wX7 cI qN aN R'.2), (wZ cI (u 0)), (wZ cI (u 1)), (wZ cI (u 2)), (wZ cI (u 3))].flatten := hD
  refine W.eq (g2 := F0 m 254 ls [.int R'.1, .int R.1]) rfl ?_
  refine lv_icmp_eq (tgt := 789) hx hb dL_law_254 (by decide) (fun _ => ?_) (fun c_ => absurd hEq c_)
  refine W.widen (k := k + 8) (n := n + 66) (by omega) (by omega) ?_
  exact K gM R.2.1 R.2.2.1 gR gC gH R.2.2.2.1 gX R'.2 u (by rw [pu]; exact hR') H locs ls hP hD hS hl

set_option maxHeartbeats 4000000 in
set_option maxRecDepth 100000 in
theorem lc_slit {p : Program} {l : Launch} {e : Env} {s : State} {m : MethodId} {below : List Frame} {meth : Method} {c : Code} {b L : Nat} {xs : Nat → Int32} {dC : Nat → ClassId} {dI : Nat → Nat → Nat} {cI cC cO : ClassId} (X : lwC p s m c b L xs dC dI cI cC cO) {qM qN : Nat} {bM aB aT aR aC aY aX aN : Nat → Nat} {Q : State → Prop} {x3 : Int32} (h1 : vp_in (x3 + (1 : Int32)) L) (h2 : vp_in (x3 + (2 : Int32)) L) (h3 : vp_in (x3 + (3 : Int32)) L) (h4 : vp_in (x3 + (4 : Int32)) L) {gM gB gT gR gC gH gY gX gN : zG} {zZ : Nat → zS} (hR : zRel gB gX gY (zcn zZ) gN) {k n : Nat} (hk : k + 8 ≤ 600000) (hn : n + 66 ≤ 7302250) (K : lwK p l e s m below meth c b qM qN bM aB aT aR aC aY aX aN dC dI cI cC cO Q x3 (k + 8) (n + 66)) (H : Heap) (locs : List Loc) (ls : Array Slot) (hP : va_P (dC, dI) vwCl [(wX6 qM bM gM), (wX0 cI (bM 0) aB gB), (wX0 cI (bM 1) aT gT), (wX4 cI (bM 2) aR gR), (wX1 cI (bM 3) aC gC), (wX2 (bM 4) gH), (wX3 cO (bM 5) aY gY (zrm zZ)), (wX5 cI cC (bM 6) aX gX), (wX7 cI qN aN gN), (wZ cI (zZ 0)), (wZ cI (zZ 1)), (wZ cI (zZ 2)), (wZ cI (zZ 3))].flatten H) (hD : va_D (fun q : Nat => s.heap.size ≤ q) [(wX6 qM bM gM), (wX0 cI (bM 0) aB gB), (wX0 cI (bM 1) aT gT), (wX4 cI (bM 2) aR gR), (wX1 cI (bM 3) aC gC), (wX2 (bM 4) gH), (wX3 cO (bM 5) aY gY (zrm zZ)), (wX5 cI cC (bM 6) aX gX), (wX7 cI qN aN gN), (wZ cI (zZ 0)), (wZ cI (zZ 1)), (wZ cI (zZ 2)), (wZ cI (zZ 3))].flatten) (hS : va_S (fun q : Nat => s.heap.size ≤ q) s.heap H locs) (hl : lv_has ls 4 [(0, .ref b), (1, .ref qM), (2, .ref qN), (3, .int x3)]) : W p l e room_1 s m #[.ref b] below meth c H locs k n Q (F0 m 259 ls []) := by
  obtain ⟨hx, hb, hml, hown, hts, hX, hbl, hK, hN⟩ := X
  have hA : ∀ q : Nat, s.heap.size ≤ q → (fun q : Nat => s.heap.size ≤ q) q := fun _ h => h
  have hbA : ¬ (fun q : Nat => s.heap.size ≤ q) b := Nat.not_le.mpr hbl
  obtain ⟨R, R', hfa, hfb, hEq, hR'⟩ := pm_slit hR gM gT (xs (x3 + (1 : Int32)).toNatClampNeg) (xs (x3 + (2 : Int32)).toNatClampNeg) (xs (x3 + (3 : Int32)).toNatClampNeg)
  refine lv_aload_n hx hb dL_law_259 rfl (lv_at hl 1 rfl) ?_
  refine lv_aload_n hx hb dL_law_260 rfl (lv_at hl 0 rfl) ?_
  refine lv_iload_n hx hb dL_law_261 rfl (lv_at hl 3 rfl) ?_
  refine lv_iconst (v := (1 : Int32)) hx hb dL_law_262 (by decide) ?_
  refine lv_iadd hx hb dL_law_263 ?_
  refine va_sld hx hb hX hbl hbA hS h1 dL_law_264 ?_
  refine lv_aload_n hx hb dL_law_265 rfl (lv_at hl 0 rfl) ?_
  refine lv_iload_n hx hb dL_law_266 rfl (lv_at hl 3 rfl) ?_
  refine lv_iconst (v := (2 : Int32)) hx hb dL_law_267 (by decide) ?_
  refine lv_iadd hx hb dL_law_268 ?_
  refine va_sld hx hb hX hbl hbA hS h2 dL_law_269 ?_
  refine lv_aload_n hx hb dL_law_270 rfl (lv_at hl 0 rfl) ?_
  refine lv_iload_n hx hb dL_law_271 rfl (lv_at hl 3 rfl) ?_
  refine lv_iconst (v := (3 : Int32)) hx hb dL_law_272 (by decide) ?_
  refine lv_iadd hx hb dL_law_273 ?_
  refine va_sld hx hb hX hbl hbA hS h3 dL_law_274 ?_
  refine z_callE (gs2 := fun u : Nat → zS => [(wX6 qM bM gM), (wX0 cI (bM 0) aB R.2.1), (wX0 cI (bM 1) aT R.2.2.1), (wX4 cI (bM 2) aR gR), (wX1 cI (bM 3) aC gC), (wX2 (bM 4) gH), (wX3 cO (bM 5) aY R.2.2.2.1 (zrm u)), (wX5 cI cC (bM 6) aX gX), (wX7 cI qN aN gN), (wZ cI (u 0)), (wZ cI (u 1)), (wZ cI (u 2)), (wZ cI (u 3))]) hP hD hS hA [0, 1, 2, 6, 9, 10, 11, 12] [3, 4, 5, 7, 8] rfl (fun _ => rfl) (fun _ => rfl) (show List.Perm [0, 1, 2, 6, 9, 10, 11, 12, 3, 4, 5, 7, 8] (List.range 13) from by decide +kernel) (fun _ => rfl) (va_runV (As := [.int (xs (x3 + (1 : Int32)).toNatClampNeg), .int (xs (x3 + (2 : Int32)).toNatClampNeg), .int (xs (x3 + (3 : Int32)).toNatClampNeg)]) (rest := []) ⟨hx, hb, hml, hown, hts⟩ (c_X6_slit l dC dI cI cC cO qM bM gM aB gB aT gT aY gY zZ (xs (x3 + (1 : Int32)).toNatClampNeg) (xs (x3 + (2 : Int32)).toNatClampNeg) (xs (x3 + (3 : Int32)).toNatClampNeg) R hfa H.size) (cwV 3 hts gL_law_X6_slit rfl rfl rfl (by decide +kernel) ⟨Nat.le_of_ble_eq_true rfl, Nat.le_of_ble_eq_true rfl⟩) ⟨zpM_blind, va_recv hK hP (ci := 6) (q0 := 0) rfl rfl, z_useM hK hN hP hD [0, 1, 2, 6, 9, 10, 11, 12] [3, 4, 5, 7, 8] rfl (show List.Perm [0, 1, 2, 6, 9, 10, 11, 12, 3, 4, 5, 7, 8] (List.range 13) from by decide +kernel)⟩ rfl rfl hl.1 rfl (lv_room (Nat.le_of_ble_eq_true rfl)) dL_law_275 ⟨by show k + 8 ≤ 600000; omega, by show n + 66 ≤ 7302250; omega⟩) (fun u pu H locs hP hD hS => ?_)
  have hP : va_P (dC, dI) vwCl [(wX6 qM bM gM), (wX0 cI (bM 0) aB R.2.1), (wX0 cI (bM 1) aT R.2.2.1), (wX4 cI (bM 2) aR gR), (wX1 cI (bM 3) aC gC), (wX2 (bM 4) gH), (wX3 cO (bM 5) aY R.2.2.2.1 (zrm u)), (wX5 cI cC (bM 6) aX gX), (wX7 cI qN aN gN), (wZ cI (u 0)), (wZ cI (u 1)), (wZ cI (u 2)), (wZ cI (u 3))].flatten H := hP
  have hD : va_D (fun q : Nat => s.heap.size ≤ q) [(wX6 qM bM gM), (wX0 cI (bM 0) aB R.2.1), (wX0 cI (bM 1) aT R.2.2.1), (wX4 cI (bM 2) aR gR), (wX1 cI (bM 3) aC gC), (wX2 (bM 4) gH), (wX3 cO (bM 5) aY R.2.2.2.1 (zrm u)), (wX5 cI cC (bM 6) aX gX), (wX7 cI qN aN gN), (wZ cI (u 0)), (wZ cI (u 1)), (wZ cI (u 2)), (wZ cI (u 3))].flatten := hD
  refine W.eq (g2 := F0 m 278 ls [.int R.1]) rfl ?_
  refine lv_aload_n hx hb dL_law_278 rfl (lv_at hl 2 rfl) ?_
  refine lv_aload_n hx hb dL_law_279 rfl (lv_at hl 0 rfl) ?_
  refine lv_iload_n hx hb dL_law_280 rfl (lv_at hl 3 rfl) ?_
  refine lv_iconst (v := (1 : Int32)) hx hb dL_law_281 (by decide) ?_
  refine lv_iadd hx hb dL_law_282 ?_
  refine va_sld hx hb hX hbl hbA hS h1 dL_law_283 ?_
  refine lv_aload_n hx hb dL_law_284 rfl (lv_at hl 0 rfl) ?_
  refine lv_iload_n hx hb dL_law_285 rfl (lv_at hl 3 rfl) ?_
  refine lv_iconst (v := (2 : Int32)) hx hb dL_law_286 (by decide) ?_
  refine lv_iadd hx hb dL_law_287 ?_
  refine va_sld hx hb hX hbl hbA hS h2 dL_law_288 ?_
  refine lv_aload_n hx hb dL_law_289 rfl (lv_at hl 0 rfl) ?_
  refine lv_iload_n hx hb dL_law_290 rfl (lv_at hl 3 rfl) ?_
  refine lv_iconst (v := (3 : Int32)) hx hb dL_law_291 (by decide) ?_
  refine lv_iadd hx hb dL_law_292 ?_
  refine va_sld hx hb hX hbl hbA hS h3 dL_law_293 ?_
  refine z_callM (gs2 := [(wX6 qM bM gM), (wX0 cI (bM 0) aB R.2.1), (wX0 cI (bM 1) aT R.2.2.1), (wX4 cI (bM 2) aR gR), (wX1 cI (bM 3) aC gC), (wX2 (bM 4) gH), (wX3 cO (bM 5) aY R.2.2.2.1 (zrm u)), (wX5 cI cC (bM 6) aX gX), (wX7 cI qN aN R'.2), (wZ cI (u 0)), (wZ cI (u 1)), (wZ cI (u 2)), (wZ cI (u 3))]) hP hD hS hA [8] [0, 1, 2, 3, 4, 5, 6, 7, 9, 10, 11, 12] rfl rfl rfl (show List.Perm [8, 0, 1, 2, 3, 4, 5, 6, 7, 9, 10, 11, 12] (List.range 13) from by decide +kernel) rfl (va_runV (As := [.int (xs (x3 + (1 : Int32)).toNatClampNeg), .int (xs (x3 + (2 : Int32)).toNatClampNeg), .int (xs (x3 + (3 : Int32)).toNatClampNeg)]) (rest := [.int R.1]) ⟨hx, hb, hml, hown, hts⟩ (c_X7_slit l dC dI cI cC cO qN aN gN (xs (x3 + (1 : Int32)).toNatClampNeg) (xs (x3 + (2 : Int32)).toNatClampNeg) (xs (x3 + (3 : Int32)).toNatClampNeg) R' hfb H.size) (cwV 3 hts gL_law_X7_slit rfl rfl rfl (by decide +kernel) ⟨Nat.le_of_ble_eq_true rfl, Nat.le_of_ble_eq_true rfl⟩) ⟨zpM_blind, va_recv hK hP (ci := 7) (q0 := 32) rfl rfl, z_useM hK hN hP hD [8] [0, 1, 2, 3, 4, 5, 6, 7, 9, 10, 11, 12] rfl (show List.Perm [8, 0, 1, 2, 3, 4, 5, 6, 7, 9, 10, 11, 12] (List.range 13) from by decide +kernel)⟩ rfl rfl hl.1 rfl (lv_room (Nat.le_of_ble_eq_true rfl)) dL_law_294 ⟨by show (k + 8) + 0 ≤ 600000; omega, by show (n + 66) + 0 ≤ 7302250; omega⟩) (fun H locs hP hD hS => ?_)
  have hP : va_P (dC, dI) vwCl [(wX6 qM bM gM), (wX0 cI (bM 0) aB R.2.1), (wX0 cI (bM 1) aT R.2.2.1), (wX4 cI (bM 2) aR gR), (wX1 cI (bM 3) aC gC), (wX2 (bM 4) gH), (wX3 cO (bM 5) aY R.2.2.2.1 (zrm u)), (wX5 cI cC (bM 6) aX gX), (wX7 cI qN aN R'.2), (wZ cI (u 0)), (wZ cI (u 1)), (wZ cI (u 2)), (wZ cI (u 3))].flatten H := hP
  have hD : va_D (fun q : Nat => s.heap.size ≤ q) [(wX6 qM bM gM), (wX0 cI (bM 0) aB R.2.1), (wX0 cI (bM 1) aT R.2.2.1), (wX4 cI (bM 2) aR gR), (wX1 cI (bM 3) aC gC), (wX2 (bM 4) gH), (wX3 cO (bM 5) aY R.2.2.2.1 (zrm u)), (wX5 cI cC (bM 6) aX gX), (wX7 cI qN aN R'.2), (wZ cI (u 0)), (wZ cI (u 1)), (wZ cI (u 2)), (wZ cI (u 3))].flatten := hD
  refine W.eq (g2 := F0 m 297 ls [.int R'.1, .int R.1]) rfl ?_
  refine lv_icmp_eq (tgt := 789) hx hb dL_law_297 (by decide) (fun _ => ?_) (fun c_ => absurd hEq c_)
  refine W.widen (k := k + 8) (n := n + 66) (by omega) (by omega) ?_
  exact K gM R.2.1 R.2.2.1 gR gC gH R.2.2.2.1 gX R'.2 u (by rw [pu]; exact hR') H locs ls hP hD hS hl

