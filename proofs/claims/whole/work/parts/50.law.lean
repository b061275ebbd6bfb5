def lwC (p : Program) (s : State) (m : MethodId) (c : Code) (b L : Nat) (xs : Nat → Int32) (dC : Nat → ClassId) (dI : Nat → Nat → Nat) (cI cC cO : ClassId) : Prop := p.tables.exec = Jvm.exec ∧ c.code = cL_law ∧ c.maxLocals = 4 ∧ s.vm.findClass RL = some m.cls ∧ (∀ w ∈ wsL_law, w.before #[.ref b] s = true) ∧ va_X b L xs s s.heap ∧ b < s.heap.size ∧ va_K (dC, dI) vwCl (zT cI cC cO) s ∧ zN s
def lwK (p : Program) (l : Launch) (e : Env) (s : State) (m : MethodId) (below : List Frame) (meth : Method) (c : Code) (b qM qN : Nat) (bM aB aT aR aC aY aX aN : Nat → Nat) (dC : Nat → ClassId) (dI : Nat → Nat → Nat) (cI cC cO : ClassId) (Q : State → Prop) (x3 : Int32) (k n : Nat) : Prop := ∀ (gM gB gT gR gC gH gY gX : zG) (zZ : Nat → zS) (gN : zG), zRel gB gX gY (zcn zZ) gN → ∀ (H : Heap) (locs : List Loc) (ls : Array Slot), va_P (dC, dI) vwCl [(wX6 qM bM gM), (wX0 cI (bM 0) aB gB), (wX0 cI (bM 1) aT gT), (wX4 cI (bM 2) aR gR), (wX1 cI (bM 3) aC gC), (wX2 (bM 4) gH), (wX3 cO (bM 5) aY gY (zrm zZ)), (wX5 cI cC (bM 6) aX gX), (wZ cI (zZ 0)), (wZ cI (zZ 1)), (wZ cI (zZ 2)), (wZ cI (zZ 3)), (wX7 cI qN aN gN)].flatten H → va_D (fun q : Nat => s.heap.size ≤ q) [(wX6 qM bM gM), (wX0 cI (bM 0) aB gB), (wX0 cI (bM 1) aT gT), (wX4 cI (bM 2) aR gR), (wX1 cI (bM 3) aC gC), (wX2 (bM 4) gH), (wX3 cO (bM 5) aY gY (zrm zZ)), (wX5 cI cC (bM 6) aX gX), (wZ cI (zZ 0)), (wZ cI (zZ 1)), (wZ cI (zZ 2)), (wZ cI (zZ 3)), (wX7 cI qN aN gN)].flatten → va_S (fun q : Nat => s.heap.size ≤ q) s.heap H locs → lv_has ls 4 [(0, .ref b), (1, .ref qM), (2, .ref qN), (3, .int x3)] → W p l e room_1 s m #[.ref b] below meth c H locs k n Q (F0 m 789 ls [])
theorem zNmem {cI : ClassId} {qN : Nat} {aN : Nat → Nat} {gN : zG} (a0 a1 a2 a3 a4 a5 a6 a7 a8 a9 a10 a11 : va_W) (u : Unit) : (qN, .inr (7, [.ref (aN 0), .ref (aN 1), .ref (aN 2), .ref (aN 3), .int (gN 4 0), .int (gN 5 0), .ref (aN 6), .int (gN 7 0), .int (gN 8 0), .int (gN 9 0), .int (gN 10 0), .int (gN 11 0), .ref (aN 12), .ref (aN 13), .int (gN 14 0), .int (gN 15 0), .int (gN 16 0), .int (gN 17 0), .int (gN 18 0), .int (gN 19 0), .ref (aN 20)])) ∈ [a0, a1, a2, a3, a4, a5, a6, a7, a8, a9, a10, a11, (wX7 cI qN aN gN)].flatten := List.mem_flatten.mpr ⟨wX7 cI qN aN gN, by simp, List.mem_cons_self⟩
set_option maxHeartbeats 4000000 in
set_option maxRecDepth 100000 in
theorem lc_line {p : Program} {l : Launch} {e : Env} {s : State} {m : MethodId} {below : List Frame} {meth : Method} {c : Code} {b L : Nat} {xs : Nat → Int32} {dC : Nat → ClassId} {dI : Nat → Nat → Nat} {cI cC cO : ClassId} (X : lwC p s m c b L xs dC dI cI cC cO) {qM qN : Nat} {bM aB aT aR aC aY aX aN : Nat → Nat} {Q : State → Prop} {x3 : Int32} (h1 : vp_in (x3 + (1 : Int32)) L) (h2 : vp_in (x3 + (2 : Int32)) L) (h3 : vp_in (x3 + (3 : Int32)) L) (h4 : vp_in (x3 + (4 : Int32)) L) {gM gB gT gR gC gH gY gX gN : zG} {zZ : Nat → zS} (hR : zRel gB gX gY (zcn zZ) gN) {k n : Nat} (hk : k + 8 ≤ 600000) (hn : n + 66 ≤ 7302250) (K : lwK p l e s m below meth c b qM qN bM aB aT aR aC aY aX aN dC dI cI cC cO Q x3 (k + 8) (n + 66)) (H : Heap) (locs : List Loc) (ls : Array Slot) (hP : va_P (dC, dI) vwCl [(wX6 qM bM gM), (wX0 cI (bM 0) aB gB), (wX0 cI (bM 1) aT gT), (wX4 cI (bM 2) aR gR), (wX1 cI (bM 3) aC gC), (wX2 (bM 4) gH), (wX3 cO (bM 5) aY gY (zrm zZ)), (wX5 cI cC (bM 6) aX gX), (wZ cI (zZ 0)), (wZ cI (zZ 1)), (wZ cI (zZ 2)), (wZ cI (zZ 3)), (wX7 cI qN aN gN)].flatten H) (hD : va_D (fun q : Nat => s.heap.size ≤ q) [(wX6 qM bM gM), (wX0 cI (bM 0) aB gB), (wX0 cI (bM 1) aT gT), (wX4 cI (bM 2) aR gR), (wX1 cI (bM 3) aC gC), (wX2 (bM 4) gH), (wX3 cO (bM 5) aY gY (zrm zZ)), (wX5 cI cC (bM 6) aX gX), (wZ cI (zZ 0)), (wZ cI (zZ 1)), (wZ cI (zZ 2)), (wZ cI (zZ 3)), (wX7 cI qN aN gN)].flatten) (hS : va_S (fun q : Nat => s.heap.size ≤ q) s.heap H locs) (hl : lv_has ls 4 [(0, .ref b), (1, .ref qM), (2, .ref qN), (3, .int x3)]) : W p l e room_1 s m #[.ref b] below meth c H locs k n Q (F0 m 140 ls []) := by
  obtain ⟨hx, hb, hml, hown, hts, hX, hbl, hK, hN⟩ := X
  have hA : ∀ q : Nat, s.heap.size ≤ q → (fun q : Nat => s.heap.size ≤ q) q := fun _ h => h
  have hbA : ¬ (fun q : Nat => s.heap.size ≤ q) b := Nat.not_le.mpr hbl
  obtain ⟨R, R', hfa, hfb, hEq, hR'⟩ := pm_line hR gM gT (xs (x3 + (1 : Int32)).toNatClampNeg) (xs (x3 + (2 : Int32)).toNatClampNeg)
  refine lv_aload_n hx hb dL_law_140 rfl (lv_at hl 1 rfl) ?_
  refine lv_aload_n hx hb dL_law_141 rfl (lv_at hl 0 rfl) ?_
  refine lv_iload_n hx hb dL_law_142 rfl (lv_at hl 3 rfl) ?_
  refine lv_iconst (v := (1 : Int32)) hx hb dL_law_143 (by decide) ?_
  refine lv_iadd hx hb dL_law_144 ?_
  refine va_sld hx hb hX hbl hbA hS h1 dL_law_145 ?_
  refine lv_aload_n hx hb dL_law_146 rfl (lv_at hl 0 rfl) ?_
  refine lv_iload_n hx hb dL_law_147 rfl (lv_at hl 3 rfl) ?_
  refine lv_iconst (v := (2 : Int32)) hx hb dL_law_148 (by decide) ?_
  refine lv_iadd hx hb dL_law_149 ?_
  refine va_sld hx hb hX hbl hbA hS h2 dL_law_150 ?_
  refine z_callE (gs2 := fun u : Nat → zS => [(wX6 qM bM gM), (wX0 cI (bM 0) aB R.2.1), (wX0 cI (bM 1) aT R.2.2.1), (wX4 cI (bM 2) aR gR), (wX1 cI (bM 3) aC gC), (wX2 (bM 4) gH), (wX3 cO (bM 5) aY R.2.2.2.1 (zrm u)), (wX5 cI cC (bM 6) aX gX), (wZ cI (u 0)), (wZ cI (u 1)), (wZ cI (u 2)), (wZ cI (u 3)), (wX7 cI qN aN gN)]) hP hD hS hA [0, 1, 2, 6, 8, 9, 10, 11] [3, 4, 5, 7, 12] rfl (fun _ => rfl) (fun _ => rfl) (show List.Perm [0, 1, 2, 6, 8, 9, 10, 11, 3, 4, 5, 7, 12] (List.range 13) from by decide) (fun _ => rfl) (va_runV (As := [.int (xs (x3 + (1 : Int32)).toNatClampNeg), .int (xs (x3 + (2 : Int32)).toNatClampNeg)]) (rest := []) ⟨hx, hb, hml, hown, hts⟩ (c_X6_line l dC dI cI cC cO qM bM gM aB gB aT gT aY gY zZ (xs (x3 + (1 : Int32)).toNatClampNeg) (xs (x3 + (2 : Int32)).toNatClampNeg) R hfa H.size) (cwV 2 hts gL_law_X6_line rfl rfl rfl (by decide +kernel) ⟨Nat.le_of_ble_eq_true rfl, Nat.le_of_ble_eq_true rfl⟩) ⟨zpM_blind, va_recv hK hP (ci := 6) (q0 := 0) rfl rfl, z_useM hK hN hP hD [0, 1, 2, 6, 8, 9, 10, 11] [3, 4, 5, 7, 12] rfl (show List.Perm [0, 1, 2, 6, 8, 9, 10, 11, 3, 4, 5, 7, 12] (List.range 13) from by decide)⟩ rfl rfl hl.1 rfl (lv_room (Nat.le_of_ble_eq_true rfl)) dL_law_151 ⟨by show k + 8 ≤ 600000; omega, by show n + 66 ≤ 7302250; omega⟩) (fun u pu H locs hP hD hS => ?_)
  refine W.eq (g2 := F0 m 154 ls [.int R.1]) rfl ?_
  refine lv_aload_n hx hb dL_law_154 rfl (lv_at hl 2 rfl) ?_
  refine lv_aload_n hx hb dL_law_155 rfl (lv_at hl 0 rfl) ?_
  refine lv_iload_n hx hb dL_law_156 rfl (lv_at hl 3 rfl) ?_
  refine lv_iconst (v := (1 : Int32)) hx hb dL_law_157 (by decide) ?_
  refine lv_iadd hx hb dL_law_158 ?_
  refine va_sld hx hb hX hbl hbA hS h1 dL_law_159 ?_
  refine lv_aload_n hx hb dL_law_160 rfl (lv_at hl 0 rfl) ?_
  refine lv_iload_n hx hb dL_law_161 rfl (lv_at hl 3 rfl) ?_
  refine lv_iconst (v := (2 : Int32)) hx hb dL_law_162 (by decide) ?_
  refine lv_iadd hx hb dL_law_163 ?_
  refine va_sld hx hb hX hbl hbA hS h2 dL_law_164 ?_
  refine z_callM (gs2 := [(wX6 qM bM gM), (wX0 cI (bM 0) aB R.2.1), (wX0 cI (bM 1) aT R.2.2.1), (wX4 cI (bM 2) aR gR), (wX1 cI (bM 3) aC gC), (wX2 (bM 4) gH), (wX3 cO (bM 5) aY R.2.2.2.1 (zrm u)), (wX5 cI cC (bM 6) aX gX), (wZ cI (u 0)), (wZ cI (u 1)), (wZ cI (u 2)), (wZ cI (u 3)), (wX7 cI qN aN R'.2)]) hP hD hS hA [12] [0, 1, 2, 3, 4, 5, 6, 7, 8, 9, 10, 11] rfl rfl rfl (show List.Perm [12, 0, 1, 2, 3, 4, 5, 6, 7, 8, 9, 10, 11] (List.range 13) from by decide) rfl (va_runV (As := [.int (xs (x3 + (1 : Int32)).toNatClampNeg), .int (xs (x3 + (2 : Int32)).toNatClampNeg)]) (rest := [.int R.1]) ⟨hx, hb, hml, hown, hts⟩ (c_X7_line l dC dI cI cC cO qN aN gN (xs (x3 + (1 : Int32)).toNatClampNeg) (xs (x3 + (2 : Int32)).toNatClampNeg) R' hfb H.size) (cwV 2 hts gL_law_X7_line rfl rfl rfl (by decide +kernel) ⟨Nat.le_of_ble_eq_true rfl, Nat.le_of_ble_eq_true rfl⟩) ⟨zpM_blind, z_recv hK hP (ci := 7) (q := (RX7, TX7, 21)) (fs := [.ref (aN 0), .ref (aN 1), .ref (aN 2), .ref (aN 3), .int (gN 4 0), .int (gN 5 0), .ref (aN 6), .int (gN 7 0), .int (gN 8 0), .int (gN 9 0), .int (gN 10 0), .int (gN 11 0), .ref (aN 12), .ref (aN 13), .int (gN 14 0), .int (gN 15 0), .int (gN 16 0), .int (gN 17 0), .int (gN 18 0), .int (gN 19 0), .ref (aN 20)]) rfl (zNmem _ _ _ _ _ _ _ _ _ _ _ _ ()), z_useM hK hN hP hD [12] [0, 1, 2, 3, 4, 5, 6, 7, 8, 9, 10, 11] rfl (show List.Perm [12, 0, 1, 2, 3, 4, 5, 6, 7, 8, 9, 10, 11] (List.range 13) from by decide)⟩ rfl rfl hl.1 rfl (lv_room (Nat.le_of_ble_eq_true rfl)) dL_law_165 ⟨by show (k + 8) + 0 ≤ 600000; omega, by show (n + 66) + 0 ≤ 7302250; omega⟩) (fun H locs hP hD hS => ?_)
  refine W.eq (g2 := F0 m 168 ls [.int R'.1, .int R.1]) rfl ?_
  refine lv_icmp_eq (tgt := 789) hx hb dL_law_168 (by decide) (fun _ => ?_) (fun c_ => absurd hEq c_)
  refine W.widen (k := k + 8) (n := n + 66) (by omega) (by omega) ?_
  exact K gM R.2.1 R.2.2.1 gR gC gH R.2.2.2.1 gX u R'.2 (by rw [pu]; exact hR') H locs ls hP hD hS hl

set_option maxHeartbeats 4000000 in
set_option maxRecDepth 100000 in
theorem lc_dim {p : Program} {l : Launch} {e : Env} {s : State} {m : MethodId} {below : List Frame} {meth : Method} {c : Code} {b L : Nat} {xs : Nat → Int32} {dC : Nat → ClassId} {dI : Nat → Nat → Nat} {cI cC cO : ClassId} (X : lwC p s m c b L xs dC dI cI cC cO) {qM qN : Nat} {bM aB aT aR aC aY aX aN : Nat → Nat} {Q : State → Prop} {x3 : Int32} (h1 : vp_in (x3 + (1 : Int32)) L) (h2 : vp_in (x3 + (2 : Int32)) L) (h3 : vp_in (x3 + (3 : Int32)) L) (h4 : vp_in (x3 + (4 : Int32)) L) {gM gB gT gR gC gH gY gX gN : zG} {zZ : Nat → zS} (hR : zRel gB gX gY (zcn zZ) gN) {k n : Nat} (hk : k + 8 ≤ 600000) (hn : n + 66 ≤ 7302250) (K : lwK p l e s m below meth c b qM qN bM aB aT aR aC aY aX aN dC dI cI cC cO Q x3 (k + 8) (n + 66)) (H : Heap) (locs : List Loc) (ls : Array Slot) (hP : va_P (dC, dI) vwCl [(wX6 qM bM gM), (wX0 cI (bM 0) aB gB), (wX0 cI (bM 1) aT gT), (wX4 cI (bM 2) aR gR), (wX1 cI (bM 3) aC gC), (wX2 (bM 4) gH), (wX3 cO (bM 5) aY gY (zrm zZ)), (wX5 cI cC (bM 6) aX gX), (wZ cI (zZ 0)), (wZ cI (zZ 1)), (wZ cI (zZ 2)), (wZ cI (zZ 3)), (wX7 cI qN aN gN)].flatten H) (hD : va_D (fun q : Nat => s.heap.size ≤ q) [(wX6 qM bM gM), (wX0 cI (bM 0) aB gB), (wX0 cI (bM 1) aT gT), (wX4 cI (bM 2) aR gR), (wX1 cI (bM 3) aC gC), (wX2 (bM 4) gH), (wX3 cO (bM 5) aY gY (zrm zZ)), (wX5 cI cC (bM 6) aX gX), (wZ cI (zZ 0)), (wZ cI (zZ 1)), (wZ cI (zZ 2)), (wZ cI (zZ 3)), (wX7 cI qN aN gN)].flatten) (hS : va_S (fun q : Nat => s.heap.size ≤ q) s.heap H locs) (hl : lv_has ls 4 [(0, .ref b), (1, .ref qM), (2, .ref qN), (3, .int x3)]) : W p l e room_1 s m #[.ref b] below meth c H locs k n Q (F0 m 173 ls []) := by
  obtain ⟨hx, hb, hml, hown, hts, hX, hbl, hK, hN⟩ := X
  have hA : ∀ q : Nat, s.heap.size ≤ q → (fun q : Nat => s.heap.size ≤ q) q := fun _ h => h
  have hbA : ¬ (fun q : Nat => s.heap.size ≤ q) b := Nat.not_le.mpr hbl
  obtain ⟨R, R', hfa, hfb, hEq, hR'⟩ := pm_dim hR gM gT (xs (x3 + (1 : Int32)).toNatClampNeg) (xs (x3 + (2 : Int32)).toNatClampNeg)
  refine lv_aload_n hx hb dL_law_173 rfl (lv_at hl 1 rfl) ?_
  refine lv_aload_n hx hb dL_law_174 rfl (lv_at hl 0 rfl) ?_
  refine lv_iload_n hx hb dL_law_175 rfl (lv_at hl 3 rfl) ?_
  refine lv_iconst (v := (1 : Int32)) hx hb dL_law_176 (by decide) ?_
  refine lv_iadd hx hb dL_law_177 ?_
  refine va_sld hx hb hX hbl hbA hS h1 dL_law_178 ?_
  refine lv_aload_n hx hb dL_law_179 rfl (lv_at hl 0 rfl) ?_
  refine lv_iload_n hx hb dL_law_180 rfl (lv_at hl 3 rfl) ?_
  refine lv_iconst (v := (2 : Int32)) hx hb dL_law_181 (by decide) ?_
  refine lv_iadd hx hb dL_law_182 ?_
  refine va_sld hx hb hX hbl hbA hS h2 dL_law_183 ?_
  refine z_callE (gs2 := fun u : Nat → zS => [(wX6 qM bM gM), (wX0 cI (bM 0) aB R.2.1), (wX0 cI (bM 1) aT R.2.2.1), (wX4 cI (bM 2) aR gR), (wX1 cI (bM 3) aC gC), (wX2 (bM 4) gH), (wX3 cO (bM 5) aY R.2.2.2.1 (zrm u)), (wX5 cI cC (bM 6) aX gX), (wZ cI (u 0)), (wZ cI (u 1)), (wZ cI (u 2)), (wZ cI (u 3)), (wX7 cI qN aN gN)]) hP hD hS hA [0, 1, 2, 6, 8, 9, 10, 11] [3, 4, 5, 7, 12] rfl (fun _ => rfl) (fun _ => rfl) (show List.Perm [0, 1, 2, 6, 8, 9, 10, 11, 3, 4, 5, 7, 12] (List.range 13) from by decide) (fun _ => rfl) (va_runV (As := [.int (xs (x3 + (1 : Int32)).toNatClampNeg), .int (xs (x3 + (2 : Int32)).toNatClampNeg)]) (rest := []) ⟨hx, hb, hml, hown, hts⟩ (c_X6_dim l dC dI cI cC cO qM bM gM aB gB aT gT aY gY zZ (xs (x3 + (1 : Int32)).toNatClampNeg) (xs (x3 + (2 : Int32)).toNatClampNeg) R hfa H.size) (cwV 2 hts gL_law_X6_dim rfl rfl rfl (by decide +kernel) ⟨Nat.le_of_ble_eq_true rfl, Nat.le_of_ble_eq_true rfl⟩) ⟨zpM_blind, va_recv hK hP (ci := 6) (q0 := 0) rfl rfl, z_useM hK hN hP hD [0, 1, 2, 6, 8, 9, 10, 11] [3, 4, 5, 7, 12] rfl (show List.Perm [0, 1, 2, 6, 8, 9, 10, 11, 3, 4, 5, 7, 12] (List.range 13) from by decide)⟩ rfl rfl hl.1 rfl (lv_room (Nat.le_of_ble_eq_true rfl)) dL_law_184 ⟨by show k + 8 ≤ 600000; omega, by show n + 66 ≤ 7302250; omega⟩) (fun u pu H locs hP hD hS => ?_)
  refine W.eq (g2 := F0 m 187 ls [.int R.1]) rfl ?_
  refine lv_aload_n hx hb dL_law_187 rfl (lv_at hl 2 rfl) ?_
  refine lv_aload_n hx hb dL_law_188 rfl (lv_at hl 0 rfl) ?_
  refine lv_iload_n hx hb dL_law_189 rfl (lv_at hl 3 rfl) ?_
  refine lv_iconst (v := (1 : Int32)) hx hb dL_law_190 (by decide) ?_
  refine lv_iadd hx hb dL_law_191 ?_
  refine va_sld hx hb hX hbl hbA hS h1 dL_law_192 ?_
  refine lv_aload_n hx hb dL_law_193 rfl (lv_at hl 0 rfl) ?_
  refine lv_iload_n hx hb dL_law_194 rfl (lv_at hl 3 rfl) ?_
  refine lv_iconst (v := (2 : Int32)) hx hb dL_law_195 (by decide) ?_
  refine lv_iadd hx hb dL_law_196 ?_
  refine va_sld hx hb hX hbl hbA hS h2 dL_law_197 ?_
  refine z_callM (gs2 := [(wX6 qM bM gM), (wX0 cI (bM 0) aB R.2.1), (wX0 cI (bM 1) aT R.2.2.1), (wX4 cI (bM 2) aR gR), (wX1 cI (bM 3) aC gC), (wX2 (bM 4) gH), (wX3 cO (bM 5) aY R.2.2.2.1 (zrm u)), (wX5 cI cC (bM 6) aX gX), (wZ cI (u 0)), (wZ cI (u 1)), (wZ cI (u 2)), (wZ cI (u 3)), (wX7 cI qN aN R'.2)]) hP hD hS hA [12] [0, 1, 2, 3, 4, 5, 6, 7, 8, 9, 10, 11] rfl rfl rfl (show List.Perm [12, 0, 1, 2, 3, 4, 5, 6, 7, 8, 9, 10, 11] (List.range 13) from by decide) rfl (va_runV (As := [.int (xs (x3 + (1 : Int32)).toNatClampNeg), .int (xs (x3 + (2 : Int32)).toNatClampNeg)]) (rest := [.int R.1]) ⟨hx, hb, hml, hown, hts⟩ (c_X7_dim l dC dI cI cC cO qN aN gN (xs (x3 + (1 : Int32)).toNatClampNeg) (xs (x3 + (2 : Int32)).toNatClampNeg) R' hfb H.size) (cwV 2 hts gL_law_X7_dim rfl rfl rfl (by decide +kernel) ⟨Nat.le_of_ble_eq_true rfl, Nat.le_of_ble_eq_true rfl⟩) ⟨zpM_blind, z_recv hK hP (ci := 7) (q := (RX7, TX7, 21)) (fs := [.ref (aN 0), .ref (aN 1), .ref (aN 2), .ref (aN 3), .int (gN 4 0), .int (gN 5 0), .ref (aN 6), .int (gN 7 0), .int (gN 8 0), .int (gN 9 0), .int (gN 10 0), .int (gN 11 0), .ref (aN 12), .ref (aN 13), .int (gN 14 0), .int (gN 15 0), .int (gN 16 0), .int (gN 17 0), .int (gN 18 0), .int (gN 19 0), .ref (aN 20)]) rfl (zNmem _ _ _ _ _ _ _ _ _ _ _ _ ()), z_useM hK hN hP hD [12] [0, 1, 2, 3, 4, 5, 6, 7, 8, 9, 10, 11] rfl (show List.Perm [12, 0, 1, 2, 3, 4, 5, 6, 7, 8, 9, 10, 11] (List.range 13) from by decide)⟩ rfl rfl hl.1 rfl (lv_room (Nat.le_of_ble_eq_true rfl)) dL_law_198 ⟨by show (k + 8) + 0 ≤ 600000; omega, by show (n + 66) + 0 ≤ 7302250; omega⟩) (fun H locs hP hD hS => ?_)
  refine W.eq (g2 := F0 m 201 ls [.int R'.1, .int R.1]) rfl ?_
  refine lv_icmp_eq (tgt := 789) hx hb dL_law_201 (by decide) (fun _ => ?_) (fun c_ => absurd hEq c_)
  refine W.widen (k := k + 8) (n := n + 66) (by omega) (by omega) ?_
  exact K gM R.2.1 R.2.2.1 gR gC gH R.2.2.2.1 gX u R'.2 (by rw [pu]; exact hR') H locs ls hP hD hS hl

set_option maxHeartbeats 4000000 in
set_option maxRecDepth 100000 in
theorem lc_prism {p : Program} {l : Launch} {e : Env} {s : State} {m : MethodId} {below : List Frame} {meth : Method} {c : Code} {b L : Nat} {xs : Nat → Int32} {dC : Nat → ClassId} {dI : Nat → Nat → Nat} {cI cC cO : ClassId} (X : lwC p s m c b L xs dC dI cI cC cO) {qM qN : Nat} {bM aB aT aR aC aY aX aN : Nat → Nat} {Q : State → Prop} {x3 : Int32} (h1 : vp_in (x3 + (1 : Int32)) L) (h2 : vp_in (x3 + (2 : Int32)) L) (h3 : vp_in (x3 + (3 : Int32)) L) (h4 : vp_in (x3 + (4 : Int32)) L) {gM gB gT gR gC gH gY gX gN : zG} {zZ : Nat → zS} (hR : zRel gB gX gY (zcn zZ) gN) {k n : Nat} (hk : k + 8 ≤ 600000) (hn : n + 66 ≤ 7302250) (K : lwK p l e s m below meth c b qM qN bM aB aT aR aC aY aX aN dC dI cI cC cO Q x3 (k + 8) (n + 66)) (H : Heap) (locs : List Loc) (ls : Array Slot) (hP : va_P (dC, dI) vwCl [(wX6 qM bM gM), (wX0 cI (bM 0) aB gB), (wX0 cI (bM 1) aT gT), (wX4 cI (bM 2) aR gR), (wX1 cI (bM 3) aC gC), (wX2 (bM 4) gH), (wX3 cO (bM 5) aY gY (zrm zZ)), (wX5 cI cC (bM 6) aX gX), (wZ cI (zZ 0)), (wZ cI (zZ 1)), (wZ cI (zZ 2)), (wZ cI (zZ 3)), (wX7 cI qN aN gN)].flatten H) (hD : va_D (fun q : Nat => s.heap.size ≤ q) [(wX6 qM bM gM), (wX0 cI (bM 0) aB gB), (wX0 cI (bM 1) aT gT), (wX4 cI (bM 2) aR gR), (wX1 cI (bM 3) aC gC), (wX2 (bM 4) gH), (wX3 cO (bM 5) aY gY (zrm zZ)), (wX5 cI cC (bM 6) aX gX), (wZ cI (zZ 0)), (wZ cI (zZ 1)), (wZ cI (zZ 2)), (wZ cI (zZ 3)), (wX7 cI qN aN gN)].flatten) (hS : va_S (fun q : Nat => s.heap.size ≤ q) s.heap H locs) (hl : lv_has ls 4 [(0, .ref b), (1, .ref qM), (2, .ref qN), (3, .int x3)]) : W p l e room_1 s m #[.ref b] below meth c H locs k n Q (F0 m 206 ls []) := by
  obtain ⟨hx, hb, hml, hown, hts, hX, hbl, hK, hN⟩ := X
  have hA : ∀ q : Nat, s.heap.size ≤ q → (fun q : Nat => s.heap.size ≤ q) q := fun _ h => h
  have hbA : ¬ (fun q : Nat => s.heap.size ≤ q) b := Nat.not_le.mpr hbl
  obtain ⟨R, R', hfa, hfb, hEq, hR'⟩ := pm_prism hR gM gT (xs (x3 + (1 : Int32)).toNatClampNeg) (xs (x3 + (2 : Int32)).toNatClampNeg) (xs (x3 + (3 : Int32)).toNatClampNeg) (xs (x3 + (4 : Int32)).toNatClampNeg)
  refine lv_aload_n hx hb dL_law_206 rfl (lv_at hl 1 rfl) ?_
  refine lv_aload_n hx hb dL_law_207 rfl (lv_at hl 0 rfl) ?_
  refine lv_iload_n hx hb dL_law_208 rfl (lv_at hl 3 rfl) ?_
  refine lv_iconst (v := (1 : Int32)) hx hb dL_law_209 (by decide) ?_
  refine lv_iadd hx hb dL_law_210 ?_
  refine va_sld hx hb hX hbl hbA hS h1 dL_law_211 ?_
  refine lv_aload_n hx hb dL_law_212 rfl (lv_at hl 0 rfl) ?_
  refine lv_iload_n hx hb dL_law_213 rfl (lv_at hl 3 rfl) ?_
  refine lv_iconst (v := (2 : Int32)) hx hb dL_law_214 (by decide) ?_
  refine lv_iadd hx hb dL_law_215 ?_
  refine va_sld hx hb hX hbl hbA hS h2 dL_law_216 ?_
  refine lv_aload_n hx hb dL_law_217 rfl (lv_at hl 0 rfl) ?_
  refine lv_iload_n hx hb dL_law_218 rfl (lv_at hl 3 rfl) ?_
  refine lv_iconst (v := (3 : Int32)) hx hb dL_law_219 (by decide) ?_
  refine lv_iadd hx hb dL_law_220 ?_
  refine va_sld hx hb hX hbl hbA hS h3 dL_law_221 ?_
  refine lv_aload_n hx hb dL_law_222 rfl (lv_at hl 0 rfl) ?_
  refine lv_iload_n hx hb dL_law_223 rfl (lv_at hl 3 rfl) ?_
  refine lv_iconst (v := (4 : Int32)) hx hb dL_law_224 (by decide) ?_
  refine lv_iadd hx hb dL_law_225 ?_
  refine va_sld hx hb hX hbl hbA hS h4 dL_law_226 ?_
  refine z_callE (gs2 := fun u : Nat → zS => [(wX6 qM bM gM), (wX0 cI (bM 0) aB R.2.1), (wX0 cI (bM 1) aT R.2.2.1), (wX4 cI (bM 2) aR gR), (wX1 cI (bM 3) aC gC), (wX2 (bM 4) gH), (wX3 cO (bM 5) aY R.2.2.2.1 (zrm u)), (wX5 cI cC (bM 6) aX gX), (wZ cI (u 0)), (wZ cI (u 1)), (wZ cI (u 2)), (wZ cI (u 3)), (wX7 cI qN aN gN)]) hP hD hS hA [0, 1, 2, 6, 8, 9, 10, 11] [3, 4, 5, 7, 12] rfl (fun _ => rfl) (fun _ => rfl) (show List.Perm [0, 1, 2, 6, 8, 9, 10, 11, 3, 4, 5, 7, 12] (List.range 13) from by decide) (fun _ => rfl) (va_runV (As := [.int (xs (x3 + (1 : Int32)).toNatClampNeg), .int (xs (x3 + (2 : Int32)).toNatClampNeg), .int (xs (x3 + (3 : Int32)).toNatClampNeg), .int (xs (x3 + (4 : Int32)).toNatClampNeg)]) (rest := []) ⟨hx, hb, hml, hown, hts⟩ (c_X6_prism l dC dI cI cC cO qM bM gM aB gB aT gT aY gY zZ (xs (x3 + (1 : Int32)).toNatClampNeg) (xs (x3 + (2 : Int32)).toNatClampNeg) (xs (x3 + (3 : Int32)).toNatClampNeg) (xs (x3 + (4 : Int32)).toNatClampNeg) R hfa H.size) (cwV 4 hts gL_law_X6_prism rfl rfl rfl (by decide +kernel) ⟨Nat.le_of_ble_eq_true rfl, Nat.le_of_ble_eq_true rfl⟩) ⟨zpM_blind, va_recv hK hP (ci := 6) (q0 := 0) rfl rfl, z_useM hK hN hP hD [0, 1, 2, 6, 8, 9, 10, 11] [3, 4, 5, 7, 12] rfl (show List.Perm [0, 1, 2, 6, 8, 9, 10, 11, 3, 4, 5, 7, 12] (List.range 13) from by decide)⟩ rfl rfl hl.1 rfl (lv_room (Nat.le_of_ble_eq_true rfl)) dL_law_227 ⟨by show k + 8 ≤ 600000; omega, by show n + 66 ≤ 7302250; omega⟩) (fun u pu H locs hP hD hS => ?_)
  refine W.eq (g2 := F0 m 230 ls [.int R.1]) rfl ?_
  refine lv_aload_n hx hb dL_law_230 rfl (lv_at hl 2 rfl) ?_
  refine lv_aload_n hx hb dL_law_231 rfl (lv_at hl 0 rfl) ?_
  refine lv_iload_n hx hb dL_law_232 rfl (lv_at hl 3 rfl) ?_
  refine lv_iconst (v := (1 : Int32)) hx hb dL_law_233 (by decide) ?_
  refine lv_iadd hx hb dL_law_234 ?_
  refine va_sld hx hb hX hbl hbA hS h1 dL_law_235 ?_
  refine lv_aload_n hx hb dL_law_236 rfl (lv_at hl 0 rfl) ?_
  refine lv_iload_n hx hb dL_law_237 rfl (lv_at hl 3 rfl) ?_
  refine lv_iconst (v := (2 : Int32)) hx hb dL_law_238 (by decide) ?_
  refine lv_iadd hx hb dL_law_239 ?_
  refine va_sld hx hb hX hbl hbA hS h2 dL_law_240 ?_
  refine lv_aload_n hx hb dL_law_241 rfl (lv_at hl 0 rfl) ?_
  refine lv_iload_n hx hb dL_law_242 rfl (lv_at hl 3 rfl) ?_
  refine lv_iconst (v := (3 : Int32)) hx hb dL_law_243 (by decide) ?_
  refine lv_iadd hx hb dL_law_244 ?_
  refine va_sld hx hb hX hbl hbA hS h3 dL_law_245 ?_
  refine lv_aload_n hx hb dL_law_246 rfl (lv_at hl 0 rfl) ?_
  refine lv_iload_n hx hb dL_law_247 rfl (lv_at hl 3 rfl) ?_
  refine lv_iconst (v := (4 : Int32)) hx hb dL_law_248 (by decide) ?_
  refine lv_iadd hx hb dL_law_249 ?_
  refine va_sld hx hb hX hbl hbA hS h4 dL_law_250 ?_
  refine z_callM (gs2 := [(wX6 qM bM gM), (wX0 cI (bM 0) aB R.2.1), (wX0 cI (bM 1) aT R.2.2.1), (wX4 cI (bM 2) aR gR), (wX1 cI (bM 3) aC gC), (wX2 (bM 4) gH), (wX3 cO (bM 5) aY R.2.2.2.1 (zrm u)), (wX5 cI cC (bM 6) aX gX), (wZ cI (u 0)), (wZ cI (u 1)), (wZ cI (u 2)), (wZ cI (u 3)), (wX7 cI qN aN R'.2)]) hP hD hS hA [12] [0, 1, 2, 3, 4, 5, 6, 7, 8, 9, 10, 11] rfl rfl rfl (show List.Perm [12, 0, 1, 2, 3, 4, 5, 6, 7, 8, 9, 10, 11] (List.range 13) from by decide) rfl (va_runV (As := [.int (xs (x3 + (1 : Int32)).toNatClampNeg), .int (xs (x3 + (2 : Int32)).toNatClampNeg), .int (xs (x3 + (3 : Int32)).toNatClampNeg), .int (xs (x3 + (4 : Int32)).toNatClampNeg)]) (rest := [.int R.1]) ⟨hx, hb, hml, hown, hts⟩ (c_X7_prism l dC dI cI cC cO qN aN gN (xs (x3 + (1 : Int32)).toNatClampNeg) (xs (x3 + (2 : Int32)).toNatClampNeg) (xs (x3 + (3 : Int32)).toNatClampNeg) (xs (x3 + (4 : Int32)).toNatClampNeg) R' hfb H.size) (cwV 4 hts gL_law_X7_prism rfl rfl rfl (by decide +kernel) ⟨Nat.le_of_ble_eq_true rfl, Nat.le_of_ble_eq_true rfl⟩) ⟨zpM_blind, z_recv hK hP (ci := 7) (q := (RX7, TX7, 21)) (fs := [.ref (aN 0), .ref (aN 1), .ref (aN 2), .ref (aN 3), .int (gN 4 0), .int (gN 5 0), .ref (aN 6), .int (gN 7 0), .int (gN 8 0), .int (gN 9 0), .int (gN 10 0), .int (gN 11 0), .ref (aN 12), .ref (aN 13), .int (gN 14 0), .int (gN 15 0), .int (gN 16 0), .int (gN 17 0), .int (gN 18 0), .int (gN 19 0), .ref (aN 20)]) rfl (zNmem _ _ _ _ _ _ _ _ _ _ _ _ ()), z_useM hK hN hP hD [12] [0, 1, 2, 3, 4, 5, 6, 7, 8, 9, 10, 11] rfl (show List.Perm [12, 0, 1, 2, 3, 4, 5, 6, 7, 8, 9, 10, 11] (List.range 13) from by decide)⟩ rfl rfl hl.1 rfl (lv_room (Nat.le_of_ble_eq_true rfl)) dL_law_251 ⟨by show (k + 8) + 0 ≤ 600000; omega, by show (n + 66) + 0 ≤ 7302250; omega⟩) (fun H locs hP hD hS => ?_)
  refine W.eq (g2 := F0 m 254 ls [.int R'.1, .int R.1]) rfl ?_
  refine lv_icmp_eq (tgt := 789) hx hb dL_law_254 (by decide) (fun _ => ?_) (fun c_ => absurd hEq c_)
  refine W.widen (k := k + 8) (n := n + 66) (by omega) (by omega) ?_
  exact K gM R.2.1 R.2.2.1 gR gC gH R.2.2.2.1 gX u R'.2 (by rw [pu]; exact hR') H locs ls hP hD hS hl

set_option maxHeartbeats 4000000 in
set_option maxRecDepth 100000 in
theorem lc_slit {p : Program} {l : Launch} {e : Env} {s : State} {m : MethodId} {below : List Frame} {meth : Method} {c : Code} {b L : Nat} {xs : Nat → Int32} {dC : Nat → ClassId} {dI : Nat → Nat → Nat} {cI cC cO : ClassId} (X : lwC p s m c b L xs dC dI cI cC cO) {qM qN : Nat} {bM aB aT aR aC aY aX aN : Nat → Nat} {Q : State → Prop} {x3 : Int32} (h1 : vp_in (x3 + (1 : Int32)) L) (h2 : vp_in (x3 + (2 : Int32)) L) (h3 : vp_in (x3 + (3 : Int32)) L) (h4 : vp_in (x3 + (4 : Int32)) L) {gM gB gT gR gC gH gY gX gN : zG} {zZ : Nat → zS} (hR : zRel gB gX gY (zcn zZ) gN) {k n : Nat} (hk : k + 8 ≤ 600000) (hn : n + 66 ≤ 7302250) (K : lwK p l e s m below meth c b qM qN bM aB aT aR aC aY aX aN dC dI cI cC cO Q x3 (k + 8) (n + 66)) (H : Heap) (locs : List Loc) (ls : Array Slot) (hP : va_P (dC, dI) vwCl [(wX6 qM bM gM), (wX0 cI (bM 0) aB gB), (wX0 cI (bM 1) aT gT), (wX4 cI (bM 2) aR gR), (wX1 cI (bM 3) aC gC), (wX2 (bM 4) gH), (wX3 cO (bM 5) aY gY (zrm zZ)), (wX5 cI cC (bM 6) aX gX), (wZ cI (zZ 0)), (wZ cI (zZ 1)), (wZ cI (zZ 2)), (wZ cI (zZ 3)), (wX7 cI qN aN gN)].flatten H) (hD : va_D (fun q : Nat => s.heap.size ≤ q) [(wX6 qM bM gM), (wX0 cI (bM 0) aB gB), (wX0 cI (bM 1) aT gT), (wX4 cI (bM 2) aR gR), (wX1 cI (bM 3) aC gC), (wX2 (bM 4) gH), (wX3 cO (bM 5) aY gY (zrm zZ)), (wX5 cI cC (bM 6) aX gX), (wZ cI (zZ 0)), (wZ cI (zZ 1)), (wZ cI (zZ 2)), (wZ cI (zZ 3)), (wX7 cI qN aN gN)].flatten) (hS : va_S (fun q : Nat => s.heap.size ≤ q) s.heap H locs) (hl : lv_has ls 4 [(0, .ref b), (1, .ref qM), (2, .ref qN), (3, .int x3)]) : W p l e room_1 s m #[.ref b] below meth c H locs k n Q (F0 m 259 ls []) := by
  obtain ⟨hx, hb, hml, hown, hts, hX, hbl, hK, hN⟩ := X
  have hA : ∀ q : Nat, s.heap.size ≤ q → (fun q : Nat => s.heap.size ≤ q) q := fun _ h => h
  have hbA : ¬ (fun q : Nat => s.heap.size ≤ q) b := Nat.not_le.mpr hbl
  obtain ⟨R, R', hfa, hfb, hEq, hR'⟩ := pm_slit hR gM gT (xs (x3 + (1 : Int32)).toNatClampNeg) (xs (x3 + (2 : Int32)).toNatClampNeg) (xs (x3 + (3 : Int32)).toNatClampNeg)
  refine lv_aload_n hx hb dL_law_259 rfl (lv_at hl 1 rfl) ?_
  refine lv_aload_n hx hb dL_law_260 rfl (lv_at hl 0 rfl) ?_
  refine lv_iload_n hx hb dL_law_261 rfl (lv_at hl 3 rfl) ?_
  refine lv_iconst (v := (1 : Int32)) hx hb dL_law_262 (by decide) ?_
  refine lv_iadd hx hb dL_law_263 ?_
  refine va_sld hx hb hX hbl hbA hS h1 dL_law_264 ?_
  refine lv_aload_n hx hb dL_law_265 rfl (lv_at hl 0 rfl) ?_
  refine lv_iload_n hx hb dL_law_266 rfl (lv_at hl 3 rfl) ?_
  refine lv_iconst (v := (2 : Int32)) hx hb dL_law_267 (by decide) ?_
  refine lv_iadd hx hb dL_law_268 ?_
  refine va_sld hx hb hX hbl hbA hS h2 dL_law_269 ?_
  refine lv_aload_n hx hb dL_law_270 rfl (lv_at hl 0 rfl) ?_
  refine lv_iload_n hx hb dL_law_271 rfl (lv_at hl 3 rfl) ?_
  refine lv_iconst (v := (3 : Int32)) hx hb dL_law_272 (by decide) ?_
  refine lv_iadd hx hb dL_law_273 ?_
  refine va_sld hx hb hX hbl hbA hS h3 dL_law_274 ?_
  refine z_callE (gs2 := fun u : Nat → zS => [(wX6 qM bM gM), (wX0 cI (bM 0) aB R.2.1), (wX0 cI (bM 1) aT R.2.2.1), (wX4 cI (bM 2) aR gR), (wX1 cI (bM 3) aC gC), (wX2 (bM 4) gH), (wX3 cO (bM 5) aY R.2.2.2.1 (zrm u)), (wX5 cI cC (bM 6) aX gX), (wZ cI (u 0)), (wZ cI (u 1)), (wZ cI (u 2)), (wZ cI (u 3)), (wX7 cI qN aN gN)]) hP hD hS hA [0, 1, 2, 6, 8, 9, 10, 11] [3, 4, 5, 7, 12] rfl (fun _ => rfl) (fun _ => rfl) (show List.Perm [0, 1, 2, 6, 8, 9, 10, 11, 3, 4, 5, 7, 12] (List.range 13) from by decide) (fun _ => rfl) (va_runV (As := [.int (xs (x3 + (1 : Int32)).toNatClampNeg), .int (xs (x3 + (2 : Int32)).toNatClampNeg), .int (xs (x3 + (3 : Int32)).toNatClampNeg)]) (rest := []) ⟨hx, hb, hml, hown, hts⟩ (c_X6_slit l dC dI cI cC cO qM bM gM aB gB aT gT aY gY zZ (xs (x3 + (1 : Int32)).toNatClampNeg) (xs (x3 + (2 : Int32)).toNatClampNeg) (xs (x3 + (3 : Int32)).toNatClampNeg) R hfa H.size) (cwV 3 hts gL_law_X6_slit rfl rfl rfl (by decide +kernel) ⟨Nat.le_of_ble_eq_true rfl, Nat.le_of_ble_eq_true rfl⟩) ⟨zpM_blind, va_recv hK hP (ci := 6) (q0 := 0) rfl rfl, z_useM hK hN hP hD [0, 1, 2, 6, 8, 9, 10, 11] [3, 4, 5, 7, 12] rfl (show List.Perm [0, 1, 2, 6, 8, 9, 10, 11, 3, 4, 5, 7, 12] (List.range 13) from by decide)⟩ rfl rfl hl.1 rfl (lv_room (Nat.le_of_ble_eq_true rfl)) dL_law_275 ⟨by show k + 8 ≤ 600000; omega, by show n + 66 ≤ 7302250; omega⟩) (fun u pu H locs hP hD hS => ?_)
  refine W.eq (g2 := F0 m 278 ls [.int R.1]) rfl ?_
  refine lv_aload_n hx hb dL_law_278 rfl (lv_at hl 2 rfl) ?_
  refine lv_aload_n hx hb dL_law_279 rfl (lv_at hl 0 rfl) ?_
  refine lv_iload_n hx hb dL_law_280 rfl (lv_at hl 3 rfl) ?_
  refine lv_iconst (v := (1 : Int32)) hx hb dL_law_281 (by decide) ?_
  refine lv_iadd hx hb dL_law_282 ?_
  refine va_sld hx hb hX hbl hbA hS h1 dL_law_283 ?_
  refine lv_aload_n hx hb dL_law_284 rfl (lv_at hl 0 rfl) ?_
  refine lv_iload_n hx hb dL_law_285 rfl (lv_at hl 3 rfl) ?_
  refine lv_iconst (v := (2 : Int32)) hx hb dL_law_286 (by decide) ?_
  refine lv_iadd hx hb dL_law_287 ?_
  refine va_sld hx hb hX hbl hbA hS h2 dL_law_288 ?_
  refine lv_aload_n hx hb dL_law_289 rfl (lv_at hl 0 rfl) ?_
  refine lv_iload_n hx hb dL_law_290 rfl (lv_at hl 3 rfl) ?_
  refine lv_iconst (v := (3 : Int32)) hx hb dL_law_291 (by decide) ?_
  refine lv_iadd hx hb dL_law_292 ?_
  refine va_sld hx hb hX hbl hbA hS h3 dL_law_293 ?_
  refine z_callM (gs2 := [(wX6 qM bM gM), (wX0 cI (bM 0) aB R.2.1), (wX0 cI (bM 1) aT R.2.2.1), (wX4 cI (bM 2) aR gR), (wX1 cI (bM 3) aC gC), (wX2 (bM 4) gH), (wX3 cO (bM 5) aY R.2.2.2.1 (zrm u)), (wX5 cI cC (bM 6) aX gX), (wZ cI (u 0)), (wZ cI (u 1)), (wZ cI (u 2)), (wZ cI (u 3)), (wX7 cI qN aN R'.2)]) hP hD hS hA [12] [0, 1, 2, 3, 4, 5, 6, 7, 8, 9, 10, 11] rfl rfl rfl (show List.Perm [12, 0, 1, 2, 3, 4, 5, 6, 7, 8, 9, 10, 11] (List.range 13) from by decide) rfl (va_runV (As := [.int (xs (x3 + (1 : Int32)).toNatClampNeg), .int (xs (x3 + (2 : Int32)).toNatClampNeg), .int (xs (x3 + (3 : Int32)).toNatClampNeg)]) (rest := [.int R.1]) ⟨hx, hb, hml, hown, hts⟩ (c_X7_slit l dC dI cI cC cO qN aN gN (xs (x3 + (1 : Int32)).toNatClampNeg) (xs (x3 + (2 : Int32)).toNatClampNeg) (xs (x3 + (3 : Int32)).toNatClampNeg) R' hfb H.size) (cwV 3 hts gL_law_X7_slit rfl rfl rfl (by decide +kernel) ⟨Nat.le_of_ble_eq_true rfl, Nat.le_of_ble_eq_true rfl⟩) ⟨zpM_blind, z_recv hK hP (ci := 7) (q := (RX7, TX7, 21)) (fs := [.ref (aN 0), .ref (aN 1), .ref (aN 2), .ref (aN 3), .int (gN 4 0), .int (gN 5 0), .ref (aN 6), .int (gN 7 0), .int (gN 8 0), .int (gN 9 0), .int (gN 10 0), .int (gN 11 0), .ref (aN 12), .ref (aN 13), .int (gN 14 0), .int (gN 15 0), .int (gN 16 0), .int (gN 17 0), .int (gN 18 0), .int (gN 19 0), .ref (aN 20)]) rfl (zNmem _ _ _ _ _ _ _ _ _ _ _ _ ()), z_useM hK hN hP hD [12] [0, 1, 2, 3, 4, 5, 6, 7, 8, 9, 10, 11] rfl (show List.Perm [12, 0, 1, 2, 3, 4, 5, 6, 7, 8, 9, 10, 11] (List.range 13) from by decide)⟩ rfl rfl hl.1 rfl (lv_room (Nat.le_of_ble_eq_true rfl)) dL_law_294 ⟨by show (k + 8) + 0 ≤ 600000; omega, by show (n + 66) + 0 ≤ 7302250; omega⟩) (fun H locs hP hD hS => ?_)
  refine W.eq (g2 := F0 m 297 ls [.int R'.1, .int R.1]) rfl ?_
  refine lv_icmp_eq (tgt := 789) hx hb dL_law_297 (by decide) (fun _ => ?_) (fun c_ => absurd hEq c_)
  refine W.widen (k := k + 8) (n := n + 66) (by omega) (by omega) ?_
  exact K gM R.2.1 R.2.2.1 gR gC gH R.2.2.2.1 gX u R'.2 (by rw [pu]; exact hR') H locs ls hP hD hS hl

set_option maxHeartbeats 4000000 in
set_option maxRecDepth 100000 in
theorem lc_take {p : Program} {l : Launch} {e : Env} {s : State} {m : MethodId} {below : List Frame} {meth : Method} {c : Code} {b L : Nat} {xs : Nat → Int32} {dC : Nat → ClassId} {dI : Nat → Nat → Nat} {cI cC cO : ClassId} (X : lwC p s m c b L xs dC dI cI cC cO) {qM qN : Nat} {bM aB aT aR aC aY aX aN : Nat → Nat} {Q : State → Prop} {x3 : Int32} (h1 : vp_in (x3 + (1 : Int32)) L) (h2 : vp_in (x3 + (2 : Int32)) L) (h3 : vp_in (x3 + (3 : Int32)) L) (h4 : vp_in (x3 + (4 : Int32)) L) {gM gB gT gR gC gH gY gX gN : zG} {zZ : Nat → zS} (hR : zRel gB gX gY (zcn zZ) gN) {k n : Nat} (hk : k + 8 ≤ 600000) (hn : n + 66 ≤ 7302250) (K : lwK p l e s m below meth c b qM qN bM aB aT aR aC aY aX aN dC dI cI cC cO Q x3 (k + 8) (n + 66)) (H : Heap) (locs : List Loc) (ls : Array Slot) (hP : va_P (dC, dI) vwCl [(wX6 qM bM gM), (wX0 cI (bM 0) aB gB), (wX0 cI (bM 1) aT gT), (wX4 cI (bM 2) aR gR), (wX1 cI (bM 3) aC gC), (wX2 (bM 4) gH), (wX3 cO (bM 5) aY gY (zrm zZ)), (wX5 cI cC (bM 6) aX gX), (wZ cI (zZ 0)), (wZ cI (zZ 1)), (wZ cI (zZ 2)), (wZ cI (zZ 3)), (wX7 cI qN aN gN)].flatten H) (hD : va_D (fun q : Nat => s.heap.size ≤ q) [(wX6 qM bM gM), (wX0 cI (bM 0) aB gB), (wX0 cI (bM 1) aT gT), (wX4 cI (bM 2) aR gR), (wX1 cI (bM 3) aC gC), (wX2 (bM 4) gH), (wX3 cO (bM 5) aY gY (zrm zZ)), (wX5 cI cC (bM 6) aX gX), (wZ cI (zZ 0)), (wZ cI (zZ 1)), (wZ cI (zZ 2)), (wZ cI (zZ 3)), (wX7 cI qN aN gN)].flatten) (hS : va_S (fun q : Nat => s.heap.size ≤ q) s.heap H locs) (hl : lv_has ls 4 [(0, .ref b), (1, .ref qM), (2, .ref qN), (3, .int x3)]) : W p l e room_1 s m #[.ref b] below meth c H locs k n Q (F0 m 302 ls []) := by
  obtain ⟨hx, hb, hml, hown, hts, hX, hbl, hK, hN⟩ := X
  have hA : ∀ q : Nat, s.heap.size ≤ q → (fun q : Nat => s.heap.size ≤ q) q := fun _ h => h
  have hbA : ¬ (fun q : Nat => s.heap.size ≤ q) b := Nat.not_le.mpr hbl
  obtain ⟨R, R', hfa, hfb, hEq, hR'⟩ := pm_take hR gM gT (xs (x3 + (1 : Int32)).toNatClampNeg)
  refine lv_aload_n hx hb dL_law_302 rfl (lv_at hl 1 rfl) ?_
  refine lv_aload_n hx hb dL_law_303 rfl (lv_at hl 0 rfl) ?_
  refine lv_iload_n hx hb dL_law_304 rfl (lv_at hl 3 rfl) ?_
  refine lv_iconst (v := (1 : Int32)) hx hb dL_law_305 (by decide) ?_
  refine lv_iadd hx hb dL_law_306 ?_
  refine va_sld hx hb hX hbl hbA hS h1 dL_law_307 ?_
  refine z_callE (gs2 := fun u : Nat → zS => [(wX6 qM bM gM), (wX0 cI (bM 0) aB R.2.1), (wX0 cI (bM 1) aT R.2.2.1), (wX4 cI (bM 2) aR gR), (wX1 cI (bM 3) aC gC), (wX2 (bM 4) gH), (wX3 cO (bM 5) aY R.2.2.2.1 (zrm u)), (wX5 cI cC (bM 6) aX gX), (wZ cI (u 0)), (wZ cI (u 1)), (wZ cI (u 2)), (wZ cI (u 3)), (wX7 cI qN aN gN)]) hP hD hS hA [0, 1, 2, 6, 8, 9, 10, 11] [3, 4, 5, 7, 12] rfl (fun _ => rfl) (fun _ => rfl) (show List.Perm [0, 1, 2, 6, 8, 9, 10, 11, 3, 4, 5, 7, 12] (List.range 13) from by decide) (fun _ => rfl) (va_runV (As := [.int (xs (x3 + (1 : Int32)).toNatClampNeg)]) (rest := []) ⟨hx, hb, hml, hown, hts⟩ (c_X6_take l dC dI cI cC cO qM bM gM aB gB aT gT aY gY zZ (xs (x3 + (1 : Int32)).toNatClampNeg) R hfa H.size) (cwV 1 hts gL_law_X6_take rfl rfl rfl (by decide +kernel) ⟨Nat.le_of_ble_eq_true rfl, Nat.le_of_ble_eq_true rfl⟩) ⟨zpM_blind, va_recv hK hP (ci := 6) (q0 := 0) rfl rfl, z_useM hK hN hP hD [0, 1, 2, 6, 8, 9, 10, 11] [3, 4, 5, 7, 12] rfl (show List.Perm [0, 1, 2, 6, 8, 9, 10, 11, 3, 4, 5, 7, 12] (List.range 13) from by decide)⟩ rfl rfl hl.1 rfl (lv_room (Nat.le_of_ble_eq_true rfl)) dL_law_308 ⟨by show k + 8 ≤ 600000; omega, by show n + 66 ≤ 7302250; omega⟩) (fun u pu H locs hP hD hS => ?_)
  refine W.eq (g2 := F0 m 311 ls [.int R.1]) rfl ?_
  refine lv_aload_n hx hb dL_law_311 rfl (lv_at hl 2 rfl) ?_
  refine lv_aload_n hx hb dL_law_312 rfl (lv_at hl 0 rfl) ?_
  refine lv_iload_n hx hb dL_law_313 rfl (lv_at hl 3 rfl) ?_
  refine lv_iconst (v := (1 : Int32)) hx hb dL_law_314 (by decide) ?_
  refine lv_iadd hx hb dL_law_315 ?_
  refine va_sld hx hb hX hbl hbA hS h1 dL_law_316 ?_
  refine z_callM (gs2 := [(wX6 qM bM gM), (wX0 cI (bM 0) aB R.2.1), (wX0 cI (bM 1) aT R.2.2.1), (wX4 cI (bM 2) aR gR), (wX1 cI (bM 3) aC gC), (wX2 (bM 4) gH), (wX3 cO (bM 5) aY R.2.2.2.1 (zrm u)), (wX5 cI cC (bM 6) aX gX), (wZ cI (u 0)), (wZ cI (u 1)), (wZ cI (u 2)), (wZ cI (u 3)), (wX7 cI qN aN R'.2)]) hP hD hS hA [12] [0, 1, 2, 3, 4, 5, 6, 7, 8, 9, 10, 11] rfl rfl rfl (show List.Perm [12, 0, 1, 2, 3, 4, 5, 6, 7, 8, 9, 10, 11] (List.range 13) from by decide) rfl (va_runV (As := [.int (xs (x3 + (1 : Int32)).toNatClampNeg)]) (rest := [.int R.1]) ⟨hx, hb, hml, hown, hts⟩ (c_X7_take l dC dI cI cC cO qN aN gN (xs (x3 + (1 : Int32)).toNatClampNeg) R' hfb H.size) (cwV 1 hts gL_law_X7_take rfl rfl rfl (by decide +kernel) ⟨Nat.le_of_ble_eq_true rfl, Nat.le_of_ble_eq_true rfl⟩) ⟨zpM_blind, z_recv hK hP (ci := 7) (q := (RX7, TX7, 21)) (fs := [.ref (aN 0), .ref (aN 1), .ref (aN 2), .ref (aN 3), .int (gN 4 0), .int (gN 5 0), .ref (aN 6), .int (gN 7 0), .int (gN 8 0), .int (gN 9 0), .int (gN 10 0), .int (gN 11 0), .ref (aN 12), .ref (aN 13), .int (gN 14 0), .int (gN 15 0), .int (gN 16 0), .int (gN 17 0), .int (gN 18 0), .int (gN 19 0), .ref (aN 20)]) rfl (zNmem _ _ _ _ _ _ _ _ _ _ _ _ ()), z_useM hK hN hP hD [12] [0, 1, 2, 3, 4, 5, 6, 7, 8, 9, 10, 11] rfl (show List.Perm [12, 0, 1, 2, 3, 4, 5, 6, 7, 8, 9, 10, 11] (List.range 13) from by decide)⟩ rfl rfl hl.1 rfl (lv_room (Nat.le_of_ble_eq_true rfl)) dL_law_317 ⟨by show (k + 8) + 0 ≤ 600000; omega, by show (n + 66) + 0 ≤ 7302250; omega⟩) (fun H locs hP hD hS => ?_)
  refine W.eq (g2 := F0 m 320 ls [.int R'.1, .int R.1]) rfl ?_
  refine lv_icmp_eq (tgt := 789) hx hb dL_law_320 (by decide) (fun _ => ?_) (fun c_ => absurd hEq c_)
  refine W.widen (k := k + 8) (n := n + 66) (by omega) (by omega) ?_
  exact K gM R.2.1 R.2.2.1 gR gC gH R.2.2.2.1 gX u R'.2 (by rw [pu]; exact hR') H locs ls hP hD hS hl

set_option maxHeartbeats 4000000 in
set_option maxRecDepth 100000 in
theorem lc_move {p : Program} {l : Launch} {e : Env} {s : State} {m : MethodId} {below : List Frame} {meth : Method} {c : Code} {b L : Nat} {xs : Nat → Int32} {dC : Nat → ClassId} {dI : Nat → Nat → Nat} {cI cC cO : ClassId} (X : lwC p s m c b L xs dC dI cI cC cO) {qM qN : Nat} {bM aB aT aR aC aY aX aN : Nat → Nat} {Q : State → Prop} {x3 : Int32} (h1 : vp_in (x3 + (1 : Int32)) L) (h2 : vp_in (x3 + (2 : Int32)) L) (h3 : vp_in (x3 + (3 : Int32)) L) (h4 : vp_in (x3 + (4 : Int32)) L) {gM gB gT gR gC gH gY gX gN : zG} {zZ : Nat → zS} (hR : zRel gB gX gY (zcn zZ) gN) {k n : Nat} (hk : k + 8 ≤ 600000) (hn : n + 66 ≤ 7302250) (K : lwK p l e s m below meth c b qM qN bM aB aT aR aC aY aX aN dC dI cI cC cO Q x3 (k + 8) (n + 66)) (H : Heap) (locs : List Loc) (ls : Array Slot) (hP : va_P (dC, dI) vwCl [(wX6 qM bM gM), (wX0 cI (bM 0) aB gB), (wX0 cI (bM 1) aT gT), (wX4 cI (bM 2) aR gR), (wX1 cI (bM 3) aC gC), (wX2 (bM 4) gH), (wX3 cO (bM 5) aY gY (zrm zZ)), (wX5 cI cC (bM 6) aX gX), (wZ cI (zZ 0)), (wZ cI (zZ 1)), (wZ cI (zZ 2)), (wZ cI (zZ 3)), (wX7 cI qN aN gN)].flatten H) (hD : va_D (fun q : Nat => s.heap.size ≤ q) [(wX6 qM bM gM), (wX0 cI (bM 0) aB gB), (wX0 cI (bM 1) aT gT), (wX4 cI (bM 2) aR gR), (wX1 cI (bM 3) aC gC), (wX2 (bM 4) gH), (wX3 cO (bM 5) aY gY (zrm zZ)), (wX5 cI cC (bM 6) aX gX), (wZ cI (zZ 0)), (wZ cI (zZ 1)), (wZ cI (zZ 2)), (wZ cI (zZ 3)), (wX7 cI qN aN gN)].flatten) (hS : va_S (fun q : Nat => s.heap.size ≤ q) s.heap H locs) (hl : lv_has ls 4 [(0, .ref b), (1, .ref qM), (2, .ref qN), (3, .int x3)]) : W p l e room_1 s m #[.ref b] below meth c H locs k n Q (F0 m 325 ls []) := by
  obtain ⟨hx, hb, hml, hown, hts, hX, hbl, hK, hN⟩ := X
  have hA : ∀ q : Nat, s.heap.size ≤ q → (fun q : Nat => s.heap.size ≤ q) q := fun _ h => h
  have hbA : ¬ (fun q : Nat => s.heap.size ≤ q) b := Nat.not_le.mpr hbl
  obtain ⟨R, R', hfa, hfb, hEq, hR'⟩ := pm_move hR gM gT (xs (x3 + (1 : Int32)).toNatClampNeg) (xs (x3 + (2 : Int32)).toNatClampNeg)
  refine lv_aload_n hx hb dL_law_325 rfl (lv_at hl 1 rfl) ?_
  refine lv_aload_n hx hb dL_law_326 rfl (lv_at hl 0 rfl) ?_
  refine lv_iload_n hx hb dL_law_327 rfl (lv_at hl 3 rfl) ?_
  refine lv_iconst (v := (1 : Int32)) hx hb dL_law_328 (by decide) ?_
  refine lv_iadd hx hb dL_law_329 ?_
  refine va_sld hx hb hX hbl hbA hS h1 dL_law_330 ?_
  refine lv_aload_n hx hb dL_law_331 rfl (lv_at hl 0 rfl) ?_
  refine lv_iload_n hx hb dL_law_332 rfl (lv_at hl 3 rfl) ?_
  refine lv_iconst (v := (2 : Int32)) hx hb dL_law_333 (by decide) ?_
  refine lv_iadd hx hb dL_law_334 ?_
  refine va_sld hx hb hX hbl hbA hS h2 dL_law_335 ?_
  refine z_callE (gs2 := fun u : Nat → zS => [(wX6 qM bM gM), (wX0 cI (bM 0) aB R.2.1), (wX0 cI (bM 1) aT R.2.2.1), (wX4 cI (bM 2) aR gR), (wX1 cI (bM 3) aC gC), (wX2 (bM 4) gH), (wX3 cO (bM 5) aY R.2.2.2.1 (zrm u)), (wX5 cI cC (bM 6) aX gX), (wZ cI (u 0)), (wZ cI (u 1)), (wZ cI (u 2)), (wZ cI (u 3)), (wX7 cI qN aN gN)]) hP hD hS hA [0, 1, 2, 6, 8, 9, 10, 11] [3, 4, 5, 7, 12] rfl (fun _ => rfl) (fun _ => rfl) (show List.Perm [0, 1, 2, 6, 8, 9, 10, 11, 3, 4, 5, 7, 12] (List.range 13) from by decide) (fun _ => rfl) (va_runV (As := [.int (xs (x3 + (1 : Int32)).toNatClampNeg), .int (xs (x3 + (2 : Int32)).toNatClampNeg)]) (rest := []) ⟨hx, hb, hml, hown, hts⟩ (c_X6_move l dC dI cI cC cO qM bM gM aB gB aT gT aY gY zZ (xs (x3 + (1 : Int32)).toNatClampNeg) (xs (x3 + (2 : Int32)).toNatClampNeg) R hfa H.size) (cwV 2 hts gL_law_X6_move rfl rfl rfl (by decide +kernel) ⟨Nat.le_of_ble_eq_true rfl, Nat.le_of_ble_eq_true rfl⟩) ⟨zpM_blind, va_recv hK hP (ci := 6) (q0 := 0) rfl rfl, z_useM hK hN hP hD [0, 1, 2, 6, 8, 9, 10, 11] [3, 4, 5, 7, 12] rfl (show List.Perm [0, 1, 2, 6, 8, 9, 10, 11, 3, 4, 5, 7, 12] (List.range 13) from by decide)⟩ rfl rfl hl.1 rfl (lv_room (Nat.le_of_ble_eq_true rfl)) dL_law_336 ⟨by show k + 8 ≤ 600000; omega, by show n + 66 ≤ 7302250; omega⟩) (fun u pu H locs hP hD hS => ?_)
  refine W.eq (g2 := F0 m 339 ls [.int R.1]) rfl ?_
  refine lv_aload_n hx hb dL_law_339 rfl (lv_at hl 2 rfl) ?_
  refine lv_aload_n hx hb dL_law_340 rfl (lv_at hl 0 rfl) ?_
  refine lv_iload_n hx hb dL_law_341 rfl (lv_at hl 3 rfl) ?_
  refine lv_iconst (v := (1 : Int32)) hx hb dL_law_342 (by decide) ?_
  refine lv_iadd hx hb dL_law_343 ?_
  refine va_sld hx hb hX hbl hbA hS h1 dL_law_344 ?_
  refine lv_aload_n hx hb dL_law_345 rfl (lv_at hl 0 rfl) ?_
  refine lv_iload_n hx hb dL_law_346 rfl (lv_at hl 3 rfl) ?_
  refine lv_iconst (v := (2 : Int32)) hx hb dL_law_347 (by decide) ?_
  refine lv_iadd hx hb dL_law_348 ?_
  refine va_sld hx hb hX hbl hbA hS h2 dL_law_349 ?_
  refine z_callM (gs2 := [(wX6 qM bM gM), (wX0 cI (bM 0) aB R.2.1), (wX0 cI (bM 1) aT R.2.2.1), (wX4 cI (bM 2) aR gR), (wX1 cI (bM 3) aC gC), (wX2 (bM 4) gH), (wX3 cO (bM 5) aY R.2.2.2.1 (zrm u)), (wX5 cI cC (bM 6) aX gX), (wZ cI (u 0)), (wZ cI (u 1)), (wZ cI (u 2)), (wZ cI (u 3)), (wX7 cI qN aN R'.2)]) hP hD hS hA [12] [0, 1, 2, 3, 4, 5, 6, 7, 8, 9, 10, 11] rfl rfl rfl (show List.Perm [12, 0, 1, 2, 3, 4, 5, 6, 7, 8, 9, 10, 11] (List.range 13) from by decide) rfl (va_runV (As := [.int (xs (x3 + (1 : Int32)).toNatClampNeg), .int (xs (x3 + (2 : Int32)).toNatClampNeg)]) (rest := [.int R.1]) ⟨hx, hb, hml, hown, hts⟩ (c_X7_move l dC dI cI cC cO qN aN gN (xs (x3 + (1 : Int32)).toNatClampNeg) (xs (x3 + (2 : Int32)).toNatClampNeg) R' hfb H.size) (cwV 2 hts gL_law_X7_move rfl rfl rfl (by decide +kernel) ⟨Nat.le_of_ble_eq_true rfl, Nat.le_of_ble_eq_true rfl⟩) ⟨zpM_blind, z_recv hK hP (ci := 7) (q := (RX7, TX7, 21)) (fs := [.ref (aN 0), .ref (aN 1), .ref (aN 2), .ref (aN 3), .int (gN 4 0), .int (gN 5 0), .ref (aN 6), .int (gN 7 0), .int (gN 8 0), .int (gN 9 0), .int (gN 10 0), .int (gN 11 0), .ref (aN 12), .ref (aN 13), .int (gN 14 0), .int (gN 15 0), .int (gN 16 0), .int (gN 17 0), .int (gN 18 0), .int (gN 19 0), .ref (aN 20)]) rfl (zNmem _ _ _ _ _ _ _ _ _ _ _ _ ()), z_useM hK hN hP hD [12] [0, 1, 2, 3, 4, 5, 6, 7, 8, 9, 10, 11] rfl (show List.Perm [12, 0, 1, 2, 3, 4, 5, 6, 7, 8, 9, 10, 11] (List.range 13) from by decide)⟩ rfl rfl hl.1 rfl (lv_room (Nat.le_of_ble_eq_true rfl)) dL_law_350 ⟨by show (k + 8) + 0 ≤ 600000; omega, by show (n + 66) + 0 ≤ 7302250; omega⟩) (fun H locs hP hD hS => ?_)
  refine W.eq (g2 := F0 m 353 ls [.int R'.1, .int R.1]) rfl ?_
  refine lv_icmp_eq (tgt := 789) hx hb dL_law_353 (by decide) (fun _ => ?_) (fun c_ => absurd hEq c_)
  refine W.widen (k := k + 8) (n := n + 66) (by omega) (by omega) ?_
  exact K gM R.2.1 R.2.2.1 gR gC gH R.2.2.2.1 gX u R'.2 (by rw [pu]; exact hR') H locs ls hP hD hS hl

set_option maxHeartbeats 4000000 in
set_option maxRecDepth 100000 in
theorem lc_set {p : Program} {l : Launch} {e : Env} {s : State} {m : MethodId} {below : List Frame} {meth : Method} {c : Code} {b L : Nat} {xs : Nat → Int32} {dC : Nat → ClassId} {dI : Nat → Nat → Nat} {cI cC cO : ClassId} (X : lwC p s m c b L xs dC dI cI cC cO) {qM qN : Nat} {bM aB aT aR aC aY aX aN : Nat → Nat} {Q : State → Prop} {x3 : Int32} (h1 : vp_in (x3 + (1 : Int32)) L) (h2 : vp_in (x3 + (2 : Int32)) L) (h3 : vp_in (x3 + (3 : Int32)) L) (h4 : vp_in (x3 + (4 : Int32)) L) {gM gB gT gR gC gH gY gX gN : zG} {zZ : Nat → zS} (hR : zRel gB gX gY (zcn zZ) gN) {k n : Nat} (hk : k + 8 ≤ 600000) (hn : n + 66 ≤ 7302250) (K : lwK p l e s m below meth c b qM qN bM aB aT aR aC aY aX aN dC dI cI cC cO Q x3 (k + 8) (n + 66)) (H : Heap) (locs : List Loc) (ls : Array Slot) (hP : va_P (dC, dI) vwCl [(wX6 qM bM gM), (wX0 cI (bM 0) aB gB), (wX0 cI (bM 1) aT gT), (wX4 cI (bM 2) aR gR), (wX1 cI (bM 3) aC gC), (wX2 (bM 4) gH), (wX3 cO (bM 5) aY gY (zrm zZ)), (wX5 cI cC (bM 6) aX gX), (wZ cI (zZ 0)), (wZ cI (zZ 1)), (wZ cI (zZ 2)), (wZ cI (zZ 3)), (wX7 cI qN aN gN)].flatten H) (hD : va_D (fun q : Nat => s.heap.size ≤ q) [(wX6 qM bM gM), (wX0 cI (bM 0) aB gB), (wX0 cI (bM 1) aT gT), (wX4 cI (bM 2) aR gR), (wX1 cI (bM 3) aC gC), (wX2 (bM 4) gH), (wX3 cO (bM 5) aY gY (zrm zZ)), (wX5 cI cC (bM 6) aX gX), (wZ cI (zZ 0)), (wZ cI (zZ 1)), (wZ cI (zZ 2)), (wZ cI (zZ 3)), (wX7 cI qN aN gN)].flatten) (hS : va_S (fun q : Nat => s.heap.size ≤ q) s.heap H locs) (hl : lv_has ls 4 [(0, .ref b), (1, .ref qM), (2, .ref qN), (3, .int x3)]) : W p l e room_1 s m #[.ref b] below meth c H locs k n Q (F0 m 358 ls []) := by
  obtain ⟨hx, hb, hml, hown, hts, hX, hbl, hK, hN⟩ := X
  have hA : ∀ q : Nat, s.heap.size ≤ q → (fun q : Nat => s.heap.size ≤ q) q := fun _ h => h
  have hbA : ¬ (fun q : Nat => s.heap.size ≤ q) b := Nat.not_le.mpr hbl
  obtain ⟨R, R', hfa, hfb, hEq, hR'⟩ := pm_set hR gM gT (xs (x3 + (1 : Int32)).toNatClampNeg) (xs (x3 + (2 : Int32)).toNatClampNeg)
  refine lv_aload_n hx hb dL_law_358 rfl (lv_at hl 1 rfl) ?_
  refine lv_aload_n hx hb dL_law_359 rfl (lv_at hl 0 rfl) ?_
  refine lv_iload_n hx hb dL_law_360 rfl (lv_at hl 3 rfl) ?_
  refine lv_iconst (v := (1 : Int32)) hx hb dL_law_361 (by decide) ?_
  refine lv_iadd hx hb dL_law_362 ?_
  refine va_sld hx hb hX hbl hbA hS h1 dL_law_363 ?_
  refine lv_aload_n hx hb dL_law_364 rfl (lv_at hl 0 rfl) ?_
  refine lv_iload_n hx hb dL_law_365 rfl (lv_at hl 3 rfl) ?_
  refine lv_iconst (v := (2 : Int32)) hx hb dL_law_366 (by decide) ?_
  refine lv_iadd hx hb dL_law_367 ?_
  refine va_sld hx hb hX hbl hbA hS h2 dL_law_368 ?_
  refine z_callE (gs2 := fun u : Nat → zS => [(wX6 qM bM gM), (wX0 cI (bM 0) aB R.2.1), (wX0 cI (bM 1) aT R.2.2.1), (wX4 cI (bM 2) aR gR), (wX1 cI (bM 3) aC gC), (wX2 (bM 4) gH), (wX3 cO (bM 5) aY R.2.2.2.1 (zrm u)), (wX5 cI cC (bM 6) aX gX), (wZ cI (u 0)), (wZ cI (u 1)), (wZ cI (u 2)), (wZ cI (u 3)), (wX7 cI qN aN gN)]) hP hD hS hA [0, 1, 2, 6, 8, 9, 10, 11] [3, 4, 5, 7, 12] rfl (fun _ => rfl) (fun _ => rfl) (show List.Perm [0, 1, 2, 6, 8, 9, 10, 11, 3, 4, 5, 7, 12] (List.range 13) from by decide) (fun _ => rfl) (va_runV (As := [.int (xs (x3 + (1 : Int32)).toNatClampNeg), .int (xs (x3 + (2 : Int32)).toNatClampNeg)]) (rest := []) ⟨hx, hb, hml, hown, hts⟩ (c_X6_set l dC dI cI cC cO qM bM gM aB gB aT gT aY gY zZ (xs (x3 + (1 : Int32)).toNatClampNeg) (xs (x3 + (2 : Int32)).toNatClampNeg) R hfa H.size) (cwV 2 hts gL_law_X6_set rfl rfl rfl (by decide +kernel) ⟨Nat.le_of_ble_eq_true rfl, Nat.le_of_ble_eq_true rfl⟩) ⟨zpM_blind, va_recv hK hP (ci := 6) (q0 := 0) rfl rfl, z_useM hK hN hP hD [0, 1, 2, 6, 8, 9, 10, 11] [3, 4, 5, 7, 12] rfl (show List.Perm [0, 1, 2, 6, 8, 9, 10, 11, 3, 4, 5, 7, 12] (List.range 13) from by decide)⟩ rfl rfl hl.1 rfl (lv_room (Nat.le_of_ble_eq_true rfl)) dL_law_369 ⟨by show k + 8 ≤ 600000; omega, by show n + 66 ≤ 7302250; omega⟩) (fun u pu H locs hP hD hS => ?_)
  refine W.eq (g2 := F0 m 372 ls [.int R.1]) rfl ?_
  refine lv_aload_n hx hb dL_law_372 rfl (lv_at hl 2 rfl) ?_
  refine lv_aload_n hx hb dL_law_373 rfl (lv_at hl 0 rfl) ?_
  refine lv_iload_n hx hb dL_law_374 rfl (lv_at hl 3 rfl) ?_
  refine lv_iconst (v := (1 : Int32)) hx hb dL_law_375 (by decide) ?_
  refine lv_iadd hx hb dL_law_376 ?_
  refine va_sld hx hb hX hbl hbA hS h1 dL_law_377 ?_
  refine lv_aload_n hx hb dL_law_378 rfl (lv_at hl 0 rfl) ?_
  refine lv_iload_n hx hb dL_law_379 rfl (lv_at hl 3 rfl) ?_
  refine lv_iconst (v := (2 : Int32)) hx hb dL_law_380 (by decide) ?_
  refine lv_iadd hx hb dL_law_381 ?_
  refine va_sld hx hb hX hbl hbA hS h2 dL_law_382 ?_
  refine z_callM (gs2 := [(wX6 qM bM gM), (wX0 cI (bM 0) aB R.2.1), (wX0 cI (bM 1) aT R.2.2.1), (wX4 cI (bM 2) aR gR), (wX1 cI (bM 3) aC gC), (wX2 (bM 4) gH), (wX3 cO (bM 5) aY R.2.2.2.1 (zrm u)), (wX5 cI cC (bM 6) aX gX), (wZ cI (u 0)), (wZ cI (u 1)), (wZ cI (u 2)), (wZ cI (u 3)), (wX7 cI qN aN R'.2)]) hP hD hS hA [12] [0, 1, 2, 3, 4, 5, 6, 7, 8, 9, 10, 11] rfl rfl rfl (show List.Perm [12, 0, 1, 2, 3, 4, 5, 6, 7, 8, 9, 10, 11] (List.range 13) from by decide) rfl (va_runV (As := [.int (xs (x3 + (1 : Int32)).toNatClampNeg), .int (xs (x3 + (2 : Int32)).toNatClampNeg)]) (rest := [.int R.1]) ⟨hx, hb, hml, hown, hts⟩ (c_X7_set l dC dI cI cC cO qN aN gN (xs (x3 + (1 : Int32)).toNatClampNeg) (xs (x3 + (2 : Int32)).toNatClampNeg) R' hfb H.size) (cwV 2 hts gL_law_X7_set rfl rfl rfl (by decide +kernel) ⟨Nat.le_of_ble_eq_true rfl, Nat.le_of_ble_eq_true rfl⟩) ⟨zpM_blind, z_recv hK hP (ci := 7) (q := (RX7, TX7, 21)) (fs := [.ref (aN 0), .ref (aN 1), .ref (aN 2), .ref (aN 3), .int (gN 4 0), .int (gN 5 0), .ref (aN 6), .int (gN 7 0), .int (gN 8 0), .int (gN 9 0), .int (gN 10 0), .int (gN 11 0), .ref (aN 12), .ref (aN 13), .int (gN 14 0), .int (gN 15 0), .int (gN 16 0), .int (gN 17 0), .int (gN 18 0), .int (gN 19 0), .ref (aN 20)]) rfl (zNmem _ _ _ _ _ _ _ _ _ _ _ _ ()), z_useM hK hN hP hD [12] [0, 1, 2, 3, 4, 5, 6, 7, 8, 9, 10, 11] rfl (show List.Perm [12, 0, 1, 2, 3, 4, 5, 6, 7, 8, 9, 10, 11] (List.range 13) from by decide)⟩ rfl rfl hl.1 rfl (lv_room (Nat.le_of_ble_eq_true rfl)) dL_law_383 ⟨by show (k + 8) + 0 ≤ 600000; omega, by show (n + 66) + 0 ≤ 7302250; omega⟩) (fun H locs hP hD hS => ?_)
  refine W.eq (g2 := F0 m 386 ls [.int R'.1, .int R.1]) rfl ?_
  refine lv_icmp_eq (tgt := 789) hx hb dL_law_386 (by decide) (fun _ => ?_) (fun c_ => absurd hEq c_)
  refine W.widen (k := k + 8) (n := n + 66) (by omega) (by omega) ?_
  exact K gM R.2.1 R.2.2.1 gR gC gH R.2.2.2.1 gX u R'.2 (by rw [pu]; exact hR') H locs ls hP hD hS hl

set_option maxHeartbeats 4000000 in
set_option maxRecDepth 100000 in
theorem lc_lineOf {p : Program} {l : Launch} {e : Env} {s : State} {m : MethodId} {below : List Frame} {meth : Method} {c : Code} {b L : Nat} {xs : Nat → Int32} {dC : Nat → ClassId} {dI : Nat → Nat → Nat} {cI cC cO : ClassId} (X : lwC p s m c b L xs dC dI cI cC cO) {qM qN : Nat} {bM aB aT aR aC aY aX aN : Nat → Nat} {Q : State → Prop} {x3 : Int32} (h1 : vp_in (x3 + (1 : Int32)) L) (h2 : vp_in (x3 + (2 : Int32)) L) (h3 : vp_in (x3 + (3 : Int32)) L) (h4 : vp_in (x3 + (4 : Int32)) L) {gM gB gT gR gC gH gY gX gN : zG} {zZ : Nat → zS} (hR : zRel gB gX gY (zcn zZ) gN) {k n : Nat} (hk : k + 8 ≤ 600000) (hn : n + 66 ≤ 7302250) (K : lwK p l e s m below meth c b qM qN bM aB aT aR aC aY aX aN dC dI cI cC cO Q x3 (k + 8) (n + 66)) (H : Heap) (locs : List Loc) (ls : Array Slot) (hP : va_P (dC, dI) vwCl [(wX6 qM bM gM), (wX0 cI (bM 0) aB gB), (wX0 cI (bM 1) aT gT), (wX4 cI (bM 2) aR gR), (wX1 cI (bM 3) aC gC), (wX2 (bM 4) gH), (wX3 cO (bM 5) aY gY (zrm zZ)), (wX5 cI cC (bM 6) aX gX), (wZ cI (zZ 0)), (wZ cI (zZ 1)), (wZ cI (zZ 2)), (wZ cI (zZ 3)), (wX7 cI qN aN gN)].flatten H) (hD : va_D (fun q : Nat => s.heap.size ≤ q) [(wX6 qM bM gM), (wX0 cI (bM 0) aB gB), (wX0 cI (bM 1) aT gT), (wX4 cI (bM 2) aR gR), (wX1 cI (bM 3) aC gC), (wX2 (bM 4) gH), (wX3 cO (bM 5) aY gY (zrm zZ)), (wX5 cI cC (bM 6) aX gX), (wZ cI (zZ 0)), (wZ cI (zZ 1)), (wZ cI (zZ 2)), (wZ cI (zZ 3)), (wX7 cI qN aN gN)].flatten) (hS : va_S (fun q : Nat => s.heap.size ≤ q) s.heap H locs) (hl : lv_has ls 4 [(0, .ref b), (1, .ref qM), (2, .ref qN), (3, .int x3)]) : W p l e room_1 s m #[.ref b] below meth c H locs k n Q (F0 m 391 ls []) := by
  obtain ⟨hx, hb, hml, hown, hts, hX, hbl, hK, hN⟩ := X
  have hA : ∀ q : Nat, s.heap.size ≤ q → (fun q : Nat => s.heap.size ≤ q) q := fun _ h => h
  have hbA : ¬ (fun q : Nat => s.heap.size ≤ q) b := Nat.not_le.mpr hbl
  obtain ⟨R, R', hfa, hfb, hEq, hR'⟩ := pm_lineOf hR gM gR (xs (x3 + (1 : Int32)).toNatClampNeg) (xs (x3 + (2 : Int32)).toNatClampNeg)
  refine lv_aload_n hx hb dL_law_391 rfl (lv_at hl 1 rfl) ?_
  refine lv_aload_n hx hb dL_law_392 rfl (lv_at hl 0 rfl) ?_
  refine lv_iload_n hx hb dL_law_393 rfl (lv_at hl 3 rfl) ?_
  refine lv_iconst (v := (1 : Int32)) hx hb dL_law_394 (by decide) ?_
  refine lv_iadd hx hb dL_law_395 ?_
  refine va_sld hx hb hX hbl hbA hS h1 dL_law_396 ?_
  refine lv_aload_n hx hb dL_law_397 rfl (lv_at hl 0 rfl) ?_
  refine lv_iload_n hx hb dL_law_398 rfl (lv_at hl 3 rfl) ?_
  refine lv_iconst (v := (2 : Int32)) hx hb dL_law_399 (by decide) ?_
  refine lv_iadd hx hb dL_law_400 ?_
  refine va_sld hx hb hX hbl hbA hS h2 dL_law_401 ?_
  refine z_callM (gs2 := [(wX6 qM bM gM), (wX0 cI (bM 0) aB gB), (wX0 cI (bM 1) aT gT), (wX4 cI (bM 2) aR R.2), (wX1 cI (bM 3) aC gC), (wX2 (bM 4) gH), (wX3 cO (bM 5) aY gY (zrm zZ)), (wX5 cI cC (bM 6) aX gX), (wZ cI (zZ 0)), (wZ cI (zZ 1)), (wZ cI (zZ 2)), (wZ cI (zZ 3)), (wX7 cI qN aN gN)]) hP hD hS hA [0, 1, 3] [2, 4, 5, 6, 7, 8, 9, 10, 11, 12] rfl rfl rfl (show List.Perm [0, 1, 3, 2, 4, 5, 6, 7, 8, 9, 10, 11, 12] (List.range 13) from by decide) rfl (va_runV (As := [.int (xs (x3 + (1 : Int32)).toNatClampNeg), .int (xs (x3 + (2 : Int32)).toNatClampNeg)]) (rest := []) ⟨hx, hb, hml, hown, hts⟩ (c_X6_lineOf l dC dI cI cC cO qM bM gM aB gB aR gR (xs (x3 + (1 : Int32)).toNatClampNeg) (xs (x3 + (2 : Int32)).toNatClampNeg) R hfa H.size) (cwV 2 hts gL_law_X6_lineOf rfl rfl rfl (by decide +kernel) ⟨Nat.le_of_ble_eq_true rfl, Nat.le_of_ble_eq_true rfl⟩) ⟨zpM_blind, va_recv hK hP (ci := 6) (q0 := 0) rfl rfl, z_useM hK hN hP hD [0, 1, 3] [2, 4, 5, 6, 7, 8, 9, 10, 11, 12] rfl (show List.Perm [0, 1, 3, 2, 4, 5, 6, 7, 8, 9, 10, 11, 12] (List.range 13) from by decide)⟩ rfl rfl hl.1 rfl (lv_room (Nat.le_of_ble_eq_true rfl)) dL_law_402 ⟨by show k + 0 ≤ 600000; omega, by show n + 0 ≤ 7302250; omega⟩) (fun H locs hP hD hS => ?_)
  refine W.eq (g2 := F0 m 405 ls [.int R.1]) rfl ?_
  refine lv_aload_n hx hb dL_law_405 rfl (lv_at hl 2 rfl) ?_
  refine lv_aload_n hx hb dL_law_406 rfl (lv_at hl 0 rfl) ?_
  refine lv_iload_n hx hb dL_law_407 rfl (lv_at hl 3 rfl) ?_
  refine lv_iconst (v := (1 : Int32)) hx hb dL_law_408 (by decide) ?_
  refine lv_iadd hx hb dL_law_409 ?_
  refine va_sld hx hb hX hbl hbA hS h1 dL_law_410 ?_
  refine lv_aload_n hx hb dL_law_411 rfl (lv_at hl 0 rfl) ?_
  refine lv_iload_n hx hb dL_law_412 rfl (lv_at hl 3 rfl) ?_
  refine lv_iconst (v := (2 : Int32)) hx hb dL_law_413 (by decide) ?_
  refine lv_iadd hx hb dL_law_414 ?_
  refine va_sld hx hb hX hbl hbA hS h2 dL_law_415 ?_
  refine z_callM (gs2 := [(wX6 qM bM gM), (wX0 cI (bM 0) aB gB), (wX0 cI (bM 1) aT gT), (wX4 cI (bM 2) aR R.2), (wX1 cI (bM 3) aC gC), (wX2 (bM 4) gH), (wX3 cO (bM 5) aY gY (zrm zZ)), (wX5 cI cC (bM 6) aX gX), (wZ cI (zZ 0)), (wZ cI (zZ 1)), (wZ cI (zZ 2)), (wZ cI (zZ 3)), (wX7 cI qN aN R'.2)]) hP hD hS hA [12] [0, 1, 2, 3, 4, 5, 6, 7, 8, 9, 10, 11] rfl rfl rfl (show List.Perm [12, 0, 1, 2, 3, 4, 5, 6, 7, 8, 9, 10, 11] (List.range 13) from by decide) rfl (va_runV (As := [.int (xs (x3 + (1 : Int32)).toNatClampNeg), .int (xs (x3 + (2 : Int32)).toNatClampNeg)]) (rest := [.int R.1]) ⟨hx, hb, hml, hown, hts⟩ (c_X7_lineOf l dC dI cI cC cO qN aN gN (xs (x3 + (1 : Int32)).toNatClampNeg) (xs (x3 + (2 : Int32)).toNatClampNeg) R' hfb H.size) (cwV 2 hts gL_law_X7_lineOf rfl rfl rfl (by decide +kernel) ⟨Nat.le_of_ble_eq_true rfl, Nat.le_of_ble_eq_true rfl⟩) ⟨zpM_blind, z_recv hK hP (ci := 7) (q := (RX7, TX7, 21)) (fs := [.ref (aN 0), .ref (aN 1), .ref (aN 2), .ref (aN 3), .int (gN 4 0), .int (gN 5 0), .ref (aN 6), .int (gN 7 0), .int (gN 8 0), .int (gN 9 0), .int (gN 10 0), .int (gN 11 0), .ref (aN 12), .ref (aN 13), .int (gN 14 0), .int (gN 15 0), .int (gN 16 0), .int (gN 17 0), .int (gN 18 0), .int (gN 19 0), .ref (aN 20)]) rfl (zNmem _ _ _ _ _ _ _ _ _ _ _ _ ()), z_useM hK hN hP hD [12] [0, 1, 2, 3, 4, 5, 6, 7, 8, 9, 10, 11] rfl (show List.Perm [12, 0, 1, 2, 3, 4, 5, 6, 7, 8, 9, 10, 11] (List.range 13) from by decide)⟩ rfl rfl hl.1 rfl (lv_room (Nat.le_of_ble_eq_true rfl)) dL_law_416 ⟨by show (k + 0) + 0 ≤ 600000; omega, by show (n + 0) + 0 ≤ 7302250; omega⟩) (fun H locs hP hD hS => ?_)
  refine W.eq (g2 := F0 m 419 ls [.int R'.1, .int R.1]) rfl ?_
  refine lv_icmp_eq (tgt := 789) hx hb dL_law_419 (by decide) (fun _ => ?_) (fun c_ => absurd hEq c_)
  refine W.widen (k := k + 8) (n := n + 66) (by omega) (by omega) ?_
  exact K gM gB gT R.2 gC gH gY gX zZ R'.2 hR' H locs ls hP hD hS hl

set_option maxHeartbeats 4000000 in
set_option maxRecDepth 100000 in
theorem lc_thing {p : Program} {l : Launch} {e : Env} {s : State} {m : MethodId} {below : List Frame} {meth : Method} {c : Code} {b L : Nat} {xs : Nat → Int32} {dC : Nat → ClassId} {dI : Nat → Nat → Nat} {cI cC cO : ClassId} (X : lwC p s m c b L xs dC dI cI cC cO) {qM qN : Nat} {bM aB aT aR aC aY aX aN : Nat → Nat} {Q : State → Prop} {x3 : Int32} (h1 : vp_in (x3 + (1 : Int32)) L) (h2 : vp_in (x3 + (2 : Int32)) L) (h3 : vp_in (x3 + (3 : Int32)) L) (h4 : vp_in (x3 + (4 : Int32)) L) {gM gB gT gR gC gH gY gX gN : zG} {zZ : Nat → zS} (hR : zRel gB gX gY (zcn zZ) gN) {k n : Nat} (hk : k + 8 ≤ 600000) (hn : n + 66 ≤ 7302250) (K : lwK p l e s m below meth c b qM qN bM aB aT aR aC aY aX aN dC dI cI cC cO Q x3 (k + 8) (n + 66)) (H : Heap) (locs : List Loc) (ls : Array Slot) (hP : va_P (dC, dI) vwCl [(wX6 qM bM gM), (wX0 cI (bM 0) aB gB), (wX0 cI (bM 1) aT gT), (wX4 cI (bM 2) aR gR), (wX1 cI (bM 3) aC gC), (wX2 (bM 4) gH), (wX3 cO (bM 5) aY gY (zrm zZ)), (wX5 cI cC (bM 6) aX gX), (wZ cI (zZ 0)), (wZ cI (zZ 1)), (wZ cI (zZ 2)), (wZ cI (zZ 3)), (wX7 cI qN aN gN)].flatten H) (hD : va_D (fun q : Nat => s.heap.size ≤ q) [(wX6 qM bM gM), (wX0 cI (bM 0) aB gB), (wX0 cI (bM 1) aT gT), (wX4 cI (bM 2) aR gR), (wX1 cI (bM 3) aC gC), (wX2 (bM 4) gH), (wX3 cO (bM 5) aY gY (zrm zZ)), (wX5 cI cC (bM 6) aX gX), (wZ cI (zZ 0)), (wZ cI (zZ 1)), (wZ cI (zZ 2)), (wZ cI (zZ 3)), (wX7 cI qN aN gN)].flatten) (hS : va_S (fun q : Nat => s.heap.size ≤ q) s.heap H locs) (hl : lv_has ls 4 [(0, .ref b), (1, .ref qM), (2, .ref qN), (3, .int x3)]) : W p l e room_1 s m #[.ref b] below meth c H locs k n Q (F0 m 424 ls []) := by
  obtain ⟨hx, hb, hml, hown, hts, hX, hbl, hK, hN⟩ := X
  have hA : ∀ q : Nat, s.heap.size ≤ q → (fun q : Nat => s.heap.size ≤ q) q := fun _ h => h
  have hbA : ¬ (fun q : Nat => s.heap.size ≤ q) b := Nat.not_le.mpr hbl
  obtain ⟨R, R', hfa, hfb, hEq, hR'⟩ := pm_thing hR gM gR (xs (x3 + (1 : Int32)).toNatClampNeg) (xs (x3 + (2 : Int32)).toNatClampNeg)
  refine lv_aload_n hx hb dL_law_424 rfl (lv_at hl 1 rfl) ?_
  refine lv_aload_n hx hb dL_law_425 rfl (lv_at hl 0 rfl) ?_
  refine lv_iload_n hx hb dL_law_426 rfl (lv_at hl 3 rfl) ?_
  refine lv_iconst (v := (1 : Int32)) hx hb dL_law_427 (by decide) ?_
  refine lv_iadd hx hb dL_law_428 ?_
  refine va_sld hx hb hX hbl hbA hS h1 dL_law_429 ?_
  refine lv_aload_n hx hb dL_law_430 rfl (lv_at hl 0 rfl) ?_
  refine lv_iload_n hx hb dL_law_431 rfl (lv_at hl 3 rfl) ?_
  refine lv_iconst (v := (2 : Int32)) hx hb dL_law_432 (by decide) ?_
  refine lv_iadd hx hb dL_law_433 ?_
  refine va_sld hx hb hX hbl hbA hS h2 dL_law_434 ?_
  refine z_callM (gs2 := [(wX6 qM bM gM), (wX0 cI (bM 0) aB gB), (wX0 cI (bM 1) aT gT), (wX4 cI (bM 2) aR R.2), (wX1 cI (bM 3) aC gC), (wX2 (bM 4) gH), (wX3 cO (bM 5) aY gY (zrm zZ)), (wX5 cI cC (bM 6) aX gX), (wZ cI (zZ 0)), (wZ cI (zZ 1)), (wZ cI (zZ 2)), (wZ cI (zZ 3)), (wX7 cI qN aN gN)]) hP hD hS hA [0, 1, 3] [2, 4, 5, 6, 7, 8, 9, 10, 11, 12] rfl rfl rfl (show List.Perm [0, 1, 3, 2, 4, 5, 6, 7, 8, 9, 10, 11, 12] (List.range 13) from by decide) rfl (va_runV (As := [.int (xs (x3 + (1 : Int32)).toNatClampNeg), .int (xs (x3 + (2 : Int32)).toNatClampNeg)]) (rest := []) ⟨hx, hb, hml, hown, hts⟩ (c_X6_thing l dC dI cI cC cO qM bM gM aB gB aR gR (xs (x3 + (1 : Int32)).toNatClampNeg) (xs (x3 + (2 : Int32)).toNatClampNeg) R hfa H.size) (cwV 2 hts gL_law_X6_thing rfl rfl rfl (by decide +kernel) ⟨Nat.le_of_ble_eq_true rfl, Nat.le_of_ble_eq_true rfl⟩) ⟨zpM_blind, va_recv hK hP (ci := 6) (q0 := 0) rfl rfl, z_useM hK hN hP hD [0, 1, 3] [2, 4, 5, 6, 7, 8, 9, 10, 11, 12] rfl (show List.Perm [0, 1, 3, 2, 4, 5, 6, 7, 8, 9, 10, 11, 12] (List.range 13) from by decide)⟩ rfl rfl hl.1 rfl (lv_room (Nat.le_of_ble_eq_true rfl)) dL_law_435 ⟨by show k + 0 ≤ 600000; omega, by show n + 0 ≤ 7302250; omega⟩) (fun H locs hP hD hS => ?_)
  refine W.eq (g2 := F0 m 438 ls [.int R.1]) rfl ?_
  refine lv_aload_n hx hb dL_law_438 rfl (lv_at hl 2 rfl) ?_
  refine lv_aload_n hx hb dL_law_439 rfl (lv_at hl 0 rfl) ?_
  refine lv_iload_n hx hb dL_law_440 rfl (lv_at hl 3 rfl) ?_
  refine lv_iconst (v := (1 : Int32)) hx hb dL_law_441 (by decide) ?_
  refine lv_iadd hx hb dL_law_442 ?_
  refine va_sld hx hb hX hbl hbA hS h1 dL_law_443 ?_
  refine lv_aload_n hx hb dL_law_444 rfl (lv_at hl 0 rfl) ?_
  refine lv_iload_n hx hb dL_law_445 rfl (lv_at hl 3 rfl) ?_
  refine lv_iconst (v := (2 : Int32)) hx hb dL_law_446 (by decide) ?_
  refine lv_iadd hx hb dL_law_447 ?_
  refine va_sld hx hb hX hbl hbA hS h2 dL_law_448 ?_
  refine z_callM (gs2 := [(wX6 qM bM gM), (wX0 cI (bM 0) aB gB), (wX0 cI (bM 1) aT gT), (wX4 cI (bM 2) aR R.2), (wX1 cI (bM 3) aC gC), (wX2 (bM 4) gH), (wX3 cO (bM 5) aY gY (zrm zZ)), (wX5 cI cC (bM 6) aX gX), (wZ cI (zZ 0)), (wZ cI (zZ 1)), (wZ cI (zZ 2)), (wZ cI (zZ 3)), (wX7 cI qN aN R'.2)]) hP hD hS hA [12] [0, 1, 2, 3, 4, 5, 6, 7, 8, 9, 10, 11] rfl rfl rfl (show List.Perm [12, 0, 1, 2, 3, 4, 5, 6, 7, 8, 9, 10, 11] (List.range 13) from by decide) rfl (va_runV (As := [.int (xs (x3 + (1 : Int32)).toNatClampNeg), .int (xs (x3 + (2 : Int32)).toNatClampNeg)]) (rest := [.int R.1]) ⟨hx, hb, hml, hown, hts⟩ (c_X7_thing l dC dI cI cC cO qN aN gN (xs (x3 + (1 : Int32)).toNatClampNeg) (xs (x3 + (2 : Int32)).toNatClampNeg) R' hfb H.size) (cwV 2 hts gL_law_X7_thing rfl rfl rfl (by decide +kernel) ⟨Nat.le_of_ble_eq_true rfl, Nat.le_of_ble_eq_true rfl⟩) ⟨zpM_blind, z_recv hK hP (ci := 7) (q := (RX7, TX7, 21)) (fs := [.ref (aN 0), .ref (aN 1), .ref (aN 2), .ref (aN 3), .int (gN 4 0), .int (gN 5 0), .ref (aN 6), .int (gN 7 0), .int (gN 8 0), .int (gN 9 0), .int (gN 10 0), .int (gN 11 0), .ref (aN 12), .ref (aN 13), .int (gN 14 0), .int (gN 15 0), .int (gN 16 0), .int (gN 17 0), .int (gN 18 0), .int (gN 19 0), .ref (aN 20)]) rfl (zNmem _ _ _ _ _ _ _ _ _ _ _ _ ()), z_useM hK hN hP hD [12] [0, 1, 2, 3, 4, 5, 6, 7, 8, 9, 10, 11] rfl (show List.Perm [12, 0, 1, 2, 3, 4, 5, 6, 7, 8, 9, 10, 11] (List.range 13) from by decide)⟩ rfl rfl hl.1 rfl (lv_room (Nat.le_of_ble_eq_true rfl)) dL_law_449 ⟨by show (k + 0) + 0 ≤ 600000; omega, by show (n + 0) + 0 ≤ 7302250; omega⟩) (fun H locs hP hD hS => ?_)
  refine W.eq (g2 := F0 m 452 ls [.int R'.1, .int R.1]) rfl ?_
  refine lv_icmp_eq (tgt := 789) hx hb dL_law_452 (by decide) (fun _ => ?_) (fun c_ => absurd hEq c_)
  refine W.widen (k := k + 8) (n := n + 66) (by omega) (by omega) ?_
  exact K gM gB gT R.2 gC gH gY gX zZ R'.2 hR' H locs ls hP hD hS hl

set_option maxHeartbeats 4000000 in
set_option maxRecDepth 100000 in
theorem lc_height {p : Program} {l : Launch} {e : Env} {s : State} {m : MethodId} {below : List Frame} {meth : Method} {c : Code} {b L : Nat} {xs : Nat → Int32} {dC : Nat → ClassId} {dI : Nat → Nat → Nat} {cI cC cO : ClassId} (X : lwC p s m c b L xs dC dI cI cC cO) {qM qN : Nat} {bM aB aT aR aC aY aX aN : Nat → Nat} {Q : State → Prop} {x3 : Int32} (h1 : vp_in (x3 + (1 : Int32)) L) (h2 : vp_in (x3 + (2 : Int32)) L) (h3 : vp_in (x3 + (3 : Int32)) L) (h4 : vp_in (x3 + (4 : Int32)) L) {gM gB gT gR gC gH gY gX gN : zG} {zZ : Nat → zS} (hR : zRel gB gX gY (zcn zZ) gN) {k n : Nat} (hk : k + 8 ≤ 600000) (hn : n + 66 ≤ 7302250) (K : lwK p l e s m below meth c b qM qN bM aB aT aR aC aY aX aN dC dI cI cC cO Q x3 (k + 8) (n + 66)) (H : Heap) (locs : List Loc) (ls : Array Slot) (hP : va_P (dC, dI) vwCl [(wX6 qM bM gM), (wX0 cI (bM 0) aB gB), (wX0 cI (bM 1) aT gT), (wX4 cI (bM 2) aR gR), (wX1 cI (bM 3) aC gC), (wX2 (bM 4) gH), (wX3 cO (bM 5) aY gY (zrm zZ)), (wX5 cI cC (bM 6) aX gX), (wZ cI (zZ 0)), (wZ cI (zZ 1)), (wZ cI (zZ 2)), (wZ cI (zZ 3)), (wX7 cI qN aN gN)].flatten H) (hD : va_D (fun q : Nat => s.heap.size ≤ q) [(wX6 qM bM gM), (wX0 cI (bM 0) aB gB), (wX0 cI (bM 1) aT gT), (wX4 cI (bM 2) aR gR), (wX1 cI (bM 3) aC gC), (wX2 (bM 4) gH), (wX3 cO (bM 5) aY gY (zrm zZ)), (wX5 cI cC (bM 6) aX gX), (wZ cI (zZ 0)), (wZ cI (zZ 1)), (wZ cI (zZ 2)), (wZ cI (zZ 3)), (wX7 cI qN aN gN)].flatten) (hS : va_S (fun q : Nat => s.heap.size ≤ q) s.heap H locs) (hl : lv_has ls 4 [(0, .ref b), (1, .ref qM), (2, .ref qN), (3, .int x3)]) : W p l e room_1 s m #[.ref b] below meth c H locs k n Q (F0 m 457 ls []) := by
  obtain ⟨hx, hb, hml, hown, hts, hX, hbl, hK, hN⟩ := X
  have hA : ∀ q : Nat, s.heap.size ≤ q → (fun q : Nat => s.heap.size ≤ q) q := fun _ h => h
  have hbA : ¬ (fun q : Nat => s.heap.size ≤ q) b := Nat.not_le.mpr hbl
  obtain ⟨R, R', hfa, hfb, hEq, hR'⟩ := pm_height hR gM gR (xs (x3 + (1 : Int32)).toNatClampNeg) (xs (x3 + (2 : Int32)).toNatClampNeg)
  refine lv_aload_n hx hb dL_law_457 rfl (lv_at hl 1 rfl) ?_
  refine lv_aload_n hx hb dL_law_458 rfl (lv_at hl 0 rfl) ?_
  refine lv_iload_n hx hb dL_law_459 rfl (lv_at hl 3 rfl) ?_
  refine lv_iconst (v := (1 : Int32)) hx hb dL_law_460 (by decide) ?_
  refine lv_iadd hx hb dL_law_461 ?_
  refine va_sld hx hb hX hbl hbA hS h1 dL_law_462 ?_
  refine lv_aload_n hx hb dL_law_463 rfl (lv_at hl 0 rfl) ?_
  refine lv_iload_n hx hb dL_law_464 rfl (lv_at hl 3 rfl) ?_
  refine lv_iconst (v := (2 : Int32)) hx hb dL_law_465 (by decide) ?_
  refine lv_iadd hx hb dL_law_466 ?_
  refine va_sld hx hb hX hbl hbA hS h2 dL_law_467 ?_
  refine z_callM (gs2 := [(wX6 qM bM gM), (wX0 cI (bM 0) aB gB), (wX0 cI (bM 1) aT gT), (wX4 cI (bM 2) aR R.2), (wX1 cI (bM 3) aC gC), (wX2 (bM 4) gH), (wX3 cO (bM 5) aY gY (zrm zZ)), (wX5 cI cC (bM 6) aX gX), (wZ cI (zZ 0)), (wZ cI (zZ 1)), (wZ cI (zZ 2)), (wZ cI (zZ 3)), (wX7 cI qN aN gN)]) hP hD hS hA [0, 1, 3] [2, 4, 5, 6, 7, 8, 9, 10, 11, 12] rfl rfl rfl (show List.Perm [0, 1, 3, 2, 4, 5, 6, 7, 8, 9, 10, 11, 12] (List.range 13) from by decide) rfl (va_runV (As := [.int (xs (x3 + (1 : Int32)).toNatClampNeg), .int (xs (x3 + (2 : Int32)).toNatClampNeg)]) (rest := []) ⟨hx, hb, hml, hown, hts⟩ (c_X6_height l dC dI cI cC cO qM bM gM aB gB aR gR (xs (x3 + (1 : Int32)).toNatClampNeg) (xs (x3 + (2 : Int32)).toNatClampNeg) R hfa H.size) (cwV 2 hts gL_law_X6_height rfl rfl rfl (by decide +kernel) ⟨Nat.le_of_ble_eq_true rfl, Nat.le_of_ble_eq_true rfl⟩) ⟨zpM_blind, va_recv hK hP (ci := 6) (q0 := 0) rfl rfl, z_useM hK hN hP hD [0, 1, 3] [2, 4, 5, 6, 7, 8, 9, 10, 11, 12] rfl (show List.Perm [0, 1, 3, 2, 4, 5, 6, 7, 8, 9, 10, 11, 12] (List.range 13) from by decide)⟩ rfl rfl hl.1 rfl (lv_room (Nat.le_of_ble_eq_true rfl)) dL_law_468 ⟨by show k + 0 ≤ 600000; omega, by show n + 0 ≤ 7302250; omega⟩) (fun H locs hP hD hS => ?_)
  refine W.eq (g2 := F0 m 471 ls [.int R.1]) rfl ?_
  refine lv_aload_n hx hb dL_law_471 rfl (lv_at hl 2 rfl) ?_
  refine lv_aload_n hx hb dL_law_472 rfl (lv_at hl 0 rfl) ?_
  refine lv_iload_n hx hb dL_law_473 rfl (lv_at hl 3 rfl) ?_
  refine lv_iconst (v := (1 : Int32)) hx hb dL_law_474 (by decide) ?_
  refine lv_iadd hx hb dL_law_475 ?_
  refine va_sld hx hb hX hbl hbA hS h1 dL_law_476 ?_
  refine lv_aload_n hx hb dL_law_477 rfl (lv_at hl 0 rfl) ?_
  refine lv_iload_n hx hb dL_law_478 rfl (lv_at hl 3 rfl) ?_
  refine lv_iconst (v := (2 : Int32)) hx hb dL_law_479 (by decide) ?_
  refine lv_iadd hx hb dL_law_480 ?_
  refine va_sld hx hb hX hbl hbA hS h2 dL_law_481 ?_
  refine z_callM (gs2 := [(wX6 qM bM gM), (wX0 cI (bM 0) aB gB), (wX0 cI (bM 1) aT gT), (wX4 cI (bM 2) aR R.2), (wX1 cI (bM 3) aC gC), (wX2 (bM 4) gH), (wX3 cO (bM 5) aY gY (zrm zZ)), (wX5 cI cC (bM 6) aX gX), (wZ cI (zZ 0)), (wZ cI (zZ 1)), (wZ cI (zZ 2)), (wZ cI (zZ 3)), (wX7 cI qN aN R'.2)]) hP hD hS hA [12] [0, 1, 2, 3, 4, 5, 6, 7, 8, 9, 10, 11] rfl rfl rfl (show List.Perm [12, 0, 1, 2, 3, 4, 5, 6, 7, 8, 9, 10, 11] (List.range 13) from by decide) rfl (va_runV (As := [.int (xs (x3 + (1 : Int32)).toNatClampNeg), .int (xs (x3 + (2 : Int32)).toNatClampNeg)]) (rest := [.int R.1]) ⟨hx, hb, hml, hown, hts⟩ (c_X7_height l dC dI cI cC cO qN aN gN (xs (x3 + (1 : Int32)).toNatClampNeg) (xs (x3 + (2 : Int32)).toNatClampNeg) R' hfb H.size) (cwV 2 hts gL_law_X7_height rfl rfl rfl (by decide +kernel) ⟨Nat.le_of_ble_eq_true rfl, Nat.le_of_ble_eq_true rfl⟩) ⟨zpM_blind, z_recv hK hP (ci := 7) (q := (RX7, TX7, 21)) (fs := [.ref (aN 0), .ref (aN 1), .ref (aN 2), .ref (aN 3), .int (gN 4 0), .int (gN 5 0), .ref (aN 6), .int (gN 7 0), .int (gN 8 0), .int (gN 9 0), .int (gN 10 0), .int (gN 11 0), .ref (aN 12), .ref (aN 13), .int (gN 14 0), .int (gN 15 0), .int (gN 16 0), .int (gN 17 0), .int (gN 18 0), .int (gN 19 0), .ref (aN 20)]) rfl (zNmem _ _ _ _ _ _ _ _ _ _ _ _ ()), z_useM hK hN hP hD [12] [0, 1, 2, 3, 4, 5, 6, 7, 8, 9, 10, 11] rfl (show List.Perm [12, 0, 1, 2, 3, 4, 5, 6, 7, 8, 9, 10, 11] (List.range 13) from by decide)⟩ rfl rfl hl.1 rfl (lv_room (Nat.le_of_ble_eq_true rfl)) dL_law_482 ⟨by show (k + 0) + 0 ≤ 600000; omega, by show (n + 0) + 0 ≤ 7302250; omega⟩) (fun H locs hP hD hS => ?_)
  refine W.eq (g2 := F0 m 485 ls [.int R'.1, .int R.1]) rfl ?_
  refine lv_icmp_eq (tgt := 789) hx hb dL_law_485 (by decide) (fun _ => ?_) (fun c_ => absurd hEq c_)
  refine W.widen (k := k + 8) (n := n + 66) (by omega) (by omega) ?_
  exact K gM gB gT R.2 gC gH gY gX zZ R'.2 hR' H locs ls hP hD hS hl

set_option maxHeartbeats 4000000 in
set_option maxRecDepth 100000 in
theorem lc_light {p : Program} {l : Launch} {e : Env} {s : State} {m : MethodId} {below : List Frame} {meth : Method} {c : Code} {b L : Nat} {xs : Nat → Int32} {dC : Nat → ClassId} {dI : Nat → Nat → Nat} {cI cC cO : ClassId} (X : lwC p s m c b L xs dC dI cI cC cO) {qM qN : Nat} {bM aB aT aR aC aY aX aN : Nat → Nat} {Q : State → Prop} {x3 : Int32} (h1 : vp_in (x3 + (1 : Int32)) L) (h2 : vp_in (x3 + (2 : Int32)) L) (h3 : vp_in (x3 + (3 : Int32)) L) (h4 : vp_in (x3 + (4 : Int32)) L) {gM gB gT gR gC gH gY gX gN : zG} {zZ : Nat → zS} (hR : zRel gB gX gY (zcn zZ) gN) {k n : Nat} (hk : k + 8 ≤ 600000) (hn : n + 66 ≤ 7302250) (K : lwK p l e s m below meth c b qM qN bM aB aT aR aC aY aX aN dC dI cI cC cO Q x3 (k + 8) (n + 66)) (H : Heap) (locs : List Loc) (ls : Array Slot) (hP : va_P (dC, dI) vwCl [(wX6 qM bM gM), (wX0 cI (bM 0) aB gB), (wX0 cI (bM 1) aT gT), (wX4 cI (bM 2) aR gR), (wX1 cI (bM 3) aC gC), (wX2 (bM 4) gH), (wX3 cO (bM 5) aY gY (zrm zZ)), (wX5 cI cC (bM 6) aX gX), (wZ cI (zZ 0)), (wZ cI (zZ 1)), (wZ cI (zZ 2)), (wZ cI (zZ 3)), (wX7 cI qN aN gN)].flatten H) (hD : va_D (fun q : Nat => s.heap.size ≤ q) [(wX6 qM bM gM), (wX0 cI (bM 0) aB gB), (wX0 cI (bM 1) aT gT), (wX4 cI (bM 2) aR gR), (wX1 cI (bM 3) aC gC), (wX2 (bM 4) gH), (wX3 cO (bM 5) aY gY (zrm zZ)), (wX5 cI cC (bM 6) aX gX), (wZ cI (zZ 0)), (wZ cI (zZ 1)), (wZ cI (zZ 2)), (wZ cI (zZ 3)), (wX7 cI qN aN gN)].flatten) (hS : va_S (fun q : Nat => s.heap.size ≤ q) s.heap H locs) (hl : lv_has ls 4 [(0, .ref b), (1, .ref qM), (2, .ref qN), (3, .int x3)]) : W p l e room_1 s m #[.ref b] below meth c H locs k n Q (F0 m 490 ls []) := by
  obtain ⟨hx, hb, hml, hown, hts, hX, hbl, hK, hN⟩ := X
  have hA : ∀ q : Nat, s.heap.size ≤ q → (fun q : Nat => s.heap.size ≤ q) q := fun _ h => h
  have hbA : ¬ (fun q : Nat => s.heap.size ≤ q) b := Nat.not_le.mpr hbl
  obtain ⟨R, R', hfa, hfb, hEq, hR'⟩ := pm_light hR gM gR gC (xs (x3 + (1 : Int32)).toNatClampNeg)
  refine lv_aload_n hx hb dL_law_490 rfl (lv_at hl 1 rfl) ?_
  refine lv_aload_n hx hb dL_law_491 rfl (lv_at hl 0 rfl) ?_
  refine lv_iload_n hx hb dL_law_492 rfl (lv_at hl 3 rfl) ?_
  refine lv_iconst (v := (1 : Int32)) hx hb dL_law_493 (by decide) ?_
  refine lv_iadd hx hb dL_law_494 ?_
  refine va_sld hx hb hX hbl hbA hS h1 dL_law_495 ?_
  refine z_callM (gs2 := [(wX6 qM bM gM), (wX0 cI (bM 0) aB gB), (wX0 cI (bM 1) aT gT), (wX4 cI (bM 2) aR R.2.1), (wX1 cI (bM 3) aC R.2.2), (wX2 (bM 4) gH), (wX3 cO (bM 5) aY gY (zrm zZ)), (wX5 cI cC (bM 6) aX gX), (wZ cI (zZ 0)), (wZ cI (zZ 1)), (wZ cI (zZ 2)), (wZ cI (zZ 3)), (wX7 cI qN aN gN)]) hP hD hS hA [0, 1, 3, 4] [2, 5, 6, 7, 8, 9, 10, 11, 12] rfl rfl rfl (show List.Perm [0, 1, 3, 4, 2, 5, 6, 7, 8, 9, 10, 11, 12] (List.range 13) from by decide) rfl (va_runV (As := [.int (xs (x3 + (1 : Int32)).toNatClampNeg)]) (rest := []) ⟨hx, hb, hml, hown, hts⟩ (c_X6_light l dC dI cI cC cO qM bM gM aB gB aR gR aC gC (xs (x3 + (1 : Int32)).toNatClampNeg) R hfa H.size) (cwV 1 hts gL_law_X6_light rfl rfl rfl (by decide +kernel) ⟨Nat.le_of_ble_eq_true rfl, Nat.le_of_ble_eq_true rfl⟩) ⟨zpM_blind, va_recv hK hP (ci := 6) (q0 := 0) rfl rfl, z_useM hK hN hP hD [0, 1, 3, 4] [2, 5, 6, 7, 8, 9, 10, 11, 12] rfl (show List.Perm [0, 1, 3, 4, 2, 5, 6, 7, 8, 9, 10, 11, 12] (List.range 13) from by decide)⟩ rfl rfl hl.1 rfl (lv_room (Nat.le_of_ble_eq_true rfl)) dL_law_496 ⟨by show k + 0 ≤ 600000; omega, by show n + 0 ≤ 7302250; omega⟩) (fun H locs hP hD hS => ?_)
  refine W.eq (g2 := F0 m 499 ls [.int R.1]) rfl ?_
  refine lv_aload_n hx hb dL_law_499 rfl (lv_at hl 2 rfl) ?_
  refine lv_aload_n hx hb dL_law_500 rfl (lv_at hl 0 rfl) ?_
  refine lv_iload_n hx hb dL_law_501 rfl (lv_at hl 3 rfl) ?_
  refine lv_iconst (v := (1 : Int32)) hx hb dL_law_502 (by decide) ?_
  refine lv_iadd hx hb dL_law_503 ?_
  refine va_sld hx hb hX hbl hbA hS h1 dL_law_504 ?_
  refine z_callM (gs2 := [(wX6 qM bM gM), (wX0 cI (bM 0) aB gB), (wX0 cI (bM 1) aT gT), (wX4 cI (bM 2) aR R.2.1), (wX1 cI (bM 3) aC R.2.2), (wX2 (bM 4) gH), (wX3 cO (bM 5) aY gY (zrm zZ)), (wX5 cI cC (bM 6) aX gX), (wZ cI (zZ 0)), (wZ cI (zZ 1)), (wZ cI (zZ 2)), (wZ cI (zZ 3)), (wX7 cI qN aN R'.2)]) hP hD hS hA [12] [0, 1, 2, 3, 4, 5, 6, 7, 8, 9, 10, 11] rfl rfl rfl (show List.Perm [12, 0, 1, 2, 3, 4, 5, 6, 7, 8, 9, 10, 11] (List.range 13) from by decide) rfl (va_runV (As := [.int (xs (x3 + (1 : Int32)).toNatClampNeg)]) (rest := [.int R.1]) ⟨hx, hb, hml, hown, hts⟩ (c_X7_light l dC dI cI cC cO qN aN gN (xs (x3 + (1 : Int32)).toNatClampNeg) R' hfb H.size) (cwV 1 hts gL_law_X7_light rfl rfl rfl (by decide +kernel) ⟨Nat.le_of_ble_eq_true rfl, Nat.le_of_ble_eq_true rfl⟩) ⟨zpM_blind, z_recv hK hP (ci := 7) (q := (RX7, TX7, 21)) (fs := [.ref (aN 0), .ref (aN 1), .ref (aN 2), .ref (aN 3), .int (gN 4 0), .int (gN 5 0), .ref (aN 6), .int (gN 7 0), .int (gN 8 0), .int (gN 9 0), .int (gN 10 0), .int (gN 11 0), .ref (aN 12), .ref (aN 13), .int (gN 14 0), .int (gN 15 0), .int (gN 16 0), .int (gN 17 0), .int (gN 18 0), .int (gN 19 0), .ref (aN 20)]) rfl (zNmem _ _ _ _ _ _ _ _ _ _ _ _ ()), z_useM hK hN hP hD [12] [0, 1, 2, 3, 4, 5, 6, 7, 8, 9, 10, 11] rfl (show List.Perm [12, 0, 1, 2, 3, 4, 5, 6, 7, 8, 9, 10, 11] (List.range 13) from by decide)⟩ rfl rfl hl.1 rfl (lv_room (Nat.le_of_ble_eq_true rfl)) dL_law_505 ⟨by show (k + 0) + 0 ≤ 600000; omega, by show (n + 0) + 0 ≤ 7302250; omega⟩) (fun H locs hP hD hS => ?_)
  refine W.eq (g2 := F0 m 508 ls [.int R'.1, .int R.1]) rfl ?_
  refine lv_icmp_eq (tgt := 789) hx hb dL_law_508 (by decide) (fun _ => ?_) (fun c_ => absurd hEq c_)
  refine W.widen (k := k + 8) (n := n + 66) (by omega) (by omega) ?_
  exact K gM gB gT R.2.1 R.2.2 gH gY gX zZ R'.2 hR' H locs ls hP hD hS hl

set_option maxHeartbeats 4000000 in
set_option maxRecDepth 100000 in
theorem lc_bright {p : Program} {l : Launch} {e : Env} {s : State} {m : MethodId} {below : List Frame} {meth : Method} {c : Code} {b L : Nat} {xs : Nat → Int32} {dC : Nat → ClassId} {dI : Nat → Nat → Nat} {cI cC cO : ClassId} (X : lwC p s m c b L xs dC dI cI cC cO) {qM qN : Nat} {bM aB aT aR aC aY aX aN : Nat → Nat} {Q : State → Prop} {x3 : Int32} (h1 : vp_in (x3 + (1 : Int32)) L) (h2 : vp_in (x3 + (2 : Int32)) L) (h3 : vp_in (x3 + (3 : Int32)) L) (h4 : vp_in (x3 + (4 : Int32)) L) {gM gB gT gR gC gH gY gX gN : zG} {zZ : Nat → zS} (hR : zRel gB gX gY (zcn zZ) gN) {k n : Nat} (hk : k + 8 ≤ 600000) (hn : n + 66 ≤ 7302250) (K : lwK p l e s m below meth c b qM qN bM aB aT aR aC aY aX aN dC dI cI cC cO Q x3 (k + 8) (n + 66)) (H : Heap) (locs : List Loc) (ls : Array Slot) (hP : va_P (dC, dI) vwCl [(wX6 qM bM gM), (wX0 cI (bM 0) aB gB), (wX0 cI (bM 1) aT gT), (wX4 cI (bM 2) aR gR), (wX1 cI (bM 3) aC gC), (wX2 (bM 4) gH), (wX3 cO (bM 5) aY gY (zrm zZ)), (wX5 cI cC (bM 6) aX gX), (wZ cI (zZ 0)), (wZ cI (zZ 1)), (wZ cI (zZ 2)), (wZ cI (zZ 3)), (wX7 cI qN aN gN)].flatten H) (hD : va_D (fun q : Nat => s.heap.size ≤ q) [(wX6 qM bM gM), (wX0 cI (bM 0) aB gB), (wX0 cI (bM 1) aT gT), (wX4 cI (bM 2) aR gR), (wX1 cI (bM 3) aC gC), (wX2 (bM 4) gH), (wX3 cO (bM 5) aY gY (zrm zZ)), (wX5 cI cC (bM 6) aX gX), (wZ cI (zZ 0)), (wZ cI (zZ 1)), (wZ cI (zZ 2)), (wZ cI (zZ 3)), (wX7 cI qN aN gN)].flatten) (hS : va_S (fun q : Nat => s.heap.size ≤ q) s.heap H locs) (hl : lv_has ls 4 [(0, .ref b), (1, .ref qM), (2, .ref qN), (3, .int x3)]) : W p l e room_1 s m #[.ref b] below meth c H locs k n Q (F0 m 513 ls []) := by
  obtain ⟨hx, hb, hml, hown, hts, hX, hbl, hK, hN⟩ := X
  have hA : ∀ q : Nat, s.heap.size ≤ q → (fun q : Nat => s.heap.size ≤ q) q := fun _ h => h
  have hbA : ¬ (fun q : Nat => s.heap.size ≤ q) b := Nat.not_le.mpr hbl
  obtain ⟨R, R', hfa, hfb, hEq, hR'⟩ := pm_bright hR gM gR gC (xs (x3 + (1 : Int32)).toNatClampNeg) (xs (x3 + (2 : Int32)).toNatClampNeg)
  refine lv_aload_n hx hb dL_law_513 rfl (lv_at hl 1 rfl) ?_
  refine lv_aload_n hx hb dL_law_514 rfl (lv_at hl 0 rfl) ?_
  refine lv_iload_n hx hb dL_law_515 rfl (lv_at hl 3 rfl) ?_
  refine lv_iconst (v := (1 : Int32)) hx hb dL_law_516 (by decide) ?_
  refine lv_iadd hx hb dL_law_517 ?_
  refine va_sld hx hb hX hbl hbA hS h1 dL_law_518 ?_
  refine lv_aload_n hx hb dL_law_519 rfl (lv_at hl 0 rfl) ?_
  refine lv_iload_n hx hb dL_law_520 rfl (lv_at hl 3 rfl) ?_
  refine lv_iconst (v := (2 : Int32)) hx hb dL_law_521 (by decide) ?_
  refine lv_iadd hx hb dL_law_522 ?_
  refine va_sld hx hb hX hbl hbA hS h2 dL_law_523 ?_
  refine z_callM (gs2 := [(wX6 qM bM gM), (wX0 cI (bM 0) aB gB), (wX0 cI (bM 1) aT gT), (wX4 cI (bM 2) aR R.2.1), (wX1 cI (bM 3) aC R.2.2), (wX2 (bM 4) gH), (wX3 cO (bM 5) aY gY (zrm zZ)), (wX5 cI cC (bM 6) aX gX), (wZ cI (zZ 0)), (wZ cI (zZ 1)), (wZ cI (zZ 2)), (wZ cI (zZ 3)), (wX7 cI qN aN gN)]) hP hD hS hA [0, 1, 3, 4] [2, 5, 6, 7, 8, 9, 10, 11, 12] rfl rfl rfl (show List.Perm [0, 1, 3, 4, 2, 5, 6, 7, 8, 9, 10, 11, 12] (List.range 13) from by decide) rfl (va_runV (As := [.int (xs (x3 + (1 : Int32)).toNatClampNeg), .int (xs (x3 + (2 : Int32)).toNatClampNeg)]) (rest := []) ⟨hx, hb, hml, hown, hts⟩ (c_X6_bright l dC dI cI cC cO qM bM gM aB gB aR gR aC gC (xs (x3 + (1 : Int32)).toNatClampNeg) (xs (x3 + (2 : Int32)).toNatClampNeg) R hfa H.size) (cwV 2 hts gL_law_X6_bright rfl rfl rfl (by decide +kernel) ⟨Nat.le_of_ble_eq_true rfl, Nat.le_of_ble_eq_true rfl⟩) ⟨zpM_blind, va_recv hK hP (ci := 6) (q0 := 0) rfl rfl, z_useM hK hN hP hD [0, 1, 3, 4] [2, 5, 6, 7, 8, 9, 10, 11, 12] rfl (show List.Perm [0, 1, 3, 4, 2, 5, 6, 7, 8, 9, 10, 11, 12] (List.range 13) from by decide)⟩ rfl rfl hl.1 rfl (lv_room (Nat.le_of_ble_eq_true rfl)) dL_law_524 ⟨by show k + 0 ≤ 600000; omega, by show n + 0 ≤ 7302250; omega⟩) (fun H locs hP hD hS => ?_)
  refine W.eq (g2 := F0 m 527 ls [.int R.1]) rfl ?_
  refine lv_aload_n hx hb dL_law_527 rfl (lv_at hl 2 rfl) ?_
  refine lv_aload_n hx hb dL_law_528 rfl (lv_at hl 0 rfl) ?_
  refine lv_iload_n hx hb dL_law_529 rfl (lv_at hl 3 rfl) ?_
  refine lv_iconst (v := (1 : Int32)) hx hb dL_law_530 (by decide) ?_
  refine lv_iadd hx hb dL_law_531 ?_
  refine va_sld hx hb hX hbl hbA hS h1 dL_law_532 ?_
  refine lv_aload_n hx hb dL_law_533 rfl (lv_at hl 0 rfl) ?_
  refine lv_iload_n hx hb dL_law_534 rfl (lv_at hl 3 rfl) ?_
  refine lv_iconst (v := (2 : Int32)) hx hb dL_law_535 (by decide) ?_
  refine lv_iadd hx hb dL_law_536 ?_
  refine va_sld hx hb hX hbl hbA hS h2 dL_law_537 ?_
  refine z_callM (gs2 := [(wX6 qM bM gM), (wX0 cI (bM 0) aB gB), (wX0 cI (bM 1) aT gT), (wX4 cI (bM 2) aR R.2.1), (wX1 cI (bM 3) aC R.2.2), (wX2 (bM 4) gH), (wX3 cO (bM 5) aY gY (zrm zZ)), (wX5 cI cC (bM 6) aX gX), (wZ cI (zZ 0)), (wZ cI (zZ 1)), (wZ cI (zZ 2)), (wZ cI (zZ 3)), (wX7 cI qN aN R'.2)]) hP hD hS hA [12] [0, 1, 2, 3, 4, 5, 6, 7, 8, 9, 10, 11] rfl rfl rfl (show List.Perm [12, 0, 1, 2, 3, 4, 5, 6, 7, 8, 9, 10, 11] (List.range 13) from by decide) rfl (va_runV (As := [.int (xs (x3 + (1 : Int32)).toNatClampNeg), .int (xs (x3 + (2 : Int32)).toNatClampNeg)]) (rest := [.int R.1]) ⟨hx, hb, hml, hown, hts⟩ (c_X7_bright l dC dI cI cC cO qN aN gN (xs (x3 + (1 : Int32)).toNatClampNeg) (xs (x3 + (2 : Int32)).toNatClampNeg) R' hfb H.size) (cwV 2 hts gL_law_X7_bright rfl rfl rfl (by decide +kernel) ⟨Nat.le_of_ble_eq_true rfl, Nat.le_of_ble_eq_true rfl⟩) ⟨zpM_blind, z_recv hK hP (ci := 7) (q := (RX7, TX7, 21)) (fs := [.ref (aN 0), .ref (aN 1), .ref (aN 2), .ref (aN 3), .int (gN 4 0), .int (gN 5 0), .ref (aN 6), .int (gN 7 0), .int (gN 8 0), .int (gN 9 0), .int (gN 10 0), .int (gN 11 0), .ref (aN 12), .ref (aN 13), .int (gN 14 0), .int (gN 15 0), .int (gN 16 0), .int (gN 17 0), .int (gN 18 0), .int (gN 19 0), .ref (aN 20)]) rfl (zNmem _ _ _ _ _ _ _ _ _ _ _ _ ()), z_useM hK hN hP hD [12] [0, 1, 2, 3, 4, 5, 6, 7, 8, 9, 10, 11] rfl (show List.Perm [12, 0, 1, 2, 3, 4, 5, 6, 7, 8, 9, 10, 11] (List.range 13) from by decide)⟩ rfl rfl hl.1 rfl (lv_room (Nat.le_of_ble_eq_true rfl)) dL_law_538 ⟨by show (k + 0) + 0 ≤ 600000; omega, by show (n + 0) + 0 ≤ 7302250; omega⟩) (fun H locs hP hD hS => ?_)
  refine W.eq (g2 := F0 m 541 ls [.int R'.1, .int R.1]) rfl ?_
  refine lv_icmp_eq (tgt := 789) hx hb dL_law_541 (by decide) (fun _ => ?_) (fun c_ => absurd hEq c_)
  refine W.widen (k := k + 8) (n := n + 66) (by omega) (by omega) ?_
  exact K gM gB gT R.2.1 R.2.2 gH gY gX zZ R'.2 hR' H locs ls hP hD hS hl

set_option maxHeartbeats 4000000 in
set_option maxRecDepth 100000 in
theorem lc_bending {p : Program} {l : Launch} {e : Env} {s : State} {m : MethodId} {below : List Frame} {meth : Method} {c : Code} {b L : Nat} {xs : Nat → Int32} {dC : Nat → ClassId} {dI : Nat → Nat → Nat} {cI cC cO : ClassId} (X : lwC p s m c b L xs dC dI cI cC cO) {qM qN : Nat} {bM aB aT aR aC aY aX aN : Nat → Nat} {Q : State → Prop} {x3 : Int32} (h1 : vp_in (x3 + (1 : Int32)) L) (h2 : vp_in (x3 + (2 : Int32)) L) (h3 : vp_in (x3 + (3 : Int32)) L) (h4 : vp_in (x3 + (4 : Int32)) L) {gM gB gT gR gC gH gY gX gN : zG} {zZ : Nat → zS} (hR : zRel gB gX gY (zcn zZ) gN) {k n : Nat} (hk : k + 8 ≤ 600000) (hn : n + 66 ≤ 7302250) (K : lwK p l e s m below meth c b qM qN bM aB aT aR aC aY aX aN dC dI cI cC cO Q x3 (k + 8) (n + 66)) (H : Heap) (locs : List Loc) (ls : Array Slot) (hP : va_P (dC, dI) vwCl [(wX6 qM bM gM), (wX0 cI (bM 0) aB gB), (wX0 cI (bM 1) aT gT), (wX4 cI (bM 2) aR gR), (wX1 cI (bM 3) aC gC), (wX2 (bM 4) gH), (wX3 cO (bM 5) aY gY (zrm zZ)), (wX5 cI cC (bM 6) aX gX), (wZ cI (zZ 0)), (wZ cI (zZ 1)), (wZ cI (zZ 2)), (wZ cI (zZ 3)), (wX7 cI qN aN gN)].flatten H) (hD : va_D (fun q : Nat => s.heap.size ≤ q) [(wX6 qM bM gM), (wX0 cI (bM 0) aB gB), (wX0 cI (bM 1) aT gT), (wX4 cI (bM 2) aR gR), (wX1 cI (bM 3) aC gC), (wX2 (bM 4) gH), (wX3 cO (bM 5) aY gY (zrm zZ)), (wX5 cI cC (bM 6) aX gX), (wZ cI (zZ 0)), (wZ cI (zZ 1)), (wZ cI (zZ 2)), (wZ cI (zZ 3)), (wX7 cI qN aN gN)].flatten) (hS : va_S (fun q : Nat => s.heap.size ≤ q) s.heap H locs) (hl : lv_has ls 4 [(0, .ref b), (1, .ref qM), (2, .ref qN), (3, .int x3)]) : W p l e room_1 s m #[.ref b] below meth c H locs k n Q (F0 m 546 ls []) := by
  obtain ⟨hx, hb, hml, hown, hts, hX, hbl, hK, hN⟩ := X
  have hA : ∀ q : Nat, s.heap.size ≤ q → (fun q : Nat => s.heap.size ≤ q) q := fun _ h => h
  have hbA : ¬ (fun q : Nat => s.heap.size ≤ q) b := Nat.not_le.mpr hbl
  obtain ⟨R, R', hfa, hfb, hEq, hR'⟩ := pm_bending hR gM (xs (x3 + (1 : Int32)).toNatClampNeg) (xs (x3 + (2 : Int32)).toNatClampNeg)
  refine lv_aload_n hx hb dL_law_546 rfl (lv_at hl 1 rfl) ?_
  refine lv_aload_n hx hb dL_law_547 rfl (lv_at hl 0 rfl) ?_
  refine lv_iload_n hx hb dL_law_548 rfl (lv_at hl 3 rfl) ?_
  refine lv_iconst (v := (1 : Int32)) hx hb dL_law_549 (by decide) ?_
  refine lv_iadd hx hb dL_law_550 ?_
  refine va_sld hx hb hX hbl hbA hS h1 dL_law_551 ?_
  refine lv_aload_n hx hb dL_law_552 rfl (lv_at hl 0 rfl) ?_
  refine lv_iload_n hx hb dL_law_553 rfl (lv_at hl 3 rfl) ?_
  refine lv_iconst (v := (2 : Int32)) hx hb dL_law_554 (by decide) ?_
  refine lv_iadd hx hb dL_law_555 ?_
  refine va_sld hx hb hX hbl hbA hS h2 dL_law_556 ?_
  refine z_callRi (va_runV (As := [.int (xs (x3 + (1 : Int32)).toNatClampNeg), .int (xs (x3 + (2 : Int32)).toNatClampNeg)]) (rest := []) ⟨hx, hb, hml, hown, hts⟩ (c_X6_bending l dC dI cI cC cO qM bM gM (xs (x3 + (1 : Int32)).toNatClampNeg) (xs (x3 + (2 : Int32)).toNatClampNeg) R hfa) (cwV 2 hts gL_law_X6_bending rfl rfl rfl (by decide +kernel) ⟨Nat.le_of_ble_eq_true rfl, Nat.le_of_ble_eq_true rfl⟩) ⟨zpR_blind, va_recv hK hP (ci := 6) (q0 := 0) rfl rfl, z_useR hK hN hP [0] rfl⟩ rfl rfl hl.1 rfl (lv_room (Nat.le_of_ble_eq_true rfl)) dL_law_557 ⟨by show k + 0 ≤ 600000; omega, by show n + 0 ≤ 7302250; omega⟩) ?_
  refine lv_aload_n hx hb dL_law_560 rfl (lv_at hl 2 rfl) ?_
  refine lv_aload_n hx hb dL_law_561 rfl (lv_at hl 0 rfl) ?_
  refine lv_iload_n hx hb dL_law_562 rfl (lv_at hl 3 rfl) ?_
  refine lv_iconst (v := (1 : Int32)) hx hb dL_law_563 (by decide) ?_
  refine lv_iadd hx hb dL_law_564 ?_
  refine va_sld hx hb hX hbl hbA hS h1 dL_law_565 ?_
  refine lv_aload_n hx hb dL_law_566 rfl (lv_at hl 0 rfl) ?_
  refine lv_iload_n hx hb dL_law_567 rfl (lv_at hl 3 rfl) ?_
  refine lv_iconst (v := (2 : Int32)) hx hb dL_law_568 (by decide) ?_
  refine lv_iadd hx hb dL_law_569 ?_
  refine va_sld hx hb hX hbl hbA hS h2 dL_law_570 ?_
  refine z_callRi (va_runV (As := [.int (xs (x3 + (1 : Int32)).toNatClampNeg), .int (xs (x3 + (2 : Int32)).toNatClampNeg)]) (rest := [.int R]) ⟨hx, hb, hml, hown, hts⟩ (c_X7_bending l dC dI cI cC cO qN aN gN (xs (x3 + (1 : Int32)).toNatClampNeg) (xs (x3 + (2 : Int32)).toNatClampNeg) R' hfb) (cwV 2 hts gL_law_X7_bending rfl rfl rfl (by decide +kernel) ⟨Nat.le_of_ble_eq_true rfl, Nat.le_of_ble_eq_true rfl⟩) ⟨zpR_blind, z_recv hK hP (ci := 7) (q := (RX7, TX7, 21)) (fs := [.ref (aN 0), .ref (aN 1), .ref (aN 2), .ref (aN 3), .int (gN 4 0), .int (gN 5 0), .ref (aN 6), .int (gN 7 0), .int (gN 8 0), .int (gN 9 0), .int (gN 10 0), .int (gN 11 0), .ref (aN 12), .ref (aN 13), .int (gN 14 0), .int (gN 15 0), .int (gN 16 0), .int (gN 17 0), .int (gN 18 0), .int (gN 19 0), .ref (aN 20)]) rfl (zNmem _ _ _ _ _ _ _ _ _ _ _ _ ()), z_useR hK hN hP [12] rfl⟩ rfl rfl hl.1 rfl (lv_room (Nat.le_of_ble_eq_true rfl)) dL_law_571 ⟨by show k + 0 ≤ 600000; omega, by show n + 0 ≤ 7302250; omega⟩) ?_
  refine lv_icmp_eq (tgt := 789) hx hb dL_law_574 (by decide) (fun _ => ?_) (fun c_ => absurd hEq c_)
  refine W.widen (k := k + 8) (n := n + 66) (by omega) (by omega) ?_
  exact K gM gB gT gR gC gH gY gX zZ gN hR' H locs ls hP hD hS hl

set_option maxHeartbeats 4000000 in
set_option maxRecDepth 100000 in
theorem lc_best {p : Program} {l : Launch} {e : Env} {s : State} {m : MethodId} {below : List Frame} {meth : Method} {c : Code} {b L : Nat} {xs : Nat → Int32} {dC : Nat → ClassId} {dI : Nat → Nat → Nat} {cI cC cO : ClassId} (X : lwC p s m c b L xs dC dI cI cC cO) {qM qN : Nat} {bM aB aT aR aC aY aX aN : Nat → Nat} {Q : State → Prop} {x3 : Int32} (h1 : vp_in (x3 + (1 : Int32)) L) (h2 : vp_in (x3 + (2 : Int32)) L) (h3 : vp_in (x3 + (3 : Int32)) L) (h4 : vp_in (x3 + (4 : Int32)) L) {gM gB gT gR gC gH gY gX gN : zG} {zZ : Nat → zS} (hR : zRel gB gX gY (zcn zZ) gN) {k n : Nat} (hk : k + 8 ≤ 600000) (hn : n + 66 ≤ 7302250) (K : lwK p l e s m below meth c b qM qN bM aB aT aR aC aY aX aN dC dI cI cC cO Q x3 (k + 8) (n + 66)) (H : Heap) (locs : List Loc) (ls : Array Slot) (hP : va_P (dC, dI) vwCl [(wX6 qM bM gM), (wX0 cI (bM 0) aB gB), (wX0 cI (bM 1) aT gT), (wX4 cI (bM 2) aR gR), (wX1 cI (bM 3) aC gC), (wX2 (bM 4) gH), (wX3 cO (bM 5) aY gY (zrm zZ)), (wX5 cI cC (bM 6) aX gX), (wZ cI (zZ 0)), (wZ cI (zZ 1)), (wZ cI (zZ 2)), (wZ cI (zZ 3)), (wX7 cI qN aN gN)].flatten H) (hD : va_D (fun q : Nat => s.heap.size ≤ q) [(wX6 qM bM gM), (wX0 cI (bM 0) aB gB), (wX0 cI (bM 1) aT gT), (wX4 cI (bM 2) aR gR), (wX1 cI (bM 3) aC gC), (wX2 (bM 4) gH), (wX3 cO (bM 5) aY gY (zrm zZ)), (wX5 cI cC (bM 6) aX gX), (wZ cI (zZ 0)), (wZ cI (zZ 1)), (wZ cI (zZ 2)), (wZ cI (zZ 3)), (wX7 cI qN aN gN)].flatten) (hS : va_S (fun q : Nat => s.heap.size ≤ q) s.heap H locs) (hl : lv_has ls 4 [(0, .ref b), (1, .ref qM), (2, .ref qN), (3, .int x3)]) : W p l e room_1 s m #[.ref b] below meth c H locs k n Q (F0 m 579 ls []) := by
  obtain ⟨hx, hb, hml, hown, hts, hX, hbl, hK, hN⟩ := X
  have hA : ∀ q : Nat, s.heap.size ≤ q → (fun q : Nat => s.heap.size ≤ q) q := fun _ h => h
  have hbA : ¬ (fun q : Nat => s.heap.size ≤ q) b := Nat.not_le.mpr hbl
  obtain ⟨R, R', hfa, hfb, hEq, hR'⟩ := pm_best hR gM gT gR gH (xs (x3 + (1 : Int32)).toNatClampNeg) (xs (x3 + (2 : Int32)).toNatClampNeg)
  refine lv_aload_n hx hb dL_law_579 rfl (lv_at hl 1 rfl) ?_
  refine lv_aload_n hx hb dL_law_580 rfl (lv_at hl 0 rfl) ?_
  refine lv_iload_n hx hb dL_law_581 rfl (lv_at hl 3 rfl) ?_
  refine lv_iconst (v := (1 : Int32)) hx hb dL_law_582 (by decide) ?_
  refine lv_iadd hx hb dL_law_583 ?_
  refine va_sld hx hb hX hbl hbA hS h1 dL_law_584 ?_
  refine lv_aload_n hx hb dL_law_585 rfl (lv_at hl 0 rfl) ?_
  refine lv_iload_n hx hb dL_law_586 rfl (lv_at hl 3 rfl) ?_
  refine lv_iconst (v := (2 : Int32)) hx hb dL_law_587 (by decide) ?_
  refine lv_iadd hx hb dL_law_588 ?_
  refine va_sld hx hb hX hbl hbA hS h2 dL_law_589 ?_
  refine z_callM (gs2 := [(wX6 qM bM gM), (wX0 cI (bM 0) aB gB), (wX0 cI (bM 1) aT R.2.1), (wX4 cI (bM 2) aR R.2.2.1), (wX1 cI (bM 3) aC gC), (wX2 (bM 4) R.2.2.2), (wX3 cO (bM 5) aY gY (zrm zZ)), (wX5 cI cC (bM 6) aX gX), (wZ cI (zZ 0)), (wZ cI (zZ 1)), (wZ cI (zZ 2)), (wZ cI (zZ 3)), (wX7 cI qN aN gN)]) hP hD hS hA [0, 1, 2, 3, 5] [4, 6, 7, 8, 9, 10, 11, 12] rfl rfl rfl (show List.Perm [0, 1, 2, 3, 5, 4, 6, 7, 8, 9, 10, 11, 12] (List.range 13) from by decide) rfl (va_runV (As := [.int (xs (x3 + (1 : Int32)).toNatClampNeg), .int (xs (x3 + (2 : Int32)).toNatClampNeg)]) (rest := []) ⟨hx, hb, hml, hown, hts⟩ (c_X6_best l dC dI cI cC cO qM bM gM aB gB aT gT aR gR gH (xs (x3 + (1 : Int32)).toNatClampNeg) (xs (x3 + (2 : Int32)).toNatClampNeg) R hfa H.size) (cwV 2 hts gL_law_X6_best rfl rfl rfl (by decide +kernel) ⟨Nat.le_of_ble_eq_true rfl, Nat.le_of_ble_eq_true rfl⟩) ⟨zpM_blind, va_recv hK hP (ci := 6) (q0 := 0) rfl rfl, z_useM hK hN hP hD [0, 1, 2, 3, 5] [4, 6, 7, 8, 9, 10, 11, 12] rfl (show List.Perm [0, 1, 2, 3, 5, 4, 6, 7, 8, 9, 10, 11, 12] (List.range 13) from by decide)⟩ rfl rfl hl.1 rfl (lv_room (Nat.le_of_ble_eq_true rfl)) dL_law_590 ⟨by show k + 0 ≤ 600000; omega, by show n + 0 ≤ 7302250; omega⟩) (fun H locs hP hD hS => ?_)
  refine W.eq (g2 := F0 m 593 ls [.int R.1]) rfl ?_
  refine lv_aload_n hx hb dL_law_593 rfl (lv_at hl 2 rfl) ?_
  refine lv_aload_n hx hb dL_law_594 rfl (lv_at hl 0 rfl) ?_
  refine lv_iload_n hx hb dL_law_595 rfl (lv_at hl 3 rfl) ?_
  refine lv_iconst (v := (1 : Int32)) hx hb dL_law_596 (by decide) ?_
  refine lv_iadd hx hb dL_law_597 ?_
  refine va_sld hx hb hX hbl hbA hS h1 dL_law_598 ?_
  refine lv_aload_n hx hb dL_law_599 rfl (lv_at hl 0 rfl) ?_
  refine lv_iload_n hx hb dL_law_600 rfl (lv_at hl 3 rfl) ?_
  refine lv_iconst (v := (2 : Int32)) hx hb dL_law_601 (by decide) ?_
  refine lv_iadd hx hb dL_law_602 ?_
  refine va_sld hx hb hX hbl hbA hS h2 dL_law_603 ?_
  refine z_callM (gs2 := [(wX6 qM bM gM), (wX0 cI (bM 0) aB gB), (wX0 cI (bM 1) aT R.2.1), (wX4 cI (bM 2) aR R.2.2.1), (wX1 cI (bM 3) aC gC), (wX2 (bM 4) R.2.2.2), (wX3 cO (bM 5) aY gY (zrm zZ)), (wX5 cI cC (bM 6) aX gX), (wZ cI (zZ 0)), (wZ cI (zZ 1)), (wZ cI (zZ 2)), (wZ cI (zZ 3)), (wX7 cI qN aN R'.2)]) hP hD hS hA [12] [0, 1, 2, 3, 4, 5, 6, 7, 8, 9, 10, 11] rfl rfl rfl (show List.Perm [12, 0, 1, 2, 3, 4, 5, 6, 7, 8, 9, 10, 11] (List.range 13) from by decide) rfl (va_runV (As := [.int (xs (x3 + (1 : Int32)).toNatClampNeg), .int (xs (x3 + (2 : Int32)).toNatClampNeg)]) (rest := [.int R.1]) ⟨hx, hb, hml, hown, hts⟩ (c_X7_best l dC dI cI cC cO qN aN gN (xs (x3 + (1 : Int32)).toNatClampNeg) (xs (x3 + (2 : Int32)).toNatClampNeg) R' hfb H.size) (cwV 2 hts gL_law_X7_best rfl rfl rfl (by decide +kernel) ⟨Nat.le_of_ble_eq_true rfl, Nat.le_of_ble_eq_true rfl⟩) ⟨zpM_blind, z_recv hK hP (ci := 7) (q := (RX7, TX7, 21)) (fs := [.ref (aN 0), .ref (aN 1), .ref (aN 2), .ref (aN 3), .int (gN 4 0), .int (gN 5 0), .ref (aN 6), .int (gN 7 0), .int (gN 8 0), .int (gN 9 0), .int (gN 10 0), .int (gN 11 0), .ref (aN 12), .ref (aN 13), .int (gN 14 0), .int (gN 15 0), .int (gN 16 0), .int (gN 17 0), .int (gN 18 0), .int (gN 19 0), .ref (aN 20)]) rfl (zNmem _ _ _ _ _ _ _ _ _ _ _ _ ()), z_useM hK hN hP hD [12] [0, 1, 2, 3, 4, 5, 6, 7, 8, 9, 10, 11] rfl (show List.Perm [12, 0, 1, 2, 3, 4, 5, 6, 7, 8, 9, 10, 11] (List.range 13) from by decide)⟩ rfl rfl hl.1 rfl (lv_room (Nat.le_of_ble_eq_true rfl)) dL_law_604 ⟨by show (k + 0) + 0 ≤ 600000; omega, by show (n + 0) + 0 ≤ 7302250; omega⟩) (fun H locs hP hD hS => ?_)
  refine W.eq (g2 := F0 m 607 ls [.int R'.1, .int R.1]) rfl ?_
  refine lv_icmp_eq (tgt := 789) hx hb dL_law_607 (by decide) (fun _ => ?_) (fun c_ => absurd hEq c_)
  refine W.widen (k := k + 8) (n := n + 66) (by omega) (by omega) ?_
  exact K gM gB R.2.1 R.2.2.1 gC R.2.2.2 gY gX zZ R'.2 hR' H locs ls hP hD hS hl

set_option maxHeartbeats 4000000 in
set_option maxRecDepth 100000 in
theorem lc_alone {p : Program} {l : Launch} {e : Env} {s : State} {m : MethodId} {below : List Frame} {meth : Method} {c : Code} {b L : Nat} {xs : Nat → Int32} {dC : Nat → ClassId} {dI : Nat → Nat → Nat} {cI cC cO : ClassId} (X : lwC p s m c b L xs dC dI cI cC cO) {qM qN : Nat} {bM aB aT aR aC aY aX aN : Nat → Nat} {Q : State → Prop} {x3 : Int32} (h1 : vp_in (x3 + (1 : Int32)) L) (h2 : vp_in (x3 + (2 : Int32)) L) (h3 : vp_in (x3 + (3 : Int32)) L) (h4 : vp_in (x3 + (4 : Int32)) L) {gM gB gT gR gC gH gY gX gN : zG} {zZ : Nat → zS} (hR : zRel gB gX gY (zcn zZ) gN) {k n : Nat} (hk : k + 8 ≤ 600000) (hn : n + 66 ≤ 7302250) (K : lwK p l e s m below meth c b qM qN bM aB aT aR aC aY aX aN dC dI cI cC cO Q x3 (k + 8) (n + 66)) (H : Heap) (locs : List Loc) (ls : Array Slot) (hP : va_P (dC, dI) vwCl [(wX6 qM bM gM), (wX0 cI (bM 0) aB gB), (wX0 cI (bM 1) aT gT), (wX4 cI (bM 2) aR gR), (wX1 cI (bM 3) aC gC), (wX2 (bM 4) gH), (wX3 cO (bM 5) aY gY (zrm zZ)), (wX5 cI cC (bM 6) aX gX), (wZ cI (zZ 0)), (wZ cI (zZ 1)), (wZ cI (zZ 2)), (wZ cI (zZ 3)), (wX7 cI qN aN gN)].flatten H) (hD : va_D (fun q : Nat => s.heap.size ≤ q) [(wX6 qM bM gM), (wX0 cI (bM 0) aB gB), (wX0 cI (bM 1) aT gT), (wX4 cI (bM 2) aR gR), (wX1 cI (bM 3) aC gC), (wX2 (bM 4) gH), (wX3 cO (bM 5) aY gY (zrm zZ)), (wX5 cI cC (bM 6) aX gX), (wZ cI (zZ 0)), (wZ cI (zZ 1)), (wZ cI (zZ 2)), (wZ cI (zZ 3)), (wX7 cI qN aN gN)].flatten) (hS : va_S (fun q : Nat => s.heap.size ≤ q) s.heap H locs) (hl : lv_has ls 4 [(0, .ref b), (1, .ref qM), (2, .ref qN), (3, .int x3)]) : W p l e room_1 s m #[.ref b] below meth c H locs k n Q (F0 m 612 ls []) := by
  obtain ⟨hx, hb, hml, hown, hts, hX, hbl, hK, hN⟩ := X
  have hA : ∀ q : Nat, s.heap.size ≤ q → (fun q : Nat => s.heap.size ≤ q) q := fun _ h => h
  have hbA : ¬ (fun q : Nat => s.heap.size ≤ q) b := Nat.not_le.mpr hbl
  obtain ⟨R, R', hfa, hfb, hEq, hR'⟩ := pm_alone hR gM gR (xs (x3 + (1 : Int32)).toNatClampNeg) (xs (x3 + (2 : Int32)).toNatClampNeg)
  refine lv_aload_n hx hb dL_law_612 rfl (lv_at hl 1 rfl) ?_
  refine lv_aload_n hx hb dL_law_613 rfl (lv_at hl 0 rfl) ?_
  refine lv_iload_n hx hb dL_law_614 rfl (lv_at hl 3 rfl) ?_
  refine lv_iconst (v := (1 : Int32)) hx hb dL_law_615 (by decide) ?_
  refine lv_iadd hx hb dL_law_616 ?_
  refine va_sld hx hb hX hbl hbA hS h1 dL_law_617 ?_
  refine lv_aload_n hx hb dL_law_618 rfl (lv_at hl 0 rfl) ?_
  refine lv_iload_n hx hb dL_law_619 rfl (lv_at hl 3 rfl) ?_
  refine lv_iconst (v := (2 : Int32)) hx hb dL_law_620 (by decide) ?_
  refine lv_iadd hx hb dL_law_621 ?_
  refine va_sld hx hb hX hbl hbA hS h2 dL_law_622 ?_
  refine z_callM (gs2 := [(wX6 qM bM gM), (wX0 cI (bM 0) aB gB), (wX0 cI (bM 1) aT gT), (wX4 cI (bM 2) aR R.2), (wX1 cI (bM 3) aC gC), (wX2 (bM 4) gH), (wX3 cO (bM 5) aY gY (zrm zZ)), (wX5 cI cC (bM 6) aX gX), (wZ cI (zZ 0)), (wZ cI (zZ 1)), (wZ cI (zZ 2)), (wZ cI (zZ 3)), (wX7 cI qN aN gN)]) hP hD hS hA [0, 1, 3] [2, 4, 5, 6, 7, 8, 9, 10, 11, 12] rfl rfl rfl (show List.Perm [0, 1, 3, 2, 4, 5, 6, 7, 8, 9, 10, 11, 12] (List.range 13) from by decide) rfl (va_runV (As := [.int (xs (x3 + (1 : Int32)).toNatClampNeg), .int (xs (x3 + (2 : Int32)).toNatClampNeg)]) (rest := []) ⟨hx, hb, hml, hown, hts⟩ (c_X6_alone l dC dI cI cC cO qM bM gM aB gB aR gR (xs (x3 + (1 : Int32)).toNatClampNeg) (xs (x3 + (2 : Int32)).toNatClampNeg) R hfa H.size) (cwV 2 hts gL_law_X6_alone rfl rfl rfl (by decide +kernel) ⟨Nat.le_of_ble_eq_true rfl, Nat.le_of_ble_eq_true rfl⟩) ⟨zpM_blind, va_recv hK hP (ci := 6) (q0 := 0) rfl rfl, z_useM hK hN hP hD [0, 1, 3] [2, 4, 5, 6, 7, 8, 9, 10, 11, 12] rfl (show List.Perm [0, 1, 3, 2, 4, 5, 6, 7, 8, 9, 10, 11, 12] (List.range 13) from by decide)⟩ rfl rfl hl.1 rfl (lv_room (Nat.le_of_ble_eq_true rfl)) dL_law_623 ⟨by show k + 0 ≤ 600000; omega, by show n + 0 ≤ 7302250; omega⟩) (fun H locs hP hD hS => ?_)
  refine W.eq (g2 := F0 m 626 ls [.int R.1]) rfl ?_
  refine lv_aload_n hx hb dL_law_626 rfl (lv_at hl 2 rfl) ?_
  refine lv_aload_n hx hb dL_law_627 rfl (lv_at hl 0 rfl) ?_
  refine lv_iload_n hx hb dL_law_628 rfl (lv_at hl 3 rfl) ?_
  refine lv_iconst (v := (1 : Int32)) hx hb dL_law_629 (by decide) ?_
  refine lv_iadd hx hb dL_law_630 ?_
  refine va_sld hx hb hX hbl hbA hS h1 dL_law_631 ?_
  refine lv_aload_n hx hb dL_law_632 rfl (lv_at hl 0 rfl) ?_
  refine lv_iload_n hx hb dL_law_633 rfl (lv_at hl 3 rfl) ?_
  refine lv_iconst (v := (2 : Int32)) hx hb dL_law_634 (by decide) ?_
  refine lv_iadd hx hb dL_law_635 ?_
  refine va_sld hx hb hX hbl hbA hS h2 dL_law_636 ?_
  refine z_callM (gs2 := [(wX6 qM bM gM), (wX0 cI (bM 0) aB gB), (wX0 cI (bM 1) aT gT), (wX4 cI (bM 2) aR R.2), (wX1 cI (bM 3) aC gC), (wX2 (bM 4) gH), (wX3 cO (bM 5) aY gY (zrm zZ)), (wX5 cI cC (bM 6) aX gX), (wZ cI (zZ 0)), (wZ cI (zZ 1)), (wZ cI (zZ 2)), (wZ cI (zZ 3)), (wX7 cI qN aN R'.2)]) hP hD hS hA [12] [0, 1, 2, 3, 4, 5, 6, 7, 8, 9, 10, 11] rfl rfl rfl (show List.Perm [12, 0, 1, 2, 3, 4, 5, 6, 7, 8, 9, 10, 11] (List.range 13) from by decide) rfl (va_runV (As := [.int (xs (x3 + (1 : Int32)).toNatClampNeg), .int (xs (x3 + (2 : Int32)).toNatClampNeg)]) (rest := [.int R.1]) ⟨hx, hb, hml, hown, hts⟩ (c_X7_alone l dC dI cI cC cO qN aN gN (xs (x3 + (1 : Int32)).toNatClampNeg) (xs (x3 + (2 : Int32)).toNatClampNeg) R' hfb H.size) (cwV 2 hts gL_law_X7_alone rfl rfl rfl (by decide +kernel) ⟨Nat.le_of_ble_eq_true rfl, Nat.le_of_ble_eq_true rfl⟩) ⟨zpM_blind, z_recv hK hP (ci := 7) (q := (RX7, TX7, 21)) (fs := [.ref (aN 0), .ref (aN 1), .ref (aN 2), .ref (aN 3), .int (gN 4 0), .int (gN 5 0), .ref (aN 6), .int (gN 7 0), .int (gN 8 0), .int (gN 9 0), .int (gN 10 0), .int (gN 11 0), .ref (aN 12), .ref (aN 13), .int (gN 14 0), .int (gN 15 0), .int (gN 16 0), .int (gN 17 0), .int (gN 18 0), .int (gN 19 0), .ref (aN 20)]) rfl (zNmem _ _ _ _ _ _ _ _ _ _ _ _ ()), z_useM hK hN hP hD [12] [0, 1, 2, 3, 4, 5, 6, 7, 8, 9, 10, 11] rfl (show List.Perm [12, 0, 1, 2, 3, 4, 5, 6, 7, 8, 9, 10, 11] (List.range 13) from by decide)⟩ rfl rfl hl.1 rfl (lv_room (Nat.le_of_ble_eq_true rfl)) dL_law_637 ⟨by show (k + 0) + 0 ≤ 600000; omega, by show (n + 0) + 0 ≤ 7302250; omega⟩) (fun H locs hP hD hS => ?_)
  refine W.eq (g2 := F0 m 640 ls [.int R'.1, .int R.1]) rfl ?_
  refine lv_icmp_eq (tgt := 789) hx hb dL_law_640 (by decide) (fun _ => ?_) (fun c_ => absurd hEq c_)
  refine W.widen (k := k + 8) (n := n + 66) (by omega) (by omega) ?_
  exact K gM gB gT R.2 gC gH gY gX zZ R'.2 hR' H locs ls hP hD hS hl

set_option maxHeartbeats 4000000 in
set_option maxRecDepth 100000 in
theorem lc_tuned {p : Program} {l : Launch} {e : Env} {s : State} {m : MethodId} {below : List Frame} {meth : Method} {c : Code} {b L : Nat} {xs : Nat → Int32} {dC : Nat → ClassId} {dI : Nat → Nat → Nat} {cI cC cO : ClassId} (X : lwC p s m c b L xs dC dI cI cC cO) {qM qN : Nat} {bM aB aT aR aC aY aX aN : Nat → Nat} {Q : State → Prop} {x3 : Int32} (h1 : vp_in (x3 + (1 : Int32)) L) (h2 : vp_in (x3 + (2 : Int32)) L) (h3 : vp_in (x3 + (3 : Int32)) L) (h4 : vp_in (x3 + (4 : Int32)) L) {gM gB gT gR gC gH gY gX gN : zG} {zZ : Nat → zS} (hR : zRel gB gX gY (zcn zZ) gN) {k n : Nat} (hk : k + 8 ≤ 600000) (hn : n + 66 ≤ 7302250) (K : lwK p l e s m below meth c b qM qN bM aB aT aR aC aY aX aN dC dI cI cC cO Q x3 (k + 8) (n + 66)) (H : Heap) (locs : List Loc) (ls : Array Slot) (hP : va_P (dC, dI) vwCl [(wX6 qM bM gM), (wX0 cI (bM 0) aB gB), (wX0 cI (bM 1) aT gT), (wX4 cI (bM 2) aR gR), (wX1 cI (bM 3) aC gC), (wX2 (bM 4) gH), (wX3 cO (bM 5) aY gY (zrm zZ)), (wX5 cI cC (bM 6) aX gX), (wZ cI (zZ 0)), (wZ cI (zZ 1)), (wZ cI (zZ 2)), (wZ cI (zZ 3)), (wX7 cI qN aN gN)].flatten H) (hD : va_D (fun q : Nat => s.heap.size ≤ q) [(wX6 qM bM gM), (wX0 cI (bM 0) aB gB), (wX0 cI (bM 1) aT gT), (wX4 cI (bM 2) aR gR), (wX1 cI (bM 3) aC gC), (wX2 (bM 4) gH), (wX3 cO (bM 5) aY gY (zrm zZ)), (wX5 cI cC (bM 6) aX gX), (wZ cI (zZ 0)), (wZ cI (zZ 1)), (wZ cI (zZ 2)), (wZ cI (zZ 3)), (wX7 cI qN aN gN)].flatten) (hS : va_S (fun q : Nat => s.heap.size ≤ q) s.heap H locs) (hl : lv_has ls 4 [(0, .ref b), (1, .ref qM), (2, .ref qN), (3, .int x3)]) : W p l e room_1 s m #[.ref b] below meth c H locs k n Q (F0 m 645 ls []) := by
  obtain ⟨hx, hb, hml, hown, hts, hX, hbl, hK, hN⟩ := X
  have hA : ∀ q : Nat, s.heap.size ≤ q → (fun q : Nat => s.heap.size ≤ q) q := fun _ h => h
  have hbA : ¬ (fun q : Nat => s.heap.size ≤ q) b := Nat.not_le.mpr hbl
  obtain ⟨R, R', hfa, hfb, hEq, hR'⟩ := pm_tuned hR gM gT gR gH (xs (x3 + (1 : Int32)).toNatClampNeg)
  refine lv_aload_n hx hb dL_law_645 rfl (lv_at hl 1 rfl) ?_
  refine lv_aload_n hx hb dL_law_646 rfl (lv_at hl 0 rfl) ?_
  refine lv_iload_n hx hb dL_law_647 rfl (lv_at hl 3 rfl) ?_
  refine lv_iconst (v := (1 : Int32)) hx hb dL_law_648 (by decide) ?_
  refine lv_iadd hx hb dL_law_649 ?_
  refine va_sld hx hb hX hbl hbA hS h1 dL_law_650 ?_
  refine z_callM (gs2 := [(wX6 qM bM gM), (wX0 cI (bM 0) aB gB), (wX0 cI (bM 1) aT R.2.1), (wX4 cI (bM 2) aR R.2.2.1), (wX1 cI (bM 3) aC gC), (wX2 (bM 4) R.2.2.2), (wX3 cO (bM 5) aY gY (zrm zZ)), (wX5 cI cC (bM 6) aX gX), (wZ cI (zZ 0)), (wZ cI (zZ 1)), (wZ cI (zZ 2)), (wZ cI (zZ 3)), (wX7 cI qN aN gN)]) hP hD hS hA [0, 1, 2, 3, 5] [4, 6, 7, 8, 9, 10, 11, 12] rfl rfl rfl (show List.Perm [0, 1, 2, 3, 5, 4, 6, 7, 8, 9, 10, 11, 12] (List.range 13) from by decide) rfl (va_runV (As := [.int (xs (x3 + (1 : Int32)).toNatClampNeg)]) (rest := []) ⟨hx, hb, hml, hown, hts⟩ (c_X6_tuned l dC dI cI cC cO qM bM gM aB gB aT gT aR gR gH (xs (x3 + (1 : Int32)).toNatClampNeg) R hfa H.size) (cwV 1 hts gL_law_X6_tuned rfl rfl rfl (by decide +kernel) ⟨Nat.le_of_ble_eq_true rfl, Nat.le_of_ble_eq_true rfl⟩) ⟨zpM_blind, va_recv hK hP (ci := 6) (q0 := 0) rfl rfl, z_useM hK hN hP hD [0, 1, 2, 3, 5] [4, 6, 7, 8, 9, 10, 11, 12] rfl (show List.Perm [0, 1, 2, 3, 5, 4, 6, 7, 8, 9, 10, 11, 12] (List.range 13) from by decide)⟩ rfl rfl hl.1 rfl (lv_room (Nat.le_of_ble_eq_true rfl)) dL_law_651 ⟨by show k + 0 ≤ 600000; omega, by show n + 0 ≤ 7302250; omega⟩) (fun H locs hP hD hS => ?_)
  refine W.eq (g2 := F0 m 654 ls [.int R.1]) rfl ?_
  refine lv_aload_n hx hb dL_law_654 rfl (lv_at hl 2 rfl) ?_
  refine lv_aload_n hx hb dL_law_655 rfl (lv_at hl 0 rfl) ?_
  refine lv_iload_n hx hb dL_law_656 rfl (lv_at hl 3 rfl) ?_
  refine lv_iconst (v := (1 : Int32)) hx hb dL_law_657 (by decide) ?_
  refine lv_iadd hx hb dL_law_658 ?_
  refine va_sld hx hb hX hbl hbA hS h1 dL_law_659 ?_
  refine z_callM (gs2 := [(wX6 qM bM gM), (wX0 cI (bM 0) aB gB), (wX0 cI (bM 1) aT R.2.1), (wX4 cI (bM 2) aR R.2.2.1), (wX1 cI (bM 3) aC gC), (wX2 (bM 4) R.2.2.2), (wX3 cO (bM 5) aY gY (zrm zZ)), (wX5 cI cC (bM 6) aX gX), (wZ cI (zZ 0)), (wZ cI (zZ 1)), (wZ cI (zZ 2)), (wZ cI (zZ 3)), (wX7 cI qN aN R'.2)]) hP hD hS hA [12] [0, 1, 2, 3, 4, 5, 6, 7, 8, 9, 10, 11] rfl rfl rfl (show List.Perm [12, 0, 1, 2, 3, 4, 5, 6, 7, 8, 9, 10, 11] (List.range 13) from by decide) rfl (va_runV (As := [.int (xs (x3 + (1 : Int32)).toNatClampNeg)]) (rest := [.int R.1]) ⟨hx, hb, hml, hown, hts⟩ (c_X7_tuned l dC dI cI cC cO qN aN gN (xs (x3 + (1 : Int32)).toNatClampNeg) R' hfb H.size) (cwV 1 hts gL_law_X7_tuned rfl rfl rfl (by decide +kernel) ⟨Nat.le_of_ble_eq_true rfl, Nat.le_of_ble_eq_true rfl⟩) ⟨zpM_blind, z_recv hK hP (ci := 7) (q := (RX7, TX7, 21)) (fs := [.ref (aN 0), .ref (aN 1), .ref (aN 2), .ref (aN 3), .int (gN 4 0), .int (gN 5 0), .ref (aN 6), .int (gN 7 0), .int (gN 8 0), .int (gN 9 0), .int (gN 10 0), .int (gN 11 0), .ref (aN 12), .ref (aN 13), .int (gN 14 0), .int (gN 15 0), .int (gN 16 0), .int (gN 17 0), .int (gN 18 0), .int (gN 19 0), .ref (aN 20)]) rfl (zNmem _ _ _ _ _ _ _ _ _ _ _ _ ()), z_useM hK hN hP hD [12] [0, 1, 2, 3, 4, 5, 6, 7, 8, 9, 10, 11] rfl (show List.Perm [12, 0, 1, 2, 3, 4, 5, 6, 7, 8, 9, 10, 11] (List.range 13) from by decide)⟩ rfl rfl hl.1 rfl (lv_room (Nat.le_of_ble_eq_true rfl)) dL_law_660 ⟨by show (k + 0) + 0 ≤ 600000; omega, by show (n + 0) + 0 ≤ 7302250; omega⟩) (fun H locs hP hD hS => ?_)
  refine W.eq (g2 := F0 m 663 ls [.int R'.1, .int R.1]) rfl ?_
  refine lv_icmp_eq (tgt := 789) hx hb dL_law_663 (by decide) (fun _ => ?_) (fun c_ => absurd hEq c_)
  refine W.widen (k := k + 8) (n := n + 66) (by omega) (by omega) ?_
  exact K gM gB R.2.1 R.2.2.1 gC R.2.2.2 gY gX zZ R'.2 hR' H locs ls hP hD hS hl

set_option maxHeartbeats 4000000 in
set_option maxRecDepth 100000 in
theorem lc_share {p : Program} {l : Launch} {e : Env} {s : State} {m : MethodId} {below : List Frame} {meth : Method} {c : Code} {b L : Nat} {xs : Nat → Int32} {dC : Nat → ClassId} {dI : Nat → Nat → Nat} {cI cC cO : ClassId} (X : lwC p s m c b L xs dC dI cI cC cO) {qM qN : Nat} {bM aB aT aR aC aY aX aN : Nat → Nat} {Q : State → Prop} {x3 : Int32} (h1 : vp_in (x3 + (1 : Int32)) L) (h2 : vp_in (x3 + (2 : Int32)) L) (h3 : vp_in (x3 + (3 : Int32)) L) (h4 : vp_in (x3 + (4 : Int32)) L) {gM gB gT gR gC gH gY gX gN : zG} {zZ : Nat → zS} (hR : zRel gB gX gY (zcn zZ) gN) {k n : Nat} (hk : k + 8 ≤ 600000) (hn : n + 66 ≤ 7302250) (K : lwK p l e s m below meth c b qM qN bM aB aT aR aC aY aX aN dC dI cI cC cO Q x3 (k + 8) (n + 66)) (H : Heap) (locs : List Loc) (ls : Array Slot) (hP : va_P (dC, dI) vwCl [(wX6 qM bM gM), (wX0 cI (bM 0) aB gB), (wX0 cI (bM 1) aT gT), (wX4 cI (bM 2) aR gR), (wX1 cI (bM 3) aC gC), (wX2 (bM 4) gH), (wX3 cO (bM 5) aY gY (zrm zZ)), (wX5 cI cC (bM 6) aX gX), (wZ cI (zZ 0)), (wZ cI (zZ 1)), (wZ cI (zZ 2)), (wZ cI (zZ 3)), (wX7 cI qN aN gN)].flatten H) (hD : va_D (fun q : Nat => s.heap.size ≤ q) [(wX6 qM bM gM), (wX0 cI (bM 0) aB gB), (wX0 cI (bM 1) aT gT), (wX4 cI (bM 2) aR gR), (wX1 cI (bM 3) aC gC), (wX2 (bM 4) gH), (wX3 cO (bM 5) aY gY (zrm zZ)), (wX5 cI cC (bM 6) aX gX), (wZ cI (zZ 0)), (wZ cI (zZ 1)), (wZ cI (zZ 2)), (wZ cI (zZ 3)), (wX7 cI qN aN gN)].flatten) (hS : va_S (fun q : Nat => s.heap.size ≤ q) s.heap H locs) (hl : lv_has ls 4 [(0, .ref b), (1, .ref qM), (2, .ref qN), (3, .int x3)]) : W p l e room_1 s m #[.ref b] below meth c H locs k n Q (F0 m 668 ls []) := by
  obtain ⟨hx, hb, hml, hown, hts, hX, hbl, hK, hN⟩ := X
  have hA : ∀ q : Nat, s.heap.size ≤ q → (fun q : Nat => s.heap.size ≤ q) q := fun _ h => h
  have hbA : ¬ (fun q : Nat => s.heap.size ≤ q) b := Nat.not_le.mpr hbl
  obtain ⟨R, R', hfa, hfb, hEq, hR'⟩ := pm_share hR gM gR 
  refine lv_aload_n hx hb dL_law_668 rfl (lv_at hl 1 rfl) ?_
  refine z_callM (gs2 := [(wX6 qM bM gM), (wX0 cI (bM 0) aB gB), (wX0 cI (bM 1) aT gT), (wX4 cI (bM 2) aR R.2), (wX1 cI (bM 3) aC gC), (wX2 (bM 4) gH), (wX3 cO (bM 5) aY gY (zrm zZ)), (wX5 cI cC (bM 6) aX gX), (wZ cI (zZ 0)), (wZ cI (zZ 1)), (wZ cI (zZ 2)), (wZ cI (zZ 3)), (wX7 cI qN aN gN)]) hP hD hS hA [0, 1, 3] [2, 4, 5, 6, 7, 8, 9, 10, 11, 12] rfl rfl rfl (show List.Perm [0, 1, 3, 2, 4, 5, 6, 7, 8, 9, 10, 11, 12] (List.range 13) from by decide) rfl (va_runV (As := []) (rest := []) ⟨hx, hb, hml, hown, hts⟩ (c_X6_share l dC dI cI cC cO qM bM gM aB gB aR gR  R hfa H.size) (cwV 0 hts gL_law_X6_share rfl rfl rfl (by decide +kernel) ⟨Nat.le_of_ble_eq_true rfl, Nat.le_of_ble_eq_true rfl⟩) ⟨zpM_blind, va_recv hK hP (ci := 6) (q0 := 0) rfl rfl, z_useM hK hN hP hD [0, 1, 3] [2, 4, 5, 6, 7, 8, 9, 10, 11, 12] rfl (show List.Perm [0, 1, 3, 2, 4, 5, 6, 7, 8, 9, 10, 11, 12] (List.range 13) from by decide)⟩ rfl rfl hl.1 rfl (lv_room (Nat.le_of_ble_eq_true rfl)) dL_law_669 ⟨by show k + 0 ≤ 600000; omega, by show n + 0 ≤ 7302250; omega⟩) (fun H locs hP hD hS => ?_)
  refine W.eq (g2 := F0 m 672 ls [.int R.1]) rfl ?_
  refine lv_aload_n hx hb dL_law_672 rfl (lv_at hl 2 rfl) ?_
  refine z_callM (gs2 := [(wX6 qM bM gM), (wX0 cI (bM 0) aB gB), (wX0 cI (bM 1) aT gT), (wX4 cI (bM 2) aR R.2), (wX1 cI (bM 3) aC gC), (wX2 (bM 4) gH), (wX3 cO (bM 5) aY gY (zrm zZ)), (wX5 cI cC (bM 6) aX gX), (wZ cI (zZ 0)), (wZ cI (zZ 1)), (wZ cI (zZ 2)), (wZ cI (zZ 3)), (wX7 cI qN aN R'.2)]) hP hD hS hA [12] [0, 1, 2, 3, 4, 5, 6, 7, 8, 9, 10, 11] rfl rfl rfl (show List.Perm [12, 0, 1, 2, 3, 4, 5, 6, 7, 8, 9, 10, 11] (List.range 13) from by decide) rfl (va_runV (As := []) (rest := [.int R.1]) ⟨hx, hb, hml, hown, hts⟩ (c_X7_share l dC dI cI cC cO qN aN gN  R' hfb H.size) (cwV 0 hts gL_law_X7_share rfl rfl rfl (by decide +kernel) ⟨Nat.le_of_ble_eq_true rfl, Nat.le_of_ble_eq_true rfl⟩) ⟨zpM_blind, z_recv hK hP (ci := 7) (q := (RX7, TX7, 21)) (fs := [.ref (aN 0), .ref (aN 1), .ref (aN 2), .ref (aN 3), .int (gN 4 0), .int (gN 5 0), .ref (aN 6), .int (gN 7 0), .int (gN 8 0), .int (gN 9 0), .int (gN 10 0), .int (gN 11 0), .ref (aN 12), .ref (aN 13), .int (gN 14 0), .int (gN 15 0), .int (gN 16 0), .int (gN 17 0), .int (gN 18 0), .int (gN 19 0), .ref (aN 20)]) rfl (zNmem _ _ _ _ _ _ _ _ _ _ _ _ ()), z_useM hK hN hP hD [12] [0, 1, 2, 3, 4, 5, 6, 7, 8, 9, 10, 11] rfl (show List.Perm [12, 0, 1, 2, 3, 4, 5, 6, 7, 8, 9, 10, 11] (List.range 13) from by decide)⟩ rfl rfl hl.1 rfl (lv_room (Nat.le_of_ble_eq_true rfl)) dL_law_673 ⟨by show (k + 0) + 0 ≤ 600000; omega, by show (n + 0) + 0 ≤ 7302250; omega⟩) (fun H locs hP hD hS => ?_)
  refine W.eq (g2 := F0 m 676 ls [.int R'.1, .int R.1]) rfl ?_
  refine lv_icmp_eq (tgt := 789) hx hb dL_law_676 (by decide) (fun _ => ?_) (fun c_ => absurd hEq c_)
  refine W.widen (k := k + 8) (n := n + 66) (by omega) (by omega) ?_
  exact K gM gB gT R.2 gC gH gY gX zZ R'.2 hR' H locs ls hP hD hS hl

set_option maxHeartbeats 4000000 in
set_option maxRecDepth 100000 in
theorem lc_count {p : Program} {l : Launch} {e : Env} {s : State} {m : MethodId} {below : List Frame} {meth : Method} {c : Code} {b L : Nat} {xs : Nat → Int32} {dC : Nat → ClassId} {dI : Nat → Nat → Nat} {cI cC cO : ClassId} (X : lwC p s m c b L xs dC dI cI cC cO) {qM qN : Nat} {bM aB aT aR aC aY aX aN : Nat → Nat} {Q : State → Prop} {x3 : Int32} (h1 : vp_in (x3 + (1 : Int32)) L) (h2 : vp_in (x3 + (2 : Int32)) L) (h3 : vp_in (x3 + (3 : Int32)) L) (h4 : vp_in (x3 + (4 : Int32)) L) {gM gB gT gR gC gH gY gX gN : zG} {zZ : Nat → zS} (hR : zRel gB gX gY (zcn zZ) gN) {k n : Nat} (hk : k + 8 ≤ 600000) (hn : n + 66 ≤ 7302250) (K : lwK p l e s m below meth c b qM qN bM aB aT aR aC aY aX aN dC dI cI cC cO Q x3 (k + 8) (n + 66)) (H : Heap) (locs : List Loc) (ls : Array Slot) (hP : va_P (dC, dI) vwCl [(wX6 qM bM gM), (wX0 cI (bM 0) aB gB), (wX0 cI (bM 1) aT gT), (wX4 cI (bM 2) aR gR), (wX1 cI (bM 3) aC gC), (wX2 (bM 4) gH), (wX3 cO (bM 5) aY gY (zrm zZ)), (wX5 cI cC (bM 6) aX gX), (wZ cI (zZ 0)), (wZ cI (zZ 1)), (wZ cI (zZ 2)), (wZ cI (zZ 3)), (wX7 cI qN aN gN)].flatten H) (hD : va_D (fun q : Nat => s.heap.size ≤ q) [(wX6 qM bM gM), (wX0 cI (bM 0) aB gB), (wX0 cI (bM 1) aT gT), (wX4 cI (bM 2) aR gR), (wX1 cI (bM 3) aC gC), (wX2 (bM 4) gH), (wX3 cO (bM 5) aY gY (zrm zZ)), (wX5 cI cC (bM 6) aX gX), (wZ cI (zZ 0)), (wZ cI (zZ 1)), (wZ cI (zZ 2)), (wZ cI (zZ 3)), (wX7 cI qN aN gN)].flatten) (hS : va_S (fun q : Nat => s.heap.size ≤ q) s.heap H locs) (hl : lv_has ls 4 [(0, .ref b), (1, .ref qM), (2, .ref qN), (3, .int x3)]) : W p l e room_1 s m #[.ref b] below meth c H locs k n Q (F0 m 681 ls []) := by
  obtain ⟨hx, hb, hml, hown, hts, hX, hbl, hK, hN⟩ := X
  have hA : ∀ q : Nat, s.heap.size ≤ q → (fun q : Nat => s.heap.size ≤ q) q := fun _ h => h
  have hbA : ¬ (fun q : Nat => s.heap.size ≤ q) b := Nat.not_le.mpr hbl
  obtain ⟨R, R', hfa, hfb, hEq, hR'⟩ := pm_count hR gM gR gC (xs (x3 + (1 : Int32)).toNatClampNeg)
  refine lv_aload_n hx hb dL_law_681 rfl (lv_at hl 1 rfl) ?_
  refine lv_aload_n hx hb dL_law_682 rfl (lv_at hl 0 rfl) ?_
  refine lv_iload_n hx hb dL_law_683 rfl (lv_at hl 3 rfl) ?_
  refine lv_iconst (v := (1 : Int32)) hx hb dL_law_684 (by decide) ?_
  refine lv_iadd hx hb dL_law_685 ?_
  refine va_sld hx hb hX hbl hbA hS h1 dL_law_686 ?_
  refine z_callM (gs2 := [(wX6 qM bM gM), (wX0 cI (bM 0) aB gB), (wX0 cI (bM 1) aT gT), (wX4 cI (bM 2) aR R.2.1), (wX1 cI (bM 3) aC R.2.2), (wX2 (bM 4) gH), (wX3 cO (bM 5) aY gY (zrm zZ)), (wX5 cI cC (bM 6) aX gX), (wZ cI (zZ 0)), (wZ cI (zZ 1)), (wZ cI (zZ 2)), (wZ cI (zZ 3)), (wX7 cI qN aN gN)]) hP hD hS hA [0, 1, 3, 4, 7, 6] [2, 5, 8, 9, 10, 11, 12] rfl rfl rfl (show List.Perm [0, 1, 3, 4, 7, 6, 2, 5, 8, 9, 10, 11, 12] (List.range 13) from by decide) rfl (va_runV (As := [.int (xs (x3 + (1 : Int32)).toNatClampNeg)]) (rest := []) ⟨hx, hb, hml, hown, hts⟩ (c_X6_count l dC dI cI cC cO qM bM gM aB gB aR gR aC gC aX gX aY (zrm zZ) gY (xs (x3 + (1 : Int32)).toNatClampNeg) R hfa H.size) (cwV 1 hts gL_law_X6_count rfl rfl rfl (by decide +kernel) ⟨Nat.le_of_ble_eq_true rfl, Nat.le_of_ble_eq_true rfl⟩) ⟨zpM_blind, va_recv hK hP (ci := 6) (q0 := 0) rfl rfl, z_useM hK hN hP hD [0, 1, 3, 4, 7, 6] [2, 5, 8, 9, 10, 11, 12] rfl (show List.Perm [0, 1, 3, 4, 7, 6, 2, 5, 8, 9, 10, 11, 12] (List.range 13) from by decide)⟩ rfl rfl hl.1 rfl (lv_room (Nat.le_of_ble_eq_true rfl)) dL_law_687 ⟨by show k + 0 ≤ 600000; omega, by show n + 0 ≤ 7302250; omega⟩) (fun H locs hP hD hS => ?_)
  refine W.eq (g2 := F0 m 690 ls [.int R.1]) rfl ?_
  refine lv_aload_n hx hb dL_law_690 rfl (lv_at hl 2 rfl) ?_
  refine lv_aload_n hx hb dL_law_691 rfl (lv_at hl 0 rfl) ?_
  refine lv_iload_n hx hb dL_law_692 rfl (lv_at hl 3 rfl) ?_
  refine lv_iconst (v := (1 : Int32)) hx hb dL_law_693 (by decide) ?_
  refine lv_iadd hx hb dL_law_694 ?_
  refine va_sld hx hb hX hbl hbA hS h1 dL_law_695 ?_
  refine z_callM (gs2 := [(wX6 qM bM gM), (wX0 cI (bM 0) aB gB), (wX0 cI (bM 1) aT gT), (wX4 cI (bM 2) aR R.2.1), (wX1 cI (bM 3) aC R.2.2), (wX2 (bM 4) gH), (wX3 cO (bM 5) aY gY (zrm zZ)), (wX5 cI cC (bM 6) aX gX), (wZ cI (zZ 0)), (wZ cI (zZ 1)), (wZ cI (zZ 2)), (wZ cI (zZ 3)), (wX7 cI qN aN R'.2)]) hP hD hS hA [12] [0, 1, 2, 3, 4, 5, 6, 7, 8, 9, 10, 11] rfl rfl rfl (show List.Perm [12, 0, 1, 2, 3, 4, 5, 6, 7, 8, 9, 10, 11] (List.range 13) from by decide) rfl (va_runV (As := [.int (xs (x3 + (1 : Int32)).toNatClampNeg)]) (rest := [.int R.1]) ⟨hx, hb, hml, hown, hts⟩ (c_X7_count l dC dI cI cC cO qN aN gN (xs (x3 + (1 : Int32)).toNatClampNeg) R' hfb H.size) (cwV 1 hts gL_law_X7_count rfl rfl rfl (by decide +kernel) ⟨Nat.le_of_ble_eq_true rfl, Nat.le_of_ble_eq_true rfl⟩) ⟨zpM_blind, z_recv hK hP (ci := 7) (q := (RX7, TX7, 21)) (fs := [.ref (aN 0), .ref (aN 1), .ref (aN 2), .ref (aN 3), .int (gN 4 0), .int (gN 5 0), .ref (aN 6), .int (gN 7 0), .int (gN 8 0), .int (gN 9 0), .int (gN 10 0), .int (gN 11 0), .ref (aN 12), .ref (aN 13), .int (gN 14 0), .int (gN 15 0), .int (gN 16 0), .int (gN 17 0), .int (gN 18 0), .int (gN 19 0), .ref (aN 20)]) rfl (zNmem _ _ _ _ _ _ _ _ _ _ _ _ ()), z_useM hK hN hP hD [12] [0, 1, 2, 3, 4, 5, 6, 7, 8, 9, 10, 11] rfl (show List.Perm [12, 0, 1, 2, 3, 4, 5, 6, 7, 8, 9, 10, 11] (List.range 13) from by decide)⟩ rfl rfl hl.1 rfl (lv_room (Nat.le_of_ble_eq_true rfl)) dL_law_696 ⟨by show (k + 0) + 0 ≤ 600000; omega, by show (n + 0) + 0 ≤ 7302250; omega⟩) (fun H locs hP hD hS => ?_)
  refine W.eq (g2 := F0 m 699 ls [.int R'.1, .int R.1]) rfl ?_
  refine lv_icmp_eq (tgt := 789) hx hb dL_law_699 (by decide) (fun _ => ?_) (fun c_ => absurd hEq c_)
  refine W.widen (k := k + 8) (n := n + 66) (by omega) (by omega) ?_
  exact K gM gB gT R.2.1 R.2.2 gH gY gX zZ R'.2 hR' H locs ls hP hD hS hl

set_option maxHeartbeats 4000000 in
set_option maxRecDepth 100000 in
theorem lc_undo {p : Program} {l : Launch} {e : Env} {s : State} {m : MethodId} {below : List Frame} {meth : Method} {c : Code} {b L : Nat} {xs : Nat → Int32} {dC : Nat → ClassId} {dI : Nat → Nat → Nat} {cI cC cO : ClassId} (X : lwC p s m c b L xs dC dI cI cC cO) {qM qN : Nat} {bM aB aT aR aC aY aX aN : Nat → Nat} {Q : State → Prop} {x3 : Int32} (h1 : vp_in (x3 + (1 : Int32)) L) (h2 : vp_in (x3 + (2 : Int32)) L) (h3 : vp_in (x3 + (3 : Int32)) L) (h4 : vp_in (x3 + (4 : Int32)) L) {gM gB gT gR gC gH gY gX gN : zG} {zZ : Nat → zS} (hR : zRel gB gX gY (zcn zZ) gN) {k n : Nat} (hk : k + 8 ≤ 600000) (hn : n + 66 ≤ 7302250) (K : lwK p l e s m below meth c b qM qN bM aB aT aR aC aY aX aN dC dI cI cC cO Q x3 (k + 8) (n + 66)) (H : Heap) (locs : List Loc) (ls : Array Slot) (hP : va_P (dC, dI) vwCl [(wX6 qM bM gM), (wX0 cI (bM 0) aB gB), (wX0 cI (bM 1) aT gT), (wX4 cI (bM 2) aR gR), (wX1 cI (bM 3) aC gC), (wX2 (bM 4) gH), (wX3 cO (bM 5) aY gY (zrm zZ)), (wX5 cI cC (bM 6) aX gX), (wZ cI (zZ 0)), (wZ cI (zZ 1)), (wZ cI (zZ 2)), (wZ cI (zZ 3)), (wX7 cI qN aN gN)].flatten H) (hD : va_D (fun q : Nat => s.heap.size ≤ q) [(wX6 qM bM gM), (wX0 cI (bM 0) aB gB), (wX0 cI (bM 1) aT gT), (wX4 cI (bM 2) aR gR), (wX1 cI (bM 3) aC gC), (wX2 (bM 4) gH), (wX3 cO (bM 5) aY gY (zrm zZ)), (wX5 cI cC (bM 6) aX gX), (wZ cI (zZ 0)), (wZ cI (zZ 1)), (wZ cI (zZ 2)), (wZ cI (zZ 3)), (wX7 cI qN aN gN)].flatten) (hS : va_S (fun q : Nat => s.heap.size ≤ q) s.heap H locs) (hl : lv_has ls 4 [(0, .ref b), (1, .ref qM), (2, .ref qN), (3, .int x3)]) : W p l e room_1 s m #[.ref b] below meth c H locs k n Q (F0 m 704 ls []) := by
  obtain ⟨hx, hb, hml, hown, hts, hX, hbl, hK, hN⟩ := X
  have hA : ∀ q : Nat, s.heap.size ≤ q → (fun q : Nat => s.heap.size ≤ q) q := fun _ h => h
  have hbA : ¬ (fun q : Nat => s.heap.size ≤ q) b := Nat.not_le.mpr hbl
  obtain ⟨R, R', hfa, hfb, hEq, hR'⟩ := pm_undo hR gM 
  refine lv_aload_n hx hb dL_law_704 rfl (lv_at hl 1 rfl) ?_
  refine z_callM (gs2 := [(wX6 qM bM gM), (wX0 cI (bM 0) aB R.2.1), (wX0 cI (bM 1) aT gT), (wX4 cI (bM 2) aR gR), (wX1 cI (bM 3) aC gC), (wX2 (bM 4) gH), (wX3 cO (bM 5) aY R.2.2 (zrm zZ)), (wX5 cI cC (bM 6) aX gX), (wZ cI (zZ 0)), (wZ cI (zZ 1)), (wZ cI (zZ 2)), (wZ cI (zZ 3)), (wX7 cI qN aN gN)]) hP hD hS hA [0, 1, 6, 8, 9, 10, 11] [2, 3, 4, 5, 7, 12] rfl rfl rfl (show List.Perm [0, 1, 6, 8, 9, 10, 11, 2, 3, 4, 5, 7, 12] (List.range 13) from by decide) rfl (va_runV (As := []) (rest := []) ⟨hx, hb, hml, hown, hts⟩ (c_X6_undo l dC dI cI cC cO qM bM gM aB gB aY gY zZ  R hfa H.size) (cwV 0 hts gL_law_X6_undo rfl rfl rfl (by decide +kernel) ⟨Nat.le_of_ble_eq_true rfl, Nat.le_of_ble_eq_true rfl⟩) ⟨zpM_blind, va_recv hK hP (ci := 6) (q0 := 0) rfl rfl, z_useM hK hN hP hD [0, 1, 6, 8, 9, 10, 11] [2, 3, 4, 5, 7, 12] rfl (show List.Perm [0, 1, 6, 8, 9, 10, 11, 2, 3, 4, 5, 7, 12] (List.range 13) from by decide)⟩ rfl rfl hl.1 rfl (lv_room (Nat.le_of_ble_eq_true rfl)) dL_law_705 ⟨by show k + 0 ≤ 600000; omega, by show n + 0 ≤ 7302250; omega⟩) (fun H locs hP hD hS => ?_)
  refine W.eq (g2 := F0 m 708 ls [.int R.1]) rfl ?_
  refine lv_aload_n hx hb dL_law_708 rfl (lv_at hl 2 rfl) ?_
  refine z_callM (gs2 := [(wX6 qM bM gM), (wX0 cI (bM 0) aB R.2.1), (wX0 cI (bM 1) aT gT), (wX4 cI (bM 2) aR gR), (wX1 cI (bM 3) aC gC), (wX2 (bM 4) gH), (wX3 cO (bM 5) aY R.2.2 (zrm zZ)), (wX5 cI cC (bM 6) aX gX), (wZ cI (zZ 0)), (wZ cI (zZ 1)), (wZ cI (zZ 2)), (wZ cI (zZ 3)), (wX7 cI qN aN R'.2)]) hP hD hS hA [12] [0, 1, 2, 3, 4, 5, 6, 7, 8, 9, 10, 11] rfl rfl rfl (show List.Perm [12, 0, 1, 2, 3, 4, 5, 6, 7, 8, 9, 10, 11] (List.range 13) from by decide) rfl (va_runV (As := []) (rest := [.int R.1]) ⟨hx, hb, hml, hown, hts⟩ (c_X7_undo l dC dI cI cC cO qN aN gN  R' hfb H.size) (cwV 0 hts gL_law_X7_undo rfl rfl rfl (by decide +kernel) ⟨Nat.le_of_ble_eq_true rfl, Nat.le_of_ble_eq_true rfl⟩) ⟨zpM_blind, z_recv hK hP (ci := 7) (q := (RX7, TX7, 21)) (fs := [.ref (aN 0), .ref (aN 1), .ref (aN 2), .ref (aN 3), .int (gN 4 0), .int (gN 5 0), .ref (aN 6), .int (gN 7 0), .int (gN 8 0), .int (gN 9 0), .int (gN 10 0), .int (gN 11 0), .ref (aN 12), .ref (aN 13), .int (gN 14 0), .int (gN 15 0), .int (gN 16 0), .int (gN 17 0), .int (gN 18 0), .int (gN 19 0), .ref (aN 20)]) rfl (zNmem _ _ _ _ _ _ _ _ _ _ _ _ ()), z_useM hK hN hP hD [12] [0, 1, 2, 3, 4, 5, 6, 7, 8, 9, 10, 11] rfl (show List.Perm [12, 0, 1, 2, 3, 4, 5, 6, 7, 8, 9, 10, 11] (List.range 13) from by decide)⟩ rfl rfl hl.1 rfl (lv_room (Nat.le_of_ble_eq_true rfl)) dL_law_709 ⟨by show (k + 0) + 0 ≤ 600000; omega, by show (n + 0) + 0 ≤ 7302250; omega⟩) (fun H locs hP hD hS => ?_)
  refine W.eq (g2 := F0 m 712 ls [.int R'.1, .int R.1]) rfl ?_
  refine lv_icmp_eq (tgt := 789) hx hb dL_law_712 (by decide) (fun _ => ?_) (fun c_ => absurd hEq c_)
  refine W.widen (k := k + 8) (n := n + 66) (by omega) (by omega) ?_
  exact K gM R.2.1 gT gR gC gH R.2.2 gX zZ R'.2 hR' H locs ls hP hD hS hl

set_option maxHeartbeats 4000000 in
set_option maxRecDepth 100000 in
theorem lc_type {p : Program} {l : Launch} {e : Env} {s : State} {m : MethodId} {below : List Frame} {meth : Method} {c : Code} {b L : Nat} {xs : Nat → Int32} {dC : Nat → ClassId} {dI : Nat → Nat → Nat} {cI cC cO : ClassId} (X : lwC p s m c b L xs dC dI cI cC cO) {qM qN : Nat} {bM aB aT aR aC aY aX aN : Nat → Nat} {Q : State → Prop} {x3 : Int32} (h1 : vp_in (x3 + (1 : Int32)) L) (h2 : vp_in (x3 + (2 : Int32)) L) (h3 : vp_in (x3 + (3 : Int32)) L) (h4 : vp_in (x3 + (4 : Int32)) L) {gM gB gT gR gC gH gY gX gN : zG} {zZ : Nat → zS} (hR : zRel gB gX gY (zcn zZ) gN) {k n : Nat} (hk : k + 8 ≤ 600000) (hn : n + 66 ≤ 7302250) (K : lwK p l e s m below meth c b qM qN bM aB aT aR aC aY aX aN dC dI cI cC cO Q x3 (k + 8) (n + 66)) (H : Heap) (locs : List Loc) (ls : Array Slot) (hP : va_P (dC, dI) vwCl [(wX6 qM bM gM), (wX0 cI (bM 0) aB gB), (wX0 cI (bM 1) aT gT), (wX4 cI (bM 2) aR gR), (wX1 cI (bM 3) aC gC), (wX2 (bM 4) gH), (wX3 cO (bM 5) aY gY (zrm zZ)), (wX5 cI cC (bM 6) aX gX), (wZ cI (zZ 0)), (wZ cI (zZ 1)), (wZ cI (zZ 2)), (wZ cI (zZ 3)), (wX7 cI qN aN gN)].flatten H) (hD : va_D (fun q : Nat => s.heap.size ≤ q) [(wX6 qM bM gM), (wX0 cI (bM 0) aB gB), (wX0 cI (bM 1) aT gT), (wX4 cI (bM 2) aR gR), (wX1 cI (bM 3) aC gC), (wX2 (bM 4) gH), (wX3 cO (bM 5) aY gY (zrm zZ)), (wX5 cI cC (bM 6) aX gX), (wZ cI (zZ 0)), (wZ cI (zZ 1)), (wZ cI (zZ 2)), (wZ cI (zZ 3)), (wX7 cI qN aN gN)].flatten) (hS : va_S (fun q : Nat => s.heap.size ≤ q) s.heap H locs) (hl : lv_has ls 4 [(0, .ref b), (1, .ref qM), (2, .ref qN), (3, .int x3)]) : W p l e room_1 s m #[.ref b] below meth c H locs k n Q (F0 m 717 ls []) := by
  obtain ⟨hx, hb, hml, hown, hts, hX, hbl, hK, hN⟩ := X
  have hA : ∀ q : Nat, s.heap.size ≤ q → (fun q : Nat => s.heap.size ≤ q) q := fun _ h => h
  have hbA : ¬ (fun q : Nat => s.heap.size ≤ q) b := Nat.not_le.mpr hbl
  obtain ⟨R, R', hfa, hfb, hEq, hR'⟩ := pm_type hR gM (xs (x3 + (1 : Int32)).toNatClampNeg)
  refine lv_aload_n hx hb dL_law_717 rfl (lv_at hl 1 rfl) ?_
  refine lv_aload_n hx hb dL_law_718 rfl (lv_at hl 0 rfl) ?_
  refine lv_iload_n hx hb dL_law_719 rfl (lv_at hl 3 rfl) ?_
  refine lv_iconst (v := (1 : Int32)) hx hb dL_law_720 (by decide) ?_
  refine lv_iadd hx hb dL_law_721 ?_
  refine va_sld hx hb hX hbl hbA hS h1 dL_law_722 ?_
  refine z_callM (gs2 := [(wX6 qM bM gM), (wX0 cI (bM 0) aB gB), (wX0 cI (bM 1) aT gT), (wX4 cI (bM 2) aR gR), (wX1 cI (bM 3) aC gC), (wX2 (bM 4) gH), (wX3 cO (bM 5) aY gY (zrm zZ)), (wX5 cI cC (bM 6) aX R.2), (wZ cI (zZ 0)), (wZ cI (zZ 1)), (wZ cI (zZ 2)), (wZ cI (zZ 3)), (wX7 cI qN aN gN)]) hP hD hS hA [0, 7] [1, 2, 3, 4, 5, 6, 8, 9, 10, 11, 12] rfl rfl rfl (show List.Perm [0, 7, 1, 2, 3, 4, 5, 6, 8, 9, 10, 11, 12] (List.range 13) from by decide) rfl (va_runV (As := [.int (xs (x3 + (1 : Int32)).toNatClampNeg)]) (rest := []) ⟨hx, hb, hml, hown, hts⟩ (c_X6_type l dC dI cI cC cO qM bM gM aX gX (xs (x3 + (1 : Int32)).toNatClampNeg) R hfa H.size) (cwV 1 hts gL_law_X6_type rfl rfl rfl (by decide +kernel) ⟨Nat.le_of_ble_eq_true rfl, Nat.le_of_ble_eq_true rfl⟩) ⟨zpM_blind, va_recv hK hP (ci := 6) (q0 := 0) rfl rfl, z_useM hK hN hP hD [0, 7] [1, 2, 3, 4, 5, 6, 8, 9, 10, 11, 12] rfl (show List.Perm [0, 7, 1, 2, 3, 4, 5, 6, 8, 9, 10, 11, 12] (List.range 13) from by decide)⟩ rfl rfl hl.1 rfl (lv_room (Nat.le_of_ble_eq_true rfl)) dL_law_723 ⟨by show k + 0 ≤ 600000; omega, by show n + 0 ≤ 7302250; omega⟩) (fun H locs hP hD hS => ?_)
  refine W.eq (g2 := F0 m 726 ls [.int R.1]) rfl ?_
  refine lv_aload_n hx hb dL_law_726 rfl (lv_at hl 2 rfl) ?_
  refine lv_aload_n hx hb dL_law_727 rfl (lv_at hl 0 rfl) ?_
  refine lv_iload_n hx hb dL_law_728 rfl (lv_at hl 3 rfl) ?_
  refine lv_iconst (v := (1 : Int32)) hx hb dL_law_729 (by decide) ?_
  refine lv_iadd hx hb dL_law_730 ?_
  refine va_sld hx hb hX hbl hbA hS h1 dL_law_731 ?_
  refine z_callM (gs2 := [(wX6 qM bM gM), (wX0 cI (bM 0) aB gB), (wX0 cI (bM 1) aT gT), (wX4 cI (bM 2) aR gR), (wX1 cI (bM 3) aC gC), (wX2 (bM 4) gH), (wX3 cO (bM 5) aY gY (zrm zZ)), (wX5 cI cC (bM 6) aX R.2), (wZ cI (zZ 0)), (wZ cI (zZ 1)), (wZ cI (zZ 2)), (wZ cI (zZ 3)), (wX7 cI qN aN R'.2)]) hP hD hS hA [12] [0, 1, 2, 3, 4, 5, 6, 7, 8, 9, 10, 11] rfl rfl rfl (show List.Perm [12, 0, 1, 2, 3, 4, 5, 6, 7, 8, 9, 10, 11] (List.range 13) from by decide) rfl (va_runV (As := [.int (xs (x3 + (1 : Int32)).toNatClampNeg)]) (rest := [.int R.1]) ⟨hx, hb, hml, hown, hts⟩ (c_X7_type l dC dI cI cC cO qN aN gN (xs (x3 + (1 : Int32)).toNatClampNeg) R' hfb H.size) (cwV 1 hts gL_law_X7_type rfl rfl rfl (by decide +kernel) ⟨Nat.le_of_ble_eq_true rfl, Nat.le_of_ble_eq_true rfl⟩) ⟨zpM_blind, z_recv hK hP (ci := 7) (q := (RX7, TX7, 21)) (fs := [.ref (aN 0), .ref (aN 1), .ref (aN 2), .ref (aN 3), .int (gN 4 0), .int (gN 5 0), .ref (aN 6), .int (gN 7 0), .int (gN 8 0), .int (gN 9 0), .int (gN 10 0), .int (gN 11 0), .ref (aN 12), .ref (aN 13), .int (gN 14 0), .int (gN 15 0), .int (gN 16 0), .int (gN 17 0), .int (gN 18 0), .int (gN 19 0), .ref (aN 20)]) rfl (zNmem _ _ _ _ _ _ _ _ _ _ _ _ ()), z_useM hK hN hP hD [12] [0, 1, 2, 3, 4, 5, 6, 7, 8, 9, 10, 11] rfl (show List.Perm [12, 0, 1, 2, 3, 4, 5, 6, 7, 8, 9, 10, 11] (List.range 13) from by decide)⟩ rfl rfl hl.1 rfl (lv_room (Nat.le_of_ble_eq_true rfl)) dL_law_732 ⟨by show (k + 0) + 0 ≤ 600000; omega, by show (n + 0) + 0 ≤ 7302250; omega⟩) (fun H locs hP hD hS => ?_)
  refine W.eq (g2 := F0 m 735 ls [.int R'.1, .int R.1]) rfl ?_
  refine lv_icmp_eq (tgt := 789) hx hb dL_law_735 (by decide) (fun _ => ?_) (fun c_ => absurd hEq c_)
  refine W.widen (k := k + 8) (n := n + 66) (by omega) (by omega) ?_
  exact K gM gB gT gR gC gH gY R.2 zZ R'.2 hR' H locs ls hP hD hS hl

set_option maxHeartbeats 4000000 in
set_option maxRecDepth 100000 in
theorem lc_clearText {p : Program} {l : Launch} {e : Env} {s : State} {m : MethodId} {below : List Frame} {meth : Method} {c : Code} {b L : Nat} {xs : Nat → Int32} {dC : Nat → ClassId} {dI : Nat → Nat → Nat} {cI cC cO : ClassId} (X : lwC p s m c b L xs dC dI cI cC cO) {qM qN : Nat} {bM aB aT aR aC aY aX aN : Nat → Nat} {Q : State → Prop} {x3 : Int32} (h1 : vp_in (x3 + (1 : Int32)) L) (h2 : vp_in (x3 + (2 : Int32)) L) (h3 : vp_in (x3 + (3 : Int32)) L) (h4 : vp_in (x3 + (4 : Int32)) L) {gM gB gT gR gC gH gY gX gN : zG} {zZ : Nat → zS} (hR : zRel gB gX gY (zcn zZ) gN) {k n : Nat} (hk : k + 8 ≤ 600000) (hn : n + 66 ≤ 7302250) (K : lwK p l e s m below meth c b qM qN bM aB aT aR aC aY aX aN dC dI cI cC cO Q x3 (k + 8) (n + 66)) (H : Heap) (locs : List Loc) (ls : Array Slot) (hP : va_P (dC, dI) vwCl [(wX6 qM bM gM), (wX0 cI (bM 0) aB gB), (wX0 cI (bM 1) aT gT), (wX4 cI (bM 2) aR gR), (wX1 cI (bM 3) aC gC), (wX2 (bM 4) gH), (wX3 cO (bM 5) aY gY (zrm zZ)), (wX5 cI cC (bM 6) aX gX), (wZ cI (zZ 0)), (wZ cI (zZ 1)), (wZ cI (zZ 2)), (wZ cI (zZ 3)), (wX7 cI qN aN gN)].flatten H) (hD : va_D (fun q : Nat => s.heap.size ≤ q) [(wX6 qM bM gM), (wX0 cI (bM 0) aB gB), (wX0 cI (bM 1) aT gT), (wX4 cI (bM 2) aR gR), (wX1 cI (bM 3) aC gC), (wX2 (bM 4) gH), (wX3 cO (bM 5) aY gY (zrm zZ)), (wX5 cI cC (bM 6) aX gX), (wZ cI (zZ 0)), (wZ cI (zZ 1)), (wZ cI (zZ 2)), (wZ cI (zZ 3)), (wX7 cI qN aN gN)].flatten) (hS : va_S (fun q : Nat => s.heap.size ≤ q) s.heap H locs) (hl : lv_has ls 4 [(0, .ref b), (1, .ref qM), (2, .ref qN), (3, .int x3)]) : W p l e room_1 s m #[.ref b] below meth c H locs k n Q (F0 m 740 ls []) := by
  obtain ⟨hx, hb, hml, hown, hts, hX, hbl, hK, hN⟩ := X
  have hA : ∀ q : Nat, s.heap.size ≤ q → (fun q : Nat => s.heap.size ≤ q) q := fun _ h => h
  have hbA : ¬ (fun q : Nat => s.heap.size ≤ q) b := Nat.not_le.mpr hbl
  obtain ⟨R, R', hfa, hfb, hEq, hR'⟩ := pm_clearText hR gM 
  refine lv_aload_n hx hb dL_law_740 rfl (lv_at hl 1 rfl) ?_
  refine z_callM (gs2 := [(wX6 qM bM gM), (wX0 cI (bM 0) aB gB), (wX0 cI (bM 1) aT gT), (wX4 cI (bM 2) aR gR), (wX1 cI (bM 3) aC gC), (wX2 (bM 4) gH), (wX3 cO (bM 5) aY gY (zrm zZ)), (wX5 cI cC (bM 6) aX R.2), (wZ cI (zZ 0)), (wZ cI (zZ 1)), (wZ cI (zZ 2)), (wZ cI (zZ 3)), (wX7 cI qN aN gN)]) hP hD hS hA [0, 7] [1, 2, 3, 4, 5, 6, 8, 9, 10, 11, 12] rfl rfl rfl (show List.Perm [0, 7, 1, 2, 3, 4, 5, 6, 8, 9, 10, 11, 12] (List.range 13) from by decide) rfl (va_runV (As := []) (rest := []) ⟨hx, hb, hml, hown, hts⟩ (c_X6_clearText l dC dI cI cC cO qM bM gM aX gX  R hfa H.size) (cwV 0 hts gL_law_X6_clearText rfl rfl rfl (by decide +kernel) ⟨Nat.le_of_ble_eq_true rfl, Nat.le_of_ble_eq_true rfl⟩) ⟨zpM_blind, va_recv hK hP (ci := 6) (q0 := 0) rfl rfl, z_useM hK hN hP hD [0, 7] [1, 2, 3, 4, 5, 6, 8, 9, 10, 11, 12] rfl (show List.Perm [0, 7, 1, 2, 3, 4, 5, 6, 8, 9, 10, 11, 12] (List.range 13) from by decide)⟩ rfl rfl hl.1 rfl (lv_room (Nat.le_of_ble_eq_true rfl)) dL_law_741 ⟨by show k + 0 ≤ 600000; omega, by show n + 0 ≤ 7302250; omega⟩) (fun H locs hP hD hS => ?_)
  refine W.eq (g2 := F0 m 744 ls [.int R.1]) rfl ?_
  refine lv_aload_n hx hb dL_law_744 rfl (lv_at hl 2 rfl) ?_
  refine z_callM (gs2 := [(wX6 qM bM gM), (wX0 cI (bM 0) aB gB), (wX0 cI (bM 1) aT gT), (wX4 cI (bM 2) aR gR), (wX1 cI (bM 3) aC gC), (wX2 (bM 4) gH), (wX3 cO (bM 5) aY gY (zrm zZ)), (wX5 cI cC (bM 6) aX R.2), (wZ cI (zZ 0)), (wZ cI (zZ 1)), (wZ cI (zZ 2)), (wZ cI (zZ 3)), (wX7 cI qN aN R'.2)]) hP hD hS hA [12] [0, 1, 2, 3, 4, 5, 6, 7, 8, 9, 10, 11] rfl rfl rfl (show List.Perm [12, 0, 1, 2, 3, 4, 5, 6, 7, 8, 9, 10, 11] (List.range 13) from by decide) rfl (va_runV (As := []) (rest := [.int R.1]) ⟨hx, hb, hml, hown, hts⟩ (c_X7_clearText l dC dI cI cC cO qN aN gN  R' hfb H.size) (cwV 0 hts gL_law_X7_clearText rfl rfl rfl (by decide +kernel) ⟨Nat.le_of_ble_eq_true rfl, Nat.le_of_ble_eq_true rfl⟩) ⟨zpM_blind, z_recv hK hP (ci := 7) (q := (RX7, TX7, 21)) (fs := [.ref (aN 0), .ref (aN 1), .ref (aN 2), .ref (aN 3), .int (gN 4 0), .int (gN 5 0), .ref (aN 6), .int (gN 7 0), .int (gN 8 0), .int (gN 9 0), .int (gN 10 0), .int (gN 11 0), .ref (aN 12), .ref (aN 13), .int (gN 14 0), .int (gN 15 0), .int (gN 16 0), .int (gN 17 0), .int (gN 18 0), .int (gN 19 0), .ref (aN 20)]) rfl (zNmem _ _ _ _ _ _ _ _ _ _ _ _ ()), z_useM hK hN hP hD [12] [0, 1, 2, 3, 4, 5, 6, 7, 8, 9, 10, 11] rfl (show List.Perm [12, 0, 1, 2, 3, 4, 5, 6, 7, 8, 9, 10, 11] (List.range 13) from by decide)⟩ rfl rfl hl.1 rfl (lv_room (Nat.le_of_ble_eq_true rfl)) dL_law_745 ⟨by show (k + 0) + 0 ≤ 600000; omega, by show (n + 0) + 0 ≤ 7302250; omega⟩) (fun H locs hP hD hS => ?_)
  refine W.eq (g2 := F0 m 748 ls [.int R'.1, .int R.1]) rfl ?_
  refine lv_icmp_eq (tgt := 789) hx hb dL_law_748 (by decide) (fun _ => ?_) (fun c_ => absurd hEq c_)
  refine W.widen (k := k + 8) (n := n + 66) (by omega) (by omega) ?_
  exact K gM gB gT gR gC gH gY R.2 zZ R'.2 hR' H locs ls hP hD hS hl

set_option maxHeartbeats 4000000 in
set_option maxRecDepth 100000 in
theorem lc_fault {p : Program} {l : Launch} {e : Env} {s : State} {m : MethodId} {below : List Frame} {meth : Method} {c : Code} {b L : Nat} {xs : Nat → Int32} {dC : Nat → ClassId} {dI : Nat → Nat → Nat} {cI cC cO : ClassId} (X : lwC p s m c b L xs dC dI cI cC cO) {qM qN : Nat} {bM aB aT aR aC aY aX aN : Nat → Nat} {Q : State → Prop} {x3 : Int32} (h1 : vp_in (x3 + (1 : Int32)) L) (h2 : vp_in (x3 + (2 : Int32)) L) (h3 : vp_in (x3 + (3 : Int32)) L) (h4 : vp_in (x3 + (4 : Int32)) L) {gM gB gT gR gC gH gY gX gN : zG} {zZ : Nat → zS} (hR : zRel gB gX gY (zcn zZ) gN) {k n : Nat} (hk : k + 8 ≤ 600000) (hn : n + 66 ≤ 7302250) (K : lwK p l e s m below meth c b qM qN bM aB aT aR aC aY aX aN dC dI cI cC cO Q x3 (k + 8) (n + 66)) (H : Heap) (locs : List Loc) (ls : Array Slot) (hP : va_P (dC, dI) vwCl [(wX6 qM bM gM), (wX0 cI (bM 0) aB gB), (wX0 cI (bM 1) aT gT), (wX4 cI (bM 2) aR gR), (wX1 cI (bM 3) aC gC), (wX2 (bM 4) gH), (wX3 cO (bM 5) aY gY (zrm zZ)), (wX5 cI cC (bM 6) aX gX), (wZ cI (zZ 0)), (wZ cI (zZ 1)), (wZ cI (zZ 2)), (wZ cI (zZ 3)), (wX7 cI qN aN gN)].flatten H) (hD : va_D (fun q : Nat => s.heap.size ≤ q) [(wX6 qM bM gM), (wX0 cI (bM 0) aB gB), (wX0 cI (bM 1) aT gT), (wX4 cI (bM 2) aR gR), (wX1 cI (bM 3) aC gC), (wX2 (bM 4) gH), (wX3 cO (bM 5) aY gY (zrm zZ)), (wX5 cI cC (bM 6) aX gX), (wZ cI (zZ 0)), (wZ cI (zZ 1)), (wZ cI (zZ 2)), (wZ cI (zZ 3)), (wX7 cI qN aN gN)].flatten) (hS : va_S (fun q : Nat => s.heap.size ≤ q) s.heap H locs) (hl : lv_has ls 4 [(0, .ref b), (1, .ref qM), (2, .ref qN), (3, .int x3)]) : W p l e room_1 s m #[.ref b] below meth c H locs k n Q (F0 m 753 ls []) := by
  obtain ⟨hx, hb, hml, hown, hts, hX, hbl, hK, hN⟩ := X
  have hA : ∀ q : Nat, s.heap.size ≤ q → (fun q : Nat => s.heap.size ≤ q) q := fun _ h => h
  have hbA : ¬ (fun q : Nat => s.heap.size ≤ q) b := Nat.not_le.mpr hbl
  obtain ⟨R, R', hfa, hfb, hEq, hR'⟩ := pm_fault hR gM gT (xs (x3 + (1 : Int32)).toNatClampNeg)
  refine lv_aload_n hx hb dL_law_753 rfl (lv_at hl 1 rfl) ?_
  refine lv_aload_n hx hb dL_law_754 rfl (lv_at hl 0 rfl) ?_
  refine lv_iload_n hx hb dL_law_755 rfl (lv_at hl 3 rfl) ?_
  refine lv_iconst (v := (1 : Int32)) hx hb dL_law_756 (by decide) ?_
  refine lv_iadd hx hb dL_law_757 ?_
  refine va_sld hx hb hX hbl hbA hS h1 dL_law_758 ?_
  refine z_callM (gs2 := [(wX6 qM bM R.2.1), (wX0 cI (bM 0) aB gB), (wX0 cI (bM 1) aT R.2.2.1), (wX4 cI (bM 2) aR gR), (wX1 cI (bM 3) aC gC), (wX2 (bM 4) gH), (wX3 cO (bM 5) aY gY (zrm zZ)), (wX5 cI cC (bM 6) aX R.2.2.2), (wZ cI (zZ 0)), (wZ cI (zZ 1)), (wZ cI (zZ 2)), (wZ cI (zZ 3)), (wX7 cI qN aN gN)]) hP hD hS hA [0, 1, 2, 7] [3, 4, 5, 6, 8, 9, 10, 11, 12] rfl rfl rfl (show List.Perm [0, 1, 2, 7, 3, 4, 5, 6, 8, 9, 10, 11, 12] (List.range 13) from by decide) rfl (va_runV (As := [.int (xs (x3 + (1 : Int32)).toNatClampNeg)]) (rest := []) ⟨hx, hb, hml, hown, hts⟩ (c_X6_fault l dC dI cI cC cO qM bM gM aB gB aT gT aX gX (xs (x3 + (1 : Int32)).toNatClampNeg) R hfa H.size) (cwV 1 hts gL_law_X6_fault rfl rfl rfl (by decide +kernel) ⟨Nat.le_of_ble_eq_true rfl, Nat.le_of_ble_eq_true rfl⟩) ⟨zpM_blind, va_recv hK hP (ci := 6) (q0 := 0) rfl rfl, z_useM hK hN hP hD [0, 1, 2, 7] [3, 4, 5, 6, 8, 9, 10, 11, 12] rfl (show List.Perm [0, 1, 2, 7, 3, 4, 5, 6, 8, 9, 10, 11, 12] (List.range 13) from by decide)⟩ rfl rfl hl.1 rfl (lv_room (Nat.le_of_ble_eq_true rfl)) dL_law_759 ⟨by show k + 0 ≤ 600000; omega, by show n + 0 ≤ 7302250; omega⟩) (fun H locs hP hD hS => ?_)
  refine W.eq (g2 := F0 m 762 ls [.int R.1]) rfl ?_
  refine lv_aload_n hx hb dL_law_762 rfl (lv_at hl 2 rfl) ?_
  refine lv_aload_n hx hb dL_law_763 rfl (lv_at hl 0 rfl) ?_
  refine lv_iload_n hx hb dL_law_764 rfl (lv_at hl 3 rfl) ?_
  refine lv_iconst (v := (1 : Int32)) hx hb dL_law_765 (by decide) ?_
  refine lv_iadd hx hb dL_law_766 ?_
  refine va_sld hx hb hX hbl hbA hS h1 dL_law_767 ?_
  refine z_callM (gs2 := [(wX6 qM bM R.2.1), (wX0 cI (bM 0) aB gB), (wX0 cI (bM 1) aT R.2.2.1), (wX4 cI (bM 2) aR gR), (wX1 cI (bM 3) aC gC), (wX2 (bM 4) gH), (wX3 cO (bM 5) aY gY (zrm zZ)), (wX5 cI cC (bM 6) aX R.2.2.2), (wZ cI (zZ 0)), (wZ cI (zZ 1)), (wZ cI (zZ 2)), (wZ cI (zZ 3)), (wX7 cI qN aN R'.2)]) hP hD hS hA [12] [0, 1, 2, 3, 4, 5, 6, 7, 8, 9, 10, 11] rfl rfl rfl (show List.Perm [12, 0, 1, 2, 3, 4, 5, 6, 7, 8, 9, 10, 11] (List.range 13) from by decide) rfl (va_runV (As := [.int (xs (x3 + (1 : Int32)).toNatClampNeg)]) (rest := [.int R.1]) ⟨hx, hb, hml, hown, hts⟩ (c_X7_fault l dC dI cI cC cO qN aN gN (xs (x3 + (1 : Int32)).toNatClampNeg) R' hfb H.size) (cwV 1 hts gL_law_X7_fault rfl rfl rfl (by decide +kernel) ⟨Nat.le_of_ble_eq_true rfl, Nat.le_of_ble_eq_true rfl⟩) ⟨zpM_blind, z_recv hK hP (ci := 7) (q := (RX7, TX7, 21)) (fs := [.ref (aN 0), .ref (aN 1), .ref (aN 2), .ref (aN 3), .int (gN 4 0), .int (gN 5 0), .ref (aN 6), .int (gN 7 0), .int (gN 8 0), .int (gN 9 0), .int (gN 10 0), .int (gN 11 0), .ref (aN 12), .ref (aN 13), .int (gN 14 0), .int (gN 15 0), .int (gN 16 0), .int (gN 17 0), .int (gN 18 0), .int (gN 19 0), .ref (aN 20)]) rfl (zNmem _ _ _ _ _ _ _ _ _ _ _ _ ()), z_useM hK hN hP hD [12] [0, 1, 2, 3, 4, 5, 6, 7, 8, 9, 10, 11] rfl (show List.Perm [12, 0, 1, 2, 3, 4, 5, 6, 7, 8, 9, 10, 11] (List.range 13) from by decide)⟩ rfl rfl hl.1 rfl (lv_room (Nat.le_of_ble_eq_true rfl)) dL_law_768 ⟨by show (k + 0) + 0 ≤ 600000; omega, by show (n + 0) + 0 ≤ 7302250; omega⟩) (fun H locs hP hD hS => ?_)
  refine W.eq (g2 := F0 m 771 ls [.int R'.1, .int R.1]) rfl ?_
  refine lv_icmp_eq (tgt := 789) hx hb dL_law_771 (by decide) (fun _ => ?_) (fun c_ => absurd hEq c_)
  refine W.widen (k := k + 8) (n := n + 66) (by omega) (by omega) ?_
  exact K R.2.1 gB R.2.2.1 gR gC gH gY R.2.2.2 zZ R'.2 hR' H locs ls hP hD hS hl

set_option maxHeartbeats 4000000 in
set_option maxRecDepth 100000 in
theorem lc_play {p : Program} {l : Launch} {e : Env} {s : State} {m : MethodId} {below : List Frame} {meth : Method} {c : Code} {b L : Nat} {xs : Nat → Int32} {dC : Nat → ClassId} {dI : Nat → Nat → Nat} {cI cC cO : ClassId} (X : lwC p s m c b L xs dC dI cI cC cO) {qM qN : Nat} {bM aB aT aR aC aY aX aN : Nat → Nat} {Q : State → Prop} {x3 : Int32} (h1 : vp_in (x3 + (1 : Int32)) L) (h2 : vp_in (x3 + (2 : Int32)) L) (h3 : vp_in (x3 + (3 : Int32)) L) (h4 : vp_in (x3 + (4 : Int32)) L) {gM gB gT gR gC gH gY gX gN : zG} {zZ : Nat → zS} (hR : zRel gB gX gY (zcn zZ) gN) {k n : Nat} (hk : k + 8 ≤ 600000) (hn : n + 66 ≤ 7302250) (K : lwK p l e s m below meth c b qM qN bM aB aT aR aC aY aX aN dC dI cI cC cO Q x3 (k + 8) (n + 66)) (H : Heap) (locs : List Loc) (ls : Array Slot) (hP : va_P (dC, dI) vwCl [(wX6 qM bM gM), (wX0 cI (bM 0) aB gB), (wX0 cI (bM 1) aT gT), (wX4 cI (bM 2) aR gR), (wX1 cI (bM 3) aC gC), (wX2 (bM 4) gH), (wX3 cO (bM 5) aY gY (zrm zZ)), (wX5 cI cC (bM 6) aX gX), (wZ cI (zZ 0)), (wZ cI (zZ 1)), (wZ cI (zZ 2)), (wZ cI (zZ 3)), (wX7 cI qN aN gN)].flatten H) (hD : va_D (fun q : Nat => s.heap.size ≤ q) [(wX6 qM bM gM), (wX0 cI (bM 0) aB gB), (wX0 cI (bM 1) aT gT), (wX4 cI (bM 2) aR gR), (wX1 cI (bM 3) aC gC), (wX2 (bM 4) gH), (wX3 cO (bM 5) aY gY (zrm zZ)), (wX5 cI cC (bM 6) aX gX), (wZ cI (zZ 0)), (wZ cI (zZ 1)), (wZ cI (zZ 2)), (wZ cI (zZ 3)), (wX7 cI qN aN gN)].flatten) (hS : va_S (fun q : Nat => s.heap.size ≤ q) s.heap H locs) (hl : lv_has ls 4 [(0, .ref b), (1, .ref qM), (2, .ref qN), (3, .int x3)]) : W p l e room_1 s m #[.ref b] below meth c H locs k n Q (F0 m 776 ls []) := by
  obtain ⟨hx, hb, hml, hown, hts, hX, hbl, hK, hN⟩ := X
  have hA : ∀ q : Nat, s.heap.size ≤ q → (fun q : Nat => s.heap.size ≤ q) q := fun _ h => h
  have hbA : ¬ (fun q : Nat => s.heap.size ≤ q) b := Nat.not_le.mpr hbl
  obtain ⟨R, R', hfa, hfb, hEq, hR'⟩ := pm_play hR gM gT 
  refine lv_aload_n hx hb dL_law_776 rfl (lv_at hl 1 rfl) ?_
  refine z_callE (gs2 := fun u : Nat → zS => [(wX6 qM bM R.2.1), (wX0 cI (bM 0) aB R.2.2.1), (wX0 cI (bM 1) aT R.2.2.2.1), (wX4 cI (bM 2) aR gR), (wX1 cI (bM 3) aC gC), (wX2 (bM 4) gH), (wX3 cO (bM 5) aY R.2.2.2.2.2.1 (zrm u)), (wX5 cI cC (bM 6) aX R.2.2.2.2.1), (wZ cI (u 0)), (wZ cI (u 1)), (wZ cI (u 2)), (wZ cI (u 3)), (wX7 cI qN aN gN)]) hP hD hS hA [0, 1, 2, 7, 6, 8, 9, 10, 11] [3, 4, 5, 12] rfl (fun _ => rfl) (fun _ => rfl) (show List.Perm [0, 1, 2, 7, 6, 8, 9, 10, 11, 3, 4, 5, 12] (List.range 13) from by decide) (fun _ => rfl) (va_runV (As := []) (rest := []) ⟨hx, hb, hml, hown, hts⟩ (c_X6_play l dC dI cI cC cO qM bM gM aB gB aT gT aX gX aY gY zZ  R hfa H.size) (cwV 0 hts gL_law_X6_play rfl rfl rfl (by decide +kernel) ⟨Nat.le_of_ble_eq_true rfl, Nat.le_of_ble_eq_true rfl⟩) ⟨zpM_blind, va_recv hK hP (ci := 6) (q0 := 0) rfl rfl, z_useM hK hN hP hD [0, 1, 2, 7, 6, 8, 9, 10, 11] [3, 4, 5, 12] rfl (show List.Perm [0, 1, 2, 7, 6, 8, 9, 10, 11, 3, 4, 5, 12] (List.range 13) from by decide)⟩ rfl rfl hl.1 rfl (lv_room (Nat.le_of_ble_eq_true rfl)) dL_law_777 ⟨by show k + 8 ≤ 600000; omega, by show n + 66 ≤ 7302250; omega⟩) (fun u pu H locs hP hD hS => ?_)
  refine W.eq (g2 := F0 m 780 ls [.int R.1]) rfl ?_
  refine lv_aload_n hx hb dL_law_780 rfl (lv_at hl 2 rfl) ?_
  refine z_callM (gs2 := [(wX6 qM bM R.2.1), (wX0 cI (bM 0) aB R.2.2.1), (wX0 cI (bM 1) aT R.2.2.2.1), (wX4 cI (bM 2) aR gR), (wX1 cI (bM 3) aC gC), (wX2 (bM 4) gH), (wX3 cO (bM 5) aY R.2.2.2.2.2.1 (zrm u)), (wX5 cI cC (bM 6) aX R.2.2.2.2.1), (wZ cI (u 0)), (wZ cI (u 1)), (wZ cI (u 2)), (wZ cI (u 3)), (wX7 cI qN aN R'.2)]) hP hD hS hA [12] [0, 1, 2, 3, 4, 5, 6, 7, 8, 9, 10, 11] rfl rfl rfl (show List.Perm [12, 0, 1, 2, 3, 4, 5, 6, 7, 8, 9, 10, 11] (List.range 13) from by decide) rfl (va_runV (As := []) (rest := [.int R.1]) ⟨hx, hb, hml, hown, hts⟩ (c_X7_play l dC dI cI cC cO qN aN gN  R' hfb H.size) (cwV 0 hts gL_law_X7_play rfl rfl rfl (by decide +kernel) ⟨Nat.le_of_ble_eq_true rfl, Nat.le_of_ble_eq_true rfl⟩) ⟨zpM_blind, z_recv hK hP (ci := 7) (q := (RX7, TX7, 21)) (fs := [.ref (aN 0), .ref (aN 1), .ref (aN 2), .ref (aN 3), .int (gN 4 0), .int (gN 5 0), .ref (aN 6), .int (gN 7 0), .int (gN 8 0), .int (gN 9 0), .int (gN 10 0), .int (gN 11 0), .ref (aN 12), .ref (aN 13), .int (gN 14 0), .int (gN 15 0), .int (gN 16 0), .int (gN 17 0), .int (gN 18 0), .int (gN 19 0), .ref (aN 20)]) rfl (zNmem _ _ _ _ _ _ _ _ _ _ _ _ ()), z_useM hK hN hP hD [12] [0, 1, 2, 3, 4, 5, 6, 7, 8, 9, 10, 11] rfl (show List.Perm [12, 0, 1, 2, 3, 4, 5, 6, 7, 8, 9, 10, 11] (List.range 13) from by decide)⟩ rfl rfl hl.1 rfl (lv_room (Nat.le_of_ble_eq_true rfl)) dL_law_781 ⟨by show (k + 8) + 0 ≤ 600000; omega, by show (n + 66) + 0 ≤ 7302250; omega⟩) (fun H locs hP hD hS => ?_)
  refine W.eq (g2 := F0 m 784 ls [.int R'.1, .int R.1]) rfl ?_
  refine lv_icmp_eq (tgt := 789) hx hb dL_law_784 (by decide) (fun _ => ?_) (fun c_ => absurd hEq c_)
  refine W.widen (k := k + 8) (n := n + 66) (by omega) (by omega) ?_
  exact K R.2.1 R.2.2.1 R.2.2.2.1 gR gC gH R.2.2.2.2.2.1 R.2.2.2.2.1 u R'.2 (by rw [pu]; exact hR') H locs ls hP hD hS hl

set_option maxHeartbeats 4000000 in
set_option maxRecDepth 100000 in
theorem law_loop {p : Program} {l : Launch} {e : Env} {s : State} {m : MethodId} {below : List Frame} {meth : Method} {c : Code} {b L : Nat} {xs : Nat → Int32} {dC : Nat → ClassId} {dI : Nat → Nat → Nat} {cI cC cO : ClassId} (hL : L ≤ 2560) (X : lwC p s m c b L xs dC dI cI cC cO) (hr : meth.sig.returnType = ret) (hlk : meth.locks = false) {qM qN : Nat} {bM aB aT aR aC aY aX aN : Nat → Nat} : ∀ (r j : Nat), L ≤ 5 * j + r → 5 * j ≤ L + 4 → ∀ (gM gB gT gR gC gH gY gX : zG) (zZ : Nat → zS) (gN : zG), zRel gB gX gY (zcn zZ) gN → ∀ (H : Heap) (locs : List Loc) (ls : Array Slot), va_P (dC, dI) vwCl [(wX6 qM bM gM), (wX0 cI (bM 0) aB gB), (wX0 cI (bM 1) aT gT), (wX4 cI (bM 2) aR gR), (wX1 cI (bM 3) aC gC), (wX2 (bM 4) gH), (wX3 cO (bM 5) aY gY (zrm zZ)), (wX5 cI cC (bM 6) aX gX), (wZ cI (zZ 0)), (wZ cI (zZ 1)), (wZ cI (zZ 2)), (wZ cI (zZ 3)), (wX7 cI qN aN gN)].flatten H → va_D (fun q : Nat => s.heap.size ≤ q) [(wX6 qM bM gM), (wX0 cI (bM 0) aB gB), (wX0 cI (bM 1) aT gT), (wX4 cI (bM 2) aR gR), (wX1 cI (bM 3) aC gC), (wX2 (bM 4) gH), (wX3 cO (bM 5) aY gY (zrm zZ)), (wX5 cI cC (bM 6) aX gX), (wZ cI (zZ 0)), (wZ cI (zZ 1)), (wZ cI (zZ 2)), (wZ cI (zZ 3)), (wX7 cI qN aN gN)].flatten → va_S (fun q : Nat => s.heap.size ≤ q) s.heap H locs → lv_has ls 4 [(0, .ref b), (1, .ref qM), (2, .ref qN), (3, .int (nI (5 * j)))] → W p l e room_1 s m #[.ref b] below meth c H locs (41 + 8 * j) (798 + 66 * j) (lw_Z below #[Value.ref b] s) (F0 m 18 ls []) := by
  intro r
  induction r with
  | zero =>
    intro j hj hj2 gM gB gT gR gC gH gY gX zZ gN hR H locs ls hP hD hS hl
    have X0 := X
    obtain ⟨hx, hb, hml, hown, hts, hX, hbl, hK, hN⟩ := X0
    have hbA : ¬ (fun q : Nat => s.heap.size ≤ q) b := Nat.not_le.mpr hbl
    refine lv_iload_n hx hb dL_law_18 rfl (lv_at hl 3 rfl) ?_
    refine lv_aload_n hx hb dL_law_19 rfl (lv_at hl 0 rfl) ?_
    refine va_slen hx hb hX hbl hbA hS dL_law_20 ?_
    refine lv_iconst (v := (5 : Int32)) hx hb dL_law_21 (by decide) ?_
    refine lv_isub hx hb dL_law_22 ?_
    have e5 : (Int32.ofNat L - (5 : Int32)).toInt = (L : Int) - 5 := by
      have e1 : (Int32.ofNat L).toInt = (L : Int) := toInt_nI (n := L) (by omega)
      have e2 : (5 : Int32).toInt = 5 := rfl
      rw [isub (by rw [e1, e2]; omega) (by rw [e1, e2]; omega), e1, e2]
    have e6 : (nI (5 * j)).toInt = ((5 * j : Nat) : Int) := toInt_nI (by omega)
    refine lv_icmp_gt (tgt := 795) hx hb dL_law_23 (by decide) (fun c_1 => ?_) (fun c_1 => ?_)
    · refine lv_iconst (v := (1 : Int32)) hx hb dL_law_795 (by decide) ?_
      refine va_forget hS.2.2 ?_
      refine W.widen (k := 600000) (n := 7302250) (by omega) (by omega) ?_
      exact W.base (lw_ret (Drawn.sameBut.refl s.drawn lw_cs) hx hb hr hlk dL_law_796)
    · rw [ilt, e5, e6] at c_1
      omega
  | succ r ih =>
    intro j hj hj2 gM gB gT gR gC gH gY gX zZ gN hR H locs ls hP hD hS hl
    have X0 := X
    obtain ⟨hx, hb, hml, hown, hts, hX, hbl, hK, hN⟩ := X0
    have hbA : ¬ (fun q : Nat => s.heap.size ≤ q) b := Nat.not_le.mpr hbl
    refine lv_iload_n hx hb dL_law_18 rfl (lv_at hl 3 rfl) ?_
    refine lv_aload_n hx hb dL_law_19 rfl (lv_at hl 0 rfl) ?_
    refine va_slen hx hb hX hbl hbA hS dL_law_20 ?_
    refine lv_iconst (v := (5 : Int32)) hx hb dL_law_21 (by decide) ?_
    refine lv_isub hx hb dL_law_22 ?_
    have e5 : (Int32.ofNat L - (5 : Int32)).toInt = (L : Int) - 5 := by
      have e1 : (Int32.ofNat L).toInt = (L : Int) := toInt_nI (n := L) (by omega)
      have e2 : (5 : Int32).toInt = 5 := rfl
      rw [isub (by rw [e1, e2]; omega) (by rw [e1, e2]; omega), e1, e2]
    have e6 : (nI (5 * j)).toInt = ((5 * j : Nat) : Int) := toInt_nI (by omega)
    refine lv_icmp_gt (tgt := 795) hx hb dL_law_23 (by decide) (fun c_1 => ?_) (fun c_1 => ?_)
    · refine lv_iconst (v := (1 : Int32)) hx hb dL_law_795 (by decide) ?_
      refine va_forget hS.2.2 ?_
      refine W.widen (k := 600000) (n := 7302250) (by omega) (by omega) ?_
      exact W.base (lw_ret (Drawn.sameBut.refl s.drawn lw_cs) hx hb hr hlk dL_law_796)
    rw [ilt, e5, e6] at c_1
    have h0 : vp_in (nI (5 * j)) L := vp_in_nI (by omega) (by omega)
    have h1 : vp_in (nI (5 * j) + (1 : Int32)) L := by
      rw [show nI (5 * j) + (1 : Int32) = nI (5 * j + 1) from nI_add _ _]
      exact vp_in_nI (by omega) (by omega)
    have h2 : vp_in (nI (5 * j) + (2 : Int32)) L := by
      rw [show nI (5 * j) + (2 : Int32) = nI (5 * j + 2) from nI_add _ _]
      exact vp_in_nI (by omega) (by omega)
    have h3 : vp_in (nI (5 * j) + (3 : Int32)) L := by
      rw [show nI (5 * j) + (3 : Int32) = nI (5 * j + 3) from nI_add _ _]
      exact vp_in_nI (by omega) (by omega)
    have h4 : vp_in (nI (5 * j) + (4 : Int32)) L := by
      rw [show nI (5 * j) + (4 : Int32) = nI (5 * j + 4) from nI_add _ _]
      exact vp_in_nI (by omega) (by omega)
    have K : lwK p l e s m below meth c b qM qN bM aB aT aR aC aY aX aN dC dI cI cC cO (lw_Z below #[Value.ref b] s) (nI (5 * j)) (41 + 8 * j + 8) (798 + 66 * j + 66) := by
      intro gM gB gT gR gC gH gY gX zZ gN hR H locs ls hP hD hS hl
      refine lv_iinc (v := nI (5 * j) + (5 : Int32)) (lv' := [(3, .int (nI (5 * j) + (5 : Int32))), (0, .ref b), (1, .ref qM), (2, .ref qN)]) hx hb dL_law_789 hl (k := 3) rfl rfl (by decide) rfl (fun ls hl => ?_)
      refine lv_goto (tgt := 18) hx hb dL_law_792 (by decide) ?_
      refine W.widen (k := 41 + 8 * (j + 1)) (n := 798 + 66 * (j + 1)) (by omega) (by omega) ?_
      refine ih (j + 1) (by omega) (by omega) gM gB gT gR gC gH gY gX zZ gN hR H locs ls hP hD hS ?_
      rw [show nI (5 * (j + 1)) = nI (5 * j) + (5 : Int32) from (nI_add (5 * j) 5).symm]
      exact lv_sub hl [1, 2, 3, 0] rfl
    refine lv_aload_n hx hb dL_law_26 rfl (lv_at hl 0 rfl) ?_
    refine lv_iload_n hx hb dL_law_27 rfl (lv_at hl 3 rfl) ?_
    refine va_sld hx hb hX hbl hbA hS h0 dL_law_28 ?_
    refine lv_bipush (v := (31 : Int32)) hx hb dL_law_29 (by decide) ?_
    refine lv_iand hx hb dL_law_31 ?_
    generalize (xs (nI (5 * j)).toNatClampNeg &&& (31 : Int32)) = v
    by_cases c_2 : v = (0 : Int32)
    · refine lv_tableIn (tgt := 140) (off := 108) hx hb dL_law_32 (by rw [c_2]; decide) (by rw [c_2]; decide) (by rw [c_2]; first | done | rfl) (by decide) ?_
      exact lc_line X h1 h2 h3 h4 hR (by omega) (by omega) K H locs ls hP hD hS hl
    by_cases c_3 : v = (1 : Int32)
    · refine lv_tableIn (tgt := 173) (off := 141) hx hb dL_law_32 (by rw [c_3]; decide) (by rw [c_3]; decide) (by rw [c_3]; first | done | rfl) (by decide) ?_
      exact lc_dim X h1 h2 h3 h4 hR (by omega) (by omega) K H locs ls hP hD hS hl
    by_cases c_4 : v = (2 : Int32)
    · refine lv_tableIn (tgt := 206) (off := 174) hx hb dL_law_32 (by rw [c_4]; decide) (by rw [c_4]; decide) (by rw [c_4]; first | done | rfl) (by decide) ?_
      exact lc_prism X h1 h2 h3 h4 hR (by omega) (by omega) K H locs ls hP hD hS hl
    by_cases c_5 : v = (3 : Int32)
    · refine lv_tableIn (tgt := 259) (off := 227) hx hb dL_law_32 (by rw [c_5]; decide) (by rw [c_5]; decide) (by rw [c_5]; first | done | rfl) (by decide) ?_
      exact lc_slit X h1 h2 h3 h4 hR (by omega) (by omega) K H locs ls hP hD hS hl
    by_cases c_6 : v = (4 : Int32)
    · refine lv_tableIn (tgt := 302) (off := 270) hx hb dL_law_32 (by rw [c_6]; decide) (by rw [c_6]; decide) (by rw [c_6]; first | done | rfl) (by decide) ?_
      exact lc_take X h1 h2 h3 h4 hR (by omega) (by omega) K H locs ls hP hD hS hl
    by_cases c_7 : v = (5 : Int32)
    · refine lv_tableIn (tgt := 325) (off := 293) hx hb dL_law_32 (by rw [c_7]; decide) (by rw [c_7]; decide) (by rw [c_7]; first | done | rfl) (by decide) ?_
      exact lc_move X h1 h2 h3 h4 hR (by omega) (by omega) K H locs ls hP hD hS hl
    by_cases c_8 : v = (6 : Int32)
    · refine lv_tableIn (tgt := 358) (off := 326) hx hb dL_law_32 (by rw [c_8]; decide) (by rw [c_8]; decide) (by rw [c_8]; first | done | rfl) (by decide) ?_
      exact lc_set X h1 h2 h3 h4 hR (by omega) (by omega) K H locs ls hP hD hS hl
    by_cases c_9 : v = (7 : Int32)
    · refine lv_tableIn (tgt := 391) (off := 359) hx hb dL_law_32 (by rw [c_9]; decide) (by rw [c_9]; decide) (by rw [c_9]; first | done | rfl) (by decide) ?_
      exact lc_lineOf X h1 h2 h3 h4 hR (by omega) (by omega) K H locs ls hP hD hS hl
    by_cases c_10 : v = (8 : Int32)
    · refine lv_tableIn (tgt := 424) (off := 392) hx hb dL_law_32 (by rw [c_10]; decide) (by rw [c_10]; decide) (by rw [c_10]; first | done | rfl) (by decide) ?_
      exact lc_thing X h1 h2 h3 h4 hR (by omega) (by omega) K H locs ls hP hD hS hl
    by_cases c_11 : v = (9 : Int32)
    · refine lv_tableIn (tgt := 457) (off := 425) hx hb dL_law_32 (by rw [c_11]; decide) (by rw [c_11]; decide) (by rw [c_11]; first | done | rfl) (by decide) ?_
      exact lc_height X h1 h2 h3 h4 hR (by omega) (by omega) K H locs ls hP hD hS hl
    by_cases c_12 : v = (10 : Int32)
    · refine lv_tableIn (tgt := 490) (off := 458) hx hb dL_law_32 (by rw [c_12]; decide) (by rw [c_12]; decide) (by rw [c_12]; first | done | rfl) (by decide) ?_
      exact lc_light X h1 h2 h3 h4 hR (by omega) (by omega) K H locs ls hP hD hS hl
    by_cases c_13 : v = (11 : Int32)
    · refine lv_tableIn (tgt := 513) (off := 481) hx hb dL_law_32 (by rw [c_13]; decide) (by rw [c_13]; decide) (by rw [c_13]; first | done | rfl) (by decide) ?_
      exact lc_bright X h1 h2 h3 h4 hR (by omega) (by omega) K H locs ls hP hD hS hl
    by_cases c_14 : v = (12 : Int32)
    · refine lv_tableIn (tgt := 546) (off := 514) hx hb dL_law_32 (by rw [c_14]; decide) (by rw [c_14]; decide) (by rw [c_14]; first | done | rfl) (by decide) ?_
      exact lc_bending X h1 h2 h3 h4 hR (by omega) (by omega) K H locs ls hP hD hS hl
    by_cases c_15 : v = (13 : Int32)
    · refine lv_tableIn (tgt := 579) (off := 547) hx hb dL_law_32 (by rw [c_15]; decide) (by rw [c_15]; decide) (by rw [c_15]; first | done | rfl) (by decide) ?_
      exact lc_best X h1 h2 h3 h4 hR (by omega) (by omega) K H locs ls hP hD hS hl
    by_cases c_16 : v = (14 : Int32)
    · refine lv_tableIn (tgt := 612) (off := 580) hx hb dL_law_32 (by rw [c_16]; decide) (by rw [c_16]; decide) (by rw [c_16]; first | done | rfl) (by decide) ?_
      exact lc_alone X h1 h2 h3 h4 hR (by omega) (by omega) K H locs ls hP hD hS hl
    by_cases c_17 : v = (15 : Int32)
    · refine lv_tableIn (tgt := 645) (off := 613) hx hb dL_law_32 (by rw [c_17]; decide) (by rw [c_17]; decide) (by rw [c_17]; first | done | rfl) (by decide) ?_
      exact lc_tuned X h1 h2 h3 h4 hR (by omega) (by omega) K H locs ls hP hD hS hl
    by_cases c_18 : v = (16 : Int32)
    · refine lv_tableIn (tgt := 668) (off := 636) hx hb dL_law_32 (by rw [c_18]; decide) (by rw [c_18]; decide) (by rw [c_18]; first | done | rfl) (by decide) ?_
      exact lc_share X h1 h2 h3 h4 hR (by omega) (by omega) K H locs ls hP hD hS hl
    by_cases c_19 : v = (17 : Int32)
    · refine lv_tableIn (tgt := 681) (off := 649) hx hb dL_law_32 (by rw [c_19]; decide) (by rw [c_19]; decide) (by rw [c_19]; first | done | rfl) (by decide) ?_
      exact lc_count X h1 h2 h3 h4 hR (by omega) (by omega) K H locs ls hP hD hS hl
    by_cases c_20 : v = (18 : Int32)
    · refine lv_tableIn (tgt := 704) (off := 672) hx hb dL_law_32 (by rw [c_20]; decide) (by rw [c_20]; decide) (by rw [c_20]; first | done | rfl) (by decide) ?_
      exact lc_undo X h1 h2 h3 h4 hR (by omega) (by omega) K H locs ls hP hD hS hl
    by_cases c_21 : v = (19 : Int32)
    · refine lv_tableIn (tgt := 717) (off := 685) hx hb dL_law_32 (by rw [c_21]; decide) (by rw [c_21]; decide) (by rw [c_21]; first | done | rfl) (by decide) ?_
      exact lc_type X h1 h2 h3 h4 hR (by omega) (by omega) K H locs ls hP hD hS hl
    by_cases c_22 : v = (20 : Int32)
    · refine lv_tableIn (tgt := 740) (off := 708) hx hb dL_law_32 (by rw [c_22]; decide) (by rw [c_22]; decide) (by rw [c_22]; first | done | rfl) (by decide) ?_
      exact lc_clearText X h1 h2 h3 h4 hR (by omega) (by omega) K H locs ls hP hD hS hl
    by_cases c_23 : v = (21 : Int32)
    · refine lv_tableIn (tgt := 753) (off := 721) hx hb dL_law_32 (by rw [c_23]; decide) (by rw [c_23]; decide) (by rw [c_23]; first | done | rfl) (by decide) ?_
      exact lc_fault X h1 h2 h3 h4 hR (by omega) (by omega) K H locs ls hP hD hS hl
    by_cases c_24 : v = (22 : Int32)
    · refine lv_tableIn (tgt := 776) (off := 744) hx hb dL_law_32 (by rw [c_24]; decide) (by rw [c_24]; decide) (by rw [c_24]; first | done | rfl) (by decide) ?_
      exact lc_play X h1 h2 h3 h4 hR (by omega) (by omega) K H locs ls hP hD hS hl
    refine lv_tableOut (tgt := 789) hx hb dL_law_32 (by have q_2 := zne_toInt c_2 (a := 0) (by decide); have q_3 := zne_toInt c_3 (a := 1) (by decide); have q_4 := zne_toInt c_4 (a := 2) (by decide); have q_5 := zne_toInt c_5 (a := 3) (by decide); have q_6 := zne_toInt c_6 (a := 4) (by decide); have q_7 := zne_toInt c_7 (a := 5) (by decide); have q_8 := zne_toInt c_8 (a := 6) (by decide); have q_9 := zne_toInt c_9 (a := 7) (by decide); have q_10 := zne_toInt c_10 (a := 8) (by decide); have q_11 := zne_toInt c_11 (a := 9) (by decide); have q_12 := zne_toInt c_12 (a := 10) (by decide); have q_13 := zne_toInt c_13 (a := 11) (by decide); have q_14 := zne_toInt c_14 (a := 12) (by decide); have q_15 := zne_toInt c_15 (a := 13) (by decide); have q_16 := zne_toInt c_16 (a := 14) (by decide); have q_17 := zne_toInt c_17 (a := 15) (by decide); have q_18 := zne_toInt c_18 (a := 16) (by decide); have q_19 := zne_toInt c_19 (a := 17) (by decide); have q_20 := zne_toInt c_20 (a := 18) (by decide); have q_21 := zne_toInt c_21 (a := 19) (by decide); have q_22 := zne_toInt c_22 (a := 20) (by decide); have q_23 := zne_toInt c_23 (a := 21) (by decide); have q_24 := zne_toInt c_24 (a := 22) (by decide); omega) (by decide) ?_
    refine W.widen (k := 41 + 8 * j + 8) (n := 798 + 66 * j + 66) (by omega) (by omega) ?_
    exact K gM gB gT gR gC gH gY gX zZ gN hR H locs ls hP hD hS hl
