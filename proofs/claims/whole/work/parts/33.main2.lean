def f_X6_keepTrial (gM : zG) (gB : zG) (gT : zG) (gY : zG) (hZ : Nat → Option zG) (x1 : Int32) : Option (Int32 × zG × zG × (Nat → Option zG)) := (if x1 < 0 then (some (x1, gB, gY, hZ)) else (zbind (f_X3_record gY gB hZ) (fun R2 => (zbind (f_X0_copyFrom gB gT) (fun R3 => (some (x1, R3, R2.1, R2.2)))))))
theorem u_X6_keepTrial_X6 : ∀ w ∈ u_ws RX6 TX6 11, w ∈ wsX6_keepTrial := fun w h => List.mem_cons_of_mem _ (List.mem_append_left _ (List.mem_append_left _ (List.mem_append_right _ h)))
theorem k_X6_keepTrial_1 : Cond.fieldLink RX6 43 "JoinedLight" "history" "LJoinedLight$History;" ∈ wsX6_keepTrial := List.mem_of_getElem? (i := 1) rfl
theorem k_X6_keepTrial_2 : Cond.fieldLink RX6 10 "JoinedLight" "bench" "LJoinedLight$Bench;" ∈ wsX6_keepTrial := List.mem_of_getElem? (i := 2) rfl
theorem k_X6_keepTrial_3 : Cond.fieldLink RX6 16 "JoinedLight" "trial" "LJoinedLight$Bench;" ∈ wsX6_keepTrial := List.mem_of_getElem? (i := 3) rfl
abbrev rm_X6_keepTrial : Room := { frames := 3, cells := 8, slots := 66, locals := 83 }
set_option maxHeartbeats 4000000 in
set_option maxRecDepth 100000 in
theorem c_X6_keepTrial (l : Launch) (dC : Nat → ClassId) (dI : Nat → Nat → Nat) (cI cC cO : ClassId) (qM : Nat) (bM : Nat → Nat) (gM : zG) (aB : Nat → Nat) (gB : zG) (aT : Nat → Nat) (gT : zG) (aY : Nat → Nat) (gY : zG) (zZ : Nat → zS) (x1 : Int32) (R : Int32 × zG × zG × (Nat → Option zG)) (hf : f_X6_keepTrial gM gB gT gY (zcn zZ) x1 = some R) : cE l (dC, dI) (zT cI cC cO) yX6_keepTrial wsX6_keepTrial rm_X6_keepTrial [.ref qM, .int x1] [(wX6 qM bM gM), (wX0 cI (bM 0) aB gB), (wX0 cI (bM 1) aT gT), (wX3 cO (bM 5) aY gY (zrm zZ)), (wZ cI (zZ 0)), (wZ cI (zZ 1)), (wZ cI (zZ 2)), (wZ cI (zZ 3))] (fun u : Nat → zS => [(wX6 qM bM gM), (wX0 cI (bM 0) aB R.2.1), (wX0 cI (bM 1) aT gT), (wX3 cO (bM 5) aY R.2.2.1 (zrm u)), (wZ cI (u 0)), (wZ cI (u 1)), (wZ cI (u 2)), (wZ cI (u 3))]) (fun u => zcn u = R.2.2.2) (some (.int R.1)) 8 66 := by
  refine zE_in (cc := cX6_keepTrial) (maxL := 2) (ret := (some .int)) (plainFor_of_name (by decide)) rfl (Nat.le_of_ble_eq_true rfl) ?_
  intro p e s m below meth c hx hb hml hr hlk hown hts hK hN hin A hA H locs hP hD hS ls hl
  have hl : lv_has ls 2 [(0, .ref qM), (1, .int x1)] := hl
  unfold f_X6_keepTrial at hf
  refine lv_iload_n hx hb dX6_keepTrial_0 rfl (lv_at hl 1 rfl) ?_
  refine lv_if_lt (tgt := 26) hx hb dX6_keepTrial_1 (by decide) (fun c_1 => ?_) (fun c_1 => ?_)
  · have hf := zif_t hf c_1
    refine lv_iload_n hx hb dX6_keepTrial_26 rfl (lv_at hl 1 rfl) ?_
    refine W.widen (k := 8) (n := 66) (Nat.le_of_ble_eq_true rfl) (Nat.le_of_ble_eq_true rfl) ?_
    exact zE_ret (gs := [(wX6 qM bM gM), (wX0 cI (bM 0) aB gB), (wX0 cI (bM 1) aT gT), (wX3 cO (bM 5) aY gY (zrm zZ)), (wZ cI (zZ 0)), (wZ cI (zZ 1)), (wZ cI (zZ 2)), (wZ cI (zZ 3))]) (u := zZ) hx hb hr rfl hP hD hS (by rw [← Option.some.inj hf]; exact ⟨rfl, rfl, rfl⟩) hlk dX6_keepTrial_27
  · have hf := zif_f hf c_1
    refine lv_aload_n hx hb dX6_keepTrial_4 rfl (lv_at hl 0 rfl) ?_
    refine va_get (D := (dC, dI)) (ci := 6) (v := .ref (bM 5)) (C := RX6) (T := TX6) (N := 11) hx hb hts u_X6_keepTrial_X6 hown hK hP 0 rfl rfl 5 (by decide) (hts _ k_X6_keepTrial_1) (fun _ h9 => h9) rfl dX6_keepTrial_5 ?_
    refine lv_aload_n hx hb dX6_keepTrial_8 rfl (lv_at hl 0 rfl) ?_
    refine va_get (D := (dC, dI)) (ci := 6) (v := .ref (bM 0)) (C := RX6) (T := TX6) (N := 11) hx hb hts u_X6_keepTrial_X6 hown hK hP 0 rfl rfl 0 (by decide) (hts _ k_X6_keepTrial_2) (fun _ h9 => h9) rfl dX6_keepTrial_9 ?_
    obtain ⟨R2, e_2, hf⟩ := zbind_ex hf
    refine z_callE (gs2 := fun u2 : Nat → zS => [(wX6 qM bM gM), (wX0 cI (bM 0) aB gB), (wX0 cI (bM 1) aT gT), (wX3 cO (bM 5) aY R2.1 (zrm u2)), (wZ cI (u2 0)), (wZ cI (u2 1)), (wZ cI (u2 2)), (wZ cI (u2 3))]) hP hD hS hA [3, 1, 4, 5, 6, 7] [0, 2] rfl (fun _ => rfl) (fun _ => rfl) (show List.Perm [3, 1, 4, 5, 6, 7, 0, 2] (List.range 8) from by decide) (fun _ => rfl) (va_runV (As := [.ref (bM 0)]) (rest := []) ⟨hx, hb, hml, hown, hts⟩ (c_X3_record l dC dI cI cC cO (bM 5) aY gY (bM 0) aB gB zZ  R2 e_2 H.size) (cwV 1 hts gX6_keepTrial_X3_record rfl rfl rfl (by decide +kernel) ⟨Nat.le_of_ble_eq_true rfl, Nat.le_of_ble_eq_true rfl⟩) ⟨zpM_blind, va_recv hK hP (ci := 3) (q0 := 17) rfl rfl, z_useM hK hN hP hD [3, 1, 4, 5, 6, 7] [0, 2] rfl (show List.Perm [3, 1, 4, 5, 6, 7, 0, 2] (List.range 8) from by decide)⟩ rfl rfl hl.1 rfl (lv_room (Nat.le_of_ble_eq_true rfl)) dX6_keepTrial_12 ⟨Nat.le_of_ble_eq_true rfl, Nat.le_of_ble_eq_true rfl⟩) (fun u2 p2 H locs hP hD hS => ?_)
    refine W.eq (g2 := F0 m 15 ls []) rfl ?_
    refine lv_aload_n hx hb dX6_keepTrial_15 rfl (lv_at hl 0 rfl) ?_
    refine va_get (D := (dC, dI)) (ci := 6) (v := .ref (bM 0)) (C := RX6) (T := TX6) (N := 11) hx hb hts u_X6_keepTrial_X6 hown hK hP 0 rfl rfl 0 (by decide) (hts _ k_X6_keepTrial_2) (fun _ h9 => h9) rfl dX6_keepTrial_16 ?_
    refine lv_aload_n hx hb dX6_keepTrial_19 rfl (lv_at hl 0 rfl) ?_
    refine va_get (D := (dC, dI)) (ci := 6) (v := .ref (bM 1)) (C := RX6) (T := TX6) (N := 11) hx hb hts u_X6_keepTrial_X6 hown hK hP 0 rfl rfl 1 (by decide) (hts _ k_X6_keepTrial_3) (fun _ h9 => h9) rfl dX6_keepTrial_20 ?_
    obtain ⟨R3, e_3, hf⟩ := zbind_ex hf
    refine z_callM (gs2 := [(wX6 qM bM gM), (wX0 cI (bM 0) aB R3), (wX0 cI (bM 1) aT gT), (wX3 cO (bM 5) aY R2.1 (zrm u2)), (wZ cI (u2 0)), (wZ cI (u2 1)), (wZ cI (u2 2)), (wZ cI (u2 3))]) hP hD hS hA [1, 2] [0, 3, 4, 5, 6, 7] rfl rfl rfl (show List.Perm [1, 2, 0, 3, 4, 5, 6, 7] (List.range 8) from by decide) rfl (va_runV (As := [.ref (bM 1)]) (rest := []) ⟨hx, hb, hml, hown, hts⟩ (c_X0_copyFrom l dC dI cI cC cO (bM 0) aB gB (bM 1) aT gT  R3 e_3 H.size) (cwV 1 hts gX6_keepTrial_X0_copyFrom rfl rfl rfl (by decide +kernel) ⟨Nat.le_of_ble_eq_true rfl, Nat.le_of_ble_eq_true rfl⟩) ⟨zpM_blind, va_recv hK hP (ci := 0) (q0 := 1) rfl rfl, z_useM hK hN hP hD [1, 2] [0, 3, 4, 5, 6, 7] rfl (show List.Perm [1, 2, 0, 3, 4, 5, 6, 7] (List.range 8) from by decide)⟩ rfl rfl hl.1 rfl (lv_room (Nat.le_of_ble_eq_true rfl)) dX6_keepTrial_23 ⟨Nat.le_of_ble_eq_true rfl, Nat.le_of_ble_eq_true rfl⟩) (fun H locs hP hD hS => ?_)
    refine W.eq (g2 := F0 m 26 ls []) rfl ?_
    refine lv_iload_n hx hb dX6_keepTrial_26 rfl (lv_at hl 1 rfl) ?_
    refine W.widen (k := 8) (n := 66) (Nat.le_of_ble_eq_true rfl) (Nat.le_of_ble_eq_true rfl) ?_
    exact zE_ret (gs := [(wX6 qM bM gM), (wX0 cI (bM 0) aB R3), (wX0 cI (bM 1) aT gT), (wX3 cO (bM 5) aY R2.1 (zrm u2)), (wZ cI (u2 0)), (wZ cI (u2 1)), (wZ cI (u2 2)), (wZ cI (u2 3))]) (u := u2) hx hb hr rfl hP hD hS (by rw [← Option.some.inj hf]; exact ⟨rfl, p2, rfl⟩) hlk dX6_keepTrial_27

def f_X6_line (gM : zG) (gB : zG) (gT : zG) (gY : zG) (hZ : Nat → Option zG) (x1 : Int32) (x2 : Int32) : Option (Int32 × zG × zG × zG × (Nat → Option zG)) := (zbind (f_X0_copyFrom gT gB) (fun R1 => (zbind (f_X0_addLine R1 x1 x2) (fun R2 => (zbind (f_X6_keepTrial gM gB R2.2 gY hZ R2.1) (fun R3 => (some (R3.1, R3.2.1, R2.2, R3.2.2.1, R3.2.2.2))))))))
theorem u_X6_line_X6 : ∀ w ∈ u_ws RX6 TX6 11, w ∈ wsX6_line := fun w h => List.mem_cons_of_mem _ (List.mem_append_left _ (List.mem_append_left _ (List.mem_append_right _ h)))
theorem k_X6_line_1 : Cond.fieldLink RX6 16 "JoinedLight" "trial" "LJoinedLight$Bench;" ∈ wsX6_line := List.mem_of_getElem? (i := 1) rfl
theorem k_X6_line_2 : Cond.fieldLink RX6 10 "JoinedLight" "bench" "LJoinedLight$Bench;" ∈ wsX6_line := List.mem_of_getElem? (i := 2) rfl
abbrev rm_X6_line : Room := { frames := 4, cells := 8, slots := 66, locals := 104 }
set_option maxHeartbeats 4000000 in
set_option maxRecDepth 100000 in
theorem c_X6_line (l : Launch) (dC : Nat → ClassId) (dI : Nat → Nat → Nat) (cI cC cO : ClassId) (qM : Nat) (bM : Nat → Nat) (gM : zG) (aB : Nat → Nat) (gB : zG) (aT : Nat → Nat) (gT : zG) (aY : Nat → Nat) (gY : zG) (zZ : Nat → zS) (x1 : Int32) (x2 : Int32) (R : Int32 × zG × zG × zG × (Nat → Option zG)) (hf : f_X6_line gM gB gT gY (zcn zZ) x1 x2 = some R) : cE l (dC, dI) (zT cI cC cO) yX6_line wsX6_line rm_X6_line [.ref qM, .int x1, .int x2] [(wX6 qM bM gM), (wX0 cI (bM 0) aB gB), (wX0 cI (bM 1) aT gT), (wX3 cO (bM 5) aY gY (zrm zZ)), (wZ cI (zZ 0)), (wZ cI (zZ 1)), (wZ cI (zZ 2)), (wZ cI (zZ 3))] (fun u : Nat → zS => [(wX6 qM bM gM), (wX0 cI (bM 0) aB R.2.1), (wX0 cI (bM 1) aT R.2.2.1), (wX3 cO (bM 5) aY R.2.2.2.1 (zrm u)), (wZ cI (u 0)), (wZ cI (u 1)), (wZ cI (u 2)), (wZ cI (u 3))]) (fun u => zcn u = R.2.2.2.2) (some (.int R.1)) 8 66 := by
  refine zE_in (cc := cX6_line) (maxL := 3) (ret := (some .int)) (plainFor_of_name (by decide)) rfl (Nat.le_of_ble_eq_true rfl) ?_
  intro p e s m below meth c hx hb hml hr hlk hown hts hK hN hin A hA H locs hP hD hS ls hl
  have hl : lv_has ls 3 [(0, .ref qM), (1, .int x1), (2, .int x2)] := hl
  unfold f_X6_line at hf
  refine lv_aload_n hx hb dX6_line_0 rfl (lv_at hl 0 rfl) ?_
  refine va_get (D := (dC, dI)) (ci := 6) (v := .ref (bM 1)) (C := RX6) (T := TX6) (N := 11) hx hb hts u_X6_line_X6 hown hK hP 0 rfl rfl 1 (by decide) (hts _ k_X6_line_1) (fun _ h9 => h9) rfl dX6_line_1 ?_
  refine lv_aload_n hx hb dX6_line_4 rfl (lv_at hl 0 rfl) ?_
  refine va_get (D := (dC, dI)) (ci := 6) (v := .ref (bM 0)) (C := RX6) (T := TX6) (N := 11) hx hb hts u_X6_line_X6 hown hK hP 0 rfl rfl 0 (by decide) (hts _ k_X6_line_2) (fun _ h9 => h9) rfl dX6_line_5 ?_
  obtain ⟨R1, e_1, hf⟩ := zbind_ex hf
  refine z_callM (gs2 := [(wX6 qM bM gM), (wX0 cI (bM 0) aB gB), (wX0 cI (bM 1) aT R1), (wX3 cO (bM 5) aY gY (zrm zZ)), (wZ cI (zZ 0)), (wZ cI (zZ 1)), (wZ cI (zZ 2)), (wZ cI (zZ 3))]) hP hD hS hA [2, 1] [0, 3, 4, 5, 6, 7] rfl rfl rfl (show List.Perm [2, 1, 0, 3, 4, 5, 6, 7] (List.range 8) from by decide) rfl (va_runV (As := [.ref (bM 0)]) (rest := []) ⟨hx, hb, hml, hown, hts⟩ (c_X0_copyFrom l dC dI cI cC cO (bM 1) aT gT (bM 0) aB gB  R1 e_1 H.size) (cwV 1 hts gX6_line_X0_copyFrom rfl rfl rfl (by decide +kernel) ⟨Nat.le_of_ble_eq_true rfl, Nat.le_of_ble_eq_true rfl⟩) ⟨zpM_blind, va_recv hK hP (ci := 0) (q0 := 9) rfl rfl, z_useM hK hN hP hD [2, 1] [0, 3, 4, 5, 6, 7] rfl (show List.Perm [2, 1, 0, 3, 4, 5, 6, 7] (List.range 8) from by decide)⟩ rfl rfl hl.1 rfl (lv_room (Nat.le_of_ble_eq_true rfl)) dX6_line_8 ⟨Nat.le_of_ble_eq_true rfl, Nat.le_of_ble_eq_true rfl⟩) (fun H locs hP hD hS => ?_)
  refine W.eq (g2 := F0 m 11 ls []) rfl ?_
  refine lv_aload_n hx hb dX6_line_11 rfl (lv_at hl 0 rfl) ?_
  refine lv_aload_n hx hb dX6_line_12 rfl (lv_at hl 0 rfl) ?_
  refine va_get (D := (dC, dI)) (ci := 6) (v := .ref (bM 1)) (C := RX6) (T := TX6) (N := 11) hx hb hts u_X6_line_X6 hown hK hP 0 rfl rfl 1 (by decide) (hts _ k_X6_line_1) (fun _ h9 => h9) rfl dX6_line_13 ?_
  refine lv_iload_n hx hb dX6_line_16 rfl (lv_at hl 1 rfl) ?_
  refine lv_iload_n hx hb dX6_line_17 rfl (lv_at hl 2 rfl) ?_
  obtain ⟨R2, e_2, hf⟩ := zbind_ex hf
  refine z_callM (gs2 := [(wX6 qM bM gM), (wX0 cI (bM 0) aB gB), (wX0 cI (bM 1) aT R2.2), (wX3 cO (bM 5) aY gY (zrm zZ)), (wZ cI (zZ 0)), (wZ cI (zZ 1)), (wZ cI (zZ 2)), (wZ cI (zZ 3))]) hP hD hS hA [2] [0, 1, 3, 4, 5, 6, 7] rfl rfl rfl (show List.Perm [2, 0, 1, 3, 4, 5, 6, 7] (List.range 8) from by decide) rfl (va_runV (As := [.int x1, .int x2]) (rest := [.ref qM]) ⟨hx, hb, hml, hown, hts⟩ (c_X0_addLine l dC dI cI cC cO (bM 1) aT R1 x1 x2 R2 e_2 H.size) (cwV 2 hts gX6_line_X0_addLine rfl rfl rfl (by decide +kernel) ⟨Nat.le_of_ble_eq_true rfl, Nat.le_of_ble_eq_true rfl⟩) ⟨zpM_blind, va_recv hK hP (ci := 0) (q0 := 9) rfl rfl, z_useM hK hN hP hD [2] [0, 1, 3, 4, 5, 6, 7] rfl (show List.Perm [2, 0, 1, 3, 4, 5, 6, 7] (List.range 8) from by decide)⟩ rfl rfl hl.1 rfl (lv_room (Nat.le_of_ble_eq_true rfl)) dX6_line_18 ⟨Nat.le_of_ble_eq_true rfl, Nat.le_of_ble_eq_true rfl⟩) (fun H locs hP hD hS => ?_)
  refine W.eq (g2 := F0 m 21 ls [.int R2.1, .ref qM]) rfl ?_
  obtain ⟨R3, e_3, hf⟩ := zbind_ex hf
  refine z_callE (gs2 := fun u3 : Nat → zS => [(wX6 qM bM gM), (wX0 cI (bM 0) aB R3.2.1), (wX0 cI (bM 1) aT R2.2), (wX3 cO (bM 5) aY R3.2.2.1 (zrm u3)), (wZ cI (u3 0)), (wZ cI (u3 1)), (wZ cI (u3 2)), (wZ cI (u3 3))]) hP hD hS hA [0, 1, 2, 3, 4, 5, 6, 7] [] rfl (fun _ => rfl) (fun _ => rfl) (show List.Perm [0, 1, 2, 3, 4, 5, 6, 7] (List.range 8) from by decide) (fun _ => rfl) (va_runV (As := [.int R2.1]) (rest := []) ⟨hx, hb, hml, hown, hts⟩ (c_X6_keepTrial l dC dI cI cC cO qM bM gM aB gB aT R2.2 aY gY zZ R2.1 R3 e_3 H.size) (cwV 1 hts gX6_line_X6_keepTrial rfl rfl rfl (by decide +kernel) ⟨Nat.le_of_ble_eq_true rfl, Nat.le_of_ble_eq_true rfl⟩) ⟨zpM_blind, va_recv hK hP (ci := 6) (q0 := 0) rfl rfl, z_useM hK hN hP hD [0, 1, 2, 3, 4, 5, 6, 7] [] rfl (show List.Perm [0, 1, 2, 3, 4, 5, 6, 7] (List.range 8) from by decide)⟩ rfl rfl hl.1 rfl (lv_room (Nat.le_of_ble_eq_true rfl)) dX6_line_21 ⟨Nat.le_of_ble_eq_true rfl, Nat.le_of_ble_eq_true rfl⟩) (fun u3 p3 H locs hP hD hS => ?_)
  refine W.eq (g2 := F0 m 24 ls [.int R3.1]) rfl ?_
  refine W.widen (k := 8) (n := 66) (Nat.le_of_ble_eq_true rfl) (Nat.le_of_ble_eq_true rfl) ?_
  exact zE_ret (gs := [(wX6 qM bM gM), (wX0 cI (bM 0) aB R3.2.1), (wX0 cI (bM 1) aT R2.2), (wX3 cO (bM 5) aY R3.2.2.1 (zrm u3)), (wZ cI (u3 0)), (wZ cI (u3 1)), (wZ cI (u3 2)), (wZ cI (u3 3))]) (u := u3) hx hb hr rfl hP hD hS (by rw [← Option.some.inj hf]; exact ⟨rfl, p3, rfl⟩) hlk dX6_line_24

def f_X6_dim (gM : zG) (gB : zG) (gT : zG) (gY : zG) (hZ : Nat → Option zG) (x1 : Int32) (x2 : Int32) : Option (Int32 × zG × zG × zG × (Nat → Option zG)) := (zbind (f_X0_copyFrom gT gB) (fun R1 => (zbind (f_X0_changeLight R1 x1 x2) (fun R2 => (zbind (f_X6_keepTrial gM gB R2.2 gY hZ R2.1) (fun R3 => (some (R3.1, R3.2.1, R2.2, R3.2.2.1, R3.2.2.2))))))))
theorem u_X6_dim_X6 : ∀ w ∈ u_ws RX6 TX6 11, w ∈ wsX6_dim := fun w h => List.mem_cons_of_mem _ (List.mem_append_left _ (List.mem_append_left _ (List.mem_append_right _ h)))
theorem k_X6_dim_1 : Cond.fieldLink RX6 16 "JoinedLight" "trial" "LJoinedLight$Bench;" ∈ wsX6_dim := List.mem_of_getElem? (i := 1) rfl
theorem k_X6_dim_2 : Cond.fieldLink RX6 10 "JoinedLight" "bench" "LJoinedLight$Bench;" ∈ wsX6_dim := List.mem_of_getElem? (i := 2) rfl
abbrev rm_X6_dim : Room := { frames := 4, cells := 8, slots := 66, locals := 104 }
set_option maxHeartbeats 4000000 in
set_option maxRecDepth 100000 in
theorem c_X6_dim (l : Launch) (dC : Nat → ClassId) (dI : Nat → Nat → Nat) (cI cC cO : ClassId) (qM : Nat) (bM : Nat → Nat) (gM : zG) (aB : Nat → Nat) (gB : zG) (aT : Nat → Nat) (gT : zG) (aY : Nat → Nat) (gY : zG) (zZ : Nat → zS) (x1 : Int32) (x2 : Int32) (R : Int32 × zG × zG × zG × (Nat → Option zG)) (hf : f_X6_dim gM gB gT gY (zcn zZ) x1 x2 = some R) : cE l (dC, dI) (zT cI cC cO) yX6_dim wsX6_dim rm_X6_dim [.ref qM, .int x1, .int x2] [(wX6 qM bM gM), (wX0 cI (bM 0) aB gB), (wX0 cI (bM 1) aT gT), (wX3 cO (bM 5) aY gY (zrm zZ)), (wZ cI (zZ 0)), (wZ cI (zZ 1)), (wZ cI (zZ 2)), (wZ cI (zZ 3))] (fun u : Nat → zS => [(wX6 qM bM gM), (wX0 cI (bM 0) aB R.2.1), (wX0 cI (bM 1) aT R.2.2.1), (wX3 cO (bM 5) aY R.2.2.2.1 (zrm u)), (wZ cI (u 0)), (wZ cI (u 1)), (wZ cI (u 2)), (wZ cI (u 3))]) (fun u => zcn u = R.2.2.2.2) (some (.int R.1)) 8 66 := by
  refine zE_in (cc := cX6_dim) (maxL := 3) (ret := (some .int)) (plainFor_of_name (by decide)) rfl (Nat.le_of_ble_eq_true rfl) ?_
  intro p e s m below meth c hx hb hml hr hlk hown hts hK hN hin A hA H locs hP hD hS ls hl
  have hl : lv_has ls 3 [(0, .ref qM), (1, .int x1), (2, .int x2)] := hl
  unfold f_X6_dim at hf
  refine lv_aload_n hx hb dX6_dim_0 rfl (lv_at hl 0 rfl) ?_
  refine va_get (D := (dC, dI)) (ci := 6) (v := .ref (bM 1)) (C := RX6) (T := TX6) (N := 11) hx hb hts u_X6_dim_X6 hown hK hP 0 rfl rfl 1 (by decide) (hts _ k_X6_dim_1) (fun _ h9 => h9) rfl dX6_dim_1 ?_
  refine lv_aload_n hx hb dX6_dim_4 rfl (lv_at hl 0 rfl) ?_
  refine va_get (D := (dC, dI)) (ci := 6) (v := .ref (bM 0)) (C := RX6) (T := TX6) (N := 11) hx hb hts u_X6_dim_X6 hown hK hP 0 rfl rfl 0 (by decide) (hts _ k_X6_dim_2) (fun _ h9 => h9) rfl dX6_dim_5 ?_
  obtain ⟨R1, e_1, hf⟩ := zbind_ex hf
  refine z_callM (gs2 := [(wX6 qM bM gM), (wX0 cI (bM 0) aB gB), (wX0 cI (bM 1) aT R1), (wX3 cO (bM 5) aY gY (zrm zZ)), (wZ cI (zZ 0)), (wZ cI (zZ 1)), (wZ cI (zZ 2)), (wZ cI (zZ 3))]) hP hD hS hA [2, 1] [0, 3, 4, 5, 6, 7] rfl rfl rfl (show List.Perm [2, 1, 0, 3, 4, 5, 6, 7] (List.range 8) from by decide) rfl (va_runV (As := [.ref (bM 0)]) (rest := []) ⟨hx, hb, hml, hown, hts⟩ (c_X0_copyFrom l dC dI cI cC cO (bM 1) aT gT (bM 0) aB gB  R1 e_1 H.size) (cwV 1 hts gX6_dim_X0_copyFrom rfl rfl rfl (by decide +kernel) ⟨Nat.le_of_ble_eq_true rfl, Nat.le_of_ble_eq_true rfl⟩) ⟨zpM_blind, va_recv hK hP (ci := 0) (q0 := 9) rfl rfl, z_useM hK hN hP hD [2, 1] [0, 3, 4, 5, 6, 7] rfl (show List.Perm [2, 1, 0, 3, 4, 5, 6, 7] (List.range 8) from by decide)⟩ rfl rfl hl.1 rfl (lv_room (Nat.le_of_ble_eq_true rfl)) dX6_dim_8 ⟨Nat.le_of_ble_eq_true rfl, Nat.le_of_ble_eq_true rfl⟩) (fun H locs hP hD hS => ?_)
  refine W.eq (g2 := F0 m 11 ls []) rfl ?_
  refine lv_aload_n hx hb dX6_dim_11 rfl (lv_at hl 0 rfl) ?_
  refine lv_aload_n hx hb dX6_dim_12 rfl (lv_at hl 0 rfl) ?_
  refine va_get (D := (dC, dI)) (ci := 6) (v := .ref (bM 1)) (C := RX6) (T := TX6) (N := 11) hx hb hts u_X6_dim_X6 hown hK hP 0 rfl rfl 1 (by decide) (hts _ k_X6_dim_1) (fun _ h9 => h9) rfl dX6_dim_13 ?_
  refine lv_iload_n hx hb dX6_dim_16 rfl (lv_at hl 1 rfl) ?_
  refine lv_iload_n hx hb dX6_dim_17 rfl (lv_at hl 2 rfl) ?_
  obtain ⟨R2, e_2, hf⟩ := zbind_ex hf
  refine z_callM (gs2 := [(wX6 qM bM gM), (wX0 cI (bM 0) aB gB), (wX0 cI (bM 1) aT R2.2), (wX3 cO (bM 5) aY gY (zrm zZ)), (wZ cI (zZ 0)), (wZ cI (zZ 1)), (wZ cI (zZ 2)), (wZ cI (zZ 3))]) hP hD hS hA [2] [0, 1, 3, 4, 5, 6, 7] rfl rfl rfl (show List.Perm [2, 0, 1, 3, 4, 5, 6, 7] (List.range 8) from by decide) rfl (va_runV (As := [.int x1, .int x2]) (rest := [.ref qM]) ⟨hx, hb, hml, hown, hts⟩ (c_X0_changeLight l dC dI cI cC cO (bM 1) aT R1 x1 x2 R2 e_2 H.size) (cwV 2 hts gX6_dim_X0_changeLight rfl rfl rfl (by decide +kernel) ⟨Nat.le_of_ble_eq_true rfl, Nat.le_of_ble_eq_true rfl⟩) ⟨zpM_blind, va_recv hK hP (ci := 0) (q0 := 9) rfl rfl, z_useM hK hN hP hD [2] [0, 1, 3, 4, 5, 6, 7] rfl (show List.Perm [2, 0, 1, 3, 4, 5, 6, 7] (List.range 8) from by decide)⟩ rfl rfl hl.1 rfl (lv_room (Nat.le_of_ble_eq_true rfl)) dX6_dim_18 ⟨Nat.le_of_ble_eq_true rfl, Nat.le_of_ble_eq_true rfl⟩) (fun H locs hP hD hS => ?_)
  refine W.eq (g2 := F0 m 21 ls [.int R2.1, .ref qM]) rfl ?_
  obtain ⟨R3, e_3, hf⟩ := zbind_ex hf
  refine z_callE (gs2 := fun u3 : Nat → zS => [(wX6 qM bM gM), (wX0 cI (bM 0) aB R3.2.1), (wX0 cI (bM 1) aT R2.2), (wX3 cO (bM 5) aY R3.2.2.1 (zrm u3)), (wZ cI (u3 0)), (wZ cI (u3 1)), (wZ cI (u3 2)), (wZ cI (u3 3))]) hP hD hS hA [0, 1, 2, 3, 4, 5, 6, 7] [] rfl (fun _ => rfl) (fun _ => rfl) (show List.Perm [0, 1, 2, 3, 4, 5, 6, 7] (List.range 8) from by decide) (fun _ => rfl) (va_runV (As := [.int R2.1]) (rest := []) ⟨hx, hb, hml, hown, hts⟩ (c_X6_keepTrial l dC dI cI cC cO qM bM gM aB gB aT R2.2 aY gY zZ R2.1 R3 e_3 H.size) (cwV 1 hts gX6_dim_X6_keepTrial rfl rfl rfl (by decide +kernel) ⟨Nat.le_of_ble_eq_true rfl, Nat.le_of_ble_eq_true rfl⟩) ⟨zpM_blind, va_recv hK hP (ci := 6) (q0 := 0) rfl rfl, z_useM hK hN hP hD [0, 1, 2, 3, 4, 5, 6, 7] [] rfl (show List.Perm [0, 1, 2, 3, 4, 5, 6, 7] (List.range 8) from by decide)⟩ rfl rfl hl.1 rfl (lv_room (Nat.le_of_ble_eq_true rfl)) dX6_dim_21 ⟨Nat.le_of_ble_eq_true rfl, Nat.le_of_ble_eq_true rfl⟩) (fun u3 p3 H locs hP hD hS => ?_)
  refine W.eq (g2 := F0 m 24 ls [.int R3.1]) rfl ?_
  refine W.widen (k := 8) (n := 66) (Nat.le_of_ble_eq_true rfl) (Nat.le_of_ble_eq_true rfl) ?_
  exact zE_ret (gs := [(wX6 qM bM gM), (wX0 cI (bM 0) aB R3.2.1), (wX0 cI (bM 1) aT R2.2), (wX3 cO (bM 5) aY R3.2.2.1 (zrm u3)), (wZ cI (u3 0)), (wZ cI (u3 1)), (wZ cI (u3 2)), (wZ cI (u3 3))]) (u := u3) hx hb hr rfl hP hD hS (by rw [← Option.some.inj hf]; exact ⟨rfl, p3, rfl⟩) hlk dX6_dim_24

def f_X6_prism (gM : zG) (gB : zG) (gT : zG) (gY : zG) (hZ : Nat → Option zG) (x1 : Int32) (x2 : Int32) (x3 : Int32) (x4 : Int32) : Option (Int32 × zG × zG × zG × (Nat → Option zG)) := (zbind (f_X0_copyFrom gT gB) (fun R1 => (zbind (f_X0_addPrism R1 x1 x2 x3 x4) (fun R2 => (zbind (f_X6_keepTrial gM gB R2.2 gY hZ R2.1) (fun R3 => (some (R3.1, R3.2.1, R2.2, R3.2.2.1, R3.2.2.2))))))))
theorem u_X6_prism_X6 : ∀ w ∈ u_ws RX6 TX6 11, w ∈ wsX6_prism := fun w h => List.mem_cons_of_mem _ (List.mem_append_left _ (List.mem_append_left _ (List.mem_append_right _ h)))
theorem k_X6_prism_1 : Cond.fieldLink RX6 16 "JoinedLight" "trial" "LJoinedLight$Bench;" ∈ wsX6_prism := List.mem_of_getElem? (i := 1) rfl
theorem k_X6_prism_2 : Cond.fieldLink RX6 10 "JoinedLight" "bench" "LJoinedLight$Bench;" ∈ wsX6_prism := List.mem_of_getElem? (i := 2) rfl
abbrev rm_X6_prism : Room := { frames := 4, cells := 8, slots := 66, locals := 104 }
set_option maxHeartbeats 4000000 in
set_option maxRecDepth 100000 in
theorem c_X6_prism (l : Launch) (dC : Nat → ClassId) (dI : Nat → Nat → Nat) (cI cC cO : ClassId) (qM : Nat) (bM : Nat → Nat) (gM : zG) (aB : Nat → Nat) (gB : zG) (aT : Nat → Nat) (gT : zG) (aY : Nat → Nat) (gY : zG) (zZ : Nat → zS) (x1 : Int32) (x2 : Int32) (x3 : Int32) (x4 : Int32) (R : Int32 × zG × zG × zG × (Nat → Option zG)) (hf : f_X6_prism gM gB gT gY (zcn zZ) x1 x2 x3 x4 = some R) : cE l (dC, dI) (zT cI cC cO) yX6_prism wsX6_prism rm_X6_prism [.ref qM, .int x1, .int x2, .int x3, .int x4] [(wX6 qM bM gM), (wX0 cI (bM 0) aB gB), (wX0 cI (bM 1) aT gT), (wX3 cO (bM 5) aY gY (zrm zZ)), (wZ cI (zZ 0)), (wZ cI (zZ 1)), (wZ cI (zZ 2)), (wZ cI (zZ 3))] (fun u : Nat → zS => [(wX6 qM bM gM), (wX0 cI (bM 0) aB R.2.1), (wX0 cI (bM 1) aT R.2.2.1), (wX3 cO (bM 5) aY R.2.2.2.1 (zrm u)), (wZ cI (u 0)), (wZ cI (u 1)), (wZ cI (u 2)), (wZ cI (u 3))]) (fun u => zcn u = R.2.2.2.2) (some (.int R.1)) 8 66 := by
  refine zE_in (cc := cX6_prism) (maxL := 5) (ret := (some .int)) (plainFor_of_name (by decide)) rfl (Nat.le_of_ble_eq_true rfl) ?_
  intro p e s m below meth c hx hb hml hr hlk hown hts hK hN hin A hA H locs hP hD hS ls hl
  have hl : lv_has ls 5 [(0, .ref qM), (1, .int x1), (2, .int x2), (3, .int x3), (4, .int x4)] := hl
  unfold f_X6_prism at hf
  refine lv_aload_n hx hb dX6_prism_0 rfl (lv_at hl 0 rfl) ?_
  refine va_get (D := (dC, dI)) (ci := 6) (v := .ref (bM 1)) (C := RX6) (T := TX6) (N := 11) hx hb hts u_X6_prism_X6 hown hK hP 0 rfl rfl 1 (by decide) (hts _ k_X6_prism_1) (fun _ h9 => h9) rfl dX6_prism_1 ?_
  refine lv_aload_n hx hb dX6_prism_4 rfl (lv_at hl 0 rfl) ?_
  refine va_get (D := (dC, dI)) (ci := 6) (v := .ref (bM 0)) (C := RX6) (T := TX6) (N := 11) hx hb hts u_X6_prism_X6 hown hK hP 0 rfl rfl 0 (by decide) (hts _ k_X6_prism_2) (fun _ h9 => h9) rfl dX6_prism_5 ?_
  obtain ⟨R1, e_1, hf⟩ := zbind_ex hf
  refine z_callM (gs2 := [(wX6 qM bM gM), (wX0 cI (bM 0) aB gB), (wX0 cI (bM 1) aT R1), (wX3 cO (bM 5) aY gY (zrm zZ)), (wZ cI (zZ 0)), (wZ cI (zZ 1)), (wZ cI (zZ 2)), (wZ cI (zZ 3))]) hP hD hS hA [2, 1] [0, 3, 4, 5, 6, 7] rfl rfl rfl (show List.Perm [2, 1, 0, 3, 4, 5, 6, 7] (List.range 8) from by decide) rfl (va_runV (As := [.ref (bM 0)]) (rest := []) ⟨hx, hb, hml, hown, hts⟩ (c_X0_copyFrom l dC dI cI cC cO (bM 1) aT gT (bM 0) aB gB  R1 e_1 H.size) (cwV 1 hts gX6_prism_X0_copyFrom rfl rfl rfl (by decide +kernel) ⟨Nat.le_of_ble_eq_true rfl, Nat.le_of_ble_eq_true rfl⟩) ⟨zpM_blind, va_recv hK hP (ci := 0) (q0 := 9) rfl rfl, z_useM hK hN hP hD [2, 1] [0, 3, 4, 5, 6, 7] rfl (show List.Perm [2, 1, 0, 3, 4, 5, 6, 7] (List.range 8) from by decide)⟩ rfl rfl hl.1 rfl (lv_room (Nat.le_of_ble_eq_true rfl)) dX6_prism_8 ⟨Nat.le_of_ble_eq_true rfl, Nat.le_of_ble_eq_true rfl⟩) (fun H locs hP hD hS => ?_)
  refine W.eq (g2 := F0 m 11 ls []) rfl ?_
  refine lv_aload_n hx hb dX6_prism_11 rfl (lv_at hl 0 rfl) ?_
  refine lv_aload_n hx hb dX6_prism_12 rfl (lv_at hl 0 rfl) ?_
  refine va_get (D := (dC, dI)) (ci := 6) (v := .ref (bM 1)) (C := RX6) (T := TX6) (N := 11) hx hb hts u_X6_prism_X6 hown hK hP 0 rfl rfl 1 (by decide) (hts _ k_X6_prism_1) (fun _ h9 => h9) rfl dX6_prism_13 ?_
  refine lv_iload_n hx hb dX6_prism_16 rfl (lv_at hl 1 rfl) ?_
  refine lv_iload_n hx hb dX6_prism_17 rfl (lv_at hl 2 rfl) ?_
  refine lv_iload_n hx hb dX6_prism_18 rfl (lv_at hl 3 rfl) ?_
  refine lv_iload hx hb dX6_prism_19 (lv_at hl 4 rfl) ?_
  obtain ⟨R2, e_2, hf⟩ := zbind_ex hf
  refine z_callM (gs2 := [(wX6 qM bM gM), (wX0 cI (bM 0) aB gB), (wX0 cI (bM 1) aT R2.2), (wX3 cO (bM 5) aY gY (zrm zZ)), (wZ cI (zZ 0)), (wZ cI (zZ 1)), (wZ cI (zZ 2)), (wZ cI (zZ 3))]) hP hD hS hA [2] [0, 1, 3, 4, 5, 6, 7] rfl rfl rfl (show List.Perm [2, 0, 1, 3, 4, 5, 6, 7] (List.range 8) from by decide) rfl (va_runV (As := [.int x1, .int x2, .int x3, .int x4]) (rest := [.ref qM]) ⟨hx, hb, hml, hown, hts⟩ (c_X0_addPrism l dC dI cI cC cO (bM 1) aT R1 x1 x2 x3 x4 R2 e_2 H.size) (cwV 4 hts gX6_prism_X0_addPrism rfl rfl rfl (by decide +kernel) ⟨Nat.le_of_ble_eq_true rfl, Nat.le_of_ble_eq_true rfl⟩) ⟨zpM_blind, va_recv hK hP (ci := 0) (q0 := 9) rfl rfl, z_useM hK hN hP hD [2] [0, 1, 3, 4, 5, 6, 7] rfl (show List.Perm [2, 0, 1, 3, 4, 5, 6, 7] (List.range 8) from by decide)⟩ rfl rfl hl.1 rfl (lv_room (Nat.le_of_ble_eq_true rfl)) dX6_prism_21 ⟨Nat.le_of_ble_eq_true rfl, Nat.le_of_ble_eq_true rfl⟩) (fun H locs hP hD hS => ?_)
  refine W.eq (g2 := F0 m 24 ls [.int R2.1, .ref qM]) rfl ?_
  obtain ⟨R3, e_3, hf⟩ := zbind_ex hf
  refine z_callE (gs2 := fun u3 : Nat → zS => [(wX6 qM bM gM), (wX0 cI (bM 0) aB R3.2.1), (wX0 cI (bM 1) aT R2.2), (wX3 cO (bM 5) aY R3.2.2.1 (zrm u3)), (wZ cI (u3 0)), (wZ cI (u3 1)), (wZ cI (u3 2)), (wZ cI (u3 3))]) hP hD hS hA [0, 1, 2, 3, 4, 5, 6, 7] [] rfl (fun _ => rfl) (fun _ => rfl) (show List.Perm [0, 1, 2, 3, 4, 5, 6, 7] (List.range 8) from by decide) (fun _ => rfl) (va_runV (As := [.int R2.1]) (rest := []) ⟨hx, hb, hml, hown, hts⟩ (c_X6_keepTrial l dC dI cI cC cO qM bM gM aB gB aT R2.2 aY gY zZ R2.1 R3 e_3 H.size) (cwV 1 hts gX6_prism_X6_keepTrial rfl rfl rfl (by decide +kernel) ⟨Nat.le_of_ble_eq_true rfl, Nat.le_of_ble_eq_true rfl⟩) ⟨zpM_blind, va_recv hK hP (ci := 6) (q0 := 0) rfl rfl, z_useM hK hN hP hD [0, 1, 2, 3, 4, 5, 6, 7] [] rfl (show List.Perm [0, 1, 2, 3, 4, 5, 6, 7] (List.range 8) from by decide)⟩ rfl rfl hl.1 rfl (lv_room (Nat.le_of_ble_eq_true rfl)) dX6_prism_24 ⟨Nat.le_of_ble_eq_true rfl, Nat.le_of_ble_eq_true rfl⟩) (fun u3 p3 H locs hP hD hS => ?_)
  refine W.eq (g2 := F0 m 27 ls [.int R3.1]) rfl ?_
  refine W.widen (k := 8) (n := 66) (Nat.le_of_ble_eq_true rfl) (Nat.le_of_ble_eq_true rfl) ?_
  exact zE_ret (gs := [(wX6 qM bM gM), (wX0 cI (bM 0) aB R3.2.1), (wX0 cI (bM 1) aT R2.2), (wX3 cO (bM 5) aY R3.2.2.1 (zrm u3)), (wZ cI (u3 0)), (wZ cI (u3 1)), (wZ cI (u3 2)), (wZ cI (u3 3))]) (u := u3) hx hb hr rfl hP hD hS (by rw [← Option.some.inj hf]; exact ⟨rfl, p3, rfl⟩) hlk dX6_prism_27

def f_X6_slit (gM : zG) (gB : zG) (gT : zG) (gY : zG) (hZ : Nat → Option zG) (x1 : Int32) (x2 : Int32) (x3 : Int32) : Option (Int32 × zG × zG × zG × (Nat → Option zG)) := (zbind (f_X0_copyFrom gT gB) (fun R1 => (zbind (f_X0_addSlit R1 x1 x2 x3) (fun R2 => (zbind (f_X6_keepTrial gM gB R2.2 gY hZ R2.1) (fun R3 => (some (R3.1, R3.2.1, R2.2, R3.2.2.1, R3.2.2.2))))))))
theorem u_X6_slit_X6 : ∀ w ∈ u_ws RX6 TX6 11, w ∈ wsX6_slit := fun w h => List.mem_cons_of_mem _ (List.mem_append_left _ (List.mem_append_left _ (List.mem_append_right _ h)))
theorem k_X6_slit_1 : Cond.fieldLink RX6 16 "JoinedLight" "trial" "LJoinedLight$Bench;" ∈ wsX6_slit := List.mem_of_getElem? (i := 1) rfl
theorem k_X6_slit_2 : Cond.fieldLink RX6 10 "JoinedLight" "bench" "LJoinedLight$Bench;" ∈ wsX6_slit := List.mem_of_getElem? (i := 2) rfl
abbrev rm_X6_slit : Room := { frames := 4, cells := 8, slots := 66, locals := 104 }
set_option maxHeartbeats 4000000 in
set_option maxRecDepth 100000 in
theorem c_X6_slit (l : Launch) (dC : Nat → ClassId) (dI : Nat → Nat → Nat) (cI cC cO : ClassId) (qM : Nat) (bM : Nat → Nat) (gM : zG) (aB : Nat → Nat) (gB : zG) (aT : Nat → Nat) (gT : zG) (aY : Nat → Nat) (gY : zG) (zZ : Nat → zS) (x1 : Int32) (x2 : Int32) (x3 : Int32) (R : Int32 × zG × zG × zG × (Nat → Option zG)) (hf : f_X6_slit gM gB gT gY (zcn zZ) x1 x2 x3 = some R) : cE l (dC, dI) (zT cI cC cO) yX6_slit wsX6_slit rm_X6_slit [.ref qM, .int x1, .int x2, .int x3] [(wX6 qM bM gM), (wX0 cI (bM 0) aB gB), (wX0 cI (bM 1) aT gT), (wX3 cO (bM 5) aY gY (zrm zZ)), (wZ cI (zZ 0)), (wZ cI (zZ 1)), (wZ cI (zZ 2)), (wZ cI (zZ 3))] (fun u : Nat → zS => [(wX6 qM bM gM), (wX0 cI (bM 0) aB R.2.1), (wX0 cI (bM 1) aT R.2.2.1), (wX3 cO (bM 5) aY R.2.2.2.1 (zrm u)), (wZ cI (u 0)), (wZ cI (u 1)), (wZ cI (u 2)), (wZ cI (u 3))]) (fun u => zcn u = R.2.2.2.2) (some (.int R.1)) 8 66 := by
  refine zE_in (cc := cX6_slit) (maxL := 4) (ret := (some .int)) (plainFor_of_name (by decide)) rfl (Nat.le_of_ble_eq_true rfl) ?_
  intro p e s m below meth c hx hb hml hr hlk hown hts hK hN hin A hA H locs hP hD hS ls hl
  have hl : lv_has ls 4 [(0, .ref qM), (1, .int x1), (2, .int x2), (3, .int x3)] := hl
  unfold f_X6_slit at hf
  refine lv_aload_n hx hb dX6_slit_0 rfl (lv_at hl 0 rfl) ?_
  refine va_get (D := (dC, dI)) (ci := 6) (v := .ref (bM 1)) (C := RX6) (T := TX6) (N := 11) hx hb hts u_X6_slit_X6 hown hK hP 0 rfl rfl 1 (by decide) (hts _ k_X6_slit_1) (fun _ h9 => h9) rfl dX6_slit_1 ?_
  refine lv_aload_n hx hb dX6_slit_4 rfl (lv_at hl 0 rfl) ?_
  refine va_get (D := (dC, dI)) (ci := 6) (v := .ref (bM 0)) (C := RX6) (T := TX6) (N := 11) hx hb hts u_X6_slit_X6 hown hK hP 0 rfl rfl 0 (by decide) (hts _ k_X6_slit_2) (fun _ h9 => h9) rfl dX6_slit_5 ?_
  obtain ⟨R1, e_1, hf⟩ := zbind_ex hf
  refine z_callM (gs2 := [(wX6 qM bM gM), (wX0 cI (bM 0) aB gB), (wX0 cI (bM 1) aT R1), (wX3 cO (bM 5) aY gY (zrm zZ)), (wZ cI (zZ 0)), (wZ cI (zZ 1)), (wZ cI (zZ 2)), (wZ cI (zZ 3))]) hP hD hS hA [2, 1] [0, 3, 4, 5, 6, 7] rfl rfl rfl (show List.Perm [2, 1, 0, 3, 4, 5, 6, 7] (List.range 8) from by decide) rfl (va_runV (As := [.ref (bM 0)]) (rest := []) ⟨hx, hb, hml, hown, hts⟩ (c_X0_copyFrom l dC dI cI cC cO (bM 1) aT gT (bM 0) aB gB  R1 e_1 H.size) (cwV 1 hts gX6_slit_X0_copyFrom rfl rfl rfl (by decide +kernel) ⟨Nat.le_of_ble_eq_true rfl, Nat.le_of_ble_eq_true rfl⟩) ⟨zpM_blind, va_recv hK hP (ci := 0) (q0 := 9) rfl rfl, z_useM hK hN hP hD [2, 1] [0, 3, 4, 5, 6, 7] rfl (show List.Perm [2, 1, 0, 3, 4, 5, 6, 7] (List.range 8) from by decide)⟩ rfl rfl hl.1 rfl (lv_room (Nat.le_of_ble_eq_true rfl)) dX6_slit_8 ⟨Nat.le_of_ble_eq_true rfl, Nat.le_of_ble_eq_true rfl⟩) (fun H locs hP hD hS => ?_)
  refine W.eq (g2 := F0 m 11 ls []) rfl ?_
  refine lv_aload_n hx hb dX6_slit_11 rfl (lv_at hl 0 rfl) ?_
  refine lv_aload_n hx hb dX6_slit_12 rfl (lv_at hl 0 rfl) ?_
  refine va_get (D := (dC, dI)) (ci := 6) (v := .ref (bM 1)) (C := RX6) (T := TX6) (N := 11) hx hb hts u_X6_slit_X6 hown hK hP 0 rfl rfl 1 (by decide) (hts _ k_X6_slit_1) (fun _ h9 => h9) rfl dX6_slit_13 ?_
  refine lv_iload_n hx hb dX6_slit_16 rfl (lv_at hl 1 rfl) ?_
  refine lv_iload_n hx hb dX6_slit_17 rfl (lv_at hl 2 rfl) ?_
  refine lv_iload_n hx hb dX6_slit_18 rfl (lv_at hl 3 rfl) ?_
  obtain ⟨R2, e_2, hf⟩ := zbind_ex hf
  refine z_callM (gs2 := [(wX6 qM bM gM), (wX0 cI (bM 0) aB gB), (wX0 cI (bM 1) aT R2.2), (wX3 cO (bM 5) aY gY (zrm zZ)), (wZ cI (zZ 0)), (wZ cI (zZ 1)), (wZ cI (zZ 2)), (wZ cI (zZ 3))]) hP hD hS hA [2] [0, 1, 3, 4, 5, 6, 7] rfl rfl rfl (show List.Perm [2, 0, 1, 3, 4, 5, 6, 7] (List.range 8) from by decide) rfl (va_runV (As := [.int x1, .int x2, .int x3]) (rest := [.ref qM]) ⟨hx, hb, hml, hown, hts⟩ (c_X0_addSlit l dC dI cI cC cO (bM 1) aT R1 x1 x2 x3 R2 e_2 H.size) (cwV 3 hts gX6_slit_X0_addSlit rfl rfl rfl (by decide +kernel) ⟨Nat.le_of_ble_eq_true rfl, Nat.le_of_ble_eq_true rfl⟩) ⟨zpM_blind, va_recv hK hP (ci := 0) (q0 := 9) rfl rfl, z_useM hK hN hP hD [2] [0, 1, 3, 4, 5, 6, 7] rfl (show List.Perm [2, 0, 1, 3, 4, 5, 6, 7] (List.range 8) from by decide)⟩ rfl rfl hl.1 rfl (lv_room (Nat.le_of_ble_eq_true rfl)) dX6_slit_19 ⟨Nat.le_of_ble_eq_true rfl, Nat.le_of_ble_eq_true rfl⟩) (fun H locs hP hD hS => ?_)
  refine W.eq (g2 := F0 m 22 ls [.int R2.1, .ref qM]) rfl ?_
  obtain ⟨R3, e_3, hf⟩ := zbind_ex hf
  refine z_callE (gs2 := fun u3 : Nat → zS => [(wX6 qM bM gM), (wX0 cI (bM 0) aB R3.2.1), (wX0 cI (bM 1) aT R2.2), (wX3 cO (bM 5) aY R3.2.2.1 (zrm u3)), (wZ cI (u3 0)), (wZ cI (u3 1)), (wZ cI (u3 2)), (wZ cI (u3 3))]) hP hD hS hA [0, 1, 2, 3, 4, 5, 6, 7] [] rfl (fun _ => rfl) (fun _ => rfl) (show List.Perm [0, 1, 2, 3, 4, 5, 6, 7] (List.range 8) from by decide) (fun _ => rfl) (va_runV (As := [.int R2.1]) (rest := []) ⟨hx, hb, hml, hown, hts⟩ (c_X6_keepTrial l dC dI cI cC cO qM bM gM aB gB aT R2.2 aY gY zZ R2.1 R3 e_3 H.size) (cwV 1 hts gX6_slit_X6_keepTrial rfl rfl rfl (by decide +kernel) ⟨Nat.le_of_ble_eq_true rfl, Nat.le_of_ble_eq_true rfl⟩) ⟨zpM_blind, va_recv hK hP (ci := 6) (q0 := 0) rfl rfl, z_useM hK hN hP hD [0, 1, 2, 3, 4, 5, 6, 7] [] rfl (show List.Perm [0, 1, 2, 3, 4, 5, 6, 7] (List.range 8) from by decide)⟩ rfl rfl hl.1 rfl (lv_room (Nat.le_of_ble_eq_true rfl)) dX6_slit_22 ⟨Nat.le_of_ble_eq_true rfl, Nat.le_of_ble_eq_true rfl⟩) (fun u3 p3 H locs hP hD hS => ?_)
  refine W.eq (g2 := F0 m 25 ls [.int R3.1]) rfl ?_
  refine W.widen (k := 8) (n := 66) (Nat.le_of_ble_eq_true rfl) (Nat.le_of_ble_eq_true rfl) ?_
  exact zE_ret (gs := [(wX6 qM bM gM), (wX0 cI (bM 0) aB R3.2.1), (wX0 cI (bM 1) aT R2.2), (wX3 cO (bM 5) aY R3.2.2.1 (zrm u3)), (wZ cI (u3 0)), (wZ cI (u3 1)), (wZ cI (u3 2)), (wZ cI (u3 3))]) (u := u3) hx hb hr rfl hP hD hS (by rw [← Option.some.inj hf]; exact ⟨rfl, p3, rfl⟩) hlk dX6_slit_25

def f_X6_take (gM : zG) (gB : zG) (gT : zG) (gY : zG) (hZ : Nat → Option zG) (x1 : Int32) : Option (Int32 × zG × zG × zG × (Nat → Option zG)) := (zbind (f_X0_copyFrom gT gB) (fun R1 => (zbind (f_X0_removeThing R1 x1) (fun R2 => (zbind (f_X6_keepTrial gM gB R2.2 gY hZ R2.1) (fun R3 => (some (R3.1, R3.2.1, R2.2, R3.2.2.1, R3.2.2.2))))))))
theorem u_X6_take_X6 : ∀ w ∈ u_ws RX6 TX6 11, w ∈ wsX6_take := fun w h => List.mem_cons_of_mem _ (List.mem_append_left _ (List.mem_append_left _ (List.mem_append_right _ h)))
theorem k_X6_take_1 : Cond.fieldLink RX6 16 "JoinedLight" "trial" "LJoinedLight$Bench;" ∈ wsX6_take := List.mem_of_getElem? (i := 1) rfl
theorem k_X6_take_2 : Cond.fieldLink RX6 10 "JoinedLight" "bench" "LJoinedLight$Bench;" ∈ wsX6_take := List.mem_of_getElem? (i := 2) rfl
abbrev rm_X6_take : Room := { frames := 4, cells := 8, slots := 66, locals := 104 }
set_option maxHeartbeats 4000000 in
set_option maxRecDepth 100000 in
theorem c_X6_take (l : Launch) (dC : Nat → ClassId) (dI : Nat → Nat → Nat) (cI cC cO : ClassId) (qM : Nat) (bM : Nat → Nat) (gM : zG) (aB : Nat → Nat) (gB : zG) (aT : Nat → Nat) (gT : zG) (aY : Nat → Nat) (gY : zG) (zZ : Nat → zS) (x1 : Int32) (R : Int32 × zG × zG × zG × (Nat → Option zG)) (hf : f_X6_take gM gB gT gY (zcn zZ) x1 = some R) : cE l (dC, dI) (zT cI cC cO) yX6_take wsX6_take rm_X6_take [.ref qM, .int x1] [(wX6 qM bM gM), (wX0 cI (bM 0) aB gB), (wX0 cI (bM 1) aT gT), (wX3 cO (bM 5) aY gY (zrm zZ)), (wZ cI (zZ 0)), (wZ cI (zZ 1)), (wZ cI (zZ 2)), (wZ cI (zZ 3))] (fun u : Nat → zS => [(wX6 qM bM gM), (wX0 cI (bM 0) aB R.2.1), (wX0 cI (bM 1) aT R.2.2.1), (wX3 cO (bM 5) aY R.2.2.2.1 (zrm u)), (wZ cI (u 0)), (wZ cI (u 1)), (wZ cI (u 2)), (wZ cI (u 3))]) (fun u => zcn u = R.2.2.2.2) (some (.int R.1)) 8 66 := by
  refine zE_in (cc := cX6_take) (maxL := 2) (ret := (some .int)) (plainFor_of_name (by decide)) rfl (Nat.le_of_ble_eq_true rfl) ?_
  intro p e s m below meth c hx hb hml hr hlk hown hts hK hN hin A hA H locs hP hD hS ls hl
  have hl : lv_has ls 2 [(0, .ref qM), (1, .int x1)] := hl
  unfold f_X6_take at hf
  refine lv_aload_n hx hb dX6_take_0 rfl (lv_at hl 0 rfl) ?_
  refine va_get (D := (dC, dI)) (ci := 6) (v := .ref (bM 1)) (C := RX6) (T := TX6) (N := 11) hx hb hts u_X6_take_X6 hown hK hP 0 rfl rfl 1 (by decide) (hts _ k_X6_take_1) (fun _ h9 => h9) rfl dX6_take_1 ?_
  refine lv_aload_n hx hb dX6_take_4 rfl (lv_at hl 0 rfl) ?_
  refine va_get (D := (dC, dI)) (ci := 6) (v := .ref (bM 0)) (C := RX6) (T := TX6) (N := 11) hx hb hts u_X6_take_X6 hown hK hP 0 rfl rfl 0 (by decide) (hts _ k_X6_take_2) (fun _ h9 => h9) rfl dX6_take_5 ?_
  obtain ⟨R1, e_1, hf⟩ := zbind_ex hf
  refine z_callM (gs2 := [(wX6 qM bM gM), (wX0 cI (bM 0) aB gB), (wX0 cI (bM 1) aT R1), (wX3 cO (bM 5) aY gY (zrm zZ)), (wZ cI (zZ 0)), (wZ cI (zZ 1)), (wZ cI (zZ 2)), (wZ cI (zZ 3))]) hP hD hS hA [2, 1] [0, 3, 4, 5, 6, 7] rfl rfl rfl (show List.Perm [2, 1, 0, 3, 4, 5, 6, 7] (List.range 8) from by decide) rfl (va_runV (As := [.ref (bM 0)]) (rest := []) ⟨hx, hb, hml, hown, hts⟩ (c_X0_copyFrom l dC dI cI cC cO (bM 1) aT gT (bM 0) aB gB  R1 e_1 H.size) (cwV 1 hts gX6_take_X0_copyFrom rfl rfl rfl (by decide +kernel) ⟨Nat.le_of_ble_eq_true rfl, Nat.le_of_ble_eq_true rfl⟩) ⟨zpM_blind, va_recv hK hP (ci := 0) (q0 := 9) rfl rfl, z_useM hK hN hP hD [2, 1] [0, 3, 4, 5, 6, 7] rfl (show List.Perm [2, 1, 0, 3, 4, 5, 6, 7] (List.range 8) from by decide)⟩ rfl rfl hl.1 rfl (lv_room (Nat.le_of_ble_eq_true rfl)) dX6_take_8 ⟨Nat.le_of_ble_eq_true rfl, Nat.le_of_ble_eq_true rfl⟩) (fun H locs hP hD hS => ?_)
  refine W.eq (g2 := F0 m 11 ls []) rfl ?_
  refine lv_aload_n hx hb dX6_take_11 rfl (lv_at hl 0 rfl) ?_
  refine lv_aload_n hx hb dX6_take_12 rfl (lv_at hl 0 rfl) ?_
  refine va_get (D := (dC, dI)) (ci := 6) (v := .ref (bM 1)) (C := RX6) (T := TX6) (N := 11) hx hb hts u_X6_take_X6 hown hK hP 0 rfl rfl 1 (by decide) (hts _ k_X6_take_1) (fun _ h9 => h9) rfl dX6_take_13 ?_
  refine lv_iload_n hx hb dX6_take_16 rfl (lv_at hl 1 rfl) ?_
  obtain ⟨R2, e_2, hf⟩ := zbind_ex hf
  refine z_callM (gs2 := [(wX6 qM bM gM), (wX0 cI (bM 0) aB gB), (wX0 cI (bM 1) aT R2.2), (wX3 cO (bM 5) aY gY (zrm zZ)), (wZ cI (zZ 0)), (wZ cI (zZ 1)), (wZ cI (zZ 2)), (wZ cI (zZ 3))]) hP hD hS hA [2] [0, 1, 3, 4, 5, 6, 7] rfl rfl rfl (show List.Perm [2, 0, 1, 3, 4, 5, 6, 7] (List.range 8) from by decide) rfl (va_runV (As := [.int x1]) (rest := [.ref qM]) ⟨hx, hb, hml, hown, hts⟩ (c_X0_removeThing l dC dI cI cC cO (bM 1) aT R1 x1 R2 e_2 H.size) (cwV 1 hts gX6_take_X0_removeThing rfl rfl rfl (by decide +kernel) ⟨Nat.le_of_ble_eq_true rfl, Nat.le_of_ble_eq_true rfl⟩) ⟨zpM_blind, va_recv hK hP (ci := 0) (q0 := 9) rfl rfl, z_useM hK hN hP hD [2] [0, 1, 3, 4, 5, 6, 7] rfl (show List.Perm [2, 0, 1, 3, 4, 5, 6, 7] (List.range 8) from by decide)⟩ rfl rfl hl.1 rfl (lv_room (Nat.le_of_ble_eq_true rfl)) dX6_take_17 ⟨Nat.le_of_ble_eq_true rfl, Nat.le_of_ble_eq_true rfl⟩) (fun H locs hP hD hS => ?_)
  refine W.eq (g2 := F0 m 20 ls [.int R2.1, .ref qM]) rfl ?_
  obtain ⟨R3, e_3, hf⟩ := zbind_ex hf
  refine z_callE (gs2 := fun u3 : Nat → zS => [(wX6 qM bM gM), (wX0 cI (bM 0) aB R3.2.1), (wX0 cI (bM 1) aT R2.2), (wX3 cO (bM 5) aY R3.2.2.1 (zrm u3)), (wZ cI (u3 0)), (wZ cI (u3 1)), (wZ cI (u3 2)), (wZ cI (u3 3))]) hP hD hS hA [0, 1, 2, 3, 4, 5, 6, 7] [] rfl (fun _ => rfl) (fun _ => rfl) (show List.Perm [0, 1, 2, 3, 4, 5, 6, 7] (List.range 8) from by decide) (fun _ => rfl) (va_runV (As := [.int R2.1]) (rest := []) ⟨hx, hb, hml, hown, hts⟩ (c_X6_keepTrial l dC dI cI cC cO qM bM gM aB gB aT R2.2 aY gY zZ R2.1 R3 e_3 H.size) (cwV 1 hts gX6_take_X6_keepTrial rfl rfl rfl (by decide +kernel) ⟨Nat.le_of_ble_eq_true rfl, Nat.le_of_ble_eq_true rfl⟩) ⟨zpM_blind, va_recv hK hP (ci := 6) (q0 := 0) rfl rfl, z_useM hK hN hP hD [0, 1, 2, 3, 4, 5, 6, 7] [] rfl (show List.Perm [0, 1, 2, 3, 4, 5, 6, 7] (List.range 8) from by decide)⟩ rfl rfl hl.1 rfl (lv_room (Nat.le_of_ble_eq_true rfl)) dX6_take_20 ⟨Nat.le_of_ble_eq_true rfl, Nat.le_of_ble_eq_true rfl⟩) (fun u3 p3 H locs hP hD hS => ?_)
  refine W.eq (g2 := F0 m 23 ls [.int R3.1]) rfl ?_
  refine W.widen (k := 8) (n := 66) (Nat.le_of_ble_eq_true rfl) (Nat.le_of_ble_eq_true rfl) ?_
  exact zE_ret (gs := [(wX6 qM bM gM), (wX0 cI (bM 0) aB R3.2.1), (wX0 cI (bM 1) aT R2.2), (wX3 cO (bM 5) aY R3.2.2.1 (zrm u3)), (wZ cI (u3 0)), (wZ cI (u3 1)), (wZ cI (u3 2)), (wZ cI (u3 3))]) (u := u3) hx hb hr rfl hP hD hS (by rw [← Option.some.inj hf]; exact ⟨rfl, p3, rfl⟩) hlk dX6_take_23

def f_X6_move (gM : zG) (gB : zG) (gT : zG) (gY : zG) (hZ : Nat → Option zG) (x1 : Int32) (x2 : Int32) : Option (Int32 × zG × zG × zG × (Nat → Option zG)) := (zbind (f_X0_copyFrom gT gB) (fun R1 => (zbind (f_X0_moveThing R1 x1 x2) (fun R2 => (zbind (f_X6_keepTrial gM gB R2.2 gY hZ R2.1) (fun R3 => (some (R3.1, R3.2.1, R2.2, R3.2.2.1, R3.2.2.2))))))))
theorem u_X6_move_X6 : ∀ w ∈ u_ws RX6 TX6 11, w ∈ wsX6_move := fun w h => List.mem_cons_of_mem _ (List.mem_append_left _ (List.mem_append_left _ (List.mem_append_right _ h)))
theorem k_X6_move_1 : Cond.fieldLink RX6 16 "JoinedLight" "trial" "LJoinedLight$Bench;" ∈ wsX6_move := List.mem_of_getElem? (i := 1) rfl
theorem k_X6_move_2 : Cond.fieldLink RX6 10 "JoinedLight" "bench" "LJoinedLight$Bench;" ∈ wsX6_move := List.mem_of_getElem? (i := 2) rfl
abbrev rm_X6_move : Room := { frames := 4, cells := 8, slots := 66, locals := 104 }
set_option maxHeartbeats 4000000 in
set_option maxRecDepth 100000 in
theorem c_X6_move (l : Launch) (dC : Nat → ClassId) (dI : Nat → Nat → Nat) (cI cC cO : ClassId) (qM : Nat) (bM : Nat → Nat) (gM : zG) (aB : Nat → Nat) (gB : zG) (aT : Nat → Nat) (gT : zG) (aY : Nat → Nat) (gY : zG) (zZ : Nat → zS) (x1 : Int32) (x2 : Int32) (R : Int32 × zG × zG × zG × (Nat → Option zG)) (hf : f_X6_move gM gB gT gY (zcn zZ) x1 x2 = some R) : cE l (dC, dI) (zT cI cC cO) yX6_move wsX6_move rm_X6_move [.ref qM, .int x1, .int x2] [(wX6 qM bM gM), (wX0 cI (bM 0) aB gB), (wX0 cI (bM 1) aT gT), (wX3 cO (bM 5) aY gY (zrm zZ)), (wZ cI (zZ 0)), (wZ cI (zZ 1)), (wZ cI (zZ 2)), (wZ cI (zZ 3))] (fun u : Nat → zS => [(wX6 qM bM gM), (wX0 cI (bM 0) aB R.2.1), (wX0 cI (bM 1) aT R.2.2.1), (wX3 cO (bM 5) aY R.2.2.2.1 (zrm u)), (wZ cI (u 0)), (wZ cI (u 1)), (wZ cI (u 2)), (wZ cI (u 3))]) (fun u => zcn u = R.2.2.2.2) (some (.int R.1)) 8 66 := by
  refine zE_in (cc := cX6_move) (maxL := 3) (ret := (some .int)) (plainFor_of_name (by decide)) rfl (Nat.le_of_ble_eq_true rfl) ?_
  intro p e s m below meth c hx hb hml hr hlk hown hts hK hN hin A hA H locs hP hD hS ls hl
  have hl : lv_has ls 3 [(0, .ref qM), (1, .int x1), (2, .int x2)] := hl
  unfold f_X6_move at hf
  refine lv_aload_n hx hb dX6_move_0 rfl (lv_at hl 0 rfl) ?_
  refine va_get (D := (dC, dI)) (ci := 6) (v := .ref (bM 1)) (C := RX6) (T := TX6) (N := 11) hx hb hts u_X6_move_X6 hown hK hP 0 rfl rfl 1 (by decide) (hts _ k_X6_move_1) (fun _ h9 => h9) rfl dX6_move_1 ?_
  refine lv_aload_n hx hb dX6_move_4 rfl (lv_at hl 0 rfl) ?_
  refine va_get (D := (dC, dI)) (ci := 6) (v := .ref (bM 0)) (C := RX6) (T := TX6) (N := 11) hx hb hts u_X6_move_X6 hown hK hP 0 rfl rfl 0 (by decide) (hts _ k_X6_move_2) (fun _ h9 => h9) rfl dX6_move_5 ?_
  obtain ⟨R1, e_1, hf⟩ := zbind_ex hf
  refine z_callM (gs2 := [(wX6 qM bM gM), (wX0 cI (bM 0) aB gB), (wX0 cI (bM 1) aT R1), (wX3 cO (bM 5) aY gY (zrm zZ)), (wZ cI (zZ 0)), (wZ cI (zZ 1)), (wZ cI (zZ 2)), (wZ cI (zZ 3))]) hP hD hS hA [2, 1] [0, 3, 4, 5, 6, 7] rfl rfl rfl (show List.Perm [2, 1, 0, 3, 4, 5, 6, 7] (List.range 8) from by decide) rfl (va_runV (As := [.ref (bM 0)]) (rest := []) ⟨hx, hb, hml, hown, hts⟩ (c_X0_copyFrom l dC dI cI cC cO (bM 1) aT gT (bM 0) aB gB  R1 e_1 H.size) (cwV 1 hts gX6_move_X0_copyFrom rfl rfl rfl (by decide +kernel) ⟨Nat.le_of_ble_eq_true rfl, Nat.le_of_ble_eq_true rfl⟩) ⟨zpM_blind, va_recv hK hP (ci := 0) (q0 := 9) rfl rfl, z_useM hK hN hP hD [2, 1] [0, 3, 4, 5, 6, 7] rfl (show List.Perm [2, 1, 0, 3, 4, 5, 6, 7] (List.range 8) from by decide)⟩ rfl rfl hl.1 rfl (lv_room (Nat.le_of_ble_eq_true rfl)) dX6_move_8 ⟨Nat.le_of_ble_eq_true rfl, Nat.le_of_ble_eq_true rfl⟩) (fun H locs hP hD hS => ?_)
  refine W.eq (g2 := F0 m 11 ls []) rfl ?_
  refine lv_aload_n hx hb dX6_move_11 rfl (lv_at hl 0 rfl) ?_
  refine lv_aload_n hx hb dX6_move_12 rfl (lv_at hl 0 rfl) ?_
  refine va_get (D := (dC, dI)) (ci := 6) (v := .ref (bM 1)) (C := RX6) (T := TX6) (N := 11) hx hb hts u_X6_move_X6 hown hK hP 0 rfl rfl 1 (by decide) (hts _ k_X6_move_1) (fun _ h9 => h9) rfl dX6_move_13 ?_
  refine lv_iload_n hx hb dX6_move_16 rfl (lv_at hl 1 rfl) ?_
  refine lv_iload_n hx hb dX6_move_17 rfl (lv_at hl 2 rfl) ?_
  obtain ⟨R2, e_2, hf⟩ := zbind_ex hf
  refine z_callM (gs2 := [(wX6 qM bM gM), (wX0 cI (bM 0) aB gB), (wX0 cI (bM 1) aT R2.2), (wX3 cO (bM 5) aY gY (zrm zZ)), (wZ cI (zZ 0)), (wZ cI (zZ 1)), (wZ cI (zZ 2)), (wZ cI (zZ 3))]) hP hD hS hA [2] [0, 1, 3, 4, 5, 6, 7] rfl rfl rfl (show List.Perm [2, 0, 1, 3, 4, 5, 6, 7] (List.range 8) from by decide) rfl (va_runV (As := [.int x1, .int x2]) (rest := [.ref qM]) ⟨hx, hb, hml, hown, hts⟩ (c_X0_moveThing l dC dI cI cC cO (bM 1) aT R1 x1 x2 R2 e_2 H.size) (cwV 2 hts gX6_move_X0_moveThing rfl rfl rfl (by decide +kernel) ⟨Nat.le_of_ble_eq_true rfl, Nat.le_of_ble_eq_true rfl⟩) ⟨zpM_blind, va_recv hK hP (ci := 0) (q0 := 9) rfl rfl, z_useM hK hN hP hD [2] [0, 1, 3, 4, 5, 6, 7] rfl (show List.Perm [2, 0, 1, 3, 4, 5, 6, 7] (List.range 8) from by decide)⟩ rfl rfl hl.1 rfl (lv_room (Nat.le_of_ble_eq_true rfl)) dX6_move_18 ⟨Nat.le_of_ble_eq_true rfl, Nat.le_of_ble_eq_true rfl⟩) (fun H locs hP hD hS => ?_)
  refine W.eq (g2 := F0 m 21 ls [.int R2.1, .ref qM]) rfl ?_
  obtain ⟨R3, e_3, hf⟩ := zbind_ex hf
  refine z_callE (gs2 := fun u3 : Nat → zS => [(wX6 qM bM gM), (wX0 cI (bM 0) aB R3.2.1), (wX0 cI (bM 1) aT R2.2), (wX3 cO (bM 5) aY R3.2.2.1 (zrm u3)), (wZ cI (u3 0)), (wZ cI (u3 1)), (wZ cI (u3 2)), (wZ cI (u3 3))]) hP hD hS hA [0, 1, 2, 3, 4, 5, 6, 7] [] rfl (fun _ => rfl) (fun _ => rfl) (show List.Perm [0, 1, 2, 3, 4, 5, 6, 7] (List.range 8) from by decide) (fun _ => rfl) (va_runV (As := [.int R2.1]) (rest := []) ⟨hx, hb, hml, hown, hts⟩ (c_X6_keepTrial l dC dI cI cC cO qM bM gM aB gB aT R2.2 aY gY zZ R2.1 R3 e_3 H.size) (cwV 1 hts gX6_move_X6_keepTrial rfl rfl rfl (by decide +kernel) ⟨Nat.le_of_ble_eq_true rfl, Nat.le_of_ble_eq_true rfl⟩) ⟨zpM_blind, va_recv hK hP (ci := 6) (q0 := 0) rfl rfl, z_useM hK hN hP hD [0, 1, 2, 3, 4, 5, 6, 7] [] rfl (show List.Perm [0, 1, 2, 3, 4, 5, 6, 7] (List.range 8) from by decide)⟩ rfl rfl hl.1 rfl (lv_room (Nat.le_of_ble_eq_true rfl)) dX6_move_21 ⟨Nat.le_of_ble_eq_true rfl, Nat.le_of_ble_eq_true rfl⟩) (fun u3 p3 H locs hP hD hS => ?_)
  refine W.eq (g2 := F0 m 24 ls [.int R3.1]) rfl ?_
  refine W.widen (k := 8) (n := 66) (Nat.le_of_ble_eq_true rfl) (Nat.le_of_ble_eq_true rfl) ?_
  exact zE_ret (gs := [(wX6 qM bM gM), (wX0 cI (bM 0) aB R3.2.1), (wX0 cI (bM 1) aT R2.2), (wX3 cO (bM 5) aY R3.2.2.1 (zrm u3)), (wZ cI (u3 0)), (wZ cI (u3 1)), (wZ cI (u3 2)), (wZ cI (u3 3))]) (u := u3) hx hb hr rfl hP hD hS (by rw [← Option.some.inj hf]; exact ⟨rfl, p3, rfl⟩) hlk dX6_move_24

def f_X6_set (gM : zG) (gB : zG) (gT : zG) (gY : zG) (hZ : Nat → Option zG) (x1 : Int32) (x2 : Int32) : Option (Int32 × zG × zG × zG × (Nat → Option zG)) := (zbind (f_X0_copyFrom gT gB) (fun R1 => (zbind (f_X0_changeSetting R1 x1 x2) (fun R2 => (zbind (f_X6_keepTrial gM gB R2.2 gY hZ R2.1) (fun R3 => (some (R3.1, R3.2.1, R2.2, R3.2.2.1, R3.2.2.2))))))))
theorem u_X6_set_X6 : ∀ w ∈ u_ws RX6 TX6 11, w ∈ wsX6_set := fun w h => List.mem_cons_of_mem _ (List.mem_append_left _ (List.mem_append_left _ (List.mem_append_right _ h)))
theorem k_X6_set_1 : Cond.fieldLink RX6 16 "JoinedLight" "trial" "LJoinedLight$Bench;" ∈ wsX6_set := List.mem_of_getElem? (i := 1) rfl
theorem k_X6_set_2 : Cond.fieldLink RX6 10 "JoinedLight" "bench" "LJoinedLight$Bench;" ∈ wsX6_set := List.mem_of_getElem? (i := 2) rfl
abbrev rm_X6_set : Room := { frames := 4, cells := 8, slots := 66, locals := 104 }
set_option maxHeartbeats 4000000 in
set_option maxRecDepth 100000 in
theorem c_X6_set (l : Launch) (dC : Nat → ClassId) (dI : Nat → Nat → Nat) (cI cC cO : ClassId) (qM : Nat) (bM : Nat → Nat) (gM : zG) (aB : Nat → Nat) (gB : zG) (aT : Nat → Nat) (gT : zG) (aY : Nat → Nat) (gY : zG) (zZ : Nat → zS) (x1 : Int32) (x2 : Int32) (R : Int32 × zG × zG × zG × (Nat → Option zG)) (hf : f_X6_set gM gB gT gY (zcn zZ) x1 x2 = some R) : cE l (dC, dI) (zT cI cC cO) yX6_set wsX6_set rm_X6_set [.ref qM, .int x1, .int x2] [(wX6 qM bM gM), (wX0 cI (bM 0) aB gB), (wX0 cI (bM 1) aT gT), (wX3 cO (bM 5) aY gY (zrm zZ)), (wZ cI (zZ 0)), (wZ cI (zZ 1)), (wZ cI (zZ 2)), (wZ cI (zZ 3))] (fun u : Nat → zS => [(wX6 qM bM gM), (wX0 cI (bM 0) aB R.2.1), (wX0 cI (bM 1) aT R.2.2.1), (wX3 cO (bM 5) aY R.2.2.2.1 (zrm u)), (wZ cI (u 0)), (wZ cI (u 1)), (wZ cI (u 2)), (wZ cI (u 3))]) (fun u => zcn u = R.2.2.2.2) (some (.int R.1)) 8 66 := by
  refine zE_in (cc := cX6_set) (maxL := 3) (ret := (some .int)) (plainFor_of_name (by decide)) rfl (Nat.le_of_ble_eq_true rfl) ?_
  intro p e s m below meth c hx hb hml hr hlk hown hts hK hN hin A hA H locs hP hD hS ls hl
  have hl : lv_has ls 3 [(0, .ref qM), (1, .int x1), (2, .int x2)] := hl
  unfold f_X6_set at hf
  refine lv_aload_n hx hb dX6_set_0 rfl (lv_at hl 0 rfl) ?_
  refine va_get (D := (dC, dI)) (ci := 6) (v := .ref (bM 1)) (C := RX6) (T := TX6) (N := 11) hx hb hts u_X6_set_X6 hown hK hP 0 rfl rfl 1 (by decide) (hts _ k_X6_set_1) (fun _ h9 => h9) rfl dX6_set_1 ?_
  refine lv_aload_n hx hb dX6_set_4 rfl (lv_at hl 0 rfl) ?_
  refine va_get (D := (dC, dI)) (ci := 6) (v := .ref (bM 0)) (C := RX6) (T := TX6) (N := 11) hx hb hts u_X6_set_X6 hown hK hP 0 rfl rfl 0 (by decide) (hts _ k_X6_set_2) (fun _ h9 => h9) rfl dX6_set_5 ?_
  obtain ⟨R1, e_1, hf⟩ := zbind_ex hf
  refine z_callM (gs2 := [(wX6 qM bM gM), (wX0 cI (bM 0) aB gB), (wX0 cI (bM 1) aT R1), (wX3 cO (bM 5) aY gY (zrm zZ)), (wZ cI (zZ 0)), (wZ cI (zZ 1)), (wZ cI (zZ 2)), (wZ cI (zZ 3))]) hP hD hS hA [2, 1] [0, 3, 4, 5, 6, 7] rfl rfl rfl (show List.Perm [2, 1, 0, 3, 4, 5, 6, 7] (List.range 8) from by decide) rfl (va_runV (As := [.ref (bM 0)]) (rest := []) ⟨hx, hb, hml, hown, hts⟩ (c_X0_copyFrom l dC dI cI cC cO (bM 1) aT gT (bM 0) aB gB  R1 e_1 H.size) (cwV 1 hts gX6_set_X0_copyFrom rfl rfl rfl (by decide +kernel) ⟨Nat.le_of_ble_eq_true rfl, Nat.le_of_ble_eq_true rfl⟩) ⟨zpM_blind, va_recv hK hP (ci := 0) (q0 := 9) rfl rfl, z_useM hK hN hP hD [2, 1] [0, 3, 4, 5, 6, 7] rfl (show List.Perm [2, 1, 0, 3, 4, 5, 6, 7] (List.range 8) from by decide)⟩ rfl rfl hl.1 rfl (lv_room (Nat.le_of_ble_eq_true rfl)) dX6_set_8 ⟨Nat.le_of_ble_eq_true rfl, Nat.le_of_ble_eq_true rfl⟩) (fun H locs hP hD hS => ?_)
  refine W.eq (g2 := F0 m 11 ls []) rfl ?_
  refine lv_aload_n hx hb dX6_set_11 rfl (lv_at hl 0 rfl) ?_
  refine lv_aload_n hx hb dX6_set_12 rfl (lv_at hl 0 rfl) ?_
  refine va_get (D := (dC, dI)) (ci := 6) (v := .ref (bM 1)) (C := RX6) (T := TX6) (N := 11) hx hb hts u_X6_set_X6 hown hK hP 0 rfl rfl 1 (by decide) (hts _ k_X6_set_1) (fun _ h9 => h9) rfl dX6_set_13 ?_
  refine lv_iload_n hx hb dX6_set_16 rfl (lv_at hl 1 rfl) ?_
  refine lv_iload_n hx hb dX6_set_17 rfl (lv_at hl 2 rfl) ?_
  obtain ⟨R2, e_2, hf⟩ := zbind_ex hf
  refine z_callM (gs2 := [(wX6 qM bM gM), (wX0 cI (bM 0) aB gB), (wX0 cI (bM 1) aT R2.2), (wX3 cO (bM 5) aY gY (zrm zZ)), (wZ cI (zZ 0)), (wZ cI (zZ 1)), (wZ cI (zZ 2)), (wZ cI (zZ 3))]) hP hD hS hA [2] [0, 1, 3, 4, 5, 6, 7] rfl rfl rfl (show List.Perm [2, 0, 1, 3, 4, 5, 6, 7] (List.range 8) from by decide) rfl (va_runV (As := [.int x1, .int x2]) (rest := [.ref qM]) ⟨hx, hb, hml, hown, hts⟩ (c_X0_changeSetting l dC dI cI cC cO (bM 1) aT R1 x1 x2 R2 e_2 H.size) (cwV 2 hts gX6_set_X0_changeSetting rfl rfl rfl (by decide +kernel) ⟨Nat.le_of_ble_eq_true rfl, Nat.le_of_ble_eq_true rfl⟩) ⟨zpM_blind, va_recv hK hP (ci := 0) (q0 := 9) rfl rfl, z_useM hK hN hP hD [2] [0, 1, 3, 4, 5, 6, 7] rfl (show List.Perm [2, 0, 1, 3, 4, 5, 6, 7] (List.range 8) from by decide)⟩ rfl rfl hl.1 rfl (lv_room (Nat.le_of_ble_eq_true rfl)) dX6_set_18 ⟨Nat.le_of_ble_eq_true rfl, Nat.le_of_ble_eq_true rfl⟩) (fun H locs hP hD hS => ?_)
  refine W.eq (g2 := F0 m 21 ls [.int R2.1, .ref qM]) rfl ?_
  obtain ⟨R3, e_3, hf⟩ := zbind_ex hf
  refine z_callE (gs2 := fun u3 : Nat → zS => [(wX6 qM bM gM), (wX0 cI (bM 0) aB R3.2.1), (wX0 cI (bM 1) aT R2.2), (wX3 cO (bM 5) aY R3.2.2.1 (zrm u3)), (wZ cI (u3 0)), (wZ cI (u3 1)), (wZ cI (u3 2)), (wZ cI (u3 3))]) hP hD hS hA [0, 1, 2, 3, 4, 5, 6, 7] [] rfl (fun _ => rfl) (fun _ => rfl) (show List.Perm [0, 1, 2, 3, 4, 5, 6, 7] (List.range 8) from by decide) (fun _ => rfl) (va_runV (As := [.int R2.1]) (rest := []) ⟨hx, hb, hml, hown, hts⟩ (c_X6_keepTrial l dC dI cI cC cO qM bM gM aB gB aT R2.2 aY gY zZ R2.1 R3 e_3 H.size) (cwV 1 hts gX6_set_X6_keepTrial rfl rfl rfl (by decide +kernel) ⟨Nat.le_of_ble_eq_true rfl, Nat.le_of_ble_eq_true rfl⟩) ⟨zpM_blind, va_recv hK hP (ci := 6) (q0 := 0) rfl rfl, z_useM hK hN hP hD [0, 1, 2, 3, 4, 5, 6, 7] [] rfl (show List.Perm [0, 1, 2, 3, 4, 5, 6, 7] (List.range 8) from by decide)⟩ rfl rfl hl.1 rfl (lv_room (Nat.le_of_ble_eq_true rfl)) dX6_set_21 ⟨Nat.le_of_ble_eq_true rfl, Nat.le_of_ble_eq_true rfl⟩) (fun u3 p3 H locs hP hD hS => ?_)
  refine W.eq (g2 := F0 m 24 ls [.int R3.1]) rfl ?_
  refine W.widen (k := 8) (n := 66) (Nat.le_of_ble_eq_true rfl) (Nat.le_of_ble_eq_true rfl) ?_
  exact zE_ret (gs := [(wX6 qM bM gM), (wX0 cI (bM 0) aB R3.2.1), (wX0 cI (bM 1) aT R2.2), (wX3 cO (bM 5) aY R3.2.2.1 (zrm u3)), (wZ cI (u3 0)), (wZ cI (u3 1)), (wZ cI (u3 2)), (wZ cI (u3 3))]) (u := u3) hx hb hr rfl hP hD hS (by rw [← Option.some.inj hf]; exact ⟨rfl, p3, rfl⟩) hlk dX6_set_24

def f_X6_undo (gM : zG) (gB : zG) (gY : zG) (hZ : Nat → Option zG)  : Option (Int32 × zG × zG) := (zbind (f_X3_takeLatest gY gB hZ) (fun R1 => (if R1.1 = 0 then (some ((-1000000002 : Int32), R1.2.2, R1.2.1)) else (some ((R1.2.1 1 0), R1.2.2, R1.2.1)))))
theorem u_X6_undo_X6 : ∀ w ∈ u_ws RX6 TX6 11, w ∈ wsX6_undo := fun w h => List.mem_cons_of_mem _ (List.mem_append_left _ (List.mem_append_left _ (List.mem_append_right _ h)))
theorem u_X6_undo_X3 : ∀ w ∈ u_ws RX3 TX3 2, w ∈ wsX6_undo := fun w h => List.mem_cons_of_mem _ (List.mem_append_left _ (List.mem_append_right _ h))
theorem k_X6_undo_1 : Cond.fieldLink RX6 43 "JoinedLight" "history" "LJoinedLight$History;" ∈ wsX6_undo := List.mem_of_getElem? (i := 1) rfl
theorem k_X6_undo_2 : Cond.fieldLink RX6 10 "JoinedLight" "bench" "LJoinedLight$Bench;" ∈ wsX6_undo := List.mem_of_getElem? (i := 2) rfl
theorem k_X6_undo_4 : Cond.constant RX6 199 (-1000000002) ∈ wsX6_undo := List.mem_of_getElem? (i := 4) rfl
theorem k_X6_undo_3 : Cond.fieldLink RX6 222 "JoinedLight$History" "states" "I" ∈ wsX6_undo := List.mem_of_getElem? (i := 3) rfl
abbrev rm_X6_undo : Room := { frames := 3, cells := 0, slots := 0, locals := 84 }
set_option maxHeartbeats 4000000 in
set_option maxRecDepth 100000 in
theorem c_X6_undo (l : Launch) (dC : Nat → ClassId) (dI : Nat → Nat → Nat) (cI cC cO : ClassId) (qM : Nat) (bM : Nat → Nat) (gM : zG) (aB : Nat → Nat) (gB : zG) (aY : Nat → Nat) (gY : zG) (zZ : Nat → zS)  (R : Int32 × zG × zG) (hf : f_X6_undo gM gB gY (zcn zZ) = some R) : cM l (dC, dI) (zT cI cC cO) yX6_undo wsX6_undo rm_X6_undo [.ref qM] [(wX6 qM bM gM), (wX0 cI (bM 0) aB gB), (wX3 cO (bM 5) aY gY (zrm zZ)), (wZ cI (zZ 0)), (wZ cI (zZ 1)), (wZ cI (zZ 2)), (wZ cI (zZ 3))] [(wX6 qM bM gM), (wX0 cI (bM 0) aB R.2.1), (wX3 cO (bM 5) aY R.2.2 (zrm zZ)), (wZ cI (zZ 0)), (wZ cI (zZ 1)), (wZ cI (zZ 2)), (wZ cI (zZ 3))] (some (.int R.1)) 0 0 := by
  refine zM_in (cc := cX6_undo) (maxL := 1) (ret := (some .int)) (plainFor_of_name (by decide)) rfl (Nat.le_of_ble_eq_true rfl) ?_
  intro p e s m below meth c hx hb hml hr hlk hown hts hK hN A hA hP hD hS ls hl
  have hl : lv_has ls 1 [(0, .ref qM)] := hl
  unfold f_X6_undo at hf
  obtain ⟨H, hH⟩ : ∃ H, H = s.heap := ⟨_, rfl⟩
  obtain ⟨locs, hlocs⟩ : ∃ locs : List Loc, locs = [] := ⟨_, rfl⟩
  have hS : va_S A s.heap H locs := by rw [hH, hlocs]; exact hS
  rw [← hH] at hP
  refine zheap hH hlocs ?_
  refine lv_aload_n hx hb dX6_undo_0 rfl (lv_at hl 0 rfl) ?_
  refine va_get (D := (dC, dI)) (ci := 6) (v := .ref (bM 5)) (C := RX6) (T := TX6) (N := 11) hx hb hts u_X6_undo_X6 hown hK hP 0 rfl rfl 5 (by decide) (hts _ k_X6_undo_1) (fun _ h9 => h9) rfl dX6_undo_1 ?_
  refine lv_aload_n hx hb dX6_undo_4 rfl (lv_at hl 0 rfl) ?_
  refine va_get (D := (dC, dI)) (ci := 6) (v := .ref (bM 0)) (C := RX6) (T := TX6) (N := 11) hx hb hts u_X6_undo_X6 hown hK hP 0 rfl rfl 0 (by decide) (hts _ k_X6_undo_2) (fun _ h9 => h9) rfl dX6_undo_5 ?_
  obtain ⟨R1, e_1, hf⟩ := zbind_ex hf
  refine z_callM (gs2 := [(wX6 qM bM gM), (wX0 cI (bM 0) aB R1.2.2), (wX3 cO (bM 5) aY R1.2.1 (zrm zZ)), (wZ cI (zZ 0)), (wZ cI (zZ 1)), (wZ cI (zZ 2)), (wZ cI (zZ 3))]) hP hD hS hA [2, 1, 3, 4, 5, 6] [0] rfl rfl rfl (show List.Perm [2, 1, 3, 4, 5, 6, 0] (List.range 7) from by decide) rfl (va_runV (As := [.ref (bM 0)]) (rest := []) ⟨hx, hb, hml, hown, hts⟩ (c_X3_takeLatest l dC dI cI cC cO (bM 5) aY gY (bM 0) aB gB zZ  R1 e_1 H.size) (cwV 1 hts gX6_undo_X3_takeLatest rfl rfl rfl (by decide +kernel) ⟨Nat.le_of_ble_eq_true rfl, Nat.le_of_ble_eq_true rfl⟩) ⟨zpM_blind, va_recv hK hP (ci := 3) (q0 := 9) rfl rfl, z_useM hK hN hP hD [2, 1, 3, 4, 5, 6] [0] rfl (show List.Perm [2, 1, 3, 4, 5, 6, 0] (List.range 7) from by decide)⟩ rfl rfl hl.1 rfl (lv_room (Nat.le_of_ble_eq_true rfl)) dX6_undo_8 ⟨Nat.le_of_ble_eq_true rfl, Nat.le_of_ble_eq_true rfl⟩) (fun H locs hP hD hS => ?_)
  refine W.eq (g2 := F0 m 11 ls [.int R1.1]) rfl ?_
  refine lv_if_eq (tgt := 24) hx hb dX6_undo_11 (by decide) (fun c_2 => ?_) (fun c_2 => ?_)
  · have hf := zif_t hf c_2
    refine lv_ldc (v := (-1000000002 : Int32)) hx hb hown (hts _ k_X6_undo_4) dX6_undo_24 ?_
    exact zM_ret (gs := [(wX6 qM bM gM), (wX0 cI (bM 0) aB R1.2.2), (wX3 cO (bM 5) aY R1.2.1 (zrm zZ)), (wZ cI (zZ 0)), (wZ cI (zZ 1)), (wZ cI (zZ 2)), (wZ cI (zZ 3))]) hx hb hr rfl hP hD hS (by rw [← Option.some.inj hf]; exact ⟨rfl, rfl⟩) hlk dX6_undo_26
  · have hf := zif_f hf c_2
    refine lv_aload_n hx hb dX6_undo_14 rfl (lv_at hl 0 rfl) ?_
    refine va_get (D := (dC, dI)) (ci := 6) (v := .ref (bM 5)) (C := RX6) (T := TX6) (N := 11) hx hb hts u_X6_undo_X6 hown hK hP 0 rfl rfl 5 (by decide) (hts _ k_X6_undo_1) (fun _ h9 => h9) rfl dX6_undo_15 ?_
    refine va_get (D := (dC, dI)) (ci := 3) (v := .int (R1.2.1 1 0)) (C := RX3) (T := TX3) (N := 2) hx hb hts u_X6_undo_X3 hown hK hP 9 rfl rfl 1 (by decide) (hts _ k_X6_undo_3) (fun _ h9 => h9) rfl dX6_undo_18 ?_
    refine lv_goto (tgt := 26) hx hb dX6_undo_21 (by decide) ?_
    exact zM_ret (gs := [(wX6 qM bM gM), (wX0 cI (bM 0) aB R1.2.2), (wX3 cO (bM 5) aY R1.2.1 (zrm zZ)), (wZ cI (zZ 0)), (wZ cI (zZ 1)), (wZ cI (zZ 2)), (wZ cI (zZ 3))]) hx hb hr rfl hP hD hS (by rw [← Option.some.inj hf]; exact ⟨rfl, rfl⟩) hlk dX6_undo_26

def f_X6_play (gM : zG) (gB : zG) (gT : zG) (gX : zG) (gY : zG) (hZ : Nat → Option zG)  : Option (Int32 × zG × zG × zG × zG × zG × (Nat → Option zG)) := (zbind (f_X6_tryText gM gB gT gX) (fun R1 => (if (R1.1 8 0) = 0 then (zbind (f_X6_keepTrial R1.1 gB R1.2.1 gY hZ (R1.1 10 0)) (fun R4 => (some (R4.1, R1.1, R4.2.1, R1.2.1, R1.2.2, R4.2.2.1, R4.2.2.2)))) else (zbind (f_X6_keepTrial R1.1 gB R1.2.1 gY hZ (-1000000002 : Int32)) (fun R3 => (some (R3.1, R1.1, R3.2.1, R1.2.1, R1.2.2, R3.2.2.1, R3.2.2.2)))))))
theorem u_X6_play_X6 : ∀ w ∈ u_ws RX6 TX6 11, w ∈ wsX6_play := fun w h => List.mem_cons_of_mem _ (List.mem_append_left _ (List.mem_append_left _ (List.mem_append_left _ (List.mem_append_right _ h))))
theorem k_X6_play_1 : Cond.fieldLink RX6 246 "JoinedLight" "faultReason" "I" ∈ wsX6_play := List.mem_of_getElem? (i := 1) rfl
theorem k_X6_play_3 : Cond.constant RX6 199 (-1000000002) ∈ wsX6_play := List.mem_of_getElem? (i := 3) rfl
theorem k_X6_play_2 : Cond.fieldLink RX6 255 "JoinedLight" "ordersDone" "I" ∈ wsX6_play := List.mem_of_getElem? (i := 2) rfl
abbrev rm_X6_play : Room := { frames := 6, cells := 8, slots := 66, locals := 141 }
set_option maxHeartbeats 4000000 in
set_option maxRecDepth 100000 in
theorem c_X6_play (l : Launch) (dC : Nat → ClassId) (dI : Nat → Nat → Nat) (cI cC cO : ClassId) (qM : Nat) (bM : Nat → Nat) (gM : zG) (aB : Nat → Nat) (gB : zG) (aT : Nat → Nat) (gT : zG) (aX : Nat → Nat) (gX : zG) (aY : Nat → Nat) (gY : zG) (zZ : Nat → zS)  (R : Int32 × zG × zG × zG × zG × zG × (Nat → Option zG)) (hf : f_X6_play gM gB gT gX gY (zcn zZ) = some R) : cE l (dC, dI) (zT cI cC cO) yX6_play wsX6_play rm_X6_play [.ref qM] [(wX6 qM bM gM), (wX0 cI (bM 0) aB gB), (wX0 cI (bM 1) aT gT), (wX5 cI cC (bM 6) aX gX), (wX3 cO (bM 5) aY gY (zrm zZ)), (wZ cI (zZ 0)), (wZ cI (zZ 1)), (wZ cI (zZ 2)), (wZ cI (zZ 3))] (fun u : Nat → zS => [(wX6 qM bM R.2.1), (wX0 cI (bM 0) aB R.2.2.1), (wX0 cI (bM 1) aT R.2.2.2.1), (wX5 cI cC (bM 6) aX R.2.2.2.2.1), (wX3 cO (bM 5) aY R.2.2.2.2.2.1 (zrm u)), (wZ cI (u 0)), (wZ cI (u 1)), (wZ cI (u 2)), (wZ cI (u 3))]) (fun u => zcn u = R.2.2.2.2.2.2) (some (.int R.1)) 8 66 := by
  refine zE_in (cc := cX6_play) (maxL := 1) (ret := (some .int)) (plainFor_of_name (by decide)) rfl (Nat.le_of_ble_eq_true rfl) ?_
  intro p e s m below meth c hx hb hml hr hlk hown hts hK hN hin A hA H locs hP hD hS ls hl
  have hl : lv_has ls 1 [(0, .ref qM)] := hl
  unfold f_X6_play at hf
  refine lv_aload_n hx hb dX6_play_0 rfl (lv_at hl 0 rfl) ?_
  obtain ⟨R1, e_1, hf⟩ := zbind_ex hf
  refine z_callM (gs2 := [(wX6 qM bM R1.1), (wX0 cI (bM 0) aB gB), (wX0 cI (bM 1) aT R1.2.1), (wX5 cI cC (bM 6) aX R1.2.2), (wX3 cO (bM 5) aY gY (zrm zZ)), (wZ cI (zZ 0)), (wZ cI (zZ 1)), (wZ cI (zZ 2)), (wZ cI (zZ 3))]) hP hD hS hA [0, 1, 2, 3] [4, 5, 6, 7, 8] rfl rfl rfl (show List.Perm [0, 1, 2, 3, 4, 5, 6, 7, 8] (List.range 9) from by decide) rfl (va_runV (As := []) (rest := []) ⟨hx, hb, hml, hown, hts⟩ (c_X6_tryText l dC dI cI cC cO qM bM gM aB gB aT gT aX gX  R1 e_1 H.size) (cwV 0 hts gX6_play_X6_tryText rfl rfl rfl (by decide +kernel) ⟨Nat.le_of_ble_eq_true rfl, Nat.le_of_ble_eq_true rfl⟩) ⟨zpM_blind, va_recv hK hP (ci := 6) (q0 := 0) rfl rfl, z_useM hK hN hP hD [0, 1, 2, 3] [4, 5, 6, 7, 8] rfl (show List.Perm [0, 1, 2, 3, 4, 5, 6, 7, 8] (List.range 9) from by decide)⟩ rfl rfl hl.1 rfl (lv_room (Nat.le_of_ble_eq_true rfl)) dX6_play_1 ⟨Nat.le_of_ble_eq_true rfl, Nat.le_of_ble_eq_true rfl⟩) (fun H locs hP hD hS => ?_)
  refine W.eq (g2 := F0 m 4 ls []) rfl ?_
  refine lv_aload_n hx hb dX6_play_4 rfl (lv_at hl 0 rfl) ?_
  refine lv_aload_n hx hb dX6_play_5 rfl (lv_at hl 0 rfl) ?_
  refine va_get (D := (dC, dI)) (ci := 6) (v := .int (R1.1 8 0)) (C := RX6) (T := TX6) (N := 11) hx hb hts u_X6_play_X6 hown hK hP 0 rfl rfl 8 (by decide) (hts _ k_X6_play_1) (fun _ h9 => h9) rfl dX6_play_6 ?_
  refine lv_if_ne (tgt := 19) hx hb dX6_play_9 (by decide) (fun c_2 => ?_) (fun c_2 => ?_)
  · have hf := zif_f hf c_2
    refine lv_ldc (v := (-1000000002 : Int32)) hx hb hown (hts _ k_X6_play_3) dX6_play_19 ?_
    obtain ⟨R3, e_3, hf⟩ := zbind_ex hf
    refine z_callE (gs2 := fun u3 : Nat → zS => [(wX6 qM bM R1.1), (wX0 cI (bM 0) aB R3.2.1), (wX0 cI (bM 1) aT R1.2.1), (wX5 cI cC (bM 6) aX R1.2.2), (wX3 cO (bM 5) aY R3.2.2.1 (zrm u3)), (wZ cI (u3 0)), (wZ cI (u3 1)), (wZ cI (u3 2)), (wZ cI (u3 3))]) hP hD hS hA [0, 1, 2, 4, 5, 6, 7, 8] [3] rfl (fun _ => rfl) (fun _ => rfl) (show List.Perm [0, 1, 2, 4, 5, 6, 7, 8, 3] (List.range 9) from by decide) (fun _ => rfl) (va_runV (As := [.int (-1000000002 : Int32)]) (rest := []) ⟨hx, hb, hml, hown, hts⟩ (c_X6_keepTrial l dC dI cI cC cO qM bM R1.1 aB gB aT R1.2.1 aY gY zZ (-1000000002 : Int32) R3 e_3 H.size) (cwV 1 hts gX6_play_X6_keepTrial rfl rfl rfl (by decide +kernel) ⟨Nat.le_of_ble_eq_true rfl, Nat.le_of_ble_eq_true rfl⟩) ⟨zpM_blind, va_recv hK hP (ci := 6) (q0 := 0) rfl rfl, z_useM hK hN hP hD [0, 1, 2, 4, 5, 6, 7, 8] [3] rfl (show List.Perm [0, 1, 2, 4, 5, 6, 7, 8, 3] (List.range 9) from by decide)⟩ rfl rfl hl.1 rfl (lv_room (Nat.le_of_ble_eq_true rfl)) dX6_play_21 ⟨Nat.le_of_ble_eq_true rfl, Nat.le_of_ble_eq_true rfl⟩) (fun u3 p3 H locs hP hD hS => ?_)
    refine W.eq (g2 := F0 m 24 ls [.int R3.1]) rfl ?_
    refine W.widen (k := 8) (n := 66) (Nat.le_of_ble_eq_true rfl) (Nat.le_of_ble_eq_true rfl) ?_
    exact zE_ret (gs := [(wX6 qM bM R1.1), (wX0 cI (bM 0) aB R3.2.1), (wX0 cI (bM 1) aT R1.2.1), (wX5 cI cC (bM 6) aX R1.2.2), (wX3 cO (bM 5) aY R3.2.2.1 (zrm u3)), (wZ cI (u3 0)), (wZ cI (u3 1)), (wZ cI (u3 2)), (wZ cI (u3 3))]) (u := u3) hx hb hr rfl hP hD hS (by rw [← Option.some.inj hf]; exact ⟨rfl, p3, rfl⟩) hlk dX6_play_24
  · have hf := zif_t hf c_2
    refine lv_aload_n hx hb dX6_play_12 rfl (lv_at hl 0 rfl) ?_
    refine va_get (D := (dC, dI)) (ci := 6) (v := .int (R1.1 10 0)) (C := RX6) (T := TX6) (N := 11) hx hb hts u_X6_play_X6 hown hK hP 0 rfl rfl 10 (by decide) (hts _ k_X6_play_2) (fun _ h9 => h9) rfl dX6_play_13 ?_
    refine lv_goto (tgt := 21) hx hb dX6_play_16 (by decide) ?_
    obtain ⟨R4, e_4, hf⟩ := zbind_ex hf
    refine z_callE (gs2 := fun u4 : Nat → zS => [(wX6 qM bM R1.1), (wX0 cI (bM 0) aB R4.2.1), (wX0 cI (bM 1) aT R1.2.1), (wX5 cI cC (bM 6) aX R1.2.2), (wX3 cO (bM 5) aY R4.2.2.1 (zrm u4)), (wZ cI (u4 0)), (wZ cI (u4 1)), (wZ cI (u4 2)), (wZ cI (u4 3))]) hP hD hS hA [0, 1, 2, 4, 5, 6, 7, 8] [3] rfl (fun _ => rfl) (fun _ => rfl) (show List.Perm [0, 1, 2, 4, 5, 6, 7, 8, 3] (List.range 9) from by decide) (fun _ => rfl) (va_runV (As := [.int (R1.1 10 0)]) (rest := []) ⟨hx, hb, hml, hown, hts⟩ (c_X6_keepTrial l dC dI cI cC cO qM bM R1.1 aB gB aT R1.2.1 aY gY zZ (R1.1 10 0) R4 e_4 H.size) (cwV 1 hts gX6_play_X6_keepTrial rfl rfl rfl (by decide +kernel) ⟨Nat.le_of_ble_eq_true rfl, Nat.le_of_ble_eq_true rfl⟩) ⟨zpM_blind, va_recv hK hP (ci := 6) (q0 := 0) rfl rfl, z_useM hK hN hP hD [0, 1, 2, 4, 5, 6, 7, 8] [3] rfl (show List.Perm [0, 1, 2, 4, 5, 6, 7, 8, 3] (List.range 9) from by decide)⟩ rfl rfl hl.1 rfl (lv_room (Nat.le_of_ble_eq_true rfl)) dX6_play_21 ⟨Nat.le_of_ble_eq_true rfl, Nat.le_of_ble_eq_true rfl⟩) (fun u4 p4 H locs hP hD hS => ?_)
    refine W.eq (g2 := F0 m 24 ls [.int R4.1]) rfl ?_
    refine W.widen (k := 8) (n := 66) (Nat.le_of_ble_eq_true rfl) (Nat.le_of_ble_eq_true rfl) ?_
    exact zE_ret (gs := [(wX6 qM bM R1.1), (wX0 cI (bM 0) aB R4.2.1), (wX0 cI (bM 1) aT R1.2.1), (wX5 cI cC (bM 6) aX R1.2.2), (wX3 cO (bM 5) aY R4.2.2.1 (zrm u4)), (wZ cI (u4 0)), (wZ cI (u4 1)), (wZ cI (u4 2)), (wZ cI (u4 3))]) (u := u4) hx hb hr rfl hP hD hS (by rw [← Option.some.inj hf]; exact ⟨rfl, p4, rfl⟩) hlk dX6_play_24
