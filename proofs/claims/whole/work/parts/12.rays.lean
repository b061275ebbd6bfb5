def f_X4_comes (gS : zG) (x1 : Int32) : Option (Int32) := (if x1 < 0 then (some ((0 : Int32))) else (if (8 : Int32) ≤ x1 then (some ((0 : Int32))) else (zin x1 8 (if (gS 3 x1.toNatClampNeg) = 0 then (some ((1 : Int32))) else (some ((0 : Int32)))))))
theorem u_X4_comes_X4 : ∀ w ∈ u_ws RX4 TX4 5, w ∈ wsX4_comes := fun w h => List.mem_cons_of_mem _ (List.mem_append_right _ h)
theorem k_X4_comes_1 : Cond.fieldLink RX4 21 "JoinedLight$Rays" "lostWhy" "[I" ∈ wsX4_comes := List.mem_of_getElem? (i := 1) rfl
abbrev rm_X4_comes : Room := { frames := 0, cells := 0, slots := 0, locals := 0 }
set_option maxHeartbeats 4000000 in
set_option maxRecDepth 100000 in
theorem c_X4_comes (l : Launch) (dC : Nat → ClassId) (dI : Nat → Nat → Nat) (cI cC cO : ClassId) (qS : Nat) (aS : Nat → Nat) (gS : zG) (x1 : Int32) (R : Int32) (hf : f_X4_comes gS x1 = some R) : cR l (dC, dI) (zT cI cC cO) yX4_comes wsX4_comes rm_X4_comes [.ref qS, .int x1] [(wX4 cI qS aS gS)] (some (.int R)) := by
  refine zR_in (cc := cX4_comes) (maxL := 2) (ret := (some .boolean)) (plainFor_of_name (by decide)) rfl (Nat.le_of_ble_eq_true rfl) ?_
  intro p e s m below meth c hx hb hml hr hlk hown hts hK hN hP ls hl
  have hl : lv_has ls 2 [(0, .ref qS), (1, .int x1)] := hl
  unfold f_X4_comes at hf
  refine lv_iload_n hx hb dX4_comes_0 rfl (lv_at hl 1 rfl) ?_
  refine lv_if_lt (tgt := 23) hx hb dX4_comes_1 (by decide) (fun c_1 => ?_) (fun c_1 => ?_)
  · have hf := zif_t hf c_1
    refine lv_iconst (v := (0 : Int32)) hx hb dX4_comes_23 (by decide) ?_
    exact zR_ret hx hb hr rfl hf hlk dX4_comes_24
  · have hf := zif_f hf c_1
    refine lv_iload_n hx hb dX4_comes_4 rfl (lv_at hl 1 rfl) ?_
    refine lv_bipush (v := (8 : Int32)) hx hb dX4_comes_5 (by decide) ?_
    refine lv_icmp_ge (tgt := 23) hx hb dX4_comes_7 (by decide) (fun c_2 => ?_) (fun c_2 => ?_)
    · have hf := zif_t hf c_2
      refine lv_iconst (v := (0 : Int32)) hx hb dX4_comes_23 (by decide) ?_
      exact zR_ret hx hb hr rfl hf hlk dX4_comes_24
    · have hf := zif_f hf c_2
      refine lv_aload_n hx hb dX4_comes_10 rfl (lv_at hl 0 rfl) ?_
      refine va_get (D := (dC, dI)) (ci := 4) (v := .ref (aS 3)) (C := RX4) (T := TX4) (N := 5) hx hb hts u_X4_comes_X4 hown hK hP 0 rfl rfl 3 (by decide) (hts _ k_X4_comes_1) (fun _ h9 => h9) rfl dX4_comes_11 ?_
      refine lv_iload_n hx hb dX4_comes_14 rfl (lv_at hl 1 rfl) ?_
      obtain ⟨h_3, hf⟩ := zin_ex hf
      refine va_iald hx hb hK hP 4 0 rfl rfl h_3 dX4_comes_15 ?_
      refine lv_if_ne (tgt := 23) hx hb dX4_comes_16 (by decide) (fun c_4 => ?_) (fun c_4 => ?_)
      · have hf := zif_f hf c_4
        refine lv_iconst (v := (0 : Int32)) hx hb dX4_comes_23 (by decide) ?_
        exact zR_ret hx hb hr rfl hf hlk dX4_comes_24
      · have hf := zif_t hf c_4
        refine lv_iconst (v := (1 : Int32)) hx hb dX4_comes_19 (by decide) ?_
        refine lv_goto (tgt := 24) hx hb dX4_comes_20 (by decide) ?_
        exact zR_ret hx hb hr rfl hf hlk dX4_comes_24

def f_X4_rise  (x0 : Int32) (x1 : Int32) : Option (Int32) := (zbind (f_J9_floorDiv_7cf53 (x0 * x1) (1000 : Int32)) (fun R1 => (some (R1))))
abbrev rm_X4_rise : Room := { frames := 1, cells := 0, slots := 0, locals := 22 }
set_option maxHeartbeats 4000000 in
set_option maxRecDepth 100000 in
theorem c_X4_rise (l : Launch) (dC : Nat → ClassId) (dI : Nat → Nat → Nat) (cI cC cO : ClassId)  (x0 : Int32) (x1 : Int32) (R : Int32) (hf : f_X4_rise x0 x1 = some R) : cR l (dC, dI) (zT cI cC cO) yX4_rise wsX4_rise rm_X4_rise [.int x0, .int x1] [] (some (.int R)) := by
  refine zR_in (cc := cX4_rise) (maxL := 2) (ret := (some .int)) (plainFor_of_name (by decide)) rfl (Nat.le_of_ble_eq_true rfl) ?_
  intro p e s m below meth c hx hb hml hr hlk hown hts hK hN hP ls hl
  have hl : lv_has ls 2 [(0, .int x0), (1, .int x1)] := hl
  unfold f_X4_rise at hf
  refine lv_iload_n hx hb dX4_rise_0 rfl (lv_at hl 0 rfl) ?_
  refine lv_iload_n hx hb dX4_rise_1 rfl (lv_at hl 1 rfl) ?_
  refine lv_imul hx hb dX4_rise_2 ?_
  refine lv_sipush (v := (1000 : Int32)) hx hb dX4_rise_3 (by decide) ?_
  obtain ⟨R1, e_1, hf⟩ := zbind_ex hf
  refine z_callRi (va_runS (As := [.int (x0 * x1), .int (1000 : Int32)]) (rest := []) ⟨hx, hb, hml, hown, hts⟩ (c_J9_floorDiv_7cf53 l dC dI cI cC cO  (x0 * x1) (1000 : Int32) R1 e_1) (va_cwS 2 hts gX4_rise_J9_floorDiv_7cf53 rfl rfl rfl (by decide +kernel) ⟨Nat.le_of_ble_eq_true rfl, Nat.le_of_ble_eq_true rfl⟩) ⟨zpR_blind, z_useR hK hN hP [] rfl⟩ rfl rfl hl.1 rfl (lv_room (Nat.le_of_ble_eq_true rfl)) dX4_rise_6 ⟨Nat.le_of_ble_eq_true rfl, Nat.le_of_ble_eq_true rfl⟩) ?_
  exact zR_ret hx hb hr rfl hf hlk dX4_rise_9

def f_X4_finish (gS : zG) (x1 : Int32) (x2 : Int32) (x3 : Int32) : Option (zG) := (zbind (f_X6_within x1 (0 : Int32) (7 : Int32)) (fun R1 => (if R1 = 0 then (some (gS)) else (zin x1 8 (zlet (gup gS 2 x1.toNatClampNeg x2) (fun gS_3 => (zin x1 8 (zlet (gup gS_3 3 x1.toNatClampNeg x3) (fun gS_4 => (some (gS_4)))))))))))
theorem u_X4_finish_X4 : ∀ w ∈ u_ws RX4 TX4 5, w ∈ wsX4_finish := fun w h => List.mem_cons_of_mem _ (List.mem_append_right _ h)
theorem k_X4_finish_4 : Cond.initialized RX6 ∈ wsX4_finish := List.mem_of_getElem? (i := 4) rfl
theorem k_X4_finish_3 : Cond.static yX6_within ∈ wsX4_finish := List.mem_of_getElem? (i := 3) rfl
theorem k_X4_finish_1 : Cond.fieldLink RX4 18 "JoinedLight$Rays" "lostAt" "[I" ∈ wsX4_finish := List.mem_of_getElem? (i := 1) rfl
theorem k_X4_finish_2 : Cond.fieldLink RX4 21 "JoinedLight$Rays" "lostWhy" "[I" ∈ wsX4_finish := List.mem_of_getElem? (i := 2) rfl
abbrev rm_X4_finish : Room := { frames := 1, cells := 0, slots := 0, locals := 22 }
set_option maxHeartbeats 4000000 in
set_option maxRecDepth 100000 in
theorem c_X4_finish (l : Launch) (dC : Nat → ClassId) (dI : Nat → Nat → Nat) (cI cC cO : ClassId) (qS : Nat) (aS : Nat → Nat) (gS : zG) (x1 : Int32) (x2 : Int32) (x3 : Int32) (R : zG) (hf : f_X4_finish gS x1 x2 x3 = some R) : cM l (dC, dI) (zT cI cC cO) yX4_finish wsX4_finish rm_X4_finish [.ref qS, .int x1, .int x2, .int x3] [(wX4 cI qS aS gS)] [(wX4 cI qS aS R)] none 0 0 := by
  refine zM_in (cc := cX4_finish) (maxL := 4) (ret := none) (plainFor_of_name (by decide)) rfl (Nat.le_of_ble_eq_true rfl) ?_
  intro p e s m below meth c hx hb hml hr hlk hown hts hK hN A hA hP hD hS ls hl
  have hl : lv_has ls 4 [(0, .ref qS), (1, .int x1), (2, .int x2), (3, .int x3)] := hl
  unfold f_X4_finish at hf
  obtain ⟨H, hH⟩ : ∃ H, H = s.heap := ⟨_, rfl⟩
  obtain ⟨locs, hlocs⟩ : ∃ locs : List Loc, locs = [] := ⟨_, rfl⟩
  have hS : va_S A s.heap H locs := by rw [hH, hlocs]; exact hS
  rw [← hH] at hP
  refine zheap hH hlocs ?_
  refine lv_iload_n hx hb dX4_finish_0 rfl (lv_at hl 1 rfl) ?_
  refine lv_iconst (v := (0 : Int32)) hx hb dX4_finish_1 (by decide) ?_
  refine lv_bipush (v := (7 : Int32)) hx hb dX4_finish_2 (by decide) ?_
  obtain ⟨R1, e_1, hf⟩ := zbind_ex hf
  refine z_callRi (va_runSN (As := [.int x1, .int (0 : Int32), .int (7 : Int32)]) (rest := []) ⟨hx, hb, hml, hown, hts⟩ (c_X6_within l dC dI cI cC cO  x1 (0 : Int32) (7 : Int32) R1 e_1) ⟨va_cnB 3 hts gX4_finish_X6_within_n72 rfl rfl rfl hN.2.2.2.1 (hts _ k_X4_finish_4) (by decide +kernel) ⟨Nat.le_of_ble_eq_true rfl, Nat.le_of_ble_eq_true rfl⟩, (hts _ k_X4_finish_3), trivial⟩ ⟨zpR_blind, z_useR hK hN hP [] rfl⟩ rfl rfl hl.1 rfl (lv_room (Nat.le_of_ble_eq_true rfl)) dX4_finish_4 ⟨Nat.le_of_ble_eq_true rfl, Nat.le_of_ble_eq_true rfl⟩) ?_
  refine lv_if_ne (tgt := 11) hx hb dX4_finish_7 (by decide) (fun c_2 => ?_) (fun c_2 => ?_)
  · have hf := zif_f hf c_2
    refine lv_aload_n hx hb dX4_finish_11 rfl (lv_at hl 0 rfl) ?_
    refine va_get (D := (dC, dI)) (ci := 4) (v := .ref (aS 2)) (C := RX4) (T := TX4) (N := 5) hx hb hts u_X4_finish_X4 hown hK hP 0 rfl rfl 2 (by decide) (hts _ k_X4_finish_1) (fun _ h9 => h9) rfl dX4_finish_12 ?_
    refine lv_iload_n hx hb dX4_finish_15 rfl (lv_at hl 1 rfl) ?_
    refine lv_iload_n hx hb dX4_finish_16 rfl (lv_at hl 2 rfl) ?_
    obtain ⟨h_3, hf⟩ := zin_ex hf
    obtain ⟨gS_3, e_3, hf⟩ := zlet_ex hf
    refine z_iast (gs' := [(wX4 cI qS aS gS_3)]) hx hb hK hP hD hS 3 0 rfl rfl h_3 (by rw [e_3]; rfl) dX4_finish_17 (fun H locs hP hD hS => ?_)
    refine lv_aload_n hx hb dX4_finish_18 rfl (lv_at hl 0 rfl) ?_
    refine va_get (D := (dC, dI)) (ci := 4) (v := .ref (aS 3)) (C := RX4) (T := TX4) (N := 5) hx hb hts u_X4_finish_X4 hown hK hP 0 rfl rfl 3 (by decide) (hts _ k_X4_finish_2) (fun _ h9 => h9) rfl dX4_finish_19 ?_
    refine lv_iload_n hx hb dX4_finish_22 rfl (lv_at hl 1 rfl) ?_
    refine lv_iload_n hx hb dX4_finish_23 rfl (lv_at hl 3 rfl) ?_
    obtain ⟨h_4, hf⟩ := zin_ex hf
    obtain ⟨gS_4, e_4, hf⟩ := zlet_ex hf
    refine z_iast (gs' := [(wX4 cI qS aS gS_4)]) hx hb hK hP hD hS 4 0 rfl rfl h_4 (by rw [e_4]; rfl) dX4_finish_24 (fun H locs hP hD hS => ?_)
    exact zM_vret (gs := [(wX4 cI qS aS gS_4)]) hx hb hr hP hD hS (by rw [← Option.some.inj hf]; exact ⟨rfl, rfl⟩) hlk dX4_finish_25
  · have hf := zif_t hf c_2
    exact zM_vret (gs := [(wX4 cI qS aS gS)]) hx hb hr hP hD hS (by rw [← Option.some.inj hf]; exact ⟨rfl, rfl⟩) hlk dX4_finish_10

def f_X4_followLine_129 (gP1 : zG)  (y2 : Int32) (y3 : Int32) (y5 : Int32) (y6 : Int32) (y7 : Int32) (gS : zG) : Option (zG) := (zbind (f_X4_rise y7 (y3 - y5)) (fun R16 => (zin y2 8 (zlet (gup gS 0 y2.toNatClampNeg (y6 + R16)) (fun gS_17 => (zin y2 8 (zlet (gup gS_17 1 y2.toNatClampNeg y7) (fun gS_18 => (zbind (f_X0_isBeyond (y6 + R16)) (fun R19 => (if R19 = 0 then (zbind (f_X4_finish gS_18 y2 y3 (0 : Int32)) (fun R21 => (some (R21)))) else (zbind (f_X4_finish gS_18 y2 y3 (2 : Int32)) (fun R22 => (some (R22)))))))))))))))
def f_X4_followLine_29_b (gP1 : zG)  (k29 : Int32 → Int32 → Int32 → Int32 → Int32 → Int32 → Int32 → zG → Option (zG)) (y2 : Int32) (y3 : Int32) (y4 : Int32) (y5 : Int32) (y6 : Int32) (y7 : Int32) (y8 : Int32) (gS : zG) : Option (zG) := (if (8 : Int32) ≤ y8 then (f_X4_followLine_129 gP1   y2 y3 y5 y6 y7 gS) else (zbind (f_X0_hasThing gP1 y8) (fun R5 => (if R5 = 0 then (f_X4_followLine_129 gP1   y2 y3 y5 y6 y7 gS) else (zin y8 8 (if y3 ≤ (gP1 3 y8.toNatClampNeg) then (f_X4_followLine_129 gP1   y2 y3 y5 y6 y7 gS) else (zin y8 8 (zbind (f_X4_rise y7 ((gP1 3 y8.toNatClampNeg) - y5)) (fun R10 => (zin y8 8 (zbind (f_X0_whyLostAt gP1 y8 (y6 + R10)) (fun R12 => (if R12 = 0 then (zbind (f_X0_bendAt gP1 y8 y4) (fun R14 => (k29 y2 y3 y4 (gP1 3 y8.toNatClampNeg) (y6 + R10) (y7 + R14) (y8 + (1 : Int32)) gS))) else (zbind (f_X4_finish gS y2 (gP1 3 y8.toNatClampNeg) R12) (fun R15 => (some (R15)))))))))))))))))
def f_X4_followLine_29 (gP1 : zG)  : Nat → Int32 → Int32 → Int32 → Int32 → Int32 → Int32 → Int32 → zG → Option (zG)
  | 0 => fun _ _ _ _ _ _ _ _ => none
  | n + 1 => f_X4_followLine_29_b gP1  (f_X4_followLine_29 gP1  n)
def f_X4_followLine (gS : zG) (gP1 : zG) (x2 : Int32) (x3 : Int32) : Option (zG) := (zbind (f_X0_hasLine gP1 x2) (fun R1 => (if R1 = 0 then (some (gS)) else (zin x2 8 (f_X4_followLine_29 gP1  zfuel x2 x3 (gP1 0 x2.toNatClampNeg) (0 : Int32) (0 : Int32) (0 : Int32) (0 : Int32) gS)))))
theorem u_X4_followLine_X0 : ∀ w ∈ u_ws RX0 TX0 10, w ∈ wsX4_followLine := fun w h => List.mem_cons_of_mem _ (List.mem_append_left _ (List.mem_append_right _ h))
theorem u_X4_followLine_X4 : ∀ w ∈ u_ws RX4 TX4 5, w ∈ wsX4_followLine := fun w h => List.mem_cons_of_mem _ (List.mem_append_right _ h)
theorem k_X4_followLine_1 : Cond.fieldLink RX4 41 "JoinedLight$Bench" "colours" "[I" ∈ wsX4_followLine := List.mem_of_getElem? (i := 1) rfl
theorem k_X4_followLine_2 : Cond.fieldLink RX4 47 "JoinedLight$Bench" "places" "[I" ∈ wsX4_followLine := List.mem_of_getElem? (i := 2) rfl
theorem k_X4_followLine_3 : Cond.fieldLink RX4 9 "JoinedLight$Rays" "heights" "[I" ∈ wsX4_followLine := List.mem_of_getElem? (i := 3) rfl
theorem k_X4_followLine_4 : Cond.fieldLink RX4 15 "JoinedLight$Rays" "slopes" "[I" ∈ wsX4_followLine := List.mem_of_getElem? (i := 4) rfl
abbrev rm_X4_followLine : Room := { frames := 3, cells := 0, slots := 0, locals := 67 }
set_option maxHeartbeats 4000000 in
set_option maxRecDepth 100000 in
theorem c_X4_followLine (l : Launch) (dC : Nat → ClassId) (dI : Nat → Nat → Nat) (cI cC cO : ClassId) (qS : Nat) (aS : Nat → Nat) (gS : zG) (qP1 : Nat) (aP1 : Nat → Nat) (gP1 : zG) (x2 : Int32) (x3 : Int32) (R : zG) (hf : f_X4_followLine gS gP1 x2 x3 = some R) : cM l (dC, dI) (zT cI cC cO) yX4_followLine wsX4_followLine rm_X4_followLine [.ref qS, .ref qP1, .int x2, .int x3] [(wX4 cI qS aS gS), (wX0 cI qP1 aP1 gP1)] [(wX4 cI qS aS R), (wX0 cI qP1 aP1 gP1)] none 0 0 := by
  refine zM_in (cc := cX4_followLine) (maxL := 10) (ret := none) (plainFor_of_name (by decide)) rfl (Nat.le_of_ble_eq_true rfl) ?_
  intro p e s m below meth c hx hb hml hr hlk hown hts hK hN A hA hP hD hS ls hl
  have hl : lv_has ls 10 [(0, .ref qS), (1, .ref qP1), (2, .int x2), (3, .int x3)] := hl
  have w129 : ∀ (y2 : Int32) (y3 : Int32) (y5 : Int32) (y6 : Int32) (y7 : Int32) (gS : zG) (H : Heap) (locs : List Loc) (ls : Array Slot), f_X4_followLine_129 gP1   y2 y3 y5 y6 y7 gS = some R → va_P (dC, dI) vwCl [(wX4 cI qS aS gS), (wX0 cI qP1 aP1 gP1)].flatten H → va_D A [(wX4 cI qS aS gS), (wX0 cI qP1 aP1 gP1)].flatten → va_S A s.heap H locs → lv_has ls 10 [(0, .ref qS), (2, .int y2), (3, .int y3), (5, .int y5), (6, .int y6), (7, .int y7)] → W p l e (headSpec wsX4_followLine rm_X4_followLine).room s m [.ref qS, .ref qP1, .int x2, .int x3].toArray below meth c H locs 0 0 (MQ below (zqM (dC, dI) none [(wX4 cI qS aS R), (wX0 cI qP1 aP1 gP1)] A) [.ref qS, .ref qP1, .int x2, .int x3].toArray s 0 0 A) (F0 m 129 ls []) := by
    intro y2 y3 y5 y6 y7 gS H locs ls hf hP hD hS hl
    unfold f_X4_followLine_129 at hf
    refine lv_iload hx hb dX4_followLine_129 (lv_at hl 4 rfl) ?_
    refine lv_iload hx hb dX4_followLine_131 (lv_at hl 5 rfl) ?_
    refine lv_iload_n hx hb dX4_followLine_133 rfl (lv_at hl 2 rfl) ?_
    refine lv_iload hx hb dX4_followLine_134 (lv_at hl 3 rfl) ?_
    refine lv_isub hx hb dX4_followLine_136 ?_
    obtain ⟨R16, e_16, hf⟩ := zbind_ex hf
    refine z_callRi (va_runS (As := [.int y7, .int (y3 - y5)]) (rest := [.int y6]) ⟨hx, hb, hml, hown, hts⟩ (c_X4_rise l dC dI cI cC cO  y7 (y3 - y5) R16 e_16) (va_cwS 2 hts gX4_followLine_X4_rise rfl rfl rfl (by decide +kernel) ⟨Nat.le_of_ble_eq_true rfl, Nat.le_of_ble_eq_true rfl⟩) ⟨zpR_blind, z_useR hK hN hP [] rfl⟩ rfl rfl hl.1 rfl (lv_room (Nat.le_of_ble_eq_true rfl)) dX4_followLine_137 ⟨Nat.le_of_ble_eq_true rfl, Nat.le_of_ble_eq_true rfl⟩) ?_
    refine lv_iadd hx hb dX4_followLine_140 ?_
    refine lv_istore (lv' := [(6, .int (y6 + R16)), (0, .ref qS), (2, .int y2), (3, .int y3), (5, .int y5), (7, .int y7)]) hx hb dX4_followLine_141 hl (by decide) rfl (fun ls hl => ?_)
    refine lv_aload_n hx hb dX4_followLine_143 rfl (lv_at hl 1 rfl) ?_
    refine va_get (D := (dC, dI)) (ci := 4) (v := .ref (aS 0)) (C := RX4) (T := TX4) (N := 5) hx hb hts u_X4_followLine_X4 hown hK hP 0 rfl rfl 0 (by decide) (hts _ k_X4_followLine_3) (fun _ h9 => h9) rfl dX4_followLine_144 ?_
    refine lv_iload_n hx hb dX4_followLine_147 rfl (lv_at hl 2 rfl) ?_
    refine lv_iload hx hb dX4_followLine_148 (lv_at hl 0 rfl) ?_
    obtain ⟨h_17, hf⟩ := zin_ex hf
    obtain ⟨gS_17, e_17, hf⟩ := zlet_ex hf
    refine z_iast (gs' := [(wX4 cI qS aS gS_17), (wX0 cI qP1 aP1 gP1)]) hx hb hK hP hD hS 1 0 rfl rfl h_17 (by rw [e_17]; rfl) dX4_followLine_150 (fun H locs hP hD hS => ?_)
    refine lv_aload_n hx hb dX4_followLine_151 rfl (lv_at hl 1 rfl) ?_
    refine va_get (D := (dC, dI)) (ci := 4) (v := .ref (aS 1)) (C := RX4) (T := TX4) (N := 5) hx hb hts u_X4_followLine_X4 hown hK hP 0 rfl rfl 1 (by decide) (hts _ k_X4_followLine_4) (fun _ h9 => h9) rfl dX4_followLine_152 ?_
    refine lv_iload_n hx hb dX4_followLine_155 rfl (lv_at hl 2 rfl) ?_
    refine lv_iload hx hb dX4_followLine_156 (lv_at hl 5 rfl) ?_
    obtain ⟨h_18, hf⟩ := zin_ex hf
    obtain ⟨gS_18, e_18, hf⟩ := zlet_ex hf
    refine z_iast (gs' := [(wX4 cI qS aS gS_18), (wX0 cI qP1 aP1 gP1)]) hx hb hK hP hD hS 2 0 rfl rfl h_18 (by rw [e_18]; rfl) dX4_followLine_158 (fun H locs hP hD hS => ?_)
    refine lv_aload_n hx hb dX4_followLine_159 rfl (lv_at hl 1 rfl) ?_
    refine lv_iload_n hx hb dX4_followLine_160 rfl (lv_at hl 2 rfl) ?_
    refine lv_iload_n hx hb dX4_followLine_161 rfl (lv_at hl 3 rfl) ?_
    refine lv_iload hx hb dX4_followLine_162 (lv_at hl 0 rfl) ?_
    obtain ⟨R19, e_19, hf⟩ := zbind_ex hf
    refine z_callRi (va_runS (As := [.int (y6 + R16)]) (rest := [.int y3, .int y2, .ref qS]) ⟨hx, hb, hml, hown, hts⟩ (c_X0_isBeyond l dC dI cI cC cO  (y6 + R16) R19 e_19) (va_cwS 1 hts gX4_followLine_X0_isBeyond rfl rfl rfl (by decide +kernel) ⟨Nat.le_of_ble_eq_true rfl, Nat.le_of_ble_eq_true rfl⟩) ⟨zpR_blind, z_useR hK hN hP [] rfl⟩ rfl rfl hl.1 rfl (lv_room (Nat.le_of_ble_eq_true rfl)) dX4_followLine_164 ⟨Nat.le_of_ble_eq_true rfl, Nat.le_of_ble_eq_true rfl⟩) ?_
    refine lv_if_eq (tgt := 174) hx hb dX4_followLine_167 (by decide) (fun c_20 => ?_) (fun c_20 => ?_)
    · have hf := zif_t hf c_20
      refine lv_iconst (v := (0 : Int32)) hx hb dX4_followLine_174 (by decide) ?_
      obtain ⟨R21, e_21, hf⟩ := zbind_ex hf
      refine z_callM (gs2 := [(wX4 cI qS aS R21), (wX0 cI qP1 aP1 gP1)]) hP hD hS hA [0] [1] rfl rfl rfl (show List.Perm [0, 1] (List.range 2) from by decide) rfl (va_runV (As := [.int y2, .int y3, .int (0 : Int32)]) (rest := []) ⟨hx, hb, hml, hown, hts⟩ (c_X4_finish l dC dI cI cC cO qS aS gS_18 y2 y3 (0 : Int32) R21 e_21 H.size) (cwV 3 hts gX4_followLine_X4_finish rfl rfl rfl (by decide +kernel) ⟨Nat.le_of_ble_eq_true rfl, Nat.le_of_ble_eq_true rfl⟩) ⟨zpM_blind, va_recv hK hP (ci := 4) (q0 := 0) rfl rfl, z_useM hK hN hP hD [0] [1] rfl (show List.Perm [0, 1] (List.range 2) from by decide)⟩ rfl rfl hl.1 rfl (lv_room (Nat.le_of_ble_eq_true rfl)) dX4_followLine_175 ⟨Nat.le_of_ble_eq_true rfl, Nat.le_of_ble_eq_true rfl⟩) (fun H locs hP hD hS => ?_)
      refine W.eq (g2 := F0 m 178 ls []) rfl ?_
      exact zM_vret (gs := [(wX4 cI qS aS R21), (wX0 cI qP1 aP1 gP1)]) hx hb hr hP hD hS (by rw [← Option.some.inj hf]; exact ⟨rfl, rfl⟩) hlk dX4_followLine_178
    · have hf := zif_f hf c_20
      refine lv_iconst (v := (2 : Int32)) hx hb dX4_followLine_170 (by decide) ?_
      refine lv_goto (tgt := 175) hx hb dX4_followLine_171 (by decide) ?_
      obtain ⟨R22, e_22, hf⟩ := zbind_ex hf
      refine z_callM (gs2 := [(wX4 cI qS aS R22), (wX0 cI qP1 aP1 gP1)]) hP hD hS hA [0] [1] rfl rfl rfl (show List.Perm [0, 1] (List.range 2) from by decide) rfl (va_runV (As := [.int y2, .int y3, .int (2 : Int32)]) (rest := []) ⟨hx, hb, hml, hown, hts⟩ (c_X4_finish l dC dI cI cC cO qS aS gS_18 y2 y3 (2 : Int32) R22 e_22 H.size) (cwV 3 hts gX4_followLine_X4_finish rfl rfl rfl (by decide +kernel) ⟨Nat.le_of_ble_eq_true rfl, Nat.le_of_ble_eq_true rfl⟩) ⟨zpM_blind, va_recv hK hP (ci := 4) (q0 := 0) rfl rfl, z_useM hK hN hP hD [0] [1] rfl (show List.Perm [0, 1] (List.range 2) from by decide)⟩ rfl rfl hl.1 rfl (lv_room (Nat.le_of_ble_eq_true rfl)) dX4_followLine_175 ⟨Nat.le_of_ble_eq_true rfl, Nat.le_of_ble_eq_true rfl⟩) (fun H locs hP hD hS => ?_)
      refine W.eq (g2 := F0 m 178 ls []) rfl ?_
      exact zM_vret (gs := [(wX4 cI qS aS R22), (wX0 cI qP1 aP1 gP1)]) hx hb hr hP hD hS (by rw [← Option.some.inj hf]; exact ⟨rfl, rfl⟩) hlk dX4_followLine_178
  have w29 : ∀ (n29 : Nat) (y2 : Int32) (y3 : Int32) (y4 : Int32) (y5 : Int32) (y6 : Int32) (y7 : Int32) (y8 : Int32) (gS : zG) (H : Heap) (locs : List Loc) (ls : Array Slot), f_X4_followLine_29 gP1  n29 y2 y3 y4 y5 y6 y7 y8 gS = some R → va_P (dC, dI) vwCl [(wX4 cI qS aS gS), (wX0 cI qP1 aP1 gP1)].flatten H → va_D A [(wX4 cI qS aS gS), (wX0 cI qP1 aP1 gP1)].flatten → va_S A s.heap H locs → lv_has ls 10 [(0, .ref qS), (1, .ref qP1), (2, .int y2), (3, .int y3), (4, .int y4), (5, .int y5), (6, .int y6), (7, .int y7), (8, .int y8)] → W p l e (headSpec wsX4_followLine rm_X4_followLine).room s m [.ref qS, .ref qP1, .int x2, .int x3].toArray below meth c H locs 0 0 (MQ below (zqM (dC, dI) none [(wX4 cI qS aS R), (wX0 cI qP1 aP1 gP1)] A) [.ref qS, .ref qP1, .int x2, .int x3].toArray s 0 0 A) (F0 m 29 ls []) := by
    intro n29
    induction n29 with
    | zero =>
      intro y2 y3 y4 y5 y6 y7 y8 gS H locs ls hf hP hD hS hl
      have hf : (none : Option (zG)) = some R := hf
      cases hf
    | succ n29 ih29 =>
      intro y2 y3 y4 y5 y6 y7 y8 gS H locs ls hf hP hD hS hl
      have hf : f_X4_followLine_29_b gP1  (f_X4_followLine_29 gP1  n29) y2 y3 y4 y5 y6 y7 y8 gS = some R := hf
      unfold f_X4_followLine_29_b at hf
      refine lv_iload hx hb dX4_followLine_29 (lv_at hl 8 rfl) ?_
      refine lv_bipush (v := (8 : Int32)) hx hb dX4_followLine_31 (by decide) ?_
      refine lv_icmp_ge (tgt := 129) hx hb dX4_followLine_33 (by decide) (fun c_4 => ?_) (fun c_4 => ?_)
      · have hf := zif_t hf c_4
        exact w129  y2 y3 y5 y6 y7 gS H locs ls hf hP hD hS (lv_sub hl [0, 2, 3, 5, 6, 7] rfl)
      · have hf := zif_f hf c_4
        refine lv_aload_n hx hb dX4_followLine_36 rfl (lv_at hl 1 rfl) ?_
        refine lv_iload hx hb dX4_followLine_37 (lv_at hl 8 rfl) ?_
        obtain ⟨R5, e_5, hf⟩ := zbind_ex hf
        refine z_callRi (va_runV (As := [.int y8]) (rest := []) ⟨hx, hb, hml, hown, hts⟩ (c_X0_hasThing l dC dI cI cC cO qP1 aP1 gP1 y8 R5 e_5) (cwV 1 hts gX4_followLine_X0_hasThing rfl rfl rfl (by decide +kernel) ⟨Nat.le_of_ble_eq_true rfl, Nat.le_of_ble_eq_true rfl⟩) ⟨zpR_blind, va_recv hK hP (ci := 0) (q0 := 5) rfl rfl, z_useR hK hN hP [1] rfl⟩ rfl rfl hl.1 rfl (lv_room (Nat.le_of_ble_eq_true rfl)) dX4_followLine_39 ⟨Nat.le_of_ble_eq_true rfl, Nat.le_of_ble_eq_true rfl⟩) ?_
        refine lv_if_eq (tgt := 129) hx hb dX4_followLine_42 (by decide) (fun c_6 => ?_) (fun c_6 => ?_)
        · have hf := zif_t hf c_6
          exact w129  y2 y3 y5 y6 y7 gS H locs ls hf hP hD hS (lv_sub hl [0, 2, 3, 5, 6, 7] rfl)
        · have hf := zif_f hf c_6
          refine lv_aload_n hx hb dX4_followLine_45 rfl (lv_at hl 1 rfl) ?_
          refine va_get (D := (dC, dI)) (ci := 0) (v := .ref (aP1 3)) (C := RX0) (T := TX0) (N := 10) hx hb hts u_X4_followLine_X0 hown hK hP 5 rfl rfl 3 (by decide) (hts _ k_X4_followLine_2) (fun _ h9 => h9) rfl dX4_followLine_46 ?_
          refine lv_iload hx hb dX4_followLine_49 (lv_at hl 8 rfl) ?_
          obtain ⟨h_7, hf⟩ := zin_ex hf
          refine va_iald hx hb hK hP 8 0 rfl rfl h_7 dX4_followLine_51 ?_
          refine lv_iload_n hx hb dX4_followLine_52 rfl (lv_at hl 3 rfl) ?_
          refine lv_icmp_ge (tgt := 129) hx hb dX4_followLine_53 (by decide) (fun c_8 => ?_) (fun c_8 => ?_)
          · have hf := zif_t hf c_8
            exact w129  y2 y3 y5 y6 y7 gS H locs ls hf hP hD hS (lv_sub hl [0, 2, 3, 5, 6, 7] rfl)
          · have hf := zif_f hf c_8
            refine lv_iload hx hb dX4_followLine_56 (lv_at hl 6 rfl) ?_
            refine lv_iload hx hb dX4_followLine_58 (lv_at hl 7 rfl) ?_
            refine lv_aload_n hx hb dX4_followLine_60 rfl (lv_at hl 1 rfl) ?_
            refine va_get (D := (dC, dI)) (ci := 0) (v := .ref (aP1 3)) (C := RX0) (T := TX0) (N := 10) hx hb hts u_X4_followLine_X0 hown hK hP 5 rfl rfl 3 (by decide) (hts _ k_X4_followLine_2) (fun _ h9 => h9) rfl dX4_followLine_61 ?_
            refine lv_iload hx hb dX4_followLine_64 (lv_at hl 8 rfl) ?_
            obtain ⟨h_9, hf⟩ := zin_ex hf
            refine va_iald hx hb hK hP 8 0 rfl rfl h_9 dX4_followLine_66 ?_
            refine lv_iload hx hb dX4_followLine_67 (lv_at hl 5 rfl) ?_
            refine lv_isub hx hb dX4_followLine_69 ?_
            obtain ⟨R10, e_10, hf⟩ := zbind_ex hf
            refine z_callRi (va_runS (As := [.int y7, .int ((gP1 3 y8.toNatClampNeg) - y5)]) (rest := [.int y6]) ⟨hx, hb, hml, hown, hts⟩ (c_X4_rise l dC dI cI cC cO  y7 ((gP1 3 y8.toNatClampNeg) - y5) R10 e_10) (va_cwS 2 hts gX4_followLine_X4_rise rfl rfl rfl (by decide +kernel) ⟨Nat.le_of_ble_eq_true rfl, Nat.le_of_ble_eq_true rfl⟩) ⟨zpR_blind, z_useR hK hN hP [] rfl⟩ rfl rfl hl.1 rfl (lv_room (Nat.le_of_ble_eq_true rfl)) dX4_followLine_70 ⟨Nat.le_of_ble_eq_true rfl, Nat.le_of_ble_eq_true rfl⟩) ?_
            refine lv_iadd hx hb dX4_followLine_73 ?_
            refine lv_istore (lv' := [(6, .int (y6 + R10)), (0, .ref qS), (1, .ref qP1), (2, .int y2), (3, .int y3), (4, .int y4), (5, .int y5), (7, .int y7), (8, .int y8)]) hx hb dX4_followLine_74 hl (by decide) rfl (fun ls hl => ?_)
            refine lv_aload_n hx hb dX4_followLine_76 rfl (lv_at hl 2 rfl) ?_
            refine va_get (D := (dC, dI)) (ci := 0) (v := .ref (aP1 3)) (C := RX0) (T := TX0) (N := 10) hx hb hts u_X4_followLine_X0 hown hK hP 5 rfl rfl 3 (by decide) (hts _ k_X4_followLine_2) (fun _ h9 => h9) rfl dX4_followLine_77 ?_
            refine lv_iload hx hb dX4_followLine_80 (lv_at hl 8 rfl) ?_
            obtain ⟨h_11, hf⟩ := zin_ex hf
            refine va_iald hx hb hK hP 8 0 rfl rfl h_11 dX4_followLine_82 ?_
            refine lv_istore (lv' := [(5, .int (gP1 3 y8.toNatClampNeg)), (6, .int (y6 + R10)), (0, .ref qS), (1, .ref qP1), (2, .int y2), (3, .int y3), (4, .int y4), (7, .int y7), (8, .int y8)]) hx hb dX4_followLine_83 hl (by decide) rfl (fun ls hl => ?_)
            refine lv_aload_n hx hb dX4_followLine_85 rfl (lv_at hl 3 rfl) ?_
            refine lv_iload hx hb dX4_followLine_86 (lv_at hl 8 rfl) ?_
            refine lv_iload hx hb dX4_followLine_88 (lv_at hl 1 rfl) ?_
            obtain ⟨R12, e_12, hf⟩ := zbind_ex hf
            refine z_callRi (va_runV (As := [.int y8, .int (y6 + R10)]) (rest := []) ⟨hx, hb, hml, hown, hts⟩ (c_X0_whyLostAt l dC dI cI cC cO qP1 aP1 gP1 y8 (y6 + R10) R12 e_12) (cwV 2 hts gX4_followLine_X0_whyLostAt rfl rfl rfl (by decide +kernel) ⟨Nat.le_of_ble_eq_true rfl, Nat.le_of_ble_eq_true rfl⟩) ⟨zpR_blind, va_recv hK hP (ci := 0) (q0 := 5) rfl rfl, z_useR hK hN hP [1] rfl⟩ rfl rfl hl.1 rfl (lv_room (Nat.le_of_ble_eq_true rfl)) dX4_followLine_90 ⟨Nat.le_of_ble_eq_true rfl, Nat.le_of_ble_eq_true rfl⟩) ?_
            refine lv_istore (lv' := [(9, .int R12), (5, .int (gP1 3 y8.toNatClampNeg)), (6, .int (y6 + R10)), (0, .ref qS), (1, .ref qP1), (2, .int y2), (3, .int y3), (4, .int y4), (7, .int y7), (8, .int y8)]) hx hb dX4_followLine_93 hl (by decide) rfl (fun ls hl => ?_)
            refine lv_iload hx hb dX4_followLine_95 (lv_at hl 0 rfl) ?_
            refine lv_if_eq (tgt := 110) hx hb dX4_followLine_97 (by decide) (fun c_13 => ?_) (fun c_13 => ?_)
            · have hf := zif_t hf c_13
              refine lv_iload hx hb dX4_followLine_110 (lv_at hl 8 rfl) ?_
              refine lv_aload_n hx hb dX4_followLine_112 rfl (lv_at hl 4 rfl) ?_
              refine lv_iload hx hb dX4_followLine_113 (lv_at hl 9 rfl) ?_
              refine lv_iload hx hb dX4_followLine_115 (lv_at hl 7 rfl) ?_
              obtain ⟨R14, e_14, hf⟩ := zbind_ex hf
              refine z_callRi (va_runV (As := [.int y8, .int y4]) (rest := [.int y7]) ⟨hx, hb, hml, hown, hts⟩ (c_X0_bendAt l dC dI cI cC cO qP1 aP1 gP1 y8 y4 R14 e_14) (cwV 2 hts gX4_followLine_X0_bendAt rfl rfl rfl (by decide +kernel) ⟨Nat.le_of_ble_eq_true rfl, Nat.le_of_ble_eq_true rfl⟩) ⟨zpR_blind, va_recv hK hP (ci := 0) (q0 := 5) rfl rfl, z_useR hK hN hP [1] rfl⟩ rfl rfl hl.1 rfl (lv_room (Nat.le_of_ble_eq_true rfl)) dX4_followLine_117 ⟨Nat.le_of_ble_eq_true rfl, Nat.le_of_ble_eq_true rfl⟩) ?_
              refine lv_iadd hx hb dX4_followLine_120 ?_
              refine lv_istore (lv' := [(7, .int (y7 + R14)), (9, .int R12), (5, .int (gP1 3 y8.toNatClampNeg)), (6, .int (y6 + R10)), (0, .ref qS), (1, .ref qP1), (2, .int y2), (3, .int y3), (4, .int y4), (8, .int y8)]) hx hb dX4_followLine_121 hl (by decide) rfl (fun ls hl => ?_)
              refine lv_iinc (v := (y8 + (1 : Int32))) (lv' := [(8, .int (y8 + (1 : Int32))), (7, .int (y7 + R14)), (9, .int R12), (5, .int (gP1 3 y8.toNatClampNeg)), (6, .int (y6 + R10)), (0, .ref qS), (1, .ref qP1), (2, .int y2), (3, .int y3), (4, .int y4)]) hx hb dX4_followLine_123 hl (k := 9) rfl rfl (by decide) rfl (fun ls hl => ?_)
              refine lv_goto (tgt := 29) hx hb dX4_followLine_126 (by decide) ?_
              exact ih29 y2 y3 y4 (gP1 3 y8.toNatClampNeg) (y6 + R10) (y7 + R14) (y8 + (1 : Int32)) gS H locs ls hf hP hD hS (lv_sub hl [5, 6, 7, 8, 9, 3, 4, 1, 0] rfl)
            · have hf := zif_f hf c_13
              refine lv_aload_n hx hb dX4_followLine_100 rfl (lv_at hl 3 rfl) ?_
              refine lv_iload_n hx hb dX4_followLine_101 rfl (lv_at hl 5 rfl) ?_
              refine lv_iload hx hb dX4_followLine_102 (lv_at hl 1 rfl) ?_
              refine lv_iload hx hb dX4_followLine_104 (lv_at hl 0 rfl) ?_
              obtain ⟨R15, e_15, hf⟩ := zbind_ex hf
              refine z_callM (gs2 := [(wX4 cI qS aS R15), (wX0 cI qP1 aP1 gP1)]) hP hD hS hA [0] [1] rfl rfl rfl (show List.Perm [0, 1] (List.range 2) from by decide) rfl (va_runV (As := [.int y2, .int (gP1 3 y8.toNatClampNeg), .int R12]) (rest := []) ⟨hx, hb, hml, hown, hts⟩ (c_X4_finish l dC dI cI cC cO qS aS gS y2 (gP1 3 y8.toNatClampNeg) R12 R15 e_15 H.size) (cwV 3 hts gX4_followLine_X4_finish rfl rfl rfl (by decide +kernel) ⟨Nat.le_of_ble_eq_true rfl, Nat.le_of_ble_eq_true rfl⟩) ⟨zpM_blind, va_recv hK hP (ci := 4) (q0 := 0) rfl rfl, z_useM hK hN hP hD [0] [1] rfl (show List.Perm [0, 1] (List.range 2) from by decide)⟩ rfl rfl hl.1 rfl (lv_room (Nat.le_of_ble_eq_true rfl)) dX4_followLine_106 ⟨Nat.le_of_ble_eq_true rfl, Nat.le_of_ble_eq_true rfl⟩) (fun H locs hP hD hS => ?_)
              refine W.eq (g2 := F0 m 109 ls []) rfl ?_
              exact zM_vret (gs := [(wX4 cI qS aS R15), (wX0 cI qP1 aP1 gP1)]) hx hb hr hP hD hS (by rw [← Option.some.inj hf]; exact ⟨rfl, rfl⟩) hlk dX4_followLine_109
  unfold f_X4_followLine at hf
  obtain ⟨H, hH⟩ : ∃ H, H = s.heap := ⟨_, rfl⟩
  obtain ⟨locs, hlocs⟩ : ∃ locs : List Loc, locs = [] := ⟨_, rfl⟩
  have hS : va_S A s.heap H locs := by rw [hH, hlocs]; exact hS
  rw [← hH] at hP
  refine zheap hH hlocs ?_
  refine lv_aload_n hx hb dX4_followLine_0 rfl (lv_at hl 1 rfl) ?_
  refine lv_iload_n hx hb dX4_followLine_1 rfl (lv_at hl 2 rfl) ?_
  obtain ⟨R1, e_1, hf⟩ := zbind_ex hf
  refine z_callRi (va_runV (As := [.int x2]) (rest := []) ⟨hx, hb, hml, hown, hts⟩ (c_X0_hasLine l dC dI cI cC cO qP1 aP1 gP1 x2 R1 e_1) (cwV 1 hts gX4_followLine_X0_hasLine rfl rfl rfl (by decide +kernel) ⟨Nat.le_of_ble_eq_true rfl, Nat.le_of_ble_eq_true rfl⟩) ⟨zpR_blind, va_recv hK hP (ci := 0) (q0 := 5) rfl rfl, z_useR hK hN hP [1] rfl⟩ rfl rfl hl.1 rfl (lv_room (Nat.le_of_ble_eq_true rfl)) dX4_followLine_2 ⟨Nat.le_of_ble_eq_true rfl, Nat.le_of_ble_eq_true rfl⟩) ?_
  refine lv_if_ne (tgt := 9) hx hb dX4_followLine_5 (by decide) (fun c_2 => ?_) (fun c_2 => ?_)
  · have hf := zif_f hf c_2
    refine lv_aload_n hx hb dX4_followLine_9 rfl (lv_at hl 1 rfl) ?_
    refine va_get (D := (dC, dI)) (ci := 0) (v := .ref (aP1 0)) (C := RX0) (T := TX0) (N := 10) hx hb hts u_X4_followLine_X0 hown hK hP 5 rfl rfl 0 (by decide) (hts _ k_X4_followLine_1) (fun _ h9 => h9) rfl dX4_followLine_10 ?_
    refine lv_iload_n hx hb dX4_followLine_13 rfl (lv_at hl 2 rfl) ?_
    obtain ⟨h_3, hf⟩ := zin_ex hf
    refine va_iald hx hb hK hP 6 0 rfl rfl h_3 dX4_followLine_14 ?_
    refine lv_istore (lv' := [(4, .int (gP1 0 x2.toNatClampNeg)), (0, .ref qS), (1, .ref qP1), (2, .int x2), (3, .int x3)]) hx hb dX4_followLine_15 hl (by decide) rfl (fun ls hl => ?_)
    refine lv_iconst (v := (0 : Int32)) hx hb dX4_followLine_17 (by decide) ?_
    refine lv_istore (lv' := [(5, .int (0 : Int32)), (4, .int (gP1 0 x2.toNatClampNeg)), (0, .ref qS), (1, .ref qP1), (2, .int x2), (3, .int x3)]) hx hb dX4_followLine_18 hl (by decide) rfl (fun ls hl => ?_)
    refine lv_iconst (v := (0 : Int32)) hx hb dX4_followLine_20 (by decide) ?_
    refine lv_istore (lv' := [(6, .int (0 : Int32)), (5, .int (0 : Int32)), (4, .int (gP1 0 x2.toNatClampNeg)), (0, .ref qS), (1, .ref qP1), (2, .int x2), (3, .int x3)]) hx hb dX4_followLine_21 hl (by decide) rfl (fun ls hl => ?_)
    refine lv_iconst (v := (0 : Int32)) hx hb dX4_followLine_23 (by decide) ?_
    refine lv_istore (lv' := [(7, .int (0 : Int32)), (6, .int (0 : Int32)), (5, .int (0 : Int32)), (4, .int (gP1 0 x2.toNatClampNeg)), (0, .ref qS), (1, .ref qP1), (2, .int x2), (3, .int x3)]) hx hb dX4_followLine_24 hl (by decide) rfl (fun ls hl => ?_)
    refine lv_iconst (v := (0 : Int32)) hx hb dX4_followLine_26 (by decide) ?_
    refine lv_istore (lv' := [(8, .int (0 : Int32)), (7, .int (0 : Int32)), (6, .int (0 : Int32)), (5, .int (0 : Int32)), (4, .int (gP1 0 x2.toNatClampNeg)), (0, .ref qS), (1, .ref qP1), (2, .int x2), (3, .int x3)]) hx hb dX4_followLine_27 hl (by decide) rfl (fun ls hl => ?_)
    exact w29 zfuel x2 x3 (gP1 0 x2.toNatClampNeg) (0 : Int32) (0 : Int32) (0 : Int32) (0 : Int32) gS H locs ls hf hP hD hS (lv_sub hl [5, 6, 7, 8, 4, 3, 2, 1, 0] rfl)
  · have hf := zif_t hf c_2
    exact zM_vret (gs := [(wX4 cI qS aS gS), (wX0 cI qP1 aP1 gP1)]) hx hb hr hP hD hS (by rw [← Option.some.inj hf]; exact ⟨rfl, rfl⟩) hlk dX4_followLine_8

def f_X4_follow_31 (gP1 : zG)  (gS : zG) : Option (zG) := (zlet (gup gS 4 0 (gP1 2 0)) (fun gS_5 => (some (gS_5))))
def f_X4_follow_2_b (gP1 : zG)  (k2 : Int32 → zG → Option (zG)) (y2 : Int32) (gS : zG) : Option (zG) := (if (8 : Int32) ≤ y2 then (f_X4_follow_31 gP1   gS) else (zbind (f_X0_hasLine gP1 y2) (fun R2 => (if R2 = 0 then (f_X4_follow_31 gP1   gS) else (zbind (f_X4_followLine gS gP1 y2 (1000 : Int32)) (fun R4 => (k2 (y2 + (1 : Int32)) R4)))))))
def f_X4_follow_2 (gP1 : zG)  : Nat → Int32 → zG → Option (zG)
  | 0 => fun _ _ => none
  | n + 1 => f_X4_follow_2_b gP1  (f_X4_follow_2 gP1  n)
def f_X4_follow (gS : zG) (gP1 : zG)  : Option (zG) := (f_X4_follow_2 gP1  zfuel (0 : Int32) gS)
theorem u_X4_follow_X0 : ∀ w ∈ u_ws RX0 TX0 10, w ∈ wsX4_follow := fun w h => List.mem_cons_of_mem _ (List.mem_append_left _ (List.mem_append_right _ h))
theorem u_X4_follow_X4 : ∀ w ∈ u_ws RX4 TX4 5, w ∈ wsX4_follow := fun w h => List.mem_cons_of_mem _ (List.mem_append_right _ h)
theorem k_X4_follow_1 : Cond.fieldLink RX4 38 "JoinedLight$Bench" "lineCount" "I" ∈ wsX4_follow := List.mem_of_getElem? (i := 1) rfl
theorem k_X4_follow_2 : Cond.fieldLink RX4 24 "JoinedLight$Rays" "followed" "I" ∈ wsX4_follow := List.mem_of_getElem? (i := 2) rfl
abbrev rm_X4_follow : Room := { frames := 4, cells := 0, slots := 0, locals := 96 }
set_option maxHeartbeats 4000000 in
set_option maxRecDepth 100000 in
theorem c_X4_follow (l : Launch) (dC : Nat → ClassId) (dI : Nat → Nat → Nat) (cI cC cO : ClassId) (qS : Nat) (aS : Nat → Nat) (gS : zG) (qP1 : Nat) (aP1 : Nat → Nat) (gP1 : zG)  (R : zG) (hf : f_X4_follow gS gP1 = some R) : cM l (dC, dI) (zT cI cC cO) yX4_follow wsX4_follow rm_X4_follow [.ref qS, .ref qP1] [(wX4 cI qS aS gS), (wX0 cI qP1 aP1 gP1)] [(wX4 cI qS aS R), (wX0 cI qP1 aP1 gP1)] none 0 0 := by
  refine zM_in (cc := cX4_follow) (maxL := 3) (ret := none) (plainFor_of_name (by decide)) rfl (Nat.le_of_ble_eq_true rfl) ?_
  intro p e s m below meth c hx hb hml hr hlk hown hts hK hN A hA hP hD hS ls hl
  have hl : lv_has ls 3 [(0, .ref qS), (1, .ref qP1)] := hl
  have w31 : ∀ (gS : zG) (H : Heap) (locs : List Loc) (ls : Array Slot), f_X4_follow_31 gP1   gS = some R → va_P (dC, dI) vwCl [(wX4 cI qS aS gS), (wX0 cI qP1 aP1 gP1)].flatten H → va_D A [(wX4 cI qS aS gS), (wX0 cI qP1 aP1 gP1)].flatten → va_S A s.heap H locs → lv_has ls 3 [(0, .ref qS), (1, .ref qP1)] → W p l e (headSpec wsX4_follow rm_X4_follow).room s m [.ref qS, .ref qP1].toArray below meth c H locs 0 0 (MQ below (zqM (dC, dI) none [(wX4 cI qS aS R), (wX0 cI qP1 aP1 gP1)] A) [.ref qS, .ref qP1].toArray s 0 0 A) (F0 m 31 ls []) := by
    intro gS H locs ls hf hP hD hS hl
    unfold f_X4_follow_31 at hf
    refine lv_aload_n hx hb dX4_follow_31 rfl (lv_at hl 0 rfl) ?_
    refine lv_aload_n hx hb dX4_follow_32 rfl (lv_at hl 1 rfl) ?_
    refine va_get (D := (dC, dI)) (ci := 0) (v := .int (gP1 2 0)) (C := RX0) (T := TX0) (N := 10) hx hb hts u_X4_follow_X0 hown hK hP 5 rfl rfl 2 (by decide) (hts _ k_X4_follow_1) (fun _ h9 => h9) rfl dX4_follow_33 ?_
    obtain ⟨gS_5, e_5, hf⟩ := zlet_ex hf
    refine z_put (gs' := [(wX4 cI qS aS gS_5), (wX0 cI qP1 aP1 gP1)]) (D := (dC, dI)) (ci := 4) (ty := .int) (C := RX4) (T := TX4) (N := 5) hx hb hts u_X4_follow_X4 tyX4 tyX4_ok nmX4 hown hK hP hD hS 0 rfl rfl 4 (by decide) (hts _ k_X4_follow_2) (fun _ h9 => h9) rfl (by decide +kernel) rfl rfl (Nat.le_of_ble_eq_true rfl) (by rw [e_5]; rfl) dX4_follow_36 (fun H locs hP hD hS => ?_)
    exact zM_vret (gs := [(wX4 cI qS aS gS_5), (wX0 cI qP1 aP1 gP1)]) hx hb hr hP hD hS (by rw [← Option.some.inj hf]; exact ⟨rfl, rfl⟩) hlk dX4_follow_39
  have w2 : ∀ (n2 : Nat) (y2 : Int32) (gS : zG) (H : Heap) (locs : List Loc) (ls : Array Slot), f_X4_follow_2 gP1  n2 y2 gS = some R → va_P (dC, dI) vwCl [(wX4 cI qS aS gS), (wX0 cI qP1 aP1 gP1)].flatten H → va_D A [(wX4 cI qS aS gS), (wX0 cI qP1 aP1 gP1)].flatten → va_S A s.heap H locs → lv_has ls 3 [(0, .ref qS), (1, .ref qP1), (2, .int y2)] → W p l e (headSpec wsX4_follow rm_X4_follow).room s m [.ref qS, .ref qP1].toArray below meth c H locs 0 0 (MQ below (zqM (dC, dI) none [(wX4 cI qS aS R), (wX0 cI qP1 aP1 gP1)] A) [.ref qS, .ref qP1].toArray s 0 0 A) (F0 m 2 ls []) := by
    intro n2
    induction n2 with
    | zero =>
      intro y2 gS H locs ls hf hP hD hS hl
      have hf : (none : Option (zG)) = some R := hf
      cases hf
    | succ n2 ih2 =>
      intro y2 gS H locs ls hf hP hD hS hl
      have hf : f_X4_follow_2_b gP1  (f_X4_follow_2 gP1  n2) y2 gS = some R := hf
      unfold f_X4_follow_2_b at hf
      refine lv_iload_n hx hb dX4_follow_2 rfl (lv_at hl 2 rfl) ?_
      refine lv_bipush (v := (8 : Int32)) hx hb dX4_follow_3 (by decide) ?_
      refine lv_icmp_ge (tgt := 31) hx hb dX4_follow_5 (by decide) (fun c_1 => ?_) (fun c_1 => ?_)
      · have hf := zif_t hf c_1
        exact w31  gS H locs ls hf hP hD hS (lv_sub hl [0, 1] rfl)
      · have hf := zif_f hf c_1
        refine lv_aload_n hx hb dX4_follow_8 rfl (lv_at hl 1 rfl) ?_
        refine lv_iload_n hx hb dX4_follow_9 rfl (lv_at hl 2 rfl) ?_
        obtain ⟨R2, e_2, hf⟩ := zbind_ex hf
        refine z_callRi (va_runV (As := [.int y2]) (rest := []) ⟨hx, hb, hml, hown, hts⟩ (c_X0_hasLine l dC dI cI cC cO qP1 aP1 gP1 y2 R2 e_2) (cwV 1 hts gX4_follow_X0_hasLine rfl rfl rfl (by decide +kernel) ⟨Nat.le_of_ble_eq_true rfl, Nat.le_of_ble_eq_true rfl⟩) ⟨zpR_blind, va_recv hK hP (ci := 0) (q0 := 5) rfl rfl, z_useR hK hN hP [1] rfl⟩ rfl rfl hl.1 rfl (lv_room (Nat.le_of_ble_eq_true rfl)) dX4_follow_10 ⟨Nat.le_of_ble_eq_true rfl, Nat.le_of_ble_eq_true rfl⟩) ?_
        refine lv_if_eq (tgt := 31) hx hb dX4_follow_13 (by decide) (fun c_3 => ?_) (fun c_3 => ?_)
        · have hf := zif_t hf c_3
          exact w31  gS H locs ls hf hP hD hS (lv_sub hl [0, 1] rfl)
        · have hf := zif_f hf c_3
          refine lv_aload_n hx hb dX4_follow_16 rfl (lv_at hl 0 rfl) ?_
          refine lv_aload_n hx hb dX4_follow_17 rfl (lv_at hl 1 rfl) ?_
          refine lv_iload_n hx hb dX4_follow_18 rfl (lv_at hl 2 rfl) ?_
          refine lv_sipush (v := (1000 : Int32)) hx hb dX4_follow_19 (by decide) ?_
          obtain ⟨R4, e_4, hf⟩ := zbind_ex hf
          refine z_callM (gs2 := [(wX4 cI qS aS R4), (wX0 cI qP1 aP1 gP1)]) hP hD hS hA [0, 1] [] rfl rfl rfl (show List.Perm [0, 1] (List.range 2) from by decide) rfl (va_runV (As := [.ref qP1, .int y2, .int (1000 : Int32)]) (rest := []) ⟨hx, hb, hml, hown, hts⟩ (c_X4_followLine l dC dI cI cC cO qS aS gS qP1 aP1 gP1 y2 (1000 : Int32) R4 e_4 H.size) (cwV 3 hts gX4_follow_X4_followLine rfl rfl rfl (by decide +kernel) ⟨Nat.le_of_ble_eq_true rfl, Nat.le_of_ble_eq_true rfl⟩) ⟨zpM_blind, va_recv hK hP (ci := 4) (q0 := 0) rfl rfl, z_useM hK hN hP hD [0, 1] [] rfl (show List.Perm [0, 1] (List.range 2) from by decide)⟩ rfl rfl hl.1 rfl (lv_room (Nat.le_of_ble_eq_true rfl)) dX4_follow_22 ⟨Nat.le_of_ble_eq_true rfl, Nat.le_of_ble_eq_true rfl⟩) (fun H locs hP hD hS => ?_)
          refine W.eq (g2 := F0 m 25 ls []) rfl ?_
          refine lv_iinc (v := (y2 + (1 : Int32))) (lv' := [(2, .int (y2 + (1 : Int32))), (0, .ref qS), (1, .ref qP1)]) hx hb dX4_follow_25 hl (k := 2) rfl rfl (by decide) rfl (fun ls hl => ?_)
          refine lv_goto (tgt := 2) hx hb dX4_follow_28 (by decide) ?_
          exact ih2 (y2 + (1 : Int32)) R4 H locs ls hf hP hD hS (lv_sub hl [1, 2, 0] rfl)
  unfold f_X4_follow at hf
  obtain ⟨H, hH⟩ : ∃ H, H = s.heap := ⟨_, rfl⟩
  obtain ⟨locs, hlocs⟩ : ∃ locs : List Loc, locs = [] := ⟨_, rfl⟩
  have hS : va_S A s.heap H locs := by rw [hH, hlocs]; exact hS
  rw [← hH] at hP
  refine zheap hH hlocs ?_
  refine lv_iconst (v := (0 : Int32)) hx hb dX4_follow_0 (by decide) ?_
  refine lv_istore_n (lv' := [(2, .int (0 : Int32)), (0, .ref qS), (1, .ref qP1)]) hx hb dX4_follow_1 rfl hl (by decide) rfl (fun ls hl => ?_)
  exact w2 zfuel (0 : Int32) gS H locs ls hf hP hD hS (lv_sub hl [1, 2, 0] rfl)

def f_X4_has (gS : zG) (x1 : Int32) : Option (Int32) := (if x1 < 0 then (some ((0 : Int32))) else (if (gS 4 0) ≤ x1 then (some ((0 : Int32))) else (if (8 : Int32) ≤ x1 then (some ((0 : Int32))) else (some ((1 : Int32))))))
theorem u_X4_has_X4 : ∀ w ∈ u_ws RX4 TX4 5, w ∈ wsX4_has := fun w h => List.mem_cons_of_mem _ (List.mem_append_right _ h)
theorem k_X4_has_1 : Cond.fieldLink RX4 24 "JoinedLight$Rays" "followed" "I" ∈ wsX4_has := List.mem_of_getElem? (i := 1) rfl
abbrev rm_X4_has : Room := { frames := 0, cells := 0, slots := 0, locals := 0 }
set_option maxHeartbeats 4000000 in
set_option maxRecDepth 100000 in
theorem c_X4_has (l : Launch) (dC : Nat → ClassId) (dI : Nat → Nat → Nat) (cI cC cO : ClassId) (qS : Nat) (aS : Nat → Nat) (gS : zG) (x1 : Int32) (R : Int32) (hf : f_X4_has gS x1 = some R) : cR l (dC, dI) (zT cI cC cO) yX4_has wsX4_has rm_X4_has [.ref qS, .int x1] [(wX4 cI qS aS gS)] (some (.int R)) := by
  refine zR_in (cc := cX4_has) (maxL := 2) (ret := (some .boolean)) (plainFor_of_name (by decide)) rfl (Nat.le_of_ble_eq_true rfl) ?_
  intro p e s m below meth c hx hb hml hr hlk hown hts hK hN hP ls hl
  have hl : lv_has ls 2 [(0, .ref qS), (1, .int x1)] := hl
  unfold f_X4_has at hf
  refine lv_iload_n hx hb dX4_has_0 rfl (lv_at hl 1 rfl) ?_
  refine lv_if_lt (tgt := 22) hx hb dX4_has_1 (by decide) (fun c_1 => ?_) (fun c_1 => ?_)
  · have hf := zif_t hf c_1
    refine lv_iconst (v := (0 : Int32)) hx hb dX4_has_22 (by decide) ?_
    exact zR_ret hx hb hr rfl hf hlk dX4_has_23
  · have hf := zif_f hf c_1
    refine lv_iload_n hx hb dX4_has_4 rfl (lv_at hl 1 rfl) ?_
    refine lv_aload_n hx hb dX4_has_5 rfl (lv_at hl 0 rfl) ?_
    refine va_get (D := (dC, dI)) (ci := 4) (v := .int (gS 4 0)) (C := RX4) (T := TX4) (N := 5) hx hb hts u_X4_has_X4 hown hK hP 0 rfl rfl 4 (by decide) (hts _ k_X4_has_1) (fun _ h9 => h9) rfl dX4_has_6 ?_
    refine lv_icmp_ge (tgt := 22) hx hb dX4_has_9 (by decide) (fun c_2 => ?_) (fun c_2 => ?_)
    · have hf := zif_t hf c_2
      refine lv_iconst (v := (0 : Int32)) hx hb dX4_has_22 (by decide) ?_
      exact zR_ret hx hb hr rfl hf hlk dX4_has_23
    · have hf := zif_f hf c_2
      refine lv_iload_n hx hb dX4_has_12 rfl (lv_at hl 1 rfl) ?_
      refine lv_bipush (v := (8 : Int32)) hx hb dX4_has_13 (by decide) ?_
      refine lv_icmp_ge (tgt := 22) hx hb dX4_has_15 (by decide) (fun c_3 => ?_) (fun c_3 => ?_)
      · have hf := zif_t hf c_3
        refine lv_iconst (v := (0 : Int32)) hx hb dX4_has_22 (by decide) ?_
        exact zR_ret hx hb hr rfl hf hlk dX4_has_23
      · have hf := zif_f hf c_3
        refine lv_iconst (v := (1 : Int32)) hx hb dX4_has_18 (by decide) ?_
        refine lv_goto (tgt := 23) hx hb dX4_has_19 (by decide) ?_
        exact zR_ret hx hb hr rfl hf hlk dX4_has_23

def f_X4_linesOnScreen_4_b (gS : zG)  (k4 : Int32 → Int32 → Option (Int32)) (y1 : Int32) (y2 : Int32) : Option (Int32) := (if (8 : Int32) ≤ y2 then (some (y1)) else (zbind (f_X4_has gS y2) (fun R2 => (if R2 = 0 then (some (y1)) else (zbind (f_X4_comes gS y2) (fun R4 => (if R4 = 0 then (k4 y1 (y2 + (1 : Int32))) else (k4 (y1 ||| ((1 : Int32) <<< (y2 &&& 31))) (y2 + (1 : Int32))))))))))
def f_X4_linesOnScreen_4 (gS : zG)  : Nat → Int32 → Int32 → Option (Int32)
  | 0 => fun _ _ => none
  | n + 1 => f_X4_linesOnScreen_4_b gS  (f_X4_linesOnScreen_4 gS  n)
def f_X4_linesOnScreen (gS : zG)  : Option (Int32) := (f_X4_linesOnScreen_4 gS  zfuel (0 : Int32) (0 : Int32))
abbrev rm_X4_linesOnScreen : Room := { frames := 1, cells := 0, slots := 0, locals := 21 }
set_option maxHeartbeats 4000000 in
set_option maxRecDepth 100000 in
theorem c_X4_linesOnScreen (l : Launch) (dC : Nat → ClassId) (dI : Nat → Nat → Nat) (cI cC cO : ClassId) (qS : Nat) (aS : Nat → Nat) (gS : zG)  (R : Int32) (hf : f_X4_linesOnScreen gS = some R) : cR l (dC, dI) (zT cI cC cO) yX4_linesOnScreen wsX4_linesOnScreen rm_X4_linesOnScreen [.ref qS] [(wX4 cI qS aS gS)] (some (.int R)) := by
  refine zR_in (cc := cX4_linesOnScreen) (maxL := 3) (ret := (some .int)) (plainFor_of_name (by decide)) rfl (Nat.le_of_ble_eq_true rfl) ?_
  intro p e s m below meth c hx hb hml hr hlk hown hts hK hN hP ls hl
  have hl : lv_has ls 3 [(0, .ref qS)] := hl
  have w4 : ∀ (n4 : Nat) (y1 : Int32) (y2 : Int32) (ls : Array Slot), f_X4_linesOnScreen_4 gS  n4 y1 y2 = some R → lv_has ls 3 [(0, .ref qS), (1, .int y1), (2, .int y2)] → W p l e (headSpec wsX4_linesOnScreen rm_X4_linesOnScreen).room s m [.ref qS].toArray below meth c s.heap [] 0 0 (MQ below (zqR (some (.int R))) [.ref qS].toArray s 0 0 (fun _ => False)) (F0 m 4 ls []) := by
    intro n4
    induction n4 with
    | zero =>
      intro y1 y2 ls hf hl
      have hf : (none : Option (Int32)) = some R := hf
      cases hf
    | succ n4 ih4 =>
      intro y1 y2 ls hf hl
      have hf : f_X4_linesOnScreen_4_b gS  (f_X4_linesOnScreen_4 gS  n4) y1 y2 = some R := hf
      unfold f_X4_linesOnScreen_4_b at hf
      refine lv_iload_n hx hb dX4_linesOnScreen_4 rfl (lv_at hl 2 rfl) ?_
      refine lv_bipush (v := (8 : Int32)) hx hb dX4_linesOnScreen_5 (by decide) ?_
      refine lv_icmp_ge (tgt := 38) hx hb dX4_linesOnScreen_7 (by decide) (fun c_1 => ?_) (fun c_1 => ?_)
      · have hf := zif_t hf c_1
        refine lv_iload_n hx hb dX4_linesOnScreen_38 rfl (lv_at hl 1 rfl) ?_
        exact zR_ret hx hb hr rfl hf hlk dX4_linesOnScreen_39
      · have hf := zif_f hf c_1
        refine lv_aload_n hx hb dX4_linesOnScreen_10 rfl (lv_at hl 0 rfl) ?_
        refine lv_iload_n hx hb dX4_linesOnScreen_11 rfl (lv_at hl 2 rfl) ?_
        obtain ⟨R2, e_2, hf⟩ := zbind_ex hf
        refine z_callRi (va_runV (As := [.int y2]) (rest := []) ⟨hx, hb, hml, hown, hts⟩ (c_X4_has l dC dI cI cC cO qS aS gS y2 R2 e_2) (cwV 1 hts gX4_linesOnScreen_X4_has rfl rfl rfl (by decide +kernel) ⟨Nat.le_of_ble_eq_true rfl, Nat.le_of_ble_eq_true rfl⟩) ⟨zpR_blind, va_recv hK hP (ci := 4) (q0 := 0) rfl rfl, z_useR hK hN hP [0] rfl⟩ rfl rfl hl.1 rfl (lv_room (Nat.le_of_ble_eq_true rfl)) dX4_linesOnScreen_12 ⟨Nat.le_of_ble_eq_true rfl, Nat.le_of_ble_eq_true rfl⟩) ?_
        refine lv_if_eq (tgt := 38) hx hb dX4_linesOnScreen_15 (by decide) (fun c_3 => ?_) (fun c_3 => ?_)
        · have hf := zif_t hf c_3
          refine lv_iload_n hx hb dX4_linesOnScreen_38 rfl (lv_at hl 1 rfl) ?_
          exact zR_ret hx hb hr rfl hf hlk dX4_linesOnScreen_39
        · have hf := zif_f hf c_3
          refine lv_aload_n hx hb dX4_linesOnScreen_18 rfl (lv_at hl 0 rfl) ?_
          refine lv_iload_n hx hb dX4_linesOnScreen_19 rfl (lv_at hl 2 rfl) ?_
          obtain ⟨R4, e_4, hf⟩ := zbind_ex hf
          refine z_callRi (va_runV (As := [.int y2]) (rest := []) ⟨hx, hb, hml, hown, hts⟩ (c_X4_comes l dC dI cI cC cO qS aS gS y2 R4 e_4) (cwV 1 hts gX4_linesOnScreen_X4_comes rfl rfl rfl (by decide +kernel) ⟨Nat.le_of_ble_eq_true rfl, Nat.le_of_ble_eq_true rfl⟩) ⟨zpR_blind, va_recv hK hP (ci := 4) (q0 := 0) rfl rfl, z_useR hK hN hP [0] rfl⟩ rfl rfl hl.1 rfl (lv_room (Nat.le_of_ble_eq_true rfl)) dX4_linesOnScreen_20 ⟨Nat.le_of_ble_eq_true rfl, Nat.le_of_ble_eq_true rfl⟩) ?_
          refine lv_if_eq (tgt := 32) hx hb dX4_linesOnScreen_23 (by decide) (fun c_5 => ?_) (fun c_5 => ?_)
          · have hf := zif_t hf c_5
            refine lv_iinc (v := (y2 + (1 : Int32))) (lv' := [(2, .int (y2 + (1 : Int32))), (0, .ref qS), (1, .int y1)]) hx hb dX4_linesOnScreen_32 hl (k := 2) rfl rfl (by decide) rfl (fun ls hl => ?_)
            refine lv_goto (tgt := 4) hx hb dX4_linesOnScreen_35 (by decide) ?_
            exact ih4 y1 (y2 + (1 : Int32)) ls hf (lv_sub hl [1, 2, 0] rfl)
          · have hf := zif_f hf c_5
            refine lv_iload_n hx hb dX4_linesOnScreen_26 rfl (lv_at hl 1 rfl) ?_
            refine lv_iconst (v := (1 : Int32)) hx hb dX4_linesOnScreen_27 (by decide) ?_
            refine lv_iload_n hx hb dX4_linesOnScreen_28 rfl (lv_at hl 2 rfl) ?_
            refine lv_ishl hx hb dX4_linesOnScreen_29 ?_
            refine lv_ior hx hb dX4_linesOnScreen_30 ?_
            refine lv_istore_n (lv' := [(1, .int (y1 ||| ((1 : Int32) <<< (y2 &&& 31)))), (0, .ref qS), (2, .int y2)]) hx hb dX4_linesOnScreen_31 rfl hl (by decide) rfl (fun ls hl => ?_)
            refine lv_iinc (v := (y2 + (1 : Int32))) (lv' := [(2, .int (y2 + (1 : Int32))), (1, .int (y1 ||| ((1 : Int32) <<< (y2 &&& 31)))), (0, .ref qS)]) hx hb dX4_linesOnScreen_32 hl (k := 2) rfl rfl (by decide) rfl (fun ls hl => ?_)
            refine lv_goto (tgt := 4) hx hb dX4_linesOnScreen_35 (by decide) ?_
            exact ih4 (y1 ||| ((1 : Int32) <<< (y2 &&& 31))) (y2 + (1 : Int32)) ls hf (lv_sub hl [2, 1, 0] rfl)
  unfold f_X4_linesOnScreen at hf
  refine lv_iconst (v := (0 : Int32)) hx hb dX4_linesOnScreen_0 (by decide) ?_
  refine lv_istore_n (lv' := [(1, .int (0 : Int32)), (0, .ref qS)]) hx hb dX4_linesOnScreen_1 rfl hl (by decide) rfl (fun ls hl => ?_)
  refine lv_iconst (v := (0 : Int32)) hx hb dX4_linesOnScreen_2 (by decide) ?_
  refine lv_istore_n (lv' := [(2, .int (0 : Int32)), (1, .int (0 : Int32)), (0, .ref qS)]) hx hb dX4_linesOnScreen_3 rfl hl (by decide) rfl (fun ls hl => ?_)
  exact w4 zfuel (0 : Int32) (0 : Int32) ls hf (lv_sub hl [2, 1, 0] rfl)

def f_X4_linesAt_87 (gS : zG) (gP1 : zG) (k5 : Int32 → Int32 → Int32 → Option (Int32)) (y2 : Int32) (y3 : Int32) (y4 : Int32) : Option (Int32) := (k5 y2 (y3 ||| ((1 : Int32) <<< (y4 &&& 31))) (y4 + (1 : Int32)))
def f_X4_linesAt_75 (gS : zG) (gP1 : zG) (k5 : Int32 → Int32 → Int32 → Option (Int32)) (y2 : Int32) (y3 : Int32) (y4 : Int32) (y5 : Int32) (s0 : Int32) : Option (Int32) := (if y5 = 0 then (if s0 = 0 then (k5 y2 y3 (y4 + (1 : Int32))) else (f_X4_linesAt_87 gS gP1 k5  y2 y3 y4)) else (f_X4_linesAt_87 gS gP1 k5  y2 y3 y4))
def f_X4_linesAt_74 (gS : zG) (gP1 : zG) (k5 : Int32 → Int32 → Int32 → Option (Int32)) (y2 : Int32) (y3 : Int32) (y4 : Int32) (y5 : Int32) : Option (Int32) := (f_X4_linesAt_75 gS gP1 k5  y2 y3 y4 y5 (0 : Int32))
def f_X4_linesAt_46 (gS : zG) (gP1 : zG) (k5 : Int32 → Int32 → Int32 → Option (Int32)) (y2 : Int32) (y3 : Int32) (y4 : Int32) (s0 : Int32) : Option (Int32) := (zin y4 8 (if (gS 2 y4.toNatClampNeg) = y2 then (zin y4 8 (if (gS 3 y4.toNatClampNeg) = (1 : Int32) then (f_X4_linesAt_75 gS gP1 k5  y2 y3 y4 s0 (1 : Int32)) else (f_X4_linesAt_74 gS gP1 k5  y2 y3 y4 s0))) else (f_X4_linesAt_74 gS gP1 k5  y2 y3 y4 s0)))
def f_X4_linesAt_41 (gS : zG) (gP1 : zG) (k5 : Int32 → Int32 → Int32 → Option (Int32)) (y2 : Int32) (y3 : Int32) (y4 : Int32) : Option (Int32) := (f_X4_linesAt_46 gS gP1 k5  y2 y3 y4 (1 : Int32))
def f_X4_linesAt_5_b (gS : zG) (gP1 : zG)  (k5 : Int32 → Int32 → Int32 → Option (Int32)) (y2 : Int32) (y3 : Int32) (y4 : Int32) : Option (Int32) := (if (8 : Int32) ≤ y4 then (some (y3)) else (zbind (f_X0_hasLine gP1 y4) (fun R2 => (if R2 = 0 then (some (y3)) else (zbind (f_X4_comes gS y4) (fun R4 => (if R4 = 0 then (zin y4 8 (if (gS 2 y4.toNatClampNeg) ≤ y2 then (f_X4_linesAt_46 gS gP1 k5  y2 y3 y4 (0 : Int32)) else (f_X4_linesAt_41 gS gP1 k5  y2 y3 y4))) else (f_X4_linesAt_41 gS gP1 k5  y2 y3 y4))))))))
def f_X4_linesAt_5 (gS : zG) (gP1 : zG)  : Nat → Int32 → Int32 → Int32 → Option (Int32)
  | 0 => fun _ _ _ => none
  | n + 1 => f_X4_linesAt_5_b gS gP1  (f_X4_linesAt_5 gS gP1  n)
def f_X4_linesAt (gS : zG) (gP1 : zG) (x2 : Int32) : Option (Int32) := (f_X4_linesAt_5 gS gP1  zfuel x2 (0 : Int32) (0 : Int32))
theorem u_X4_linesAt_X4 : ∀ w ∈ u_ws RX4 TX4 5, w ∈ wsX4_linesAt := fun w h => List.mem_cons_of_mem _ (List.mem_append_left _ (List.mem_append_right _ h))
theorem k_X4_linesAt_1 : Cond.fieldLink RX4 18 "JoinedLight$Rays" "lostAt" "[I" ∈ wsX4_linesAt := List.mem_of_getElem? (i := 1) rfl
theorem k_X4_linesAt_2 : Cond.fieldLink RX4 21 "JoinedLight$Rays" "lostWhy" "[I" ∈ wsX4_linesAt := List.mem_of_getElem? (i := 2) rfl
abbrev rm_X4_linesAt : Room := { frames := 1, cells := 0, slots := 0, locals := 21 }
set_option maxHeartbeats 4000000 in
set_option maxRecDepth 100000 in
theorem c_X4_linesAt (l : Launch) (dC : Nat → ClassId) (dI : Nat → Nat → Nat) (cI cC cO : ClassId) (qS : Nat) (aS : Nat → Nat) (gS : zG) (qP1 : Nat) (aP1 : Nat → Nat) (gP1 : zG) (x2 : Int32) (R : Int32) (hf : f_X4_linesAt gS gP1 x2 = some R) : cR l (dC, dI) (zT cI cC cO) yX4_linesAt wsX4_linesAt rm_X4_linesAt [.ref qS, .ref qP1, .int x2] [(wX4 cI qS aS gS), (wX0 cI qP1 aP1 gP1)] (some (.int R)) := by
  refine zR_in (cc := cX4_linesAt) (maxL := 7) (ret := (some .int)) (plainFor_of_name (by decide)) rfl (Nat.le_of_ble_eq_true rfl) ?_
  intro p e s m below meth c hx hb hml hr hlk hown hts hK hN hP ls hl
  have hl : lv_has ls 7 [(0, .ref qS), (1, .ref qP1), (2, .int x2)] := hl
  have w5 : ∀ (n5 : Nat) (y2 : Int32) (y3 : Int32) (y4 : Int32) (ls : Array Slot), f_X4_linesAt_5 gS gP1  n5 y2 y3 y4 = some R → lv_has ls 7 [(0, .ref qS), (1, .ref qP1), (2, .int y2), (3, .int y3), (4, .int y4)] → W p l e (headSpec wsX4_linesAt rm_X4_linesAt).room s m [.ref qS, .ref qP1, .int x2].toArray below meth c s.heap [] 0 0 (MQ below (zqR (some (.int R))) [.ref qS, .ref qP1, .int x2].toArray s 0 0 (fun _ => False)) (F0 m 5 ls []) := by
    intro n5
    induction n5 with
    | zero =>
      intro y2 y3 y4 ls hf hl
      have hf : (none : Option (Int32)) = some R := hf
      cases hf
    | succ n5 ih5 =>
      have w87 : ∀ (y2 : Int32) (y3 : Int32) (y4 : Int32) (ls : Array Slot), f_X4_linesAt_87 gS gP1 (f_X4_linesAt_5 gS gP1  n5)  y2 y3 y4 = some R → lv_has ls 7 [(0, .ref qS), (1, .ref qP1), (2, .int y2), (3, .int y3), (4, .int y4)] → W p l e (headSpec wsX4_linesAt rm_X4_linesAt).room s m [.ref qS, .ref qP1, .int x2].toArray below meth c s.heap [] 0 0 (MQ below (zqR (some (.int R))) [.ref qS, .ref qP1, .int x2].toArray s 0 0 (fun _ => False)) (F0 m 87 ls []) := by
        intro y2 y3 y4 ls hf hl
        unfold f_X4_linesAt_87 at hf
        refine lv_iload_n hx hb dX4_linesAt_87 rfl (lv_at hl 3 rfl) ?_
        refine lv_iconst (v := (1 : Int32)) hx hb dX4_linesAt_88 (by decide) ?_
        refine lv_iload hx hb dX4_linesAt_89 (lv_at hl 4 rfl) ?_
        refine lv_ishl hx hb dX4_linesAt_91 ?_
        refine lv_ior hx hb dX4_linesAt_92 ?_
        refine lv_istore_n (lv' := [(3, .int (y3 ||| ((1 : Int32) <<< (y4 &&& 31)))), (0, .ref qS), (1, .ref qP1), (2, .int y2), (4, .int y4)]) hx hb dX4_linesAt_93 rfl hl (by decide) rfl (fun ls hl => ?_)
        refine lv_iinc (v := (y4 + (1 : Int32))) (lv' := [(4, .int (y4 + (1 : Int32))), (3, .int (y3 ||| ((1 : Int32) <<< (y4 &&& 31)))), (0, .ref qS), (1, .ref qP1), (2, .int y2)]) hx hb dX4_linesAt_94 hl (k := 4) rfl rfl (by decide) rfl (fun ls hl => ?_)
        refine lv_goto (tgt := 5) hx hb dX4_linesAt_97 (by decide) ?_
        exact ih5 y2 (y3 ||| ((1 : Int32) <<< (y4 &&& 31))) (y4 + (1 : Int32)) ls hf (lv_sub hl [2, 3, 4, 1, 0] rfl)
      have w75 : ∀ (y2 : Int32) (y3 : Int32) (y4 : Int32) (y5 : Int32) (s0 : Int32) (ls : Array Slot), f_X4_linesAt_75 gS gP1 (f_X4_linesAt_5 gS gP1  n5)  y2 y3 y4 y5 s0 = some R → lv_has ls 7 [(0, .ref qS), (1, .ref qP1), (2, .int y2), (3, .int y3), (4, .int y4), (5, .int y5)] → W p l e (headSpec wsX4_linesAt rm_X4_linesAt).room s m [.ref qS, .ref qP1, .int x2].toArray below meth c s.heap [] 0 0 (MQ below (zqR (some (.int R))) [.ref qS, .ref qP1, .int x2].toArray s 0 0 (fun _ => False)) (F0 m 75 ls [.int s0]) := by
        intro y2 y3 y4 y5 s0 ls hf hl
        unfold f_X4_linesAt_75 at hf
        refine lv_istore (lv' := [(6, .int s0), (0, .ref qS), (1, .ref qP1), (2, .int y2), (3, .int y3), (4, .int y4), (5, .int y5)]) hx hb dX4_linesAt_75 hl (by decide) rfl (fun ls hl => ?_)
        refine lv_iload hx hb dX4_linesAt_77 (lv_at hl 6 rfl) ?_
        refine lv_if_ne (tgt := 87) hx hb dX4_linesAt_79 (by decide) (fun c_12 => ?_) (fun c_12 => ?_)
        · have hf := zif_f hf c_12
          exact w87  y2 y3 y4 ls hf (lv_sub hl [1, 2, 3, 4, 5] rfl)
        · have hf := zif_t hf c_12
          refine lv_iload hx hb dX4_linesAt_82 (lv_at hl 0 rfl) ?_
          refine lv_if_eq (tgt := 94) hx hb dX4_linesAt_84 (by decide) (fun c_13 => ?_) (fun c_13 => ?_)
          · have hf := zif_t hf c_13
            refine lv_iinc (v := (y4 + (1 : Int32))) (lv' := [(4, .int (y4 + (1 : Int32))), (6, .int s0), (0, .ref qS), (1, .ref qP1), (2, .int y2), (3, .int y3), (5, .int y5)]) hx hb dX4_linesAt_94 hl (k := 5) rfl rfl (by decide) rfl (fun ls hl => ?_)
            refine lv_goto (tgt := 5) hx hb dX4_linesAt_97 (by decide) ?_
            exact ih5 y2 y3 (y4 + (1 : Int32)) ls hf (lv_sub hl [2, 3, 4, 5, 0] rfl)
          · have hf := zif_f hf c_13
            exact w87  y2 y3 y4 ls hf (lv_sub hl [1, 2, 3, 4, 5] rfl)
      have w74 : ∀ (y2 : Int32) (y3 : Int32) (y4 : Int32) (y5 : Int32) (ls : Array Slot), f_X4_linesAt_74 gS gP1 (f_X4_linesAt_5 gS gP1  n5)  y2 y3 y4 y5 = some R → lv_has ls 7 [(0, .ref qS), (1, .ref qP1), (2, .int y2), (3, .int y3), (4, .int y4), (5, .int y5)] → W p l e (headSpec wsX4_linesAt rm_X4_linesAt).room s m [.ref qS, .ref qP1, .int x2].toArray below meth c s.heap [] 0 0 (MQ below (zqR (some (.int R))) [.ref qS, .ref qP1, .int x2].toArray s 0 0 (fun _ => False)) (F0 m 74 ls []) := by
        intro y2 y3 y4 y5 ls hf hl
        unfold f_X4_linesAt_74 at hf
        refine lv_iconst (v := (0 : Int32)) hx hb dX4_linesAt_74 (by decide) ?_
        exact w75  y2 y3 y4 y5 (0 : Int32) ls hf (lv_sub hl [0, 1, 2, 3, 4, 5] rfl)
      have w46 : ∀ (y2 : Int32) (y3 : Int32) (y4 : Int32) (s0 : Int32) (ls : Array Slot), f_X4_linesAt_46 gS gP1 (f_X4_linesAt_5 gS gP1  n5)  y2 y3 y4 s0 = some R → lv_has ls 7 [(0, .ref qS), (1, .ref qP1), (2, .int y2), (3, .int y3), (4, .int y4)] → W p l e (headSpec wsX4_linesAt rm_X4_linesAt).room s m [.ref qS, .ref qP1, .int x2].toArray below meth c s.heap [] 0 0 (MQ below (zqR (some (.int R))) [.ref qS, .ref qP1, .int x2].toArray s 0 0 (fun _ => False)) (F0 m 46 ls [.int s0]) := by
        intro y2 y3 y4 s0 ls hf hl
        unfold f_X4_linesAt_46 at hf
        refine lv_istore (lv' := [(5, .int s0), (0, .ref qS), (1, .ref qP1), (2, .int y2), (3, .int y3), (4, .int y4)]) hx hb dX4_linesAt_46 hl (by decide) rfl (fun ls hl => ?_)
        refine lv_aload_n hx hb dX4_linesAt_48 rfl (lv_at hl 1 rfl) ?_
        refine va_get (D := (dC, dI)) (ci := 4) (v := .ref (aS 2)) (C := RX4) (T := TX4) (N := 5) hx hb hts u_X4_linesAt_X4 hown hK hP 0 rfl rfl 2 (by decide) (hts _ k_X4_linesAt_1) (fun _ h9 => h9) rfl dX4_linesAt_49 ?_
        refine lv_iload hx hb dX4_linesAt_52 (lv_at hl 5 rfl) ?_
        obtain ⟨h_8, hf⟩ := zin_ex hf
        refine va_iald hx hb hK hP 3 0 rfl rfl h_8 dX4_linesAt_54 ?_
        refine lv_iload_n hx hb dX4_linesAt_55 rfl (lv_at hl 3 rfl) ?_
        refine lv_icmp_ne (tgt := 74) hx hb dX4_linesAt_56 (by decide) (fun c_9 => ?_) (fun c_9 => ?_)
        · have hf := zif_f hf c_9
          exact w74  y2 y3 y4 s0 ls hf (lv_sub hl [1, 2, 3, 4, 5, 0] rfl)
        · have hf := zif_t hf c_9
          refine lv_aload_n hx hb dX4_linesAt_59 rfl (lv_at hl 1 rfl) ?_
          refine va_get (D := (dC, dI)) (ci := 4) (v := .ref (aS 3)) (C := RX4) (T := TX4) (N := 5) hx hb hts u_X4_linesAt_X4 hown hK hP 0 rfl rfl 3 (by decide) (hts _ k_X4_linesAt_2) (fun _ h9 => h9) rfl dX4_linesAt_60 ?_
          refine lv_iload hx hb dX4_linesAt_63 (lv_at hl 5 rfl) ?_
          obtain ⟨h_10, hf⟩ := zin_ex hf
          refine va_iald hx hb hK hP 4 0 rfl rfl h_10 dX4_linesAt_65 ?_
          refine lv_iconst (v := (1 : Int32)) hx hb dX4_linesAt_66 (by decide) ?_
          refine lv_icmp_ne (tgt := 74) hx hb dX4_linesAt_67 (by decide) (fun c_11 => ?_) (fun c_11 => ?_)
          · have hf := zif_f hf c_11
            exact w74  y2 y3 y4 s0 ls hf (lv_sub hl [1, 2, 3, 4, 5, 0] rfl)
          · have hf := zif_t hf c_11
            refine lv_iconst (v := (1 : Int32)) hx hb dX4_linesAt_70 (by decide) ?_
            refine lv_goto (tgt := 75) hx hb dX4_linesAt_71 (by decide) ?_
            exact w75  y2 y3 y4 s0 (1 : Int32) ls hf (lv_sub hl [1, 2, 3, 4, 5, 0] rfl)
      have w41 : ∀ (y2 : Int32) (y3 : Int32) (y4 : Int32) (ls : Array Slot), f_X4_linesAt_41 gS gP1 (f_X4_linesAt_5 gS gP1  n5)  y2 y3 y4 = some R → lv_has ls 7 [(0, .ref qS), (1, .ref qP1), (2, .int y2), (3, .int y3), (4, .int y4)] → W p l e (headSpec wsX4_linesAt rm_X4_linesAt).room s m [.ref qS, .ref qP1, .int x2].toArray below meth c s.heap [] 0 0 (MQ below (zqR (some (.int R))) [.ref qS, .ref qP1, .int x2].toArray s 0 0 (fun _ => False)) (F0 m 41 ls []) := by
        intro y2 y3 y4 ls hf hl
        unfold f_X4_linesAt_41 at hf
        refine lv_iconst (v := (1 : Int32)) hx hb dX4_linesAt_41 (by decide) ?_
        refine lv_goto (tgt := 46) hx hb dX4_linesAt_42 (by decide) ?_
        exact w46  y2 y3 y4 (1 : Int32) ls hf (lv_sub hl [0, 1, 2, 3, 4] rfl)
      intro y2 y3 y4 ls hf hl
      have hf : f_X4_linesAt_5_b gS gP1  (f_X4_linesAt_5 gS gP1  n5) y2 y3 y4 = some R := hf
      unfold f_X4_linesAt_5_b at hf
      refine lv_iload hx hb dX4_linesAt_5 (lv_at hl 4 rfl) ?_
      refine lv_bipush (v := (8 : Int32)) hx hb dX4_linesAt_7 (by decide) ?_
      refine lv_icmp_ge (tgt := 100) hx hb dX4_linesAt_9 (by decide) (fun c_1 => ?_) (fun c_1 => ?_)
      · have hf := zif_t hf c_1
        refine lv_iload_n hx hb dX4_linesAt_100 rfl (lv_at hl 3 rfl) ?_
        exact zR_ret hx hb hr rfl hf hlk dX4_linesAt_101
      · have hf := zif_f hf c_1
        refine lv_aload_n hx hb dX4_linesAt_12 rfl (lv_at hl 1 rfl) ?_
        refine lv_iload hx hb dX4_linesAt_13 (lv_at hl 4 rfl) ?_
        obtain ⟨R2, e_2, hf⟩ := zbind_ex hf
        refine z_callRi (va_runV (As := [.int y4]) (rest := []) ⟨hx, hb, hml, hown, hts⟩ (c_X0_hasLine l dC dI cI cC cO qP1 aP1 gP1 y4 R2 e_2) (cwV 1 hts gX4_linesAt_X0_hasLine rfl rfl rfl (by decide +kernel) ⟨Nat.le_of_ble_eq_true rfl, Nat.le_of_ble_eq_true rfl⟩) ⟨zpR_blind, va_recv hK hP (ci := 0) (q0 := 5) rfl rfl, z_useR hK hN hP [1] rfl⟩ rfl rfl hl.1 rfl (lv_room (Nat.le_of_ble_eq_true rfl)) dX4_linesAt_15 ⟨Nat.le_of_ble_eq_true rfl, Nat.le_of_ble_eq_true rfl⟩) ?_
        refine lv_if_eq (tgt := 100) hx hb dX4_linesAt_18 (by decide) (fun c_3 => ?_) (fun c_3 => ?_)
        · have hf := zif_t hf c_3
          refine lv_iload_n hx hb dX4_linesAt_100 rfl (lv_at hl 3 rfl) ?_
          exact zR_ret hx hb hr rfl hf hlk dX4_linesAt_101
        · have hf := zif_f hf c_3
          refine lv_aload_n hx hb dX4_linesAt_21 rfl (lv_at hl 0 rfl) ?_
          refine lv_iload hx hb dX4_linesAt_22 (lv_at hl 4 rfl) ?_
          obtain ⟨R4, e_4, hf⟩ := zbind_ex hf
          refine z_callRi (va_runV (As := [.int y4]) (rest := []) ⟨hx, hb, hml, hown, hts⟩ (c_X4_comes l dC dI cI cC cO qS aS gS y4 R4 e_4) (cwV 1 hts gX4_linesAt_X4_comes rfl rfl rfl (by decide +kernel) ⟨Nat.le_of_ble_eq_true rfl, Nat.le_of_ble_eq_true rfl⟩) ⟨zpR_blind, va_recv hK hP (ci := 4) (q0 := 0) rfl rfl, z_useR hK hN hP [0] rfl⟩ rfl rfl hl.1 rfl (lv_room (Nat.le_of_ble_eq_true rfl)) dX4_linesAt_24 ⟨Nat.le_of_ble_eq_true rfl, Nat.le_of_ble_eq_true rfl⟩) ?_
          refine lv_if_ne (tgt := 41) hx hb dX4_linesAt_27 (by decide) (fun c_5 => ?_) (fun c_5 => ?_)
          · have hf := zif_f hf c_5
            exact w41  y2 y3 y4 ls hf (lv_sub hl [0, 1, 2, 3, 4] rfl)
          · have hf := zif_t hf c_5
            refine lv_aload_n hx hb dX4_linesAt_30 rfl (lv_at hl 0 rfl) ?_
            refine va_get (D := (dC, dI)) (ci := 4) (v := .ref (aS 2)) (C := RX4) (T := TX4) (N := 5) hx hb hts u_X4_linesAt_X4 hown hK hP 0 rfl rfl 2 (by decide) (hts _ k_X4_linesAt_1) (fun _ h9 => h9) rfl dX4_linesAt_31 ?_
            refine lv_iload hx hb dX4_linesAt_34 (lv_at hl 4 rfl) ?_
            obtain ⟨h_6, hf⟩ := zin_ex hf
            refine va_iald hx hb hK hP 3 0 rfl rfl h_6 dX4_linesAt_36 ?_
            refine lv_iload_n hx hb dX4_linesAt_37 rfl (lv_at hl 2 rfl) ?_
            refine lv_icmp_le (tgt := 45) hx hb dX4_linesAt_38 (by decide) (fun c_7 => ?_) (fun c_7 => ?_)
            · have hf := zif_t hf c_7
              refine lv_iconst (v := (0 : Int32)) hx hb dX4_linesAt_45 (by decide) ?_
              exact w46  y2 y3 y4 (0 : Int32) ls hf (lv_sub hl [0, 1, 2, 3, 4] rfl)
            · have hf := zif_f hf c_7
              exact w41  y2 y3 y4 ls hf (lv_sub hl [0, 1, 2, 3, 4] rfl)
  unfold f_X4_linesAt at hf
  refine lv_iconst (v := (0 : Int32)) hx hb dX4_linesAt_0 (by decide) ?_
  refine lv_istore_n (lv' := [(3, .int (0 : Int32)), (0, .ref qS), (1, .ref qP1), (2, .int x2)]) hx hb dX4_linesAt_1 rfl hl (by decide) rfl (fun ls hl => ?_)
  refine lv_iconst (v := (0 : Int32)) hx hb dX4_linesAt_2 (by decide) ?_
  refine lv_istore (lv' := [(4, .int (0 : Int32)), (3, .int (0 : Int32)), (0, .ref qS), (1, .ref qP1), (2, .int x2)]) hx hb dX4_linesAt_3 hl (by decide) rfl (fun ls hl => ?_)
  exact w5 zfuel x2 (0 : Int32) (0 : Int32) ls hf (lv_sub hl [2, 3, 4, 1, 0] rfl)

def f_X4_lightLostAt_5_b (gS : zG) (gP1 : zG)  (k5 : Int32 → Int32 → Int32 → Option (Int32)) (y2 : Int32) (y3 : Int32) (y4 : Int32) : Option (Int32) := (if (8 : Int32) ≤ y4 then (some (y3)) else (zbind (f_X0_hasLine gP1 y4) (fun R2 => (if R2 = 0 then (some (y3)) else (zbind (f_X4_comes gS y4) (fun R4 => (if R4 = 0 then (zin y4 8 (if (gS 2 y4.toNatClampNeg) = y2 then (zin y4 8 (k5 y2 (y3 + (gP1 1 y4.toNatClampNeg)) (y4 + (1 : Int32)))) else (k5 y2 y3 (y4 + (1 : Int32))))) else (k5 y2 y3 (y4 + (1 : Int32))))))))))
def f_X4_lightLostAt_5 (gS : zG) (gP1 : zG)  : Nat → Int32 → Int32 → Int32 → Option (Int32)
  | 0 => fun _ _ _ => none
  | n + 1 => f_X4_lightLostAt_5_b gS gP1  (f_X4_lightLostAt_5 gS gP1  n)
def f_X4_lightLostAt (gS : zG) (gP1 : zG) (x2 : Int32) : Option (Int32) := (f_X4_lightLostAt_5 gS gP1  zfuel x2 (0 : Int32) (0 : Int32))
theorem u_X4_lightLostAt_X4 : ∀ w ∈ u_ws RX4 TX4 5, w ∈ wsX4_lightLostAt := fun w h => List.mem_cons_of_mem _ (List.mem_append_left _ (List.mem_append_right _ h))
theorem u_X4_lightLostAt_X0 : ∀ w ∈ u_ws RX0 TX0 10, w ∈ wsX4_lightLostAt := fun w h => List.mem_cons_of_mem _ (List.mem_append_right _ h)
theorem k_X4_lightLostAt_1 : Cond.fieldLink RX4 18 "JoinedLight$Rays" "lostAt" "[I" ∈ wsX4_lightLostAt := List.mem_of_getElem? (i := 1) rfl
theorem k_X4_lightLostAt_2 : Cond.fieldLink RX4 82 "JoinedLight$Bench" "lights" "[I" ∈ wsX4_lightLostAt := List.mem_of_getElem? (i := 2) rfl
abbrev rm_X4_lightLostAt : Room := { frames := 1, cells := 0, slots := 0, locals := 21 }
set_option maxHeartbeats 4000000 in
set_option maxRecDepth 100000 in
theorem c_X4_lightLostAt (l : Launch) (dC : Nat → ClassId) (dI : Nat → Nat → Nat) (cI cC cO : ClassId) (qS : Nat) (aS : Nat → Nat) (gS : zG) (qP1 : Nat) (aP1 : Nat → Nat) (gP1 : zG) (x2 : Int32) (R : Int32) (hf : f_X4_lightLostAt gS gP1 x2 = some R) : cR l (dC, dI) (zT cI cC cO) yX4_lightLostAt wsX4_lightLostAt rm_X4_lightLostAt [.ref qS, .ref qP1, .int x2] [(wX4 cI qS aS gS), (wX0 cI qP1 aP1 gP1)] (some (.int R)) := by
  refine zR_in (cc := cX4_lightLostAt) (maxL := 5) (ret := (some .int)) (plainFor_of_name (by decide)) rfl (Nat.le_of_ble_eq_true rfl) ?_
  intro p e s m below meth c hx hb hml hr hlk hown hts hK hN hP ls hl
  have hl : lv_has ls 5 [(0, .ref qS), (1, .ref qP1), (2, .int x2)] := hl
  have w5 : ∀ (n5 : Nat) (y2 : Int32) (y3 : Int32) (y4 : Int32) (ls : Array Slot), f_X4_lightLostAt_5 gS gP1  n5 y2 y3 y4 = some R → lv_has ls 5 [(0, .ref qS), (1, .ref qP1), (2, .int y2), (3, .int y3), (4, .int y4)] → W p l e (headSpec wsX4_lightLostAt rm_X4_lightLostAt).room s m [.ref qS, .ref qP1, .int x2].toArray below meth c s.heap [] 0 0 (MQ below (zqR (some (.int R))) [.ref qS, .ref qP1, .int x2].toArray s 0 0 (fun _ => False)) (F0 m 5 ls []) := by
    intro n5
    induction n5 with
    | zero =>
      intro y2 y3 y4 ls hf hl
      have hf : (none : Option (Int32)) = some R := hf
      cases hf
    | succ n5 ih5 =>
      intro y2 y3 y4 ls hf hl
      have hf : f_X4_lightLostAt_5_b gS gP1  (f_X4_lightLostAt_5 gS gP1  n5) y2 y3 y4 = some R := hf
      unfold f_X4_lightLostAt_5_b at hf
      refine lv_iload hx hb dX4_lightLostAt_5 (lv_at hl 4 rfl) ?_
      refine lv_bipush (v := (8 : Int32)) hx hb dX4_lightLostAt_7 (by decide) ?_
      refine lv_icmp_ge (tgt := 57) hx hb dX4_lightLostAt_9 (by decide) (fun c_1 => ?_) (fun c_1 => ?_)
      · have hf := zif_t hf c_1
        refine lv_iload_n hx hb dX4_lightLostAt_57 rfl (lv_at hl 3 rfl) ?_
        exact zR_ret hx hb hr rfl hf hlk dX4_lightLostAt_58
      · have hf := zif_f hf c_1
        refine lv_aload_n hx hb dX4_lightLostAt_12 rfl (lv_at hl 1 rfl) ?_
        refine lv_iload hx hb dX4_lightLostAt_13 (lv_at hl 4 rfl) ?_
        obtain ⟨R2, e_2, hf⟩ := zbind_ex hf
        refine z_callRi (va_runV (As := [.int y4]) (rest := []) ⟨hx, hb, hml, hown, hts⟩ (c_X0_hasLine l dC dI cI cC cO qP1 aP1 gP1 y4 R2 e_2) (cwV 1 hts gX4_lightLostAt_X0_hasLine rfl rfl rfl (by decide +kernel) ⟨Nat.le_of_ble_eq_true rfl, Nat.le_of_ble_eq_true rfl⟩) ⟨zpR_blind, va_recv hK hP (ci := 0) (q0 := 5) rfl rfl, z_useR hK hN hP [1] rfl⟩ rfl rfl hl.1 rfl (lv_room (Nat.le_of_ble_eq_true rfl)) dX4_lightLostAt_15 ⟨Nat.le_of_ble_eq_true rfl, Nat.le_of_ble_eq_true rfl⟩) ?_
        refine lv_if_eq (tgt := 57) hx hb dX4_lightLostAt_18 (by decide) (fun c_3 => ?_) (fun c_3 => ?_)
        · have hf := zif_t hf c_3
          refine lv_iload_n hx hb dX4_lightLostAt_57 rfl (lv_at hl 3 rfl) ?_
          exact zR_ret hx hb hr rfl hf hlk dX4_lightLostAt_58
        · have hf := zif_f hf c_3
          refine lv_aload_n hx hb dX4_lightLostAt_21 rfl (lv_at hl 0 rfl) ?_
          refine lv_iload hx hb dX4_lightLostAt_22 (lv_at hl 4 rfl) ?_
          obtain ⟨R4, e_4, hf⟩ := zbind_ex hf
          refine z_callRi (va_runV (As := [.int y4]) (rest := []) ⟨hx, hb, hml, hown, hts⟩ (c_X4_comes l dC dI cI cC cO qS aS gS y4 R4 e_4) (cwV 1 hts gX4_lightLostAt_X4_comes rfl rfl rfl (by decide +kernel) ⟨Nat.le_of_ble_eq_true rfl, Nat.le_of_ble_eq_true rfl⟩) ⟨zpR_blind, va_recv hK hP (ci := 4) (q0 := 0) rfl rfl, z_useR hK hN hP [0] rfl⟩ rfl rfl hl.1 rfl (lv_room (Nat.le_of_ble_eq_true rfl)) dX4_lightLostAt_24 ⟨Nat.le_of_ble_eq_true rfl, Nat.le_of_ble_eq_true rfl⟩) ?_
          refine lv_if_ne (tgt := 51) hx hb dX4_lightLostAt_27 (by decide) (fun c_5 => ?_) (fun c_5 => ?_)
          · have hf := zif_f hf c_5
            refine lv_iinc (v := (y4 + (1 : Int32))) (lv' := [(4, .int (y4 + (1 : Int32))), (0, .ref qS), (1, .ref qP1), (2, .int y2), (3, .int y3)]) hx hb dX4_lightLostAt_51 hl (k := 4) rfl rfl (by decide) rfl (fun ls hl => ?_)
            refine lv_goto (tgt := 5) hx hb dX4_lightLostAt_54 (by decide) ?_
            exact ih5 y2 y3 (y4 + (1 : Int32)) ls hf (lv_sub hl [1, 2, 3, 4, 0] rfl)
          · have hf := zif_t hf c_5
            refine lv_aload_n hx hb dX4_lightLostAt_30 rfl (lv_at hl 0 rfl) ?_
            refine va_get (D := (dC, dI)) (ci := 4) (v := .ref (aS 2)) (C := RX4) (T := TX4) (N := 5) hx hb hts u_X4_lightLostAt_X4 hown hK hP 0 rfl rfl 2 (by decide) (hts _ k_X4_lightLostAt_1) (fun _ h9 => h9) rfl dX4_lightLostAt_31 ?_
            refine lv_iload hx hb dX4_lightLostAt_34 (lv_at hl 4 rfl) ?_
            obtain ⟨h_6, hf⟩ := zin_ex hf
            refine va_iald hx hb hK hP 3 0 rfl rfl h_6 dX4_lightLostAt_36 ?_
            refine lv_iload_n hx hb dX4_lightLostAt_37 rfl (lv_at hl 2 rfl) ?_
            refine lv_icmp_ne (tgt := 51) hx hb dX4_lightLostAt_38 (by decide) (fun c_7 => ?_) (fun c_7 => ?_)
            · have hf := zif_f hf c_7
              refine lv_iinc (v := (y4 + (1 : Int32))) (lv' := [(4, .int (y4 + (1 : Int32))), (0, .ref qS), (1, .ref qP1), (2, .int y2), (3, .int y3)]) hx hb dX4_lightLostAt_51 hl (k := 4) rfl rfl (by decide) rfl (fun ls hl => ?_)
              refine lv_goto (tgt := 5) hx hb dX4_lightLostAt_54 (by decide) ?_
              exact ih5 y2 y3 (y4 + (1 : Int32)) ls hf (lv_sub hl [1, 2, 3, 4, 0] rfl)
            · have hf := zif_t hf c_7
              refine lv_iload_n hx hb dX4_lightLostAt_41 rfl (lv_at hl 3 rfl) ?_
              refine lv_aload_n hx hb dX4_lightLostAt_42 rfl (lv_at hl 1 rfl) ?_
              refine va_get (D := (dC, dI)) (ci := 0) (v := .ref (aP1 1)) (C := RX0) (T := TX0) (N := 10) hx hb hts u_X4_lightLostAt_X0 hown hK hP 5 rfl rfl 1 (by decide) (hts _ k_X4_lightLostAt_2) (fun _ h9 => h9) rfl dX4_lightLostAt_43 ?_
              refine lv_iload hx hb dX4_lightLostAt_46 (lv_at hl 4 rfl) ?_
              obtain ⟨h_8, hf⟩ := zin_ex hf
              refine va_iald hx hb hK hP 7 0 rfl rfl h_8 dX4_lightLostAt_48 ?_
              refine lv_iadd hx hb dX4_lightLostAt_49 ?_
              refine lv_istore_n (lv' := [(3, .int (y3 + (gP1 1 y4.toNatClampNeg))), (0, .ref qS), (1, .ref qP1), (2, .int y2), (4, .int y4)]) hx hb dX4_lightLostAt_50 rfl hl (by decide) rfl (fun ls hl => ?_)
              refine lv_iinc (v := (y4 + (1 : Int32))) (lv' := [(4, .int (y4 + (1 : Int32))), (3, .int (y3 + (gP1 1 y4.toNatClampNeg))), (0, .ref qS), (1, .ref qP1), (2, .int y2)]) hx hb dX4_lightLostAt_51 hl (k := 4) rfl rfl (by decide) rfl (fun ls hl => ?_)
              refine lv_goto (tgt := 5) hx hb dX4_lightLostAt_54 (by decide) ?_
              exact ih5 y2 (y3 + (gP1 1 y4.toNatClampNeg)) (y4 + (1 : Int32)) ls hf (lv_sub hl [2, 3, 4, 1, 0] rfl)
  unfold f_X4_lightLostAt at hf
  refine lv_iconst (v := (0 : Int32)) hx hb dX4_lightLostAt_0 (by decide) ?_
  refine lv_istore_n (lv' := [(3, .int (0 : Int32)), (0, .ref qS), (1, .ref qP1), (2, .int x2)]) hx hb dX4_lightLostAt_1 rfl hl (by decide) rfl (fun ls hl => ?_)
  refine lv_iconst (v := (0 : Int32)) hx hb dX4_lightLostAt_2 (by decide) ?_
  refine lv_istore (lv' := [(4, .int (0 : Int32)), (3, .int (0 : Int32)), (0, .ref qS), (1, .ref qP1), (2, .int x2)]) hx hb dX4_lightLostAt_3 hl (by decide) rfl (fun ls hl => ?_)
  exact w5 zfuel x2 (0 : Int32) (0 : Int32) ls hf (lv_sub hl [2, 3, 4, 1, 0] rfl)

def f_X4_lightOnScreen_4_b (gS : zG) (gP1 : zG)  (k4 : Int32 → Int32 → Option (Int32)) (y2 : Int32) (y3 : Int32) : Option (Int32) := (if (8 : Int32) ≤ y3 then (some (y2)) else (zbind (f_X0_hasLine gP1 y3) (fun R2 => (if R2 = 0 then (some (y2)) else (zbind (f_X4_comes gS y3) (fun R4 => (if R4 = 0 then (k4 y2 (y3 + (1 : Int32))) else (zin y3 8 (k4 (y2 + (gP1 1 y3.toNatClampNeg)) (y3 + (1 : Int32)))))))))))
def f_X4_lightOnScreen_4 (gS : zG) (gP1 : zG)  : Nat → Int32 → Int32 → Option (Int32)
  | 0 => fun _ _ => none
  | n + 1 => f_X4_lightOnScreen_4_b gS gP1  (f_X4_lightOnScreen_4 gS gP1  n)
def f_X4_lightOnScreen (gS : zG) (gP1 : zG)  : Option (Int32) := (f_X4_lightOnScreen_4 gS gP1  zfuel (0 : Int32) (0 : Int32))
theorem u_X4_lightOnScreen_X0 : ∀ w ∈ u_ws RX0 TX0 10, w ∈ wsX4_lightOnScreen := fun w h => List.mem_cons_of_mem _ (List.mem_append_left _ (List.mem_append_right _ h))
theorem k_X4_lightOnScreen_1 : Cond.fieldLink RX4 82 "JoinedLight$Bench" "lights" "[I" ∈ wsX4_lightOnScreen := List.mem_of_getElem? (i := 1) rfl
abbrev rm_X4_lightOnScreen : Room := { frames := 1, cells := 0, slots := 0, locals := 21 }
set_option maxHeartbeats 4000000 in
set_option maxRecDepth 100000 in
theorem c_X4_lightOnScreen (l : Launch) (dC : Nat → ClassId) (dI : Nat → Nat → Nat) (cI cC cO : ClassId) (qS : Nat) (aS : Nat → Nat) (gS : zG) (qP1 : Nat) (aP1 : Nat → Nat) (gP1 : zG)  (R : Int32) (hf : f_X4_lightOnScreen gS gP1 = some R) : cR l (dC, dI) (zT cI cC cO) yX4_lightOnScreen wsX4_lightOnScreen rm_X4_lightOnScreen [.ref qS, .ref qP1] [(wX4 cI qS aS gS), (wX0 cI qP1 aP1 gP1)] (some (.int R)) := by
  refine zR_in (cc := cX4_lightOnScreen) (maxL := 4) (ret := (some .int)) (plainFor_of_name (by decide)) rfl (Nat.le_of_ble_eq_true rfl) ?_
  intro p e s m below meth c hx hb hml hr hlk hown hts hK hN hP ls hl
  have hl : lv_has ls 4 [(0, .ref qS), (1, .ref qP1)] := hl
  have w4 : ∀ (n4 : Nat) (y2 : Int32) (y3 : Int32) (ls : Array Slot), f_X4_lightOnScreen_4 gS gP1  n4 y2 y3 = some R → lv_has ls 4 [(0, .ref qS), (1, .ref qP1), (2, .int y2), (3, .int y3)] → W p l e (headSpec wsX4_lightOnScreen rm_X4_lightOnScreen).room s m [.ref qS, .ref qP1].toArray below meth c s.heap [] 0 0 (MQ below (zqR (some (.int R))) [.ref qS, .ref qP1].toArray s 0 0 (fun _ => False)) (F0 m 4 ls []) := by
    intro n4
    induction n4 with
    | zero =>
      intro y2 y3 ls hf hl
      have hf : (none : Option (Int32)) = some R := hf
      cases hf
    | succ n4 ih4 =>
      intro y2 y3 ls hf hl
      have hf : f_X4_lightOnScreen_4_b gS gP1  (f_X4_lightOnScreen_4 gS gP1  n4) y2 y3 = some R := hf
      unfold f_X4_lightOnScreen_4_b at hf
      refine lv_iload_n hx hb dX4_lightOnScreen_4 rfl (lv_at hl 3 rfl) ?_
      refine lv_bipush (v := (8 : Int32)) hx hb dX4_lightOnScreen_5 (by decide) ?_
      refine lv_icmp_ge (tgt := 41) hx hb dX4_lightOnScreen_7 (by decide) (fun c_1 => ?_) (fun c_1 => ?_)
      · have hf := zif_t hf c_1
        refine lv_iload_n hx hb dX4_lightOnScreen_41 rfl (lv_at hl 2 rfl) ?_
        exact zR_ret hx hb hr rfl hf hlk dX4_lightOnScreen_42
      · have hf := zif_f hf c_1
        refine lv_aload_n hx hb dX4_lightOnScreen_10 rfl (lv_at hl 1 rfl) ?_
        refine lv_iload_n hx hb dX4_lightOnScreen_11 rfl (lv_at hl 3 rfl) ?_
        obtain ⟨R2, e_2, hf⟩ := zbind_ex hf
        refine z_callRi (va_runV (As := [.int y3]) (rest := []) ⟨hx, hb, hml, hown, hts⟩ (c_X0_hasLine l dC dI cI cC cO qP1 aP1 gP1 y3 R2 e_2) (cwV 1 hts gX4_lightOnScreen_X0_hasLine rfl rfl rfl (by decide +kernel) ⟨Nat.le_of_ble_eq_true rfl, Nat.le_of_ble_eq_true rfl⟩) ⟨zpR_blind, va_recv hK hP (ci := 0) (q0 := 5) rfl rfl, z_useR hK hN hP [1] rfl⟩ rfl rfl hl.1 rfl (lv_room (Nat.le_of_ble_eq_true rfl)) dX4_lightOnScreen_12 ⟨Nat.le_of_ble_eq_true rfl, Nat.le_of_ble_eq_true rfl⟩) ?_
        refine lv_if_eq (tgt := 41) hx hb dX4_lightOnScreen_15 (by decide) (fun c_3 => ?_) (fun c_3 => ?_)
        · have hf := zif_t hf c_3
          refine lv_iload_n hx hb dX4_lightOnScreen_41 rfl (lv_at hl 2 rfl) ?_
          exact zR_ret hx hb hr rfl hf hlk dX4_lightOnScreen_42
        · have hf := zif_f hf c_3
          refine lv_aload_n hx hb dX4_lightOnScreen_18 rfl (lv_at hl 0 rfl) ?_
          refine lv_iload_n hx hb dX4_lightOnScreen_19 rfl (lv_at hl 3 rfl) ?_
          obtain ⟨R4, e_4, hf⟩ := zbind_ex hf
          refine z_callRi (va_runV (As := [.int y3]) (rest := []) ⟨hx, hb, hml, hown, hts⟩ (c_X4_comes l dC dI cI cC cO qS aS gS y3 R4 e_4) (cwV 1 hts gX4_lightOnScreen_X4_comes rfl rfl rfl (by decide +kernel) ⟨Nat.le_of_ble_eq_true rfl, Nat.le_of_ble_eq_true rfl⟩) ⟨zpR_blind, va_recv hK hP (ci := 4) (q0 := 0) rfl rfl, z_useR hK hN hP [0] rfl⟩ rfl rfl hl.1 rfl (lv_room (Nat.le_of_ble_eq_true rfl)) dX4_lightOnScreen_20 ⟨Nat.le_of_ble_eq_true rfl, Nat.le_of_ble_eq_true rfl⟩) ?_
          refine lv_if_eq (tgt := 35) hx hb dX4_lightOnScreen_23 (by decide) (fun c_5 => ?_) (fun c_5 => ?_)
          · have hf := zif_t hf c_5
            refine lv_iinc (v := (y3 + (1 : Int32))) (lv' := [(3, .int (y3 + (1 : Int32))), (0, .ref qS), (1, .ref qP1), (2, .int y2)]) hx hb dX4_lightOnScreen_35 hl (k := 3) rfl rfl (by decide) rfl (fun ls hl => ?_)
            refine lv_goto (tgt := 4) hx hb dX4_lightOnScreen_38 (by decide) ?_
            exact ih4 y2 (y3 + (1 : Int32)) ls hf (lv_sub hl [1, 2, 3, 0] rfl)
          · have hf := zif_f hf c_5
            refine lv_iload_n hx hb dX4_lightOnScreen_26 rfl (lv_at hl 2 rfl) ?_
            refine lv_aload_n hx hb dX4_lightOnScreen_27 rfl (lv_at hl 1 rfl) ?_
            refine va_get (D := (dC, dI)) (ci := 0) (v := .ref (aP1 1)) (C := RX0) (T := TX0) (N := 10) hx hb hts u_X4_lightOnScreen_X0 hown hK hP 5 rfl rfl 1 (by decide) (hts _ k_X4_lightOnScreen_1) (fun _ h9 => h9) rfl dX4_lightOnScreen_28 ?_
            refine lv_iload_n hx hb dX4_lightOnScreen_31 rfl (lv_at hl 3 rfl) ?_
            obtain ⟨h_6, hf⟩ := zin_ex hf
            refine va_iald hx hb hK hP 7 0 rfl rfl h_6 dX4_lightOnScreen_32 ?_
            refine lv_iadd hx hb dX4_lightOnScreen_33 ?_
            refine lv_istore_n (lv' := [(2, .int (y2 + (gP1 1 y3.toNatClampNeg))), (0, .ref qS), (1, .ref qP1), (3, .int y3)]) hx hb dX4_lightOnScreen_34 rfl hl (by decide) rfl (fun ls hl => ?_)
            refine lv_iinc (v := (y3 + (1 : Int32))) (lv' := [(3, .int (y3 + (1 : Int32))), (2, .int (y2 + (gP1 1 y3.toNatClampNeg))), (0, .ref qS), (1, .ref qP1)]) hx hb dX4_lightOnScreen_35 hl (k := 3) rfl rfl (by decide) rfl (fun ls hl => ?_)
            refine lv_goto (tgt := 4) hx hb dX4_lightOnScreen_38 (by decide) ?_
            exact ih4 (y2 + (gP1 1 y3.toNatClampNeg)) (y3 + (1 : Int32)) ls hf (lv_sub hl [2, 3, 1, 0] rfl)
  unfold f_X4_lightOnScreen at hf
  refine lv_iconst (v := (0 : Int32)) hx hb dX4_lightOnScreen_0 (by decide) ?_
  refine lv_istore_n (lv' := [(2, .int (0 : Int32)), (0, .ref qS), (1, .ref qP1)]) hx hb dX4_lightOnScreen_1 rfl hl (by decide) rfl (fun ls hl => ?_)
  refine lv_iconst (v := (0 : Int32)) hx hb dX4_lightOnScreen_2 (by decide) ?_
  refine lv_istore_n (lv' := [(3, .int (0 : Int32)), (2, .int (0 : Int32)), (0, .ref qS), (1, .ref qP1)]) hx hb dX4_lightOnScreen_3 rfl hl (by decide) rfl (fun ls hl => ?_)
  exact w4 zfuel (0 : Int32) (0 : Int32) ls hf (lv_sub hl [2, 3, 1, 0] rfl)

def f_X4_spread_60 (gS : zG)  (y1 : Int32) (y2 : Int32) : Option (Int32) := (if y1 ≤ y2 then (some ((y2 - y1))) else (some ((0 : Int32))))
def f_X4_spread_10_b (gS : zG)  (k10 : Int32 → Int32 → Int32 → Option (Int32)) (y1 : Int32) (y2 : Int32) (y3 : Int32) : Option (Int32) := (if (8 : Int32) ≤ y3 then (f_X4_spread_60 gS   y1 y2) else (zbind (f_X4_has gS y3) (fun R2 => (if R2 = 0 then (f_X4_spread_60 gS   y1 y2) else (zbind (f_X4_comes gS y3) (fun R4 => (if R4 = 0 then (k10 y1 y2 (y3 + (1 : Int32))) else (zin y3 8 (zin y3 8 (k10 (if (gS 0 y3.toNatClampNeg) < y1 then (gS 0 y3.toNatClampNeg) else y1) (if y2 < (gS 0 y3.toNatClampNeg) then (gS 0 y3.toNatClampNeg) else y2) (y3 + (1 : Int32))))))))))))
def f_X4_spread_10 (gS : zG)  : Nat → Int32 → Int32 → Int32 → Option (Int32)
  | 0 => fun _ _ _ => none
  | n + 1 => f_X4_spread_10_b gS  (f_X4_spread_10 gS  n)
def f_X4_spread (gS : zG)  : Option (Int32) := (f_X4_spread_10 gS  zfuel (999 : Int32) (-999 : Int32) (0 : Int32))
theorem u_X4_spread_X4 : ∀ w ∈ u_ws RX4 TX4 5, w ∈ wsX4_spread := fun w h => List.mem_cons_of_mem _ (List.mem_append_right _ h)
theorem k_X4_spread_1 : Cond.fieldLink RX4 9 "JoinedLight$Rays" "heights" "[I" ∈ wsX4_spread := List.mem_of_getElem? (i := 1) rfl
theorem k_X4_spread_2 : Cond.methodLink RX4 85 Lib.Math.min.name ∈ wsX4_spread := List.mem_of_getElem? (i := 2) rfl
theorem k_X4_spread_3 : Cond.static Lib.Math.min.name ∈ wsX4_spread := List.mem_of_getElem? (i := 3) rfl
theorem k_X4_spread_4 : Cond.initialized "java/lang/Math" ∈ wsX4_spread := List.mem_of_getElem? (i := 4) rfl
theorem k_X4_spread_5 : Cond.code Lib.Math.min.name Lib.Math.min.code 2 (some .int) ∈ wsX4_spread := List.mem_of_getElem? (i := 5) rfl
theorem k_X4_spread_6 : Cond.methodLink RX4 88 Lib.Math.max.name ∈ wsX4_spread := List.mem_of_getElem? (i := 6) rfl
theorem k_X4_spread_7 : Cond.static Lib.Math.max.name ∈ wsX4_spread := List.mem_of_getElem? (i := 7) rfl
theorem k_X4_spread_8 : Cond.code Lib.Math.max.name Lib.Math.max.code 2 (some .int) ∈ wsX4_spread := List.mem_of_getElem? (i := 8) rfl
abbrev rm_X4_spread : Room := { frames := 1, cells := 0, slots := 0, locals := 21 }
set_option maxHeartbeats 4000000 in
set_option maxRecDepth 100000 in
theorem c_X4_spread (l : Launch) (dC : Nat → ClassId) (dI : Nat → Nat → Nat) (cI cC cO : ClassId) (qS : Nat) (aS : Nat → Nat) (gS : zG)  (R : Int32) (hf : f_X4_spread gS = some R) : cR l (dC, dI) (zT cI cC cO) yX4_spread wsX4_spread rm_X4_spread [.ref qS] [(wX4 cI qS aS gS)] (some (.int R)) := by
  refine zR_in (cc := cX4_spread) (maxL := 4) (ret := (some .int)) (plainFor_of_name (by decide)) rfl (Nat.le_of_ble_eq_true rfl) ?_
  intro p e s m below meth c hx hb hml hr hlk hown hts hK hN hP ls hl
  have hl : lv_has ls 4 [(0, .ref qS)] := hl
  have w60 : ∀ (y1 : Int32) (y2 : Int32) (ls : Array Slot), f_X4_spread_60 gS   y1 y2 = some R → lv_has ls 4 [(1, .int y1), (2, .int y2)] → W p l e (headSpec wsX4_spread rm_X4_spread).room s m [.ref qS].toArray below meth c s.heap [] 0 0 (MQ below (zqR (some (.int R))) [.ref qS].toArray s 0 0 (fun _ => False)) (F0 m 60 ls []) := by
    intro y1 y2 ls hf hl
    unfold f_X4_spread_60 at hf
    refine lv_iload_n hx hb dX4_spread_60 rfl (lv_at hl 1 rfl) ?_
    refine lv_iload_n hx hb dX4_spread_61 rfl (lv_at hl 0 rfl) ?_
    refine lv_icmp_ge (tgt := 69) hx hb dX4_spread_62 (by decide) (fun c_8 => ?_) (fun c_8 => ?_)
    · have hf := zif_t hf c_8
      refine lv_iload_n hx hb dX4_spread_69 rfl (lv_at hl 1 rfl) ?_
      refine lv_iload_n hx hb dX4_spread_70 rfl (lv_at hl 0 rfl) ?_
      refine lv_isub hx hb dX4_spread_71 ?_
      exact zR_ret hx hb hr rfl hf hlk dX4_spread_72
    · have hf := zif_f hf c_8
      refine lv_iconst (v := (0 : Int32)) hx hb dX4_spread_65 (by decide) ?_
      refine lv_goto (tgt := 72) hx hb dX4_spread_66 (by decide) ?_
      exact zR_ret hx hb hr rfl hf hlk dX4_spread_72
  have w10 : ∀ (n10 : Nat) (y1 : Int32) (y2 : Int32) (y3 : Int32) (ls : Array Slot), f_X4_spread_10 gS  n10 y1 y2 y3 = some R → lv_has ls 4 [(0, .ref qS), (1, .int y1), (2, .int y2), (3, .int y3)] → W p l e (headSpec wsX4_spread rm_X4_spread).room s m [.ref qS].toArray below meth c s.heap [] 0 0 (MQ below (zqR (some (.int R))) [.ref qS].toArray s 0 0 (fun _ => False)) (F0 m 10 ls []) := by
    intro n10
    induction n10 with
    | zero =>
      intro y1 y2 y3 ls hf hl
      have hf : (none : Option (Int32)) = some R := hf
      cases hf
    | succ n10 ih10 =>
      intro y1 y2 y3 ls hf hl
      have hf : f_X4_spread_10_b gS  (f_X4_spread_10 gS  n10) y1 y2 y3 = some R := hf
      unfold f_X4_spread_10_b at hf
      refine lv_iload_n hx hb dX4_spread_10 rfl (lv_at hl 3 rfl) ?_
      refine lv_bipush (v := (8 : Int32)) hx hb dX4_spread_11 (by decide) ?_
      refine lv_icmp_ge (tgt := 60) hx hb dX4_spread_13 (by decide) (fun c_1 => ?_) (fun c_1 => ?_)
      · have hf := zif_t hf c_1
        exact w60  y1 y2 ls hf (lv_sub hl [1, 2] rfl)
      · have hf := zif_f hf c_1
        refine lv_aload_n hx hb dX4_spread_16 rfl (lv_at hl 0 rfl) ?_
        refine lv_iload_n hx hb dX4_spread_17 rfl (lv_at hl 3 rfl) ?_
        obtain ⟨R2, e_2, hf⟩ := zbind_ex hf
        refine z_callRi (va_runV (As := [.int y3]) (rest := []) ⟨hx, hb, hml, hown, hts⟩ (c_X4_has l dC dI cI cC cO qS aS gS y3 R2 e_2) (cwV 1 hts gX4_spread_X4_has rfl rfl rfl (by decide +kernel) ⟨Nat.le_of_ble_eq_true rfl, Nat.le_of_ble_eq_true rfl⟩) ⟨zpR_blind, va_recv hK hP (ci := 4) (q0 := 0) rfl rfl, z_useR hK hN hP [0] rfl⟩ rfl rfl hl.1 rfl (lv_room (Nat.le_of_ble_eq_true rfl)) dX4_spread_18 ⟨Nat.le_of_ble_eq_true rfl, Nat.le_of_ble_eq_true rfl⟩) ?_
        refine lv_if_eq (tgt := 60) hx hb dX4_spread_21 (by decide) (fun c_3 => ?_) (fun c_3 => ?_)
        · have hf := zif_t hf c_3
          exact w60  y1 y2 ls hf (lv_sub hl [1, 2] rfl)
        · have hf := zif_f hf c_3
          refine lv_aload_n hx hb dX4_spread_24 rfl (lv_at hl 0 rfl) ?_
          refine lv_iload_n hx hb dX4_spread_25 rfl (lv_at hl 3 rfl) ?_
          obtain ⟨R4, e_4, hf⟩ := zbind_ex hf
          refine z_callRi (va_runV (As := [.int y3]) (rest := []) ⟨hx, hb, hml, hown, hts⟩ (c_X4_comes l dC dI cI cC cO qS aS gS y3 R4 e_4) (cwV 1 hts gX4_spread_X4_comes rfl rfl rfl (by decide +kernel) ⟨Nat.le_of_ble_eq_true rfl, Nat.le_of_ble_eq_true rfl⟩) ⟨zpR_blind, va_recv hK hP (ci := 4) (q0 := 0) rfl rfl, z_useR hK hN hP [0] rfl⟩ rfl rfl hl.1 rfl (lv_room (Nat.le_of_ble_eq_true rfl)) dX4_spread_26 ⟨Nat.le_of_ble_eq_true rfl, Nat.le_of_ble_eq_true rfl⟩) ?_
          refine lv_if_eq (tgt := 54) hx hb dX4_spread_29 (by decide) (fun c_5 => ?_) (fun c_5 => ?_)
          · have hf := zif_t hf c_5
            refine lv_iinc (v := (y3 + (1 : Int32))) (lv' := [(3, .int (y3 + (1 : Int32))), (0, .ref qS), (1, .int y1), (2, .int y2)]) hx hb dX4_spread_54 hl (k := 3) rfl rfl (by decide) rfl (fun ls hl => ?_)
            refine lv_goto (tgt := 10) hx hb dX4_spread_57 (by decide) ?_
            exact ih10 y1 y2 (y3 + (1 : Int32)) ls hf (lv_sub hl [1, 2, 3, 0] rfl)
          · have hf := zif_f hf c_5
            refine lv_iload_n hx hb dX4_spread_32 rfl (lv_at hl 1 rfl) ?_
            refine lv_aload_n hx hb dX4_spread_33 rfl (lv_at hl 0 rfl) ?_
            refine va_get (D := (dC, dI)) (ci := 4) (v := .ref (aS 0)) (C := RX4) (T := TX4) (N := 5) hx hb hts u_X4_spread_X4 hown hK hP 0 rfl rfl 0 (by decide) (hts _ k_X4_spread_1) (fun _ h9 => h9) rfl dX4_spread_34 ?_
            refine lv_iload_n hx hb dX4_spread_37 rfl (lv_at hl 3 rfl) ?_
            obtain ⟨h_6, hf⟩ := zin_ex hf
            refine va_iald hx hb hK hP 1 0 rfl rfl h_6 dX4_spread_38 ?_
            refine va_mmin hx hb (hml.trans hl.1.symm) hown (hts _ k_X4_spread_2) (hts _ k_X4_spread_3) (hts _ k_X4_spread_4) (hts _ k_X4_spread_5) (Nat.le_of_ble_eq_true rfl) (Nat.le_of_ble_eq_true rfl) (Nat.le_of_ble_eq_true rfl) (Nat.le_of_ble_eq_true rfl) dX4_spread_39 ?_
            refine lv_istore_n (lv' := [(1, .int (if (gS 0 y3.toNatClampNeg) < y1 then (gS 0 y3.toNatClampNeg) else y1)), (0, .ref qS), (2, .int y2), (3, .int y3)]) hx hb dX4_spread_42 rfl hl (by decide) rfl (fun ls hl => ?_)
            refine lv_iload_n hx hb dX4_spread_43 rfl (lv_at hl 2 rfl) ?_
            refine lv_aload_n hx hb dX4_spread_44 rfl (lv_at hl 1 rfl) ?_
            refine va_get (D := (dC, dI)) (ci := 4) (v := .ref (aS 0)) (C := RX4) (T := TX4) (N := 5) hx hb hts u_X4_spread_X4 hown hK hP 0 rfl rfl 0 (by decide) (hts _ k_X4_spread_1) (fun _ h9 => h9) rfl dX4_spread_45 ?_
            refine lv_iload_n hx hb dX4_spread_48 rfl (lv_at hl 3 rfl) ?_
            obtain ⟨h_7, hf⟩ := zin_ex hf
            refine va_iald hx hb hK hP 1 0 rfl rfl h_7 dX4_spread_49 ?_
            refine va_mmax hx hb (hml.trans hl.1.symm) hown (hts _ k_X4_spread_6) (hts _ k_X4_spread_7) (hts _ k_X4_spread_4) (hts _ k_X4_spread_8) (Nat.le_of_ble_eq_true rfl) (Nat.le_of_ble_eq_true rfl) (Nat.le_of_ble_eq_true rfl) (Nat.le_of_ble_eq_true rfl) dX4_spread_50 ?_
            refine lv_istore_n (lv' := [(2, .int (if y2 < (gS 0 y3.toNatClampNeg) then (gS 0 y3.toNatClampNeg) else y2)), (1, .int (if (gS 0 y3.toNatClampNeg) < y1 then (gS 0 y3.toNatClampNeg) else y1)), (0, .ref qS), (3, .int y3)]) hx hb dX4_spread_53 rfl hl (by decide) rfl (fun ls hl => ?_)
            refine lv_iinc (v := (y3 + (1 : Int32))) (lv' := [(3, .int (y3 + (1 : Int32))), (2, .int (if y2 < (gS 0 y3.toNatClampNeg) then (gS 0 y3.toNatClampNeg) else y2)), (1, .int (if (gS 0 y3.toNatClampNeg) < y1 then (gS 0 y3.toNatClampNeg) else y1)), (0, .ref qS)]) hx hb dX4_spread_54 hl (k := 3) rfl rfl (by decide) rfl (fun ls hl => ?_)
            refine lv_goto (tgt := 10) hx hb dX4_spread_57 (by decide) ?_
            exact ih10 (if (gS 0 y3.toNatClampNeg) < y1 then (gS 0 y3.toNatClampNeg) else y1) (if y2 < (gS 0 y3.toNatClampNeg) then (gS 0 y3.toNatClampNeg) else y2) (y3 + (1 : Int32)) ls hf (lv_sub hl [3, 2, 1, 0] rfl)
  unfold f_X4_spread at hf
  refine lv_sipush (v := (999 : Int32)) hx hb dX4_spread_0 (by decide) ?_
  refine lv_istore_n (lv' := [(1, .int (999 : Int32)), (0, .ref qS)]) hx hb dX4_spread_3 rfl hl (by decide) rfl (fun ls hl => ?_)
  refine lv_sipush (v := (-999 : Int32)) hx hb dX4_spread_4 (by decide) ?_
  refine lv_istore_n (lv' := [(2, .int (-999 : Int32)), (1, .int (999 : Int32)), (0, .ref qS)]) hx hb dX4_spread_7 rfl hl (by decide) rfl (fun ls hl => ?_)
  refine lv_iconst (v := (0 : Int32)) hx hb dX4_spread_8 (by decide) ?_
  refine lv_istore_n (lv' := [(3, .int (0 : Int32)), (2, .int (-999 : Int32)), (1, .int (999 : Int32)), (0, .ref qS)]) hx hb dX4_spread_9 rfl hl (by decide) rfl (fun ls hl => ?_)
  exact w10 zfuel (999 : Int32) (-999 : Int32) (0 : Int32) ls hf (lv_sub hl [3, 2, 1, 0] rfl)

def f_X4_slopesAreSame_2_b (gS : zG)  (k2 : Int32 → Option (Int32)) (y1 : Int32) : Option (Int32) := (if (8 : Int32) ≤ y1 then (some ((1 : Int32))) else (zbind (f_X4_has gS y1) (fun R2 => (if R2 = 0 then (some ((1 : Int32))) else (zin y1 8 (zin (0 : Int32) 8 (if (gS 1 y1.toNatClampNeg) = (gS 1 (0 : Int32).toNatClampNeg) then (k2 (y1 + (1 : Int32))) else (some ((0 : Int32))))))))))
def f_X4_slopesAreSame_2 (gS : zG)  : Nat → Int32 → Option (Int32)
  | 0 => fun _ => none
  | n + 1 => f_X4_slopesAreSame_2_b gS  (f_X4_slopesAreSame_2 gS  n)
def f_X4_slopesAreSame (gS : zG)  : Option (Int32) := (f_X4_slopesAreSame_2 gS  zfuel (1 : Int32))
theorem u_X4_slopesAreSame_X4 : ∀ w ∈ u_ws RX4 TX4 5, w ∈ wsX4_slopesAreSame := fun w h => List.mem_cons_of_mem _ (List.mem_append_right _ h)
theorem k_X4_slopesAreSame_1 : Cond.fieldLink RX4 15 "JoinedLight$Rays" "slopes" "[I" ∈ wsX4_slopesAreSame := List.mem_of_getElem? (i := 1) rfl
abbrev rm_X4_slopesAreSame : Room := { frames := 1, cells := 0, slots := 0, locals := 21 }
set_option maxHeartbeats 4000000 in
set_option maxRecDepth 100000 in
theorem c_X4_slopesAreSame (l : Launch) (dC : Nat → ClassId) (dI : Nat → Nat → Nat) (cI cC cO : ClassId) (qS : Nat) (aS : Nat → Nat) (gS : zG)  (R : Int32) (hf : f_X4_slopesAreSame gS = some R) : cR l (dC, dI) (zT cI cC cO) yX4_slopesAreSame wsX4_slopesAreSame rm_X4_slopesAreSame [.ref qS] [(wX4 cI qS aS gS)] (some (.int R)) := by
  refine zR_in (cc := cX4_slopesAreSame) (maxL := 2) (ret := (some .boolean)) (plainFor_of_name (by decide)) rfl (Nat.le_of_ble_eq_true rfl) ?_
  intro p e s m below meth c hx hb hml hr hlk hown hts hK hN hP ls hl
  have hl : lv_has ls 2 [(0, .ref qS)] := hl
  have w2 : ∀ (n2 : Nat) (y1 : Int32) (ls : Array Slot), f_X4_slopesAreSame_2 gS  n2 y1 = some R → lv_has ls 2 [(0, .ref qS), (1, .int y1)] → W p l e (headSpec wsX4_slopesAreSame rm_X4_slopesAreSame).room s m [.ref qS].toArray below meth c s.heap [] 0 0 (MQ below (zqR (some (.int R))) [.ref qS].toArray s 0 0 (fun _ => False)) (F0 m 2 ls []) := by
    intro n2
    induction n2 with
    | zero =>
      intro y1 ls hf hl
      have hf : (none : Option (Int32)) = some R := hf
      cases hf
    | succ n2 ih2 =>
      intro y1 ls hf hl
      have hf : f_X4_slopesAreSame_2_b gS  (f_X4_slopesAreSame_2 gS  n2) y1 = some R := hf
      unfold f_X4_slopesAreSame_2_b at hf
      refine lv_iload_n hx hb dX4_slopesAreSame_2 rfl (lv_at hl 1 rfl) ?_
      refine lv_bipush (v := (8 : Int32)) hx hb dX4_slopesAreSame_3 (by decide) ?_
      refine lv_icmp_ge (tgt := 39) hx hb dX4_slopesAreSame_5 (by decide) (fun c_1 => ?_) (fun c_1 => ?_)
      · have hf := zif_t hf c_1
        refine lv_iconst (v := (1 : Int32)) hx hb dX4_slopesAreSame_39 (by decide) ?_
        exact zR_ret hx hb hr rfl hf hlk dX4_slopesAreSame_40
      · have hf := zif_f hf c_1
        refine lv_aload_n hx hb dX4_slopesAreSame_8 rfl (lv_at hl 0 rfl) ?_
        refine lv_iload_n hx hb dX4_slopesAreSame_9 rfl (lv_at hl 1 rfl) ?_
        obtain ⟨R2, e_2, hf⟩ := zbind_ex hf
        refine z_callRi (va_runV (As := [.int y1]) (rest := []) ⟨hx, hb, hml, hown, hts⟩ (c_X4_has l dC dI cI cC cO qS aS gS y1 R2 e_2) (cwV 1 hts gX4_slopesAreSame_X4_has rfl rfl rfl (by decide +kernel) ⟨Nat.le_of_ble_eq_true rfl, Nat.le_of_ble_eq_true rfl⟩) ⟨zpR_blind, va_recv hK hP (ci := 4) (q0 := 0) rfl rfl, z_useR hK hN hP [0] rfl⟩ rfl rfl hl.1 rfl (lv_room (Nat.le_of_ble_eq_true rfl)) dX4_slopesAreSame_10 ⟨Nat.le_of_ble_eq_true rfl, Nat.le_of_ble_eq_true rfl⟩) ?_
        refine lv_if_eq (tgt := 39) hx hb dX4_slopesAreSame_13 (by decide) (fun c_3 => ?_) (fun c_3 => ?_)
        · have hf := zif_t hf c_3
          refine lv_iconst (v := (1 : Int32)) hx hb dX4_slopesAreSame_39 (by decide) ?_
          exact zR_ret hx hb hr rfl hf hlk dX4_slopesAreSame_40
        · have hf := zif_f hf c_3
          refine lv_aload_n hx hb dX4_slopesAreSame_16 rfl (lv_at hl 0 rfl) ?_
          refine va_get (D := (dC, dI)) (ci := 4) (v := .ref (aS 1)) (C := RX4) (T := TX4) (N := 5) hx hb hts u_X4_slopesAreSame_X4 hown hK hP 0 rfl rfl 1 (by decide) (hts _ k_X4_slopesAreSame_1) (fun _ h9 => h9) rfl dX4_slopesAreSame_17 ?_
          refine lv_iload_n hx hb dX4_slopesAreSame_20 rfl (lv_at hl 1 rfl) ?_
          obtain ⟨h_4, hf⟩ := zin_ex hf
          refine va_iald hx hb hK hP 2 0 rfl rfl h_4 dX4_slopesAreSame_21 ?_
          refine lv_aload_n hx hb dX4_slopesAreSame_22 rfl (lv_at hl 0 rfl) ?_
          refine va_get (D := (dC, dI)) (ci := 4) (v := .ref (aS 1)) (C := RX4) (T := TX4) (N := 5) hx hb hts u_X4_slopesAreSame_X4 hown hK hP 0 rfl rfl 1 (by decide) (hts _ k_X4_slopesAreSame_1) (fun _ h9 => h9) rfl dX4_slopesAreSame_23 ?_
          refine lv_iconst (v := (0 : Int32)) hx hb dX4_slopesAreSame_26 (by decide) ?_
          obtain ⟨h_5, hf⟩ := zin_ex hf
          refine va_iald hx hb hK hP 2 0 rfl rfl h_5 dX4_slopesAreSame_27 ?_
          refine lv_icmp_eq (tgt := 33) hx hb dX4_slopesAreSame_28 (by decide) (fun c_6 => ?_) (fun c_6 => ?_)
          · have hf := zif_t hf c_6
            refine lv_iinc (v := (y1 + (1 : Int32))) (lv' := [(1, .int (y1 + (1 : Int32))), (0, .ref qS)]) hx hb dX4_slopesAreSame_33 hl (k := 1) rfl rfl (by decide) rfl (fun ls hl => ?_)
            refine lv_goto (tgt := 2) hx hb dX4_slopesAreSame_36 (by decide) ?_
            exact ih2 (y1 + (1 : Int32)) ls hf (lv_sub hl [1, 0] rfl)
          · have hf := zif_f hf c_6
            refine lv_iconst (v := (0 : Int32)) hx hb dX4_slopesAreSame_31 (by decide) ?_
            exact zR_ret hx hb hr rfl hf hlk dX4_slopesAreSame_32
  unfold f_X4_slopesAreSame at hf
  refine lv_iconst (v := (1 : Int32)) hx hb dX4_slopesAreSame_0 (by decide) ?_
  refine lv_istore_n (lv' := [(1, .int (1 : Int32)), (0, .ref qS)]) hx hb dX4_slopesAreSame_1 rfl hl (by decide) rfl (fun ls hl => ?_)
  exact w2 zfuel (1 : Int32) ls hf (lv_sub hl [1, 0] rfl)
