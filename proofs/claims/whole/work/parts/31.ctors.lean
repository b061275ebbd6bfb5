def iX0 : zG := fun k _ => if k = 9 then 20 else 0
def iX1 : zG := fun k _ => 0
def iX2 : zG := fun k _ => if k = 1 then -1 else 0
def iX3 : zG := fun k _ => 0
def iX4 : zG := fun k _ => 0
def iX5 : zG := fun k _ => 0
def iX6 : zG := fun k _ => 0
def iX7 : zG := gup (fun _ _ => 0) 0 (2 : Int32).toNatClampNeg 20
theorem u_X0_init_X0 : ∀ w ∈ u_ws RX0 TX0 10, w ∈ wsX0_init := fun w h => List.mem_cons_of_mem _ (List.mem_append_right _ h)
theorem k_X0_init_1 : Cond.methodLink RX0 3 objectInit ∈ wsX0_init := List.mem_of_getElem? (i := 1) rfl
theorem k_X0_init_2 : Cond.instanceMethod objectInit ∈ wsX0_init := List.mem_of_getElem? (i := 2) rfl
theorem k_X0_init_3 : Cond.code objectInit ⟨#[0xb1]⟩ 1 none ∈ wsX0_init := List.mem_of_getElem? (i := 3) rfl
theorem k_X0_init_4 : Cond.arrayClass .int ∈ wsX0_init := List.mem_of_getElem? (i := 4) rfl
theorem k_X0_init_5 : Cond.fieldLink RX0 9 "JoinedLight$Bench" "colours" "[I" ∈ wsX0_init := List.mem_of_getElem? (i := 5) rfl
theorem k_X0_init_6 : Cond.fieldLink RX0 15 "JoinedLight$Bench" "lights" "[I" ∈ wsX0_init := List.mem_of_getElem? (i := 6) rfl
theorem k_X0_init_7 : Cond.fieldLink RX0 18 "JoinedLight$Bench" "lineCount" "I" ∈ wsX0_init := List.mem_of_getElem? (i := 7) rfl
theorem k_X0_init_8 : Cond.fieldLink RX0 22 "JoinedLight$Bench" "places" "[I" ∈ wsX0_init := List.mem_of_getElem? (i := 8) rfl
theorem k_X0_init_9 : Cond.fieldLink RX0 25 "JoinedLight$Bench" "kinds" "[I" ∈ wsX0_init := List.mem_of_getElem? (i := 9) rfl
theorem k_X0_init_10 : Cond.fieldLink RX0 28 "JoinedLight$Bench" "firsts" "[I" ∈ wsX0_init := List.mem_of_getElem? (i := 10) rfl
theorem k_X0_init_11 : Cond.fieldLink RX0 31 "JoinedLight$Bench" "seconds" "[I" ∈ wsX0_init := List.mem_of_getElem? (i := 11) rfl
theorem k_X0_init_12 : Cond.fieldLink RX0 34 "JoinedLight$Bench" "turns" "[I" ∈ wsX0_init := List.mem_of_getElem? (i := 12) rfl
theorem k_X0_init_13 : Cond.fieldLink RX0 37 "JoinedLight$Bench" "thingCount" "I" ∈ wsX0_init := List.mem_of_getElem? (i := 13) rfl
theorem k_X0_init_14 : Cond.fieldLink RX0 40 "JoinedLight$Bench" "cellWidth" "I" ∈ wsX0_init := List.mem_of_getElem? (i := 14) rfl
abbrev rm_X0_init : Room := { frames := 1, cells := 7, slots := 56, locals := 20 }
set_option maxHeartbeats 4000000 in
set_option maxRecDepth 100000 in
theorem c_X0_init (l : Launch) (dC : Nat → ClassId) (dI : Nat → Nat → Nat) (cI cC cO : ClassId) (qS : Nat) : cE l (dC, dI) (zT cI cC cO) yX0_init wsX0_init rm_X0_init [.ref qS] [[(qS, .inr (0, [.null, .null, .int 0, .null, .null, .null, .null, .null, .int 0, .int 0]))]] (fun u : Nat → Nat => [(wX0 cI qS u iX0)]) (fun _ => True) none 7 56 := by
  refine zE_in (cc := cX0_init) (maxL := 1) (ret := none) (plainFor_of_name (by decide)) rfl (Nat.le_of_ble_eq_true rfl) ?_
  intro p e s m below meth c hx hb hml hr hlk hown hts hK hN hin A hA H locs hP hD hS ls hl
  have hl : lv_has ls 1 [(0, .ref qS)] := hl
  refine lv_aload_n hx hb dX0_init_0 rfl (lv_at hl 0 rfl) ?_
  refine W.objInit hx hb hown (hts _ k_X0_init_1) (hts _ k_X0_init_2) (hts _ k_X0_init_3) rfl (by rw [hml]; exact hl.1) rfl dX0_init_1 (Nat.le_of_ble_eq_true rfl) (Nat.le_of_ble_eq_true rfl) ?_
  refine W.eq (g2 := F0 m 4 ls []) rfl ?_
  refine lv_aload_n hx hb dX0_init_4 rfl (lv_at hl 0 rfl) ?_
  refine lv_bipush (v := (8 : Int32)) hx hb dX0_init_5 (by decide) ?_
  refine z_newi hx hb (hts _ k_X0_init_4) hK hP hD hS hA 8 (by decide) (by decide) (by decide) (Nat.le_of_ble_eq_true rfl) (Nat.le_of_ble_eq_true rfl) dX0_init_7 (fun q1 H hP hD hS => ?_)
  have hP : va_P (dC, dI) vwCl ([[(qS, .inr (0, [.null, .null, .int 0, .null, .null, .null, .null, .null, .int 0, .int 0]))], [(q1, .inl (cI, 8, .inl (fun _ => 0)))]] : List va_W).flatten H := hP
  have hD : va_D A ([[(qS, .inr (0, [.null, .null, .int 0, .null, .null, .null, .null, .null, .int 0, .int 0]))], [(q1, .inl (cI, 8, .inl (fun _ => 0)))]] : List va_W).flatten := hD
  refine z_putF (gs' := [[(qS, .inr (0, [.ref q1, .null, .int 0, .null, .null, .null, .null, .null, .int 0, .int 0]))], [(q1, .inl (cI, 8, .inl (fun _ => 0)))]]) (D := (dC, dI)) (ci := 0) (ty := .array .int) (C := RX0) (T := TX0) (N := 10) hx hb hts u_X0_init_X0 tyX0 tyX0_ok nmX0 hown hK hP hD hS 0 rfl rfl 0 (by decide) (hts _ k_X0_init_5) (fun _ h9 => h9) rfl hin rfl (by decide +kernel) rfl rfl (Nat.le_of_ble_eq_true rfl) rfl dX0_init_9 (fun H locs hP hD hS => ?_)
  refine lv_aload_n hx hb dX0_init_12 rfl (lv_at hl 0 rfl) ?_
  refine lv_bipush (v := (8 : Int32)) hx hb dX0_init_13 (by decide) ?_
  refine z_newi hx hb (hts _ k_X0_init_4) hK hP hD hS hA 8 (by decide) (by decide) (by decide) (Nat.le_of_ble_eq_true rfl) (Nat.le_of_ble_eq_true rfl) dX0_init_15 (fun q2 H hP hD hS => ?_)
  have hP : va_P (dC, dI) vwCl ([[(qS, .inr (0, [.ref q1, .null, .int 0, .null, .null, .null, .null, .null, .int 0, .int 0]))], [(q1, .inl (cI, 8, .inl (fun _ => 0)))], [(q2, .inl (cI, 8, .inl (fun _ => 0)))]] : List va_W).flatten H := hP
  have hD : va_D A ([[(qS, .inr (0, [.ref q1, .null, .int 0, .null, .null, .null, .null, .null, .int 0, .int 0]))], [(q1, .inl (cI, 8, .inl (fun _ => 0)))], [(q2, .inl (cI, 8, .inl (fun _ => 0)))]] : List va_W).flatten := hD
  refine z_putF (gs' := [[(qS, .inr (0, [.ref q1, .ref q2, .int 0, .null, .null, .null, .null, .null, .int 0, .int 0]))], [(q1, .inl (cI, 8, .inl (fun _ => 0)))], [(q2, .inl (cI, 8, .inl (fun _ => 0)))]]) (D := (dC, dI)) (ci := 0) (ty := .array .int) (C := RX0) (T := TX0) (N := 10) hx hb hts u_X0_init_X0 tyX0 tyX0_ok nmX0 hown hK hP hD hS 0 rfl rfl 1 (by decide) (hts _ k_X0_init_6) (fun _ h9 => h9) rfl hin rfl (by decide +kernel) rfl rfl (Nat.le_of_ble_eq_true rfl) rfl dX0_init_17 (fun H locs hP hD hS => ?_)
  refine lv_aload_n hx hb dX0_init_20 rfl (lv_at hl 0 rfl) ?_
  refine lv_iconst (v := (0 : Int32)) hx hb dX0_init_21 (by decide) ?_
  refine z_put (gs' := [[(qS, .inr (0, [.ref q1, .ref q2, .int (0 : Int32), .null, .null, .null, .null, .null, .int 0, .int 0]))], [(q1, .inl (cI, 8, .inl (fun _ => 0)))], [(q2, .inl (cI, 8, .inl (fun _ => 0)))]]) (D := (dC, dI)) (ci := 0) (ty := .int) (C := RX0) (T := TX0) (N := 10) hx hb hts u_X0_init_X0 tyX0 tyX0_ok nmX0 hown hK hP hD hS 0 rfl rfl 2 (by decide) (hts _ k_X0_init_7) (fun _ h9 => h9) rfl (by decide +kernel) rfl rfl (Nat.le_of_ble_eq_true rfl) rfl dX0_init_22 (fun H locs hP hD hS => ?_)
  refine lv_aload_n hx hb dX0_init_25 rfl (lv_at hl 0 rfl) ?_
  refine lv_bipush (v := (8 : Int32)) hx hb dX0_init_26 (by decide) ?_
  refine z_newi hx hb (hts _ k_X0_init_4) hK hP hD hS hA 8 (by decide) (by decide) (by decide) (Nat.le_of_ble_eq_true rfl) (Nat.le_of_ble_eq_true rfl) dX0_init_28 (fun q3 H hP hD hS => ?_)
  have hP : va_P (dC, dI) vwCl ([[(qS, .inr (0, [.ref q1, .ref q2, .int (0 : Int32), .null, .null, .null, .null, .null, .int 0, .int 0]))], [(q1, .inl (cI, 8, .inl (fun _ => 0)))], [(q2, .inl (cI, 8, .inl (fun _ => 0)))], [(q3, .inl (cI, 8, .inl (fun _ => 0)))]] : List va_W).flatten H := hP
  have hD : va_D A ([[(qS, .inr (0, [.ref q1, .ref q2, .int (0 : Int32), .null, .null, .null, .null, .null, .int 0, .int 0]))], [(q1, .inl (cI, 8, .inl (fun _ => 0)))], [(q2, .inl (cI, 8, .inl (fun _ => 0)))], [(q3, .inl (cI, 8, .inl (fun _ => 0)))]] : List va_W).flatten := hD
  refine z_putF (gs' := [[(qS, .inr (0, [.ref q1, .ref q2, .int (0 : Int32), .ref q3, .null, .null, .null, .null, .int 0, .int 0]))], [(q1, .inl (cI, 8, .inl (fun _ => 0)))], [(q2, .inl (cI, 8, .inl (fun _ => 0)))], [(q3, .inl (cI, 8, .inl (fun _ => 0)))]]) (D := (dC, dI)) (ci := 0) (ty := .array .int) (C := RX0) (T := TX0) (N := 10) hx hb hts u_X0_init_X0 tyX0 tyX0_ok nmX0 hown hK hP hD hS 0 rfl rfl 3 (by decide) (hts _ k_X0_init_8) (fun _ h9 => h9) rfl hin rfl (by decide +kernel) rfl rfl (Nat.le_of_ble_eq_true rfl) rfl dX0_init_30 (fun H locs hP hD hS => ?_)
  refine lv_aload_n hx hb dX0_init_33 rfl (lv_at hl 0 rfl) ?_
  refine lv_bipush (v := (8 : Int32)) hx hb dX0_init_34 (by decide) ?_
  refine z_newi hx hb (hts _ k_X0_init_4) hK hP hD hS hA 8 (by decide) (by decide) (by decide) (Nat.le_of_ble_eq_true rfl) (Nat.le_of_ble_eq_true rfl) dX0_init_36 (fun q4 H hP hD hS => ?_)
  have hP : va_P (dC, dI) vwCl ([[(qS, .inr (0, [.ref q1, .ref q2, .int (0 : Int32), .ref q3, .null, .null, .null, .null, .int 0, .int 0]))], [(q1, .inl (cI, 8, .inl (fun _ => 0)))], [(q2, .inl (cI, 8, .inl (fun _ => 0)))], [(q3, .inl (cI, 8, .inl (fun _ => 0)))], [(q4, .inl (cI, 8, .inl (fun _ => 0)))]] : List va_W).flatten H := hP
  have hD : va_D A ([[(qS, .inr (0, [.ref q1, .ref q2, .int (0 : Int32), .ref q3, .null, .null, .null, .null, .int 0, .int 0]))], [(q1, .inl (cI, 8, .inl (fun _ => 0)))], [(q2, .inl (cI, 8, .inl (fun _ => 0)))], [(q3, .inl (cI, 8, .inl (fun _ => 0)))], [(q4, .inl (cI, 8, .inl (fun _ => 0)))]] : List va_W).flatten := hD
  refine z_putF (gs' := [[(qS, .inr (0, [.ref q1, .ref q2, .int (0 : Int32), .ref q3, .ref q4, .null, .null, .null, .int 0, .int 0]))], [(q1, .inl (cI, 8, .inl (fun _ => 0)))], [(q2, .inl (cI, 8, .inl (fun _ => 0)))], [(q3, .inl (cI, 8, .inl (fun _ => 0)))], [(q4, .inl (cI, 8, .inl (fun _ => 0)))]]) (D := (dC, dI)) (ci := 0) (ty := .array .int) (C := RX0) (T := TX0) (N := 10) hx hb hts u_X0_init_X0 tyX0 tyX0_ok nmX0 hown hK hP hD hS 0 rfl rfl 4 (by decide) (hts _ k_X0_init_9) (fun _ h9 => h9) rfl hin rfl (by decide +kernel) rfl rfl (Nat.le_of_ble_eq_true rfl) rfl dX0_init_38 (fun H locs hP hD hS => ?_)
  refine lv_aload_n hx hb dX0_init_41 rfl (lv_at hl 0 rfl) ?_
  refine lv_bipush (v := (8 : Int32)) hx hb dX0_init_42 (by decide) ?_
  refine z_newi hx hb (hts _ k_X0_init_4) hK hP hD hS hA 8 (by decide) (by decide) (by decide) (Nat.le_of_ble_eq_true rfl) (Nat.le_of_ble_eq_true rfl) dX0_init_44 (fun q5 H hP hD hS => ?_)
  have hP : va_P (dC, dI) vwCl ([[(qS, .inr (0, [.ref q1, .ref q2, .int (0 : Int32), .ref q3, .ref q4, .null, .null, .null, .int 0, .int 0]))], [(q1, .inl (cI, 8, .inl (fun _ => 0)))], [(q2, .inl (cI, 8, .inl (fun _ => 0)))], [(q3, .inl (cI, 8, .inl (fun _ => 0)))], [(q4, .inl (cI, 8, .inl (fun _ => 0)))], [(q5, .inl (cI, 8, .inl (fun _ => 0)))]] : List va_W).flatten H := hP
  have hD : va_D A ([[(qS, .inr (0, [.ref q1, .ref q2, .int (0 : Int32), .ref q3, .ref q4, .null, .null, .null, .int 0, .int 0]))], [(q1, .inl (cI, 8, .inl (fun _ => 0)))], [(q2, .inl (cI, 8, .inl (fun _ => 0)))], [(q3, .inl (cI, 8, .inl (fun _ => 0)))], [(q4, .inl (cI, 8, .inl (fun _ => 0)))], [(q5, .inl (cI, 8, .inl (fun _ => 0)))]] : List va_W).flatten := hD
  refine z_putF (gs' := [[(qS, .inr (0, [.ref q1, .ref q2, .int (0 : Int32), .ref q3, .ref q4, .ref q5, .null, .null, .int 0, .int 0]))], [(q1, .inl (cI, 8, .inl (fun _ => 0)))], [(q2, .inl (cI, 8, .inl (fun _ => 0)))], [(q3, .inl (cI, 8, .inl (fun _ => 0)))], [(q4, .inl (cI, 8, .inl (fun _ => 0)))], [(q5, .inl (cI, 8, .inl (fun _ => 0)))]]) (D := (dC, dI)) (ci := 0) (ty := .array .int) (C := RX0) (T := TX0) (N := 10) hx hb hts u_X0_init_X0 tyX0 tyX0_ok nmX0 hown hK hP hD hS 0 rfl rfl 5 (by decide) (hts _ k_X0_init_10) (fun _ h9 => h9) rfl hin rfl (by decide +kernel) rfl rfl (Nat.le_of_ble_eq_true rfl) rfl dX0_init_46 (fun H locs hP hD hS => ?_)
  refine lv_aload_n hx hb dX0_init_49 rfl (lv_at hl 0 rfl) ?_
  refine lv_bipush (v := (8 : Int32)) hx hb dX0_init_50 (by decide) ?_
  refine z_newi hx hb (hts _ k_X0_init_4) hK hP hD hS hA 8 (by decide) (by decide) (by decide) (Nat.le_of_ble_eq_true rfl) (Nat.le_of_ble_eq_true rfl) dX0_init_52 (fun q6 H hP hD hS => ?_)
  have hP : va_P (dC, dI) vwCl ([[(qS, .inr (0, [.ref q1, .ref q2, .int (0 : Int32), .ref q3, .ref q4, .ref q5, .null, .null, .int 0, .int 0]))], [(q1, .inl (cI, 8, .inl (fun _ => 0)))], [(q2, .inl (cI, 8, .inl (fun _ => 0)))], [(q3, .inl (cI, 8, .inl (fun _ => 0)))], [(q4, .inl (cI, 8, .inl (fun _ => 0)))], [(q5, .inl (cI, 8, .inl (fun _ => 0)))], [(q6, .inl (cI, 8, .inl (fun _ => 0)))]] : List va_W).flatten H := hP
  have hD : va_D A ([[(qS, .inr (0, [.ref q1, .ref q2, .int (0 : Int32), .ref q3, .ref q4, .ref q5, .null, .null, .int 0, .int 0]))], [(q1, .inl (cI, 8, .inl (fun _ => 0)))], [(q2, .inl (cI, 8, .inl (fun _ => 0)))], [(q3, .inl (cI, 8, .inl (fun _ => 0)))], [(q4, .inl (cI, 8, .inl (fun _ => 0)))], [(q5, .inl (cI, 8, .inl (fun _ => 0)))], [(q6, .inl (cI, 8, .inl (fun _ => 0)))]] : List va_W).flatten := hD
  refine z_putF (gs' := [[(qS, .inr (0, [.ref q1, .ref q2, .int (0 : Int32), .ref q3, .ref q4, .ref q5, .ref q6, .null, .int 0, .int 0]))], [(q1, .inl (cI, 8, .inl (fun _ => 0)))], [(q2, .inl (cI, 8, .inl (fun _ => 0)))], [(q3, .inl (cI, 8, .inl (fun _ => 0)))], [(q4, .inl (cI, 8, .inl (fun _ => 0)))], [(q5, .inl (cI, 8, .inl (fun _ => 0)))], [(q6, .inl (cI, 8, .inl (fun _ => 0)))]]) (D := (dC, dI)) (ci := 0) (ty := .array .int) (C := RX0) (T := TX0) (N := 10) hx hb hts u_X0_init_X0 tyX0 tyX0_ok nmX0 hown hK hP hD hS 0 rfl rfl 6 (by decide) (hts _ k_X0_init_11) (fun _ h9 => h9) rfl hin rfl (by decide +kernel) rfl rfl (Nat.le_of_ble_eq_true rfl) rfl dX0_init_54 (fun H locs hP hD hS => ?_)
  refine lv_aload_n hx hb dX0_init_57 rfl (lv_at hl 0 rfl) ?_
  refine lv_bipush (v := (8 : Int32)) hx hb dX0_init_58 (by decide) ?_
  refine z_newi hx hb (hts _ k_X0_init_4) hK hP hD hS hA 8 (by decide) (by decide) (by decide) (Nat.le_of_ble_eq_true rfl) (Nat.le_of_ble_eq_true rfl) dX0_init_60 (fun q7 H hP hD hS => ?_)
  have hP : va_P (dC, dI) vwCl ([[(qS, .inr (0, [.ref q1, .ref q2, .int (0 : Int32), .ref q3, .ref q4, .ref q5, .ref q6, .null, .int 0, .int 0]))], [(q1, .inl (cI, 8, .inl (fun _ => 0)))], [(q2, .inl (cI, 8, .inl (fun _ => 0)))], [(q3, .inl (cI, 8, .inl (fun _ => 0)))], [(q4, .inl (cI, 8, .inl (fun _ => 0)))], [(q5, .inl (cI, 8, .inl (fun _ => 0)))], [(q6, .inl (cI, 8, .inl (fun _ => 0)))], [(q7, .inl (cI, 8, .inl (fun _ => 0)))]] : List va_W).flatten H := hP
  have hD : va_D A ([[(qS, .inr (0, [.ref q1, .ref q2, .int (0 : Int32), .ref q3, .ref q4, .ref q5, .ref q6, .null, .int 0, .int 0]))], [(q1, .inl (cI, 8, .inl (fun _ => 0)))], [(q2, .inl (cI, 8, .inl (fun _ => 0)))], [(q3, .inl (cI, 8, .inl (fun _ => 0)))], [(q4, .inl (cI, 8, .inl (fun _ => 0)))], [(q5, .inl (cI, 8, .inl (fun _ => 0)))], [(q6, .inl (cI, 8, .inl (fun _ => 0)))], [(q7, .inl (cI, 8, .inl (fun _ => 0)))]] : List va_W).flatten := hD
  refine z_putF (gs' := [[(qS, .inr (0, [.ref q1, .ref q2, .int (0 : Int32), .ref q3, .ref q4, .ref q5, .ref q6, .ref q7, .int 0, .int 0]))], [(q1, .inl (cI, 8, .inl (fun _ => 0)))], [(q2, .inl (cI, 8, .inl (fun _ => 0)))], [(q3, .inl (cI, 8, .inl (fun _ => 0)))], [(q4, .inl (cI, 8, .inl (fun _ => 0)))], [(q5, .inl (cI, 8, .inl (fun _ => 0)))], [(q6, .inl (cI, 8, .inl (fun _ => 0)))], [(q7, .inl (cI, 8, .inl (fun _ => 0)))]]) (D := (dC, dI)) (ci := 0) (ty := .array .int) (C := RX0) (T := TX0) (N := 10) hx hb hts u_X0_init_X0 tyX0 tyX0_ok nmX0 hown hK hP hD hS 0 rfl rfl 7 (by decide) (hts _ k_X0_init_12) (fun _ h9 => h9) rfl hin rfl (by decide +kernel) rfl rfl (Nat.le_of_ble_eq_true rfl) rfl dX0_init_62 (fun H locs hP hD hS => ?_)
  refine lv_aload_n hx hb dX0_init_65 rfl (lv_at hl 0 rfl) ?_
  refine lv_iconst (v := (0 : Int32)) hx hb dX0_init_66 (by decide) ?_
  refine z_put (gs' := [[(qS, .inr (0, [.ref q1, .ref q2, .int (0 : Int32), .ref q3, .ref q4, .ref q5, .ref q6, .ref q7, .int (0 : Int32), .int 0]))], [(q1, .inl (cI, 8, .inl (fun _ => 0)))], [(q2, .inl (cI, 8, .inl (fun _ => 0)))], [(q3, .inl (cI, 8, .inl (fun _ => 0)))], [(q4, .inl (cI, 8, .inl (fun _ => 0)))], [(q5, .inl (cI, 8, .inl (fun _ => 0)))], [(q6, .inl (cI, 8, .inl (fun _ => 0)))], [(q7, .inl (cI, 8, .inl (fun _ => 0)))]]) (D := (dC, dI)) (ci := 0) (ty := .int) (C := RX0) (T := TX0) (N := 10) hx hb hts u_X0_init_X0 tyX0 tyX0_ok nmX0 hown hK hP hD hS 0 rfl rfl 8 (by decide) (hts _ k_X0_init_13) (fun _ h9 => h9) rfl (by decide +kernel) rfl rfl (Nat.le_of_ble_eq_true rfl) rfl dX0_init_67 (fun H locs hP hD hS => ?_)
  refine lv_aload_n hx hb dX0_init_70 rfl (lv_at hl 0 rfl) ?_
  refine lv_bipush (v := (20 : Int32)) hx hb dX0_init_71 (by decide) ?_
  refine z_put (gs' := [[(qS, .inr (0, [.ref q1, .ref q2, .int (0 : Int32), .ref q3, .ref q4, .ref q5, .ref q6, .ref q7, .int (0 : Int32), .int (20 : Int32)]))], [(q1, .inl (cI, 8, .inl (fun _ => 0)))], [(q2, .inl (cI, 8, .inl (fun _ => 0)))], [(q3, .inl (cI, 8, .inl (fun _ => 0)))], [(q4, .inl (cI, 8, .inl (fun _ => 0)))], [(q5, .inl (cI, 8, .inl (fun _ => 0)))], [(q6, .inl (cI, 8, .inl (fun _ => 0)))], [(q7, .inl (cI, 8, .inl (fun _ => 0)))]]) (D := (dC, dI)) (ci := 0) (ty := .int) (C := RX0) (T := TX0) (N := 10) hx hb hts u_X0_init_X0 tyX0 tyX0_ok nmX0 hown hK hP hD hS 0 rfl rfl 9 (by decide) (hts _ k_X0_init_14) (fun _ h9 => h9) rfl (by decide +kernel) rfl rfl (Nat.le_of_ble_eq_true rfl) rfl dX0_init_73 (fun H locs hP hD hS => ?_)
  exact zE_vret (gs := [[(qS, .inr (0, [.ref q1, .ref q2, .int (0 : Int32), .ref q3, .ref q4, .ref q5, .ref q6, .ref q7, .int (0 : Int32), .int (20 : Int32)]))], [(q1, .inl (cI, 8, .inl (fun _ => 0)))], [(q2, .inl (cI, 8, .inl (fun _ => 0)))], [(q3, .inl (cI, 8, .inl (fun _ => 0)))], [(q4, .inl (cI, 8, .inl (fun _ => 0)))], [(q5, .inl (cI, 8, .inl (fun _ => 0)))], [(q6, .inl (cI, 8, .inl (fun _ => 0)))], [(q7, .inl (cI, 8, .inl (fun _ => 0)))]]) (u := (fun k => if k = 0 then q1 else if k = 1 then q2 else if k = 3 then q3 else if k = 4 then q4 else if k = 5 then q5 else if k = 6 then q6 else if k = 7 then q7 else 0 : Nat → Nat)) hx hb hr hP hD hS ⟨rfl, trivial, rfl⟩ hlk dX0_init_76

theorem u_X1_init_X1 : ∀ w ∈ u_ws RX1 TX1 4, w ∈ wsX1_init := fun w h => List.mem_cons_of_mem _ (List.mem_append_right _ h)
theorem k_X1_init_1 : Cond.methodLink RX1 3 objectInit ∈ wsX1_init := List.mem_of_getElem? (i := 1) rfl
theorem k_X1_init_2 : Cond.instanceMethod objectInit ∈ wsX1_init := List.mem_of_getElem? (i := 2) rfl
theorem k_X1_init_3 : Cond.code objectInit ⟨#[0xb1]⟩ 1 none ∈ wsX1_init := List.mem_of_getElem? (i := 3) rfl
theorem k_X1_init_4 : Cond.arrayClass .int ∈ wsX1_init := List.mem_of_getElem? (i := 4) rfl
theorem k_X1_init_5 : Cond.fieldLink RX1 9 "JoinedLight$Cells" "numbers" "[I" ∈ wsX1_init := List.mem_of_getElem? (i := 5) rfl
theorem k_X1_init_6 : Cond.fieldLink RX1 15 "JoinedLight$Cells" "lights" "[I" ∈ wsX1_init := List.mem_of_getElem? (i := 6) rfl
theorem k_X1_init_7 : Cond.fieldLink RX1 18 "JoinedLight$Cells" "lines" "[I" ∈ wsX1_init := List.mem_of_getElem? (i := 7) rfl
theorem k_X1_init_8 : Cond.fieldLink RX1 21 "JoinedLight$Cells" "used" "I" ∈ wsX1_init := List.mem_of_getElem? (i := 8) rfl
abbrev rm_X1_init : Room := { frames := 1, cells := 3, slots := 24, locals := 20 }
set_option maxHeartbeats 4000000 in
set_option maxRecDepth 100000 in
theorem c_X1_init (l : Launch) (dC : Nat → ClassId) (dI : Nat → Nat → Nat) (cI cC cO : ClassId) (qS : Nat) : cE l (dC, dI) (zT cI cC cO) yX1_init wsX1_init rm_X1_init [.ref qS] [[(qS, .inr (1, [.null, .null, .null, .int 0]))]] (fun u : Nat → Nat => [(wX1 cI qS u iX1)]) (fun _ => True) none 3 24 := by
  refine zE_in (cc := cX1_init) (maxL := 1) (ret := none) (plainFor_of_name (by decide)) rfl (Nat.le_of_ble_eq_true rfl) ?_
  intro p e s m below meth c hx hb hml hr hlk hown hts hK hN hin A hA H locs hP hD hS ls hl
  have hl : lv_has ls 1 [(0, .ref qS)] := hl
  refine lv_aload_n hx hb dX1_init_0 rfl (lv_at hl 0 rfl) ?_
  refine W.objInit hx hb hown (hts _ k_X1_init_1) (hts _ k_X1_init_2) (hts _ k_X1_init_3) rfl (by rw [hml]; exact hl.1) rfl dX1_init_1 (Nat.le_of_ble_eq_true rfl) (Nat.le_of_ble_eq_true rfl) ?_
  refine W.eq (g2 := F0 m 4 ls []) rfl ?_
  refine lv_aload_n hx hb dX1_init_4 rfl (lv_at hl 0 rfl) ?_
  refine lv_bipush (v := (8 : Int32)) hx hb dX1_init_5 (by decide) ?_
  refine z_newi hx hb (hts _ k_X1_init_4) hK hP hD hS hA 8 (by decide) (by decide) (by decide) (Nat.le_of_ble_eq_true rfl) (Nat.le_of_ble_eq_true rfl) dX1_init_7 (fun q1 H hP hD hS => ?_)
  have hP : va_P (dC, dI) vwCl ([[(qS, .inr (1, [.null, .null, .null, .int 0]))], [(q1, .inl (cI, 8, .inl (fun _ => 0)))]] : List va_W).flatten H := hP
  have hD : va_D A ([[(qS, .inr (1, [.null, .null, .null, .int 0]))], [(q1, .inl (cI, 8, .inl (fun _ => 0)))]] : List va_W).flatten := hD
  refine z_putF (gs' := [[(qS, .inr (1, [.ref q1, .null, .null, .int 0]))], [(q1, .inl (cI, 8, .inl (fun _ => 0)))]]) (D := (dC, dI)) (ci := 1) (ty := .array .int) (C := RX1) (T := TX1) (N := 4) hx hb hts u_X1_init_X1 tyX1 tyX1_ok nmX1 hown hK hP hD hS 0 rfl rfl 0 (by decide) (hts _ k_X1_init_5) (fun _ h9 => h9) rfl hin rfl (by decide +kernel) rfl rfl (Nat.le_of_ble_eq_true rfl) rfl dX1_init_9 (fun H locs hP hD hS => ?_)
  refine lv_aload_n hx hb dX1_init_12 rfl (lv_at hl 0 rfl) ?_
  refine lv_bipush (v := (8 : Int32)) hx hb dX1_init_13 (by decide) ?_
  refine z_newi hx hb (hts _ k_X1_init_4) hK hP hD hS hA 8 (by decide) (by decide) (by decide) (Nat.le_of_ble_eq_true rfl) (Nat.le_of_ble_eq_true rfl) dX1_init_15 (fun q2 H hP hD hS => ?_)
  have hP : va_P (dC, dI) vwCl ([[(qS, .inr (1, [.ref q1, .null, .null, .int 0]))], [(q1, .inl (cI, 8, .inl (fun _ => 0)))], [(q2, .inl (cI, 8, .inl (fun _ => 0)))]] : List va_W).flatten H := hP
  have hD : va_D A ([[(qS, .inr (1, [.ref q1, .null, .null, .int 0]))], [(q1, .inl (cI, 8, .inl (fun _ => 0)))], [(q2, .inl (cI, 8, .inl (fun _ => 0)))]] : List va_W).flatten := hD
  refine z_putF (gs' := [[(qS, .inr (1, [.ref q1, .ref q2, .null, .int 0]))], [(q1, .inl (cI, 8, .inl (fun _ => 0)))], [(q2, .inl (cI, 8, .inl (fun _ => 0)))]]) (D := (dC, dI)) (ci := 1) (ty := .array .int) (C := RX1) (T := TX1) (N := 4) hx hb hts u_X1_init_X1 tyX1 tyX1_ok nmX1 hown hK hP hD hS 0 rfl rfl 1 (by decide) (hts _ k_X1_init_6) (fun _ h9 => h9) rfl hin rfl (by decide +kernel) rfl rfl (Nat.le_of_ble_eq_true rfl) rfl dX1_init_17 (fun H locs hP hD hS => ?_)
  refine lv_aload_n hx hb dX1_init_20 rfl (lv_at hl 0 rfl) ?_
  refine lv_bipush (v := (8 : Int32)) hx hb dX1_init_21 (by decide) ?_
  refine z_newi hx hb (hts _ k_X1_init_4) hK hP hD hS hA 8 (by decide) (by decide) (by decide) (Nat.le_of_ble_eq_true rfl) (Nat.le_of_ble_eq_true rfl) dX1_init_23 (fun q3 H hP hD hS => ?_)
  have hP : va_P (dC, dI) vwCl ([[(qS, .inr (1, [.ref q1, .ref q2, .null, .int 0]))], [(q1, .inl (cI, 8, .inl (fun _ => 0)))], [(q2, .inl (cI, 8, .inl (fun _ => 0)))], [(q3, .inl (cI, 8, .inl (fun _ => 0)))]] : List va_W).flatten H := hP
  have hD : va_D A ([[(qS, .inr (1, [.ref q1, .ref q2, .null, .int 0]))], [(q1, .inl (cI, 8, .inl (fun _ => 0)))], [(q2, .inl (cI, 8, .inl (fun _ => 0)))], [(q3, .inl (cI, 8, .inl (fun _ => 0)))]] : List va_W).flatten := hD
  refine z_putF (gs' := [[(qS, .inr (1, [.ref q1, .ref q2, .ref q3, .int 0]))], [(q1, .inl (cI, 8, .inl (fun _ => 0)))], [(q2, .inl (cI, 8, .inl (fun _ => 0)))], [(q3, .inl (cI, 8, .inl (fun _ => 0)))]]) (D := (dC, dI)) (ci := 1) (ty := .array .int) (C := RX1) (T := TX1) (N := 4) hx hb hts u_X1_init_X1 tyX1 tyX1_ok nmX1 hown hK hP hD hS 0 rfl rfl 2 (by decide) (hts _ k_X1_init_7) (fun _ h9 => h9) rfl hin rfl (by decide +kernel) rfl rfl (Nat.le_of_ble_eq_true rfl) rfl dX1_init_25 (fun H locs hP hD hS => ?_)
  refine lv_aload_n hx hb dX1_init_28 rfl (lv_at hl 0 rfl) ?_
  refine lv_iconst (v := (0 : Int32)) hx hb dX1_init_29 (by decide) ?_
  refine z_put (gs' := [[(qS, .inr (1, [.ref q1, .ref q2, .ref q3, .int (0 : Int32)]))], [(q1, .inl (cI, 8, .inl (fun _ => 0)))], [(q2, .inl (cI, 8, .inl (fun _ => 0)))], [(q3, .inl (cI, 8, .inl (fun _ => 0)))]]) (D := (dC, dI)) (ci := 1) (ty := .int) (C := RX1) (T := TX1) (N := 4) hx hb hts u_X1_init_X1 tyX1 tyX1_ok nmX1 hown hK hP hD hS 0 rfl rfl 3 (by decide) (hts _ k_X1_init_8) (fun _ h9 => h9) rfl (by decide +kernel) rfl rfl (Nat.le_of_ble_eq_true rfl) rfl dX1_init_30 (fun H locs hP hD hS => ?_)
  exact zE_vret (gs := [[(qS, .inr (1, [.ref q1, .ref q2, .ref q3, .int (0 : Int32)]))], [(q1, .inl (cI, 8, .inl (fun _ => 0)))], [(q2, .inl (cI, 8, .inl (fun _ => 0)))], [(q3, .inl (cI, 8, .inl (fun _ => 0)))]]) (u := (fun k => if k = 0 then q1 else if k = 1 then q2 else if k = 2 then q3 else 0 : Nat → Nat)) hx hb hr hP hD hS ⟨rfl, trivial, rfl⟩ hlk dX1_init_33

theorem u_X2_init_X2 : ∀ w ∈ u_ws RX2 TX2 3, w ∈ wsX2_init := fun w h => List.mem_cons_of_mem _ (List.mem_append_right _ h)
theorem k_X2_init_1 : Cond.methodLink RX2 1 objectInit ∈ wsX2_init := List.mem_of_getElem? (i := 1) rfl
theorem k_X2_init_2 : Cond.instanceMethod objectInit ∈ wsX2_init := List.mem_of_getElem? (i := 2) rfl
theorem k_X2_init_3 : Cond.code objectInit ⟨#[0xb1]⟩ 1 none ∈ wsX2_init := List.mem_of_getElem? (i := 3) rfl
theorem k_X2_init_4 : Cond.fieldLink RX2 7 "JoinedLight$Choice" "value" "I" ∈ wsX2_init := List.mem_of_getElem? (i := 4) rfl
theorem k_X2_init_5 : Cond.fieldLink RX2 13 "JoinedLight$Choice" "arrivals" "I" ∈ wsX2_init := List.mem_of_getElem? (i := 5) rfl
theorem k_X2_init_6 : Cond.fieldLink RX2 16 "JoinedLight$Choice" "spread" "I" ∈ wsX2_init := List.mem_of_getElem? (i := 6) rfl
abbrev rm_X2_init : Room := { frames := 1, cells := 0, slots := 0, locals := 20 }
set_option maxHeartbeats 4000000 in
set_option maxRecDepth 100000 in
theorem c_X2_init (l : Launch) (dC : Nat → ClassId) (dI : Nat → Nat → Nat) (cI cC cO : ClassId) (qS : Nat) : cE l (dC, dI) (zT cI cC cO) yX2_init wsX2_init rm_X2_init [.ref qS] [[(qS, .inr (2, [.int 0, .int 0, .int 0]))]] (fun u : Nat → Nat => [(wX2 qS iX2)]) (fun _ => True) none 0 0 := by
  refine zE_in (cc := cX2_init) (maxL := 1) (ret := none) (plainFor_of_name (by decide)) rfl (Nat.le_of_ble_eq_true rfl) ?_
  intro p e s m below meth c hx hb hml hr hlk hown hts hK hN hin A hA H locs hP hD hS ls hl
  have hl : lv_has ls 1 [(0, .ref qS)] := hl
  refine lv_aload_n hx hb dX2_init_0 rfl (lv_at hl 0 rfl) ?_
  refine W.objInit hx hb hown (hts _ k_X2_init_1) (hts _ k_X2_init_2) (hts _ k_X2_init_3) rfl (by rw [hml]; exact hl.1) rfl dX2_init_1 (Nat.le_of_ble_eq_true rfl) (Nat.le_of_ble_eq_true rfl) ?_
  refine W.eq (g2 := F0 m 4 ls []) rfl ?_
  refine lv_aload_n hx hb dX2_init_4 rfl (lv_at hl 0 rfl) ?_
  refine lv_iconst (v := (0 : Int32)) hx hb dX2_init_5 (by decide) ?_
  refine z_put (gs' := [[(qS, .inr (2, [.int (0 : Int32), .int 0, .int 0]))]]) (D := (dC, dI)) (ci := 2) (ty := .int) (C := RX2) (T := TX2) (N := 3) hx hb hts u_X2_init_X2 tyX2 tyX2_ok nmX2 hown hK hP hD hS 0 rfl rfl 0 (by decide) (hts _ k_X2_init_4) (fun _ h9 => h9) rfl (by decide +kernel) rfl rfl (Nat.le_of_ble_eq_true rfl) rfl dX2_init_6 (fun H locs hP hD hS => ?_)
  refine lv_aload_n hx hb dX2_init_9 rfl (lv_at hl 0 rfl) ?_
  refine lv_iconst (v := (-1 : Int32)) hx hb dX2_init_10 (by decide) ?_
  refine z_put (gs' := [[(qS, .inr (2, [.int (0 : Int32), .int (-1 : Int32), .int 0]))]]) (D := (dC, dI)) (ci := 2) (ty := .int) (C := RX2) (T := TX2) (N := 3) hx hb hts u_X2_init_X2 tyX2 tyX2_ok nmX2 hown hK hP hD hS 0 rfl rfl 1 (by decide) (hts _ k_X2_init_5) (fun _ h9 => h9) rfl (by decide +kernel) rfl rfl (Nat.le_of_ble_eq_true rfl) rfl dX2_init_11 (fun H locs hP hD hS => ?_)
  refine lv_aload_n hx hb dX2_init_14 rfl (lv_at hl 0 rfl) ?_
  refine lv_iconst (v := (0 : Int32)) hx hb dX2_init_15 (by decide) ?_
  refine z_put (gs' := [[(qS, .inr (2, [.int (0 : Int32), .int (-1 : Int32), .int (0 : Int32)]))]]) (D := (dC, dI)) (ci := 2) (ty := .int) (C := RX2) (T := TX2) (N := 3) hx hb hts u_X2_init_X2 tyX2 tyX2_ok nmX2 hown hK hP hD hS 0 rfl rfl 2 (by decide) (hts _ k_X2_init_6) (fun _ h9 => h9) rfl (by decide +kernel) rfl rfl (Nat.le_of_ble_eq_true rfl) rfl dX2_init_16 (fun H locs hP hD hS => ?_)
  exact zE_vret (gs := [[(qS, .inr (2, [.int (0 : Int32), .int (-1 : Int32), .int (0 : Int32)]))]]) (u := (fun k => 0 : Nat → Nat)) hx hb hr hP hD hS ⟨rfl, trivial, rfl⟩ hlk dX2_init_19

theorem u_X3_init_X3 : ∀ w ∈ u_ws RX3 TX3 2, w ∈ wsX3_init := fun w h => List.mem_cons_of_mem _ (List.mem_append_right _ h)
theorem k_X3_init_1 : Cond.methodLink RX3 3 objectInit ∈ wsX3_init := List.mem_of_getElem? (i := 1) rfl
theorem k_X3_init_2 : Cond.instanceMethod objectInit ∈ wsX3_init := List.mem_of_getElem? (i := 2) rfl
theorem k_X3_init_3 : Cond.code objectInit ⟨#[0xb1]⟩ 1 none ∈ wsX3_init := List.mem_of_getElem? (i := 3) rfl
theorem k_X3_init_4 : Cond.classLink RX3 9 RX0 ∈ wsX3_init := List.mem_of_getElem? (i := 4) rfl
theorem k_X3_init_5 : Cond.fieldLink RX3 11 "JoinedLight$History" "rooms" "[LJoinedLight$Bench;" ∈ wsX3_init := List.mem_of_getElem? (i := 5) rfl
theorem k_X3_init_6 : Cond.fieldLink RX3 17 "JoinedLight$History" "states" "I" ∈ wsX3_init := List.mem_of_getElem? (i := 6) rfl
abbrev rm_X3_init : Room := { frames := 1, cells := 1, slots := 4, locals := 20 }
set_option maxHeartbeats 4000000 in
set_option maxRecDepth 100000 in
theorem c_X3_init (l : Launch) (dC : Nat → ClassId) (dI : Nat → Nat → Nat) (cI cC cO : ClassId) (qS : Nat) : cE l (dC, dI) (zT cI cC cO) yX3_init wsX3_init rm_X3_init [.ref qS] [[(qS, .inr (3, [.null, .int 0]))]] (fun u : Nat → Nat => [(wX3 cO qS u iX3 (fun _ => none))]) (fun _ => True) none 1 4 := by
  refine zE_in (cc := cX3_init) (maxL := 1) (ret := none) (plainFor_of_name (by decide)) rfl (Nat.le_of_ble_eq_true rfl) ?_
  intro p e s m below meth c hx hb hml hr hlk hown hts hK hN hin A hA H locs hP hD hS ls hl
  have hl : lv_has ls 1 [(0, .ref qS)] := hl
  refine lv_aload_n hx hb dX3_init_0 rfl (lv_at hl 0 rfl) ?_
  refine W.objInit hx hb hown (hts _ k_X3_init_1) (hts _ k_X3_init_2) (hts _ k_X3_init_3) rfl (by rw [hml]; exact hl.1) rfl dX3_init_1 (Nat.le_of_ble_eq_true rfl) (Nat.le_of_ble_eq_true rfl) ?_
  refine W.eq (g2 := F0 m 4 ls []) rfl ?_
  refine lv_aload_n hx hb dX3_init_4 rfl (lv_at hl 0 rfl) ?_
  refine lv_iconst (v := (4 : Int32)) hx hb dX3_init_5 (by decide) ?_
  refine z_newq hx hb hown (hts _ k_X3_init_4) hN.2.2.2.2.2.2.2.2.2.2.2 hK hP hD hS hA 4 (by decide) (by decide) (by decide) (Nat.le_of_ble_eq_true rfl) (Nat.le_of_ble_eq_true rfl) dX3_init_6 (fun q1 H hP hD hS => ?_)
  have hP : va_P (dC, dI) vwCl ([[(qS, .inr (3, [.null, .int 0]))], [(q1, .inl (cO, 4, .inr (.inr (.inr (.inr (fun _ => none))))))]] : List va_W).flatten H := hP
  have hD : va_D A ([[(qS, .inr (3, [.null, .int 0]))], [(q1, .inl (cO, 4, .inr (.inr (.inr (.inr (fun _ => none))))))]] : List va_W).flatten := hD
  refine z_putF (gs' := [[(qS, .inr (3, [.ref q1, .int 0]))], [(q1, .inl (cO, 4, .inr (.inr (.inr (.inr (fun _ => none))))))]]) (D := (dC, dI)) (ci := 3) (ty := .array (.object "JoinedLight$Bench")) (C := RX3) (T := TX3) (N := 2) hx hb hts u_X3_init_X3 tyX3 tyX3_ok nmX3 hown hK hP hD hS 0 rfl rfl 0 (by decide) (hts _ k_X3_init_5) (fun _ h9 => h9) rfl hin rfl (by decide +kernel) rfl rfl (Nat.le_of_ble_eq_true rfl) rfl dX3_init_9 (fun H locs hP hD hS => ?_)
  refine lv_aload_n hx hb dX3_init_12 rfl (lv_at hl 0 rfl) ?_
  refine lv_iconst (v := (0 : Int32)) hx hb dX3_init_13 (by decide) ?_
  refine z_put (gs' := [[(qS, .inr (3, [.ref q1, .int (0 : Int32)]))], [(q1, .inl (cO, 4, .inr (.inr (.inr (.inr (fun _ => none))))))]]) (D := (dC, dI)) (ci := 3) (ty := .int) (C := RX3) (T := TX3) (N := 2) hx hb hts u_X3_init_X3 tyX3 tyX3_ok nmX3 hown hK hP hD hS 0 rfl rfl 1 (by decide) (hts _ k_X3_init_6) (fun _ h9 => h9) rfl (by decide +kernel) rfl rfl (Nat.le_of_ble_eq_true rfl) rfl dX3_init_14 (fun H locs hP hD hS => ?_)
  exact zE_vret (gs := [[(qS, .inr (3, [.ref q1, .int (0 : Int32)]))], [(q1, .inl (cO, 4, .inr (.inr (.inr (.inr (fun _ => none))))))]]) (u := (fun k => if k = 0 then q1 else 0 : Nat → Nat)) hx hb hr hP hD hS ⟨rfl, trivial, rfl⟩ hlk dX3_init_17

theorem u_X4_init_X4 : ∀ w ∈ u_ws RX4 TX4 5, w ∈ wsX4_init := fun w h => List.mem_cons_of_mem _ (List.mem_append_right _ h)
theorem k_X4_init_1 : Cond.methodLink RX4 3 objectInit ∈ wsX4_init := List.mem_of_getElem? (i := 1) rfl
theorem k_X4_init_2 : Cond.instanceMethod objectInit ∈ wsX4_init := List.mem_of_getElem? (i := 2) rfl
theorem k_X4_init_3 : Cond.code objectInit ⟨#[0xb1]⟩ 1 none ∈ wsX4_init := List.mem_of_getElem? (i := 3) rfl
theorem k_X4_init_4 : Cond.arrayClass .int ∈ wsX4_init := List.mem_of_getElem? (i := 4) rfl
theorem k_X4_init_5 : Cond.fieldLink RX4 9 "JoinedLight$Rays" "heights" "[I" ∈ wsX4_init := List.mem_of_getElem? (i := 5) rfl
theorem k_X4_init_6 : Cond.fieldLink RX4 15 "JoinedLight$Rays" "slopes" "[I" ∈ wsX4_init := List.mem_of_getElem? (i := 6) rfl
theorem k_X4_init_7 : Cond.fieldLink RX4 18 "JoinedLight$Rays" "lostAt" "[I" ∈ wsX4_init := List.mem_of_getElem? (i := 7) rfl
theorem k_X4_init_8 : Cond.fieldLink RX4 21 "JoinedLight$Rays" "lostWhy" "[I" ∈ wsX4_init := List.mem_of_getElem? (i := 8) rfl
theorem k_X4_init_9 : Cond.fieldLink RX4 24 "JoinedLight$Rays" "followed" "I" ∈ wsX4_init := List.mem_of_getElem? (i := 9) rfl
abbrev rm_X4_init : Room := { frames := 1, cells := 4, slots := 32, locals := 20 }
set_option maxHeartbeats 4000000 in
set_option maxRecDepth 100000 in
theorem c_X4_init (l : Launch) (dC : Nat → ClassId) (dI : Nat → Nat → Nat) (cI cC cO : ClassId) (qS : Nat) : cE l (dC, dI) (zT cI cC cO) yX4_init wsX4_init rm_X4_init [.ref qS] [[(qS, .inr (4, [.null, .null, .null, .null, .int 0]))]] (fun u : Nat → Nat => [(wX4 cI qS u iX4)]) (fun _ => True) none 4 32 := by
  refine zE_in (cc := cX4_init) (maxL := 1) (ret := none) (plainFor_of_name (by decide)) rfl (Nat.le_of_ble_eq_true rfl) ?_
  intro p e s m below meth c hx hb hml hr hlk hown hts hK hN hin A hA H locs hP hD hS ls hl
  have hl : lv_has ls 1 [(0, .ref qS)] := hl
  refine lv_aload_n hx hb dX4_init_0 rfl (lv_at hl 0 rfl) ?_
  refine W.objInit hx hb hown (hts _ k_X4_init_1) (hts _ k_X4_init_2) (hts _ k_X4_init_3) rfl (by rw [hml]; exact hl.1) rfl dX4_init_1 (Nat.le_of_ble_eq_true rfl) (Nat.le_of_ble_eq_true rfl) ?_
  refine W.eq (g2 := F0 m 4 ls []) rfl ?_
  refine lv_aload_n hx hb dX4_init_4 rfl (lv_at hl 0 rfl) ?_
  refine lv_bipush (v := (8 : Int32)) hx hb dX4_init_5 (by decide) ?_
  refine z_newi hx hb (hts _ k_X4_init_4) hK hP hD hS hA 8 (by decide) (by decide) (by decide) (Nat.le_of_ble_eq_true rfl) (Nat.le_of_ble_eq_true rfl) dX4_init_7 (fun q1 H hP hD hS => ?_)
  have hP : va_P (dC, dI) vwCl ([[(qS, .inr (4, [.null, .null, .null, .null, .int 0]))], [(q1, .inl (cI, 8, .inl (fun _ => 0)))]] : List va_W).flatten H := hP
  have hD : va_D A ([[(qS, .inr (4, [.null, .null, .null, .null, .int 0]))], [(q1, .inl (cI, 8, .inl (fun _ => 0)))]] : List va_W).flatten := hD
  refine z_putF (gs' := [[(qS, .inr (4, [.ref q1, .null, .null, .null, .int 0]))], [(q1, .inl (cI, 8, .inl (fun _ => 0)))]]) (D := (dC, dI)) (ci := 4) (ty := .array .int) (C := RX4) (T := TX4) (N := 5) hx hb hts u_X4_init_X4 tyX4 tyX4_ok nmX4 hown hK hP hD hS 0 rfl rfl 0 (by decide) (hts _ k_X4_init_5) (fun _ h9 => h9) rfl hin rfl (by decide +kernel) rfl rfl (Nat.le_of_ble_eq_true rfl) rfl dX4_init_9 (fun H locs hP hD hS => ?_)
  refine lv_aload_n hx hb dX4_init_12 rfl (lv_at hl 0 rfl) ?_
  refine lv_bipush (v := (8 : Int32)) hx hb dX4_init_13 (by decide) ?_
  refine z_newi hx hb (hts _ k_X4_init_4) hK hP hD hS hA 8 (by decide) (by decide) (by decide) (Nat.le_of_ble_eq_true rfl) (Nat.le_of_ble_eq_true rfl) dX4_init_15 (fun q2 H hP hD hS => ?_)
  have hP : va_P (dC, dI) vwCl ([[(qS, .inr (4, [.ref q1, .null, .null, .null, .int 0]))], [(q1, .inl (cI, 8, .inl (fun _ => 0)))], [(q2, .inl (cI, 8, .inl (fun _ => 0)))]] : List va_W).flatten H := hP
  have hD : va_D A ([[(qS, .inr (4, [.ref q1, .null, .null, .null, .int 0]))], [(q1, .inl (cI, 8, .inl (fun _ => 0)))], [(q2, .inl (cI, 8, .inl (fun _ => 0)))]] : List va_W).flatten := hD
  refine z_putF (gs' := [[(qS, .inr (4, [.ref q1, .ref q2, .null, .null, .int 0]))], [(q1, .inl (cI, 8, .inl (fun _ => 0)))], [(q2, .inl (cI, 8, .inl (fun _ => 0)))]]) (D := (dC, dI)) (ci := 4) (ty := .array .int) (C := RX4) (T := TX4) (N := 5) hx hb hts u_X4_init_X4 tyX4 tyX4_ok nmX4 hown hK hP hD hS 0 rfl rfl 1 (by decide) (hts _ k_X4_init_6) (fun _ h9 => h9) rfl hin rfl (by decide +kernel) rfl rfl (Nat.le_of_ble_eq_true rfl) rfl dX4_init_17 (fun H locs hP hD hS => ?_)
  refine lv_aload_n hx hb dX4_init_20 rfl (lv_at hl 0 rfl) ?_
  refine lv_bipush (v := (8 : Int32)) hx hb dX4_init_21 (by decide) ?_
  refine z_newi hx hb (hts _ k_X4_init_4) hK hP hD hS hA 8 (by decide) (by decide) (by decide) (Nat.le_of_ble_eq_true rfl) (Nat.le_of_ble_eq_true rfl) dX4_init_23 (fun q3 H hP hD hS => ?_)
  have hP : va_P (dC, dI) vwCl ([[(qS, .inr (4, [.ref q1, .ref q2, .null, .null, .int 0]))], [(q1, .inl (cI, 8, .inl (fun _ => 0)))], [(q2, .inl (cI, 8, .inl (fun _ => 0)))], [(q3, .inl (cI, 8, .inl (fun _ => 0)))]] : List va_W).flatten H := hP
  have hD : va_D A ([[(qS, .inr (4, [.ref q1, .ref q2, .null, .null, .int 0]))], [(q1, .inl (cI, 8, .inl (fun _ => 0)))], [(q2, .inl (cI, 8, .inl (fun _ => 0)))], [(q3, .inl (cI, 8, .inl (fun _ => 0)))]] : List va_W).flatten := hD
  refine z_putF (gs' := [[(qS, .inr (4, [.ref q1, .ref q2, .ref q3, .null, .int 0]))], [(q1, .inl (cI, 8, .inl (fun _ => 0)))], [(q2, .inl (cI, 8, .inl (fun _ => 0)))], [(q3, .inl (cI, 8, .inl (fun _ => 0)))]]) (D := (dC, dI)) (ci := 4) (ty := .array .int) (C := RX4) (T := TX4) (N := 5) hx hb hts u_X4_init_X4 tyX4 tyX4_ok nmX4 hown hK hP hD hS 0 rfl rfl 2 (by decide) (hts _ k_X4_init_7) (fun _ h9 => h9) rfl hin rfl (by decide +kernel) rfl rfl (Nat.le_of_ble_eq_true rfl) rfl dX4_init_25 (fun H locs hP hD hS => ?_)
  refine lv_aload_n hx hb dX4_init_28 rfl (lv_at hl 0 rfl) ?_
  refine lv_bipush (v := (8 : Int32)) hx hb dX4_init_29 (by decide) ?_
  refine z_newi hx hb (hts _ k_X4_init_4) hK hP hD hS hA 8 (by decide) (by decide) (by decide) (Nat.le_of_ble_eq_true rfl) (Nat.le_of_ble_eq_true rfl) dX4_init_31 (fun q4 H hP hD hS => ?_)
  have hP : va_P (dC, dI) vwCl ([[(qS, .inr (4, [.ref q1, .ref q2, .ref q3, .null, .int 0]))], [(q1, .inl (cI, 8, .inl (fun _ => 0)))], [(q2, .inl (cI, 8, .inl (fun _ => 0)))], [(q3, .inl (cI, 8, .inl (fun _ => 0)))], [(q4, .inl (cI, 8, .inl (fun _ => 0)))]] : List va_W).flatten H := hP
  have hD : va_D A ([[(qS, .inr (4, [.ref q1, .ref q2, .ref q3, .null, .int 0]))], [(q1, .inl (cI, 8, .inl (fun _ => 0)))], [(q2, .inl (cI, 8, .inl (fun _ => 0)))], [(q3, .inl (cI, 8, .inl (fun _ => 0)))], [(q4, .inl (cI, 8, .inl (fun _ => 0)))]] : List va_W).flatten := hD
  refine z_putF (gs' := [[(qS, .inr (4, [.ref q1, .ref q2, .ref q3, .ref q4, .int 0]))], [(q1, .inl (cI, 8, .inl (fun _ => 0)))], [(q2, .inl (cI, 8, .inl (fun _ => 0)))], [(q3, .inl (cI, 8, .inl (fun _ => 0)))], [(q4, .inl (cI, 8, .inl (fun _ => 0)))]]) (D := (dC, dI)) (ci := 4) (ty := .array .int) (C := RX4) (T := TX4) (N := 5) hx hb hts u_X4_init_X4 tyX4 tyX4_ok nmX4 hown hK hP hD hS 0 rfl rfl 3 (by decide) (hts _ k_X4_init_8) (fun _ h9 => h9) rfl hin rfl (by decide +kernel) rfl rfl (Nat.le_of_ble_eq_true rfl) rfl dX4_init_33 (fun H locs hP hD hS => ?_)
  refine lv_aload_n hx hb dX4_init_36 rfl (lv_at hl 0 rfl) ?_
  refine lv_iconst (v := (0 : Int32)) hx hb dX4_init_37 (by decide) ?_
  refine z_put (gs' := [[(qS, .inr (4, [.ref q1, .ref q2, .ref q3, .ref q4, .int (0 : Int32)]))], [(q1, .inl (cI, 8, .inl (fun _ => 0)))], [(q2, .inl (cI, 8, .inl (fun _ => 0)))], [(q3, .inl (cI, 8, .inl (fun _ => 0)))], [(q4, .inl (cI, 8, .inl (fun _ => 0)))]]) (D := (dC, dI)) (ci := 4) (ty := .int) (C := RX4) (T := TX4) (N := 5) hx hb hts u_X4_init_X4 tyX4 tyX4_ok nmX4 hown hK hP hD hS 0 rfl rfl 4 (by decide) (hts _ k_X4_init_9) (fun _ h9 => h9) rfl (by decide +kernel) rfl rfl (Nat.le_of_ble_eq_true rfl) rfl dX4_init_38 (fun H locs hP hD hS => ?_)
  exact zE_vret (gs := [[(qS, .inr (4, [.ref q1, .ref q2, .ref q3, .ref q4, .int (0 : Int32)]))], [(q1, .inl (cI, 8, .inl (fun _ => 0)))], [(q2, .inl (cI, 8, .inl (fun _ => 0)))], [(q3, .inl (cI, 8, .inl (fun _ => 0)))], [(q4, .inl (cI, 8, .inl (fun _ => 0)))]]) (u := (fun k => if k = 0 then q1 else if k = 1 then q2 else if k = 2 then q3 else if k = 3 then q4 else 0 : Nat → Nat)) hx hb hr hP hD hS ⟨rfl, trivial, rfl⟩ hlk dX4_init_41

theorem u_X5_init_X5 : ∀ w ∈ u_ws RX5 TX5 5, w ∈ wsX5_init := fun w h => List.mem_cons_of_mem _ (List.mem_append_right _ h)
theorem k_X5_init_1 : Cond.methodLink RX5 3 objectInit ∈ wsX5_init := List.mem_of_getElem? (i := 1) rfl
theorem k_X5_init_2 : Cond.instanceMethod objectInit ∈ wsX5_init := List.mem_of_getElem? (i := 2) rfl
theorem k_X5_init_3 : Cond.code objectInit ⟨#[0xb1]⟩ 1 none ∈ wsX5_init := List.mem_of_getElem? (i := 3) rfl
theorem k_X5_init_4 : Cond.arrayClass .char ∈ wsX5_init := List.mem_of_getElem? (i := 4) rfl
theorem k_X5_init_5 : Cond.fieldLink RX5 9 "JoinedLight$Text" "signs" "[C" ∈ wsX5_init := List.mem_of_getElem? (i := 5) rfl
theorem k_X5_init_6 : Cond.fieldLink RX5 15 "JoinedLight$Text" "length" "I" ∈ wsX5_init := List.mem_of_getElem? (i := 6) rfl
theorem k_X5_init_7 : Cond.fieldLink RX5 19 "JoinedLight$Text" "letter" "C" ∈ wsX5_init := List.mem_of_getElem? (i := 7) rfl
theorem k_X5_init_8 : Cond.arrayClass .int ∈ wsX5_init := List.mem_of_getElem? (i := 8) rfl
theorem k_X5_init_9 : Cond.fieldLink RX5 23 "JoinedLight$Text" "numbers" "[I" ∈ wsX5_init := List.mem_of_getElem? (i := 9) rfl
theorem k_X5_init_10 : Cond.fieldLink RX5 27 "JoinedLight$Text" "next" "I" ∈ wsX5_init := List.mem_of_getElem? (i := 10) rfl
abbrev rm_X5_init : Room := { frames := 1, cells := 2, slots := 63, locals := 20 }
set_option maxHeartbeats 4000000 in
set_option maxRecDepth 100000 in
theorem c_X5_init (l : Launch) (dC : Nat → ClassId) (dI : Nat → Nat → Nat) (cI cC cO : ClassId) (qS : Nat) : cE l (dC, dI) (zT cI cC cO) yX5_init wsX5_init rm_X5_init [.ref qS] [[(qS, .inr (5, [.null, .int 0, .int 0, .null, .int 0]))]] (fun u : Nat → Nat => [(wX5 cI cC qS u iX5)]) (fun _ => True) none 2 63 := by
  refine zE_in (cc := cX5_init) (maxL := 1) (ret := none) (plainFor_of_name (by decide)) rfl (Nat.le_of_ble_eq_true rfl) ?_
  intro p e s m below meth c hx hb hml hr hlk hown hts hK hN hin A hA H locs hP hD hS ls hl
  have hl : lv_has ls 1 [(0, .ref qS)] := hl
  refine lv_aload_n hx hb dX5_init_0 rfl (lv_at hl 0 rfl) ?_
  refine W.objInit hx hb hown (hts _ k_X5_init_1) (hts _ k_X5_init_2) (hts _ k_X5_init_3) rfl (by rw [hml]; exact hl.1) rfl dX5_init_1 (Nat.le_of_ble_eq_true rfl) (Nat.le_of_ble_eq_true rfl) ?_
  refine W.eq (g2 := F0 m 4 ls []) rfl ?_
  refine lv_aload_n hx hb dX5_init_4 rfl (lv_at hl 0 rfl) ?_
  refine lv_bipush (v := (60 : Int32)) hx hb dX5_init_5 (by decide) ?_
  refine z_newc hx hb (hts _ k_X5_init_4) hK hP hD hS hA 60 (by decide) (by decide) (by decide) (Nat.le_of_ble_eq_true rfl) (Nat.le_of_ble_eq_true rfl) dX5_init_7 (fun q1 H hP hD hS => ?_)
  have hP : va_P (dC, dI) vwCl ([[(qS, .inr (5, [.null, .int 0, .int 0, .null, .int 0]))], [(q1, .inl (cC, 60, .inl (fun _ => 0)))]] : List va_W).flatten H := hP
  have hD : va_D A ([[(qS, .inr (5, [.null, .int 0, .int 0, .null, .int 0]))], [(q1, .inl (cC, 60, .inl (fun _ => 0)))]] : List va_W).flatten := hD
  refine z_putF (gs' := [[(qS, .inr (5, [.ref q1, .int 0, .int 0, .null, .int 0]))], [(q1, .inl (cC, 60, .inl (fun _ => 0)))]]) (D := (dC, dI)) (ci := 5) (ty := .array .char) (C := RX5) (T := TX5) (N := 5) hx hb hts u_X5_init_X5 tyX5 tyX5_ok nmX5 hown hK hP hD hS 0 rfl rfl 0 (by decide) (hts _ k_X5_init_5) (fun _ h9 => h9) rfl hin rfl (by decide +kernel) rfl rfl (Nat.le_of_ble_eq_true rfl) rfl dX5_init_9 (fun H locs hP hD hS => ?_)
  refine lv_aload_n hx hb dX5_init_12 rfl (lv_at hl 0 rfl) ?_
  refine lv_iconst (v := (0 : Int32)) hx hb dX5_init_13 (by decide) ?_
  refine z_put (gs' := [[(qS, .inr (5, [.ref q1, .int (0 : Int32), .int 0, .null, .int 0]))], [(q1, .inl (cC, 60, .inl (fun _ => 0)))]]) (D := (dC, dI)) (ci := 5) (ty := .int) (C := RX5) (T := TX5) (N := 5) hx hb hts u_X5_init_X5 tyX5 tyX5_ok nmX5 hown hK hP hD hS 0 rfl rfl 1 (by decide) (hts _ k_X5_init_6) (fun _ h9 => h9) rfl (by decide +kernel) rfl rfl (Nat.le_of_ble_eq_true rfl) rfl dX5_init_14 (fun H locs hP hD hS => ?_)
  refine lv_aload_n hx hb dX5_init_17 rfl (lv_at hl 0 rfl) ?_
  refine lv_iconst (v := (0 : Int32)) hx hb dX5_init_18 (by decide) ?_
  refine z_put (gs' := [[(qS, .inr (5, [.ref q1, .int (0 : Int32), .int (0 : Int32), .null, .int 0]))], [(q1, .inl (cC, 60, .inl (fun _ => 0)))]]) (D := (dC, dI)) (ci := 5) (ty := .char) (C := RX5) (T := TX5) (N := 5) hx hb hts u_X5_init_X5 tyX5 tyX5_ok nmX5 hown hK hP hD hS 0 rfl rfl 2 (by decide) (hts _ k_X5_init_7) (fun _ h9 => h9) rfl (by decide +kernel) rfl rfl (Nat.le_of_ble_eq_true rfl) rfl dX5_init_19 (fun H locs hP hD hS => ?_)
  refine lv_aload_n hx hb dX5_init_22 rfl (lv_at hl 0 rfl) ?_
  refine lv_iconst (v := (3 : Int32)) hx hb dX5_init_23 (by decide) ?_
  refine z_newi hx hb (hts _ k_X5_init_8) hK hP hD hS hA 3 (by decide) (by decide) (by decide) (Nat.le_of_ble_eq_true rfl) (Nat.le_of_ble_eq_true rfl) dX5_init_24 (fun q2 H hP hD hS => ?_)
  have hP : va_P (dC, dI) vwCl ([[(qS, .inr (5, [.ref q1, .int (0 : Int32), .int (0 : Int32), .null, .int 0]))], [(q1, .inl (cC, 60, .inl (fun _ => 0)))], [(q2, .inl (cI, 3, .inl (fun _ => 0)))]] : List va_W).flatten H := hP
  have hD : va_D A ([[(qS, .inr (5, [.ref q1, .int (0 : Int32), .int (0 : Int32), .null, .int 0]))], [(q1, .inl (cC, 60, .inl (fun _ => 0)))], [(q2, .inl (cI, 3, .inl (fun _ => 0)))]] : List va_W).flatten := hD
  refine z_putF (gs' := [[(qS, .inr (5, [.ref q1, .int (0 : Int32), .int (0 : Int32), .ref q2, .int 0]))], [(q1, .inl (cC, 60, .inl (fun _ => 0)))], [(q2, .inl (cI, 3, .inl (fun _ => 0)))]]) (D := (dC, dI)) (ci := 5) (ty := .array .int) (C := RX5) (T := TX5) (N := 5) hx hb hts u_X5_init_X5 tyX5 tyX5_ok nmX5 hown hK hP hD hS 0 rfl rfl 3 (by decide) (hts _ k_X5_init_9) (fun _ h9 => h9) rfl hin rfl (by decide +kernel) rfl rfl (Nat.le_of_ble_eq_true rfl) rfl dX5_init_26 (fun H locs hP hD hS => ?_)
  refine lv_aload_n hx hb dX5_init_29 rfl (lv_at hl 0 rfl) ?_
  refine lv_iconst (v := (0 : Int32)) hx hb dX5_init_30 (by decide) ?_
  refine z_put (gs' := [[(qS, .inr (5, [.ref q1, .int (0 : Int32), .int (0 : Int32), .ref q2, .int (0 : Int32)]))], [(q1, .inl (cC, 60, .inl (fun _ => 0)))], [(q2, .inl (cI, 3, .inl (fun _ => 0)))]]) (D := (dC, dI)) (ci := 5) (ty := .int) (C := RX5) (T := TX5) (N := 5) hx hb hts u_X5_init_X5 tyX5 tyX5_ok nmX5 hown hK hP hD hS 0 rfl rfl 4 (by decide) (hts _ k_X5_init_10) (fun _ h9 => h9) rfl (by decide +kernel) rfl rfl (Nat.le_of_ble_eq_true rfl) rfl dX5_init_31 (fun H locs hP hD hS => ?_)
  exact zE_vret (gs := [[(qS, .inr (5, [.ref q1, .int (0 : Int32), .int (0 : Int32), .ref q2, .int (0 : Int32)]))], [(q1, .inl (cC, 60, .inl (fun _ => 0)))], [(q2, .inl (cI, 3, .inl (fun _ => 0)))]]) (u := (fun k => if k = 0 then q1 else if k = 3 then q2 else 0 : Nat → Nat)) hx hb hr hP hD hS ⟨rfl, trivial, rfl⟩ hlk dX5_init_34

theorem u_X6_init_X0 : ∀ w ∈ u_ws RX0 TX0 10, w ∈ wsX6_init := fun w h => List.mem_cons_of_mem _ (List.mem_append_left _ (List.mem_append_left _ (List.mem_append_left _ (List.mem_append_left _ (List.mem_append_left _ (List.mem_append_left _ (List.mem_append_right _ h)))))))
theorem u_X6_init_X6 : ∀ w ∈ u_ws RX6 TX6 11, w ∈ wsX6_init := fun w h => List.mem_cons_of_mem _ (List.mem_append_left _ (List.mem_append_left _ (List.mem_append_left _ (List.mem_append_left _ (List.mem_append_left _ (List.mem_append_right _ h))))))
theorem u_X6_init_X4 : ∀ w ∈ u_ws RX4 TX4 5, w ∈ wsX6_init := fun w h => List.mem_cons_of_mem _ (List.mem_append_left _ (List.mem_append_left _ (List.mem_append_left _ (List.mem_append_left _ (List.mem_append_right _ h)))))
theorem u_X6_init_X1 : ∀ w ∈ u_ws RX1 TX1 4, w ∈ wsX6_init := fun w h => List.mem_cons_of_mem _ (List.mem_append_left _ (List.mem_append_left _ (List.mem_append_left _ (List.mem_append_right _ h))))
theorem u_X6_init_X2 : ∀ w ∈ u_ws RX2 TX2 3, w ∈ wsX6_init := fun w h => List.mem_cons_of_mem _ (List.mem_append_left _ (List.mem_append_left _ (List.mem_append_right _ h)))
theorem u_X6_init_X3 : ∀ w ∈ u_ws RX3 TX3 2, w ∈ wsX6_init := fun w h => List.mem_cons_of_mem _ (List.mem_append_left _ (List.mem_append_right _ h))
theorem u_X6_init_X5 : ∀ w ∈ u_ws RX5 TX5 5, w ∈ wsX6_init := fun w h => List.mem_cons_of_mem _ (List.mem_append_right _ h)
theorem k_X6_init_1 : Cond.methodLink RX6 1 objectInit ∈ wsX6_init := List.mem_of_getElem? (i := 1) rfl
theorem k_X6_init_2 : Cond.instanceMethod objectInit ∈ wsX6_init := List.mem_of_getElem? (i := 2) rfl
theorem k_X6_init_3 : Cond.code objectInit ⟨#[0xb1]⟩ 1 none ∈ wsX6_init := List.mem_of_getElem? (i := 3) rfl
theorem k_X6_init_4 : Cond.classLink RX6 7 RX0 ∈ wsX6_init := List.mem_of_getElem? (i := 4) rfl
theorem k_X6_init_5 : Cond.instantiable RX0 10 ∈ wsX6_init := List.mem_of_getElem? (i := 5) rfl
theorem k_X6_init_6 : Cond.initialized RX0 ∈ wsX6_init := List.mem_of_getElem? (i := 6) rfl
theorem k_X6_init_29 : Cond.instanceMethod yX0_init ∈ wsX6_init := List.mem_of_getElem? (i := 29) rfl
theorem k_X6_init_7 : Cond.fieldLink RX6 10 "JoinedLight" "bench" "LJoinedLight$Bench;" ∈ wsX6_init := List.mem_of_getElem? (i := 7) rfl
theorem k_X6_init_8 : Cond.fieldLink RX6 16 "JoinedLight" "trial" "LJoinedLight$Bench;" ∈ wsX6_init := List.mem_of_getElem? (i := 8) rfl
theorem k_X6_init_9 : Cond.classLink RX6 19 RX4 ∈ wsX6_init := List.mem_of_getElem? (i := 9) rfl
theorem k_X6_init_10 : Cond.instantiable RX4 5 ∈ wsX6_init := List.mem_of_getElem? (i := 10) rfl
theorem k_X6_init_11 : Cond.initialized RX4 ∈ wsX6_init := List.mem_of_getElem? (i := 11) rfl
theorem k_X6_init_43 : Cond.instanceMethod yX4_init ∈ wsX6_init := List.mem_of_getElem? (i := 43) rfl
theorem k_X6_init_12 : Cond.fieldLink RX6 22 "JoinedLight" "rays" "LJoinedLight$Rays;" ∈ wsX6_init := List.mem_of_getElem? (i := 12) rfl
theorem k_X6_init_13 : Cond.classLink RX6 26 RX1 ∈ wsX6_init := List.mem_of_getElem? (i := 13) rfl
theorem k_X6_init_14 : Cond.instantiable RX1 4 ∈ wsX6_init := List.mem_of_getElem? (i := 14) rfl
theorem k_X6_init_15 : Cond.initialized RX1 ∈ wsX6_init := List.mem_of_getElem? (i := 15) rfl
theorem k_X6_init_51 : Cond.instanceMethod yX1_init ∈ wsX6_init := List.mem_of_getElem? (i := 51) rfl
theorem k_X6_init_16 : Cond.fieldLink RX6 29 "JoinedLight" "cells" "LJoinedLight$Cells;" ∈ wsX6_init := List.mem_of_getElem? (i := 16) rfl
theorem k_X6_init_17 : Cond.classLink RX6 33 RX2 ∈ wsX6_init := List.mem_of_getElem? (i := 17) rfl
theorem k_X6_init_18 : Cond.instantiable RX2 3 ∈ wsX6_init := List.mem_of_getElem? (i := 18) rfl
theorem k_X6_init_19 : Cond.initialized RX2 ∈ wsX6_init := List.mem_of_getElem? (i := 19) rfl
theorem k_X6_init_58 : Cond.instanceMethod yX2_init ∈ wsX6_init := List.mem_of_getElem? (i := 58) rfl
theorem k_X6_init_20 : Cond.fieldLink RX6 36 "JoinedLight" "choice" "LJoinedLight$Choice;" ∈ wsX6_init := List.mem_of_getElem? (i := 20) rfl
theorem k_X6_init_21 : Cond.classLink RX6 40 RX3 ∈ wsX6_init := List.mem_of_getElem? (i := 21) rfl
theorem k_X6_init_22 : Cond.instantiable RX3 2 ∈ wsX6_init := List.mem_of_getElem? (i := 22) rfl
theorem k_X6_init_23 : Cond.initialized RX3 ∈ wsX6_init := List.mem_of_getElem? (i := 23) rfl
theorem k_X6_init_64 : Cond.instanceMethod yX3_init ∈ wsX6_init := List.mem_of_getElem? (i := 64) rfl
theorem k_X6_init_24 : Cond.fieldLink RX6 43 "JoinedLight" "history" "LJoinedLight$History;" ∈ wsX6_init := List.mem_of_getElem? (i := 24) rfl
theorem k_X6_init_25 : Cond.classLink RX6 47 RX5 ∈ wsX6_init := List.mem_of_getElem? (i := 25) rfl
theorem k_X6_init_26 : Cond.instantiable RX5 5 ∈ wsX6_init := List.mem_of_getElem? (i := 26) rfl
theorem k_X6_init_27 : Cond.initialized RX5 ∈ wsX6_init := List.mem_of_getElem? (i := 27) rfl
theorem k_X6_init_70 : Cond.instanceMethod yX5_init ∈ wsX6_init := List.mem_of_getElem? (i := 70) rfl
theorem k_X6_init_28 : Cond.fieldLink RX6 50 "JoinedLight" "text" "LJoinedLight$Text;" ∈ wsX6_init := List.mem_of_getElem? (i := 28) rfl
abbrev rm_X6_init : Room := { frames := 2, cells := 31, slots := 274, locals := 40 }
set_option maxHeartbeats 4000000 in
set_option maxRecDepth 100000 in
theorem c_X6_init (l : Launch) (dC : Nat → ClassId) (dI : Nat → Nat → Nat) (cI cC cO : ClassId) (qS : Nat) : cE l (dC, dI) (zT cI cC cO) yX6_init wsX6_init rm_X6_init [.ref qS] [[(qS, .inr (6, [.null, .null, .null, .null, .null, .null, .null, .int 0, .int 0, .int 0, .int 0]))]] (fun u : (Nat → Nat) × (Nat → Nat → Nat) => [(wX6 qS u.1 iX6), (wX0 cI (u.1 0) (u.2 0) iX0), (wX0 cI (u.1 1) (u.2 1) iX0), (wX4 cI (u.1 2) (u.2 2) iX4), (wX1 cI (u.1 3) (u.2 3) iX1), (wX2 (u.1 4) iX2), (wX3 cO (u.1 5) (u.2 5) iX3 (fun _ => none)), (wX5 cI cC (u.1 6) (u.2 6) iX5)]) (fun _ => True) none 31 274 := by
  refine zE_in (cc := cX6_init) (maxL := 1) (ret := none) (plainFor_of_name (by decide)) rfl (Nat.le_of_ble_eq_true rfl) ?_
  intro p e s m below meth c hx hb hml hr hlk hown hts hK hN hin A hA H locs hP hD hS ls hl
  have hl : lv_has ls 1 [(0, .ref qS)] := hl
  refine lv_aload_n hx hb dX6_init_0 rfl (lv_at hl 0 rfl) ?_
  refine W.objInit hx hb hown (hts _ k_X6_init_1) (hts _ k_X6_init_2) (hts _ k_X6_init_3) rfl (by rw [hml]; exact hl.1) rfl dX6_init_1 (Nat.le_of_ble_eq_true rfl) (Nat.le_of_ble_eq_true rfl) ?_
  refine W.eq (g2 := F0 m 4 ls []) rfl ?_
  refine lv_aload_n hx hb dX6_init_4 rfl (lv_at hl 0 rfl) ?_
  refine z_new (ci := 0) (fs := [.null, .null, .int 0, .null, .null, .null, .null, .null, .int 0, .int 0]) (C := RX0) (T := TX0) (N := 10) hx hb hts u_X6_init_X0 tyX0 tyX0_ok hown (hts _ k_X6_init_4) (hts _ k_X6_init_5) (hts _ k_X6_init_6) hK hP hD hS hA rfl (fun j hj => by rcases (show j = 0 ∨ j = 1 ∨ j = 2 ∨ j = 3 ∨ j = 4 ∨ j = 5 ∨ j = 6 ∨ j = 7 ∨ j = 8 ∨ j = 9 by omega) with rfl | rfl | rfl | rfl | rfl | rfl | rfl | rfl | rfl | rfl <;> rfl) (Nat.le_of_ble_eq_true rfl) (Nat.le_of_ble_eq_true rfl) dX6_init_5 (fun q1 H hP hD hS => ?_)
  have hP : va_P (dC, dI) vwCl ([[(qS, .inr (6, [.null, .null, .null, .null, .null, .null, .null, .int 0, .int 0, .int 0, .int 0]))], [(q1, .inr (0, [.null, .null, .int 0, .null, .null, .null, .null, .null, .int 0, .int 0]))]] : List va_W).flatten H := hP
  have hD : va_D A ([[(qS, .inr (6, [.null, .null, .null, .null, .null, .null, .null, .int 0, .int 0, .int 0, .int 0]))], [(q1, .inr (0, [.null, .null, .int 0, .null, .null, .null, .null, .null, .int 0, .int 0]))]] : List va_W).flatten := hD
  refine lv_dup hx hb dX6_init_8 rfl ?_
  refine z_callE (gs2 := fun u1 : Nat → Nat => [[(qS, .inr (6, [.null, .null, .null, .null, .null, .null, .null, .int 0, .int 0, .int 0, .int 0]))], (wX0 cI q1 u1 iX0)]) hP hD hS hA [1] [0] rfl (fun _ => rfl) (fun _ => rfl) (show List.Perm [1, 0] (List.range 2) from by decide) (fun _ => rfl) (va_runIN (As := []) (rest := [.ref q1, .ref qS]) ⟨hx, hb, hml, hown, hts⟩ (c_X0_init l dC dI cI cC cO q1 H.size) ⟨va_cnB 0 hts gX6_init_X0_init_n9 rfl rfl rfl hN.2.2.2.2.2.1 (hts _ k_X6_init_6) (by decide +kernel) ⟨Nat.le_of_ble_eq_true rfl, Nat.le_of_ble_eq_true rfl⟩, rfl, (hts _ k_X6_init_29)⟩ ⟨zpM_blind, z_useM hK hN hP hD [1] [0] rfl (show List.Perm [1, 0] (List.range 2) from by decide)⟩ rfl rfl hl.1 rfl (lv_room (Nat.le_of_ble_eq_true rfl)) dX6_init_9 ⟨Nat.le_of_ble_eq_true rfl, Nat.le_of_ble_eq_true rfl⟩) (fun u1 _ H locs hP hD hS => ?_)
  refine W.eq (g2 := F0 m 12 ls [.ref q1, .ref qS]) rfl ?_
  have hP : va_P (dC, dI) vwCl ([[(qS, .inr (6, [.null, .null, .null, .null, .null, .null, .null, .int 0, .int 0, .int 0, .int 0]))], (wX0 cI q1 u1 iX0)] : List va_W).flatten H := hP
  have hD : va_D A ([[(qS, .inr (6, [.null, .null, .null, .null, .null, .null, .null, .int 0, .int 0, .int 0, .int 0]))], (wX0 cI q1 u1 iX0)] : List va_W).flatten := hD
  refine z_putF (gs' := [[(qS, .inr (6, [.ref q1, .null, .null, .null, .null, .null, .null, .int 0, .int 0, .int 0, .int 0]))], (wX0 cI q1 u1 iX0)]) (D := (dC, dI)) (ci := 6) (ty := .object "JoinedLight$Bench") (C := RX6) (T := TX6) (N := 11) hx hb hts u_X6_init_X6 tyX6 tyX6_ok nmX6 hown hK hP hD hS 0 rfl rfl 0 (by decide) (hts _ k_X6_init_7) (fun _ h9 => h9) rfl hin rfl (by decide +kernel) rfl rfl (Nat.le_of_ble_eq_true rfl) rfl dX6_init_12 (fun H locs hP hD hS => ?_)
  refine lv_aload_n hx hb dX6_init_15 rfl (lv_at hl 0 rfl) ?_
  refine z_new (ci := 0) (fs := [.null, .null, .int 0, .null, .null, .null, .null, .null, .int 0, .int 0]) (C := RX0) (T := TX0) (N := 10) hx hb hts u_X6_init_X0 tyX0 tyX0_ok hown (hts _ k_X6_init_4) (hts _ k_X6_init_5) (hts _ k_X6_init_6) hK hP hD hS hA rfl (fun j hj => by rcases (show j = 0 ∨ j = 1 ∨ j = 2 ∨ j = 3 ∨ j = 4 ∨ j = 5 ∨ j = 6 ∨ j = 7 ∨ j = 8 ∨ j = 9 by omega) with rfl | rfl | rfl | rfl | rfl | rfl | rfl | rfl | rfl | rfl <;> rfl) (Nat.le_of_ble_eq_true rfl) (Nat.le_of_ble_eq_true rfl) dX6_init_16 (fun q2 H hP hD hS => ?_)
  have hP : va_P (dC, dI) vwCl ([[(qS, .inr (6, [.ref q1, .null, .null, .null, .null, .null, .null, .int 0, .int 0, .int 0, .int 0]))], (wX0 cI q1 u1 iX0), [(q2, .inr (0, [.null, .null, .int 0, .null, .null, .null, .null, .null, .int 0, .int 0]))]] : List va_W).flatten H := hP
  have hD : va_D A ([[(qS, .inr (6, [.ref q1, .null, .null, .null, .null, .null, .null, .int 0, .int 0, .int 0, .int 0]))], (wX0 cI q1 u1 iX0), [(q2, .inr (0, [.null, .null, .int 0, .null, .null, .null, .null, .null, .int 0, .int 0]))]] : List va_W).flatten := hD
  refine lv_dup hx hb dX6_init_19 rfl ?_
  refine z_callE (gs2 := fun u2 : Nat → Nat => [[(qS, .inr (6, [.ref q1, .null, .null, .null, .null, .null, .null, .int 0, .int 0, .int 0, .int 0]))], (wX0 cI q1 u1 iX0), (wX0 cI q2 u2 iX0)]) hP hD hS hA [2] [0, 1] rfl (fun _ => rfl) (fun _ => rfl) (show List.Perm [2, 0, 1] (List.range 3) from by decide) (fun _ => rfl) (va_runIN (As := []) (rest := [.ref q2, .ref qS]) ⟨hx, hb, hml, hown, hts⟩ (c_X0_init l dC dI cI cC cO q2 H.size) ⟨va_cnB 0 hts gX6_init_X0_init_n9 rfl rfl rfl hN.2.2.2.2.2.1 (hts _ k_X6_init_6) (by decide +kernel) ⟨Nat.le_of_ble_eq_true rfl, Nat.le_of_ble_eq_true rfl⟩, rfl, (hts _ k_X6_init_29)⟩ ⟨zpM_blind, z_useM hK hN hP hD [2] [0, 1] rfl (show List.Perm [2, 0, 1] (List.range 3) from by decide)⟩ rfl rfl hl.1 rfl (lv_room (Nat.le_of_ble_eq_true rfl)) dX6_init_20 ⟨Nat.le_of_ble_eq_true rfl, Nat.le_of_ble_eq_true rfl⟩) (fun u2 _ H locs hP hD hS => ?_)
  refine W.eq (g2 := F0 m 23 ls [.ref q2, .ref qS]) rfl ?_
  have hP : va_P (dC, dI) vwCl ([[(qS, .inr (6, [.ref q1, .null, .null, .null, .null, .null, .null, .int 0, .int 0, .int 0, .int 0]))], (wX0 cI q1 u1 iX0), (wX0 cI q2 u2 iX0)] : List va_W).flatten H := hP
  have hD : va_D A ([[(qS, .inr (6, [.ref q1, .null, .null, .null, .null, .null, .null, .int 0, .int 0, .int 0, .int 0]))], (wX0 cI q1 u1 iX0), (wX0 cI q2 u2 iX0)] : List va_W).flatten := hD
  refine z_putF (gs' := [[(qS, .inr (6, [.ref q1, .ref q2, .null, .null, .null, .null, .null, .int 0, .int 0, .int 0, .int 0]))], (wX0 cI q1 u1 iX0), (wX0 cI q2 u2 iX0)]) (D := (dC, dI)) (ci := 6) (ty := .object "JoinedLight$Bench") (C := RX6) (T := TX6) (N := 11) hx hb hts u_X6_init_X6 tyX6 tyX6_ok nmX6 hown hK hP hD hS 0 rfl rfl 1 (by decide) (hts _ k_X6_init_8) (fun _ h9 => h9) rfl hin rfl (by decide +kernel) rfl rfl (Nat.le_of_ble_eq_true rfl) rfl dX6_init_23 (fun H locs hP hD hS => ?_)
  refine lv_aload_n hx hb dX6_init_26 rfl (lv_at hl 0 rfl) ?_
  refine z_new (ci := 4) (fs := [.null, .null, .null, .null, .int 0]) (C := RX4) (T := TX4) (N := 5) hx hb hts u_X6_init_X4 tyX4 tyX4_ok hown (hts _ k_X6_init_9) (hts _ k_X6_init_10) (hts _ k_X6_init_11) hK hP hD hS hA rfl (fun j hj => by rcases (show j = 0 ∨ j = 1 ∨ j = 2 ∨ j = 3 ∨ j = 4 by omega) with rfl | rfl | rfl | rfl | rfl <;> rfl) (Nat.le_of_ble_eq_true rfl) (Nat.le_of_ble_eq_true rfl) dX6_init_27 (fun q3 H hP hD hS => ?_)
  have hP : va_P (dC, dI) vwCl ([[(qS, .inr (6, [.ref q1, .ref q2, .null, .null, .null, .null, .null, .int 0, .int 0, .int 0, .int 0]))], (wX0 cI q1 u1 iX0), (wX0 cI q2 u2 iX0), [(q3, .inr (4, [.null, .null, .null, .null, .int 0]))]] : List va_W).flatten H := hP
  have hD : va_D A ([[(qS, .inr (6, [.ref q1, .ref q2, .null, .null, .null, .null, .null, .int 0, .int 0, .int 0, .int 0]))], (wX0 cI q1 u1 iX0), (wX0 cI q2 u2 iX0), [(q3, .inr (4, [.null, .null, .null, .null, .int 0]))]] : List va_W).flatten := hD
  refine lv_dup hx hb dX6_init_30 rfl ?_
  refine z_callE (gs2 := fun u3 : Nat → Nat => [[(qS, .inr (6, [.ref q1, .ref q2, .null, .null, .null, .null, .null, .int 0, .int 0, .int 0, .int 0]))], (wX0 cI q1 u1 iX0), (wX0 cI q2 u2 iX0), (wX4 cI q3 u3 iX4)]) hP hD hS hA [3] [0, 1, 2] rfl (fun _ => rfl) (fun _ => rfl) (show List.Perm [3, 0, 1, 2] (List.range 4) from by decide) (fun _ => rfl) (va_runIN (As := []) (rest := [.ref q3, .ref qS]) ⟨hx, hb, hml, hown, hts⟩ (c_X4_init l dC dI cI cC cO q3 H.size) ⟨va_cnB 0 hts gX6_init_X4_init_n21 rfl rfl rfl hN.2.2.2.2.2.2.1 (hts _ k_X6_init_11) (by decide +kernel) ⟨Nat.le_of_ble_eq_true rfl, Nat.le_of_ble_eq_true rfl⟩, rfl, (hts _ k_X6_init_43)⟩ ⟨zpM_blind, z_useM hK hN hP hD [3] [0, 1, 2] rfl (show List.Perm [3, 0, 1, 2] (List.range 4) from by decide)⟩ rfl rfl hl.1 rfl (lv_room (Nat.le_of_ble_eq_true rfl)) dX6_init_31 ⟨Nat.le_of_ble_eq_true rfl, Nat.le_of_ble_eq_true rfl⟩) (fun u3 _ H locs hP hD hS => ?_)
  refine W.eq (g2 := F0 m 34 ls [.ref q3, .ref qS]) rfl ?_
  have hP : va_P (dC, dI) vwCl ([[(qS, .inr (6, [.ref q1, .ref q2, .null, .null, .null, .null, .null, .int 0, .int 0, .int 0, .int 0]))], (wX0 cI q1 u1 iX0), (wX0 cI q2 u2 iX0), (wX4 cI q3 u3 iX4)] : List va_W).flatten H := hP
  have hD : va_D A ([[(qS, .inr (6, [.ref q1, .ref q2, .null, .null, .null, .null, .null, .int 0, .int 0, .int 0, .int 0]))], (wX0 cI q1 u1 iX0), (wX0 cI q2 u2 iX0), (wX4 cI q3 u3 iX4)] : List va_W).flatten := hD
  refine z_putF (gs' := [[(qS, .inr (6, [.ref q1, .ref q2, .ref q3, .null, .null, .null, .null, .int 0, .int 0, .int 0, .int 0]))], (wX0 cI q1 u1 iX0), (wX0 cI q2 u2 iX0), (wX4 cI q3 u3 iX4)]) (D := (dC, dI)) (ci := 6) (ty := .object "JoinedLight$Rays") (C := RX6) (T := TX6) (N := 11) hx hb hts u_X6_init_X6 tyX6 tyX6_ok nmX6 hown hK hP hD hS 0 rfl rfl 2 (by decide) (hts _ k_X6_init_12) (fun _ h9 => h9) rfl hin rfl (by decide +kernel) rfl rfl (Nat.le_of_ble_eq_true rfl) rfl dX6_init_34 (fun H locs hP hD hS => ?_)
  refine lv_aload_n hx hb dX6_init_37 rfl (lv_at hl 0 rfl) ?_
  refine z_new (ci := 1) (fs := [.null, .null, .null, .int 0]) (C := RX1) (T := TX1) (N := 4) hx hb hts u_X6_init_X1 tyX1 tyX1_ok hown (hts _ k_X6_init_13) (hts _ k_X6_init_14) (hts _ k_X6_init_15) hK hP hD hS hA rfl (fun j hj => by rcases (show j = 0 ∨ j = 1 ∨ j = 2 ∨ j = 3 by omega) with rfl | rfl | rfl | rfl <;> rfl) (Nat.le_of_ble_eq_true rfl) (Nat.le_of_ble_eq_true rfl) dX6_init_38 (fun q4 H hP hD hS => ?_)
  have hP : va_P (dC, dI) vwCl ([[(qS, .inr (6, [.ref q1, .ref q2, .ref q3, .null, .null, .null, .null, .int 0, .int 0, .int 0, .int 0]))], (wX0 cI q1 u1 iX0), (wX0 cI q2 u2 iX0), (wX4 cI q3 u3 iX4), [(q4, .inr (1, [.null, .null, .null, .int 0]))]] : List va_W).flatten H := hP
  have hD : va_D A ([[(qS, .inr (6, [.ref q1, .ref q2, .ref q3, .null, .null, .null, .null, .int 0, .int 0, .int 0, .int 0]))], (wX0 cI q1 u1 iX0), (wX0 cI q2 u2 iX0), (wX4 cI q3 u3 iX4), [(q4, .inr (1, [.null, .null, .null, .int 0]))]] : List va_W).flatten := hD
  refine lv_dup hx hb dX6_init_41 rfl ?_
  refine z_callE (gs2 := fun u4 : Nat → Nat => [[(qS, .inr (6, [.ref q1, .ref q2, .ref q3, .null, .null, .null, .null, .int 0, .int 0, .int 0, .int 0]))], (wX0 cI q1 u1 iX0), (wX0 cI q2 u2 iX0), (wX4 cI q3 u3 iX4), (wX1 cI q4 u4 iX1)]) hP hD hS hA [4] [0, 1, 2, 3] rfl (fun _ => rfl) (fun _ => rfl) (show List.Perm [4, 0, 1, 2, 3] (List.range 5) from by decide) (fun _ => rfl) (va_runIN (As := []) (rest := [.ref q4, .ref qS]) ⟨hx, hb, hml, hown, hts⟩ (c_X1_init l dC dI cI cC cO q4 H.size) ⟨va_cnB 0 hts gX6_init_X1_init_n28 rfl rfl rfl hN.2.2.2.2.2.2.2.1 (hts _ k_X6_init_15) (by decide +kernel) ⟨Nat.le_of_ble_eq_true rfl, Nat.le_of_ble_eq_true rfl⟩, rfl, (hts _ k_X6_init_51)⟩ ⟨zpM_blind, z_useM hK hN hP hD [4] [0, 1, 2, 3] rfl (show List.Perm [4, 0, 1, 2, 3] (List.range 5) from by decide)⟩ rfl rfl hl.1 rfl (lv_room (Nat.le_of_ble_eq_true rfl)) dX6_init_42 ⟨Nat.le_of_ble_eq_true rfl, Nat.le_of_ble_eq_true rfl⟩) (fun u4 _ H locs hP hD hS => ?_)
  refine W.eq (g2 := F0 m 45 ls [.ref q4, .ref qS]) rfl ?_
  have hP : va_P (dC, dI) vwCl ([[(qS, .inr (6, [.ref q1, .ref q2, .ref q3, .null, .null, .null, .null, .int 0, .int 0, .int 0, .int 0]))], (wX0 cI q1 u1 iX0), (wX0 cI q2 u2 iX0), (wX4 cI q3 u3 iX4), (wX1 cI q4 u4 iX1)] : List va_W).flatten H := hP
  have hD : va_D A ([[(qS, .inr (6, [.ref q1, .ref q2, .ref q3, .null, .null, .null, .null, .int 0, .int 0, .int 0, .int 0]))], (wX0 cI q1 u1 iX0), (wX0 cI q2 u2 iX0), (wX4 cI q3 u3 iX4), (wX1 cI q4 u4 iX1)] : List va_W).flatten := hD
  refine z_putF (gs' := [[(qS, .inr (6, [.ref q1, .ref q2, .ref q3, .ref q4, .null, .null, .null, .int 0, .int 0, .int 0, .int 0]))], (wX0 cI q1 u1 iX0), (wX0 cI q2 u2 iX0), (wX4 cI q3 u3 iX4), (wX1 cI q4 u4 iX1)]) (D := (dC, dI)) (ci := 6) (ty := .object "JoinedLight$Cells") (C := RX6) (T := TX6) (N := 11) hx hb hts u_X6_init_X6 tyX6 tyX6_ok nmX6 hown hK hP hD hS 0 rfl rfl 3 (by decide) (hts _ k_X6_init_16) (fun _ h9 => h9) rfl hin rfl (by decide +kernel) rfl rfl (Nat.le_of_ble_eq_true rfl) rfl dX6_init_45 (fun H locs hP hD hS => ?_)
  refine lv_aload_n hx hb dX6_init_48 rfl (lv_at hl 0 rfl) ?_
  refine z_new (ci := 2) (fs := [.int 0, .int 0, .int 0]) (C := RX2) (T := TX2) (N := 3) hx hb hts u_X6_init_X2 tyX2 tyX2_ok hown (hts _ k_X6_init_17) (hts _ k_X6_init_18) (hts _ k_X6_init_19) hK hP hD hS hA rfl (fun j hj => by rcases (show j = 0 ∨ j = 1 ∨ j = 2 by omega) with rfl | rfl | rfl <;> rfl) (Nat.le_of_ble_eq_true rfl) (Nat.le_of_ble_eq_true rfl) dX6_init_49 (fun q5 H hP hD hS => ?_)
  have hP : va_P (dC, dI) vwCl ([[(qS, .inr (6, [.ref q1, .ref q2, .ref q3, .ref q4, .null, .null, .null, .int 0, .int 0, .int 0, .int 0]))], (wX0 cI q1 u1 iX0), (wX0 cI q2 u2 iX0), (wX4 cI q3 u3 iX4), (wX1 cI q4 u4 iX1), [(q5, .inr (2, [.int 0, .int 0, .int 0]))]] : List va_W).flatten H := hP
  have hD : va_D A ([[(qS, .inr (6, [.ref q1, .ref q2, .ref q3, .ref q4, .null, .null, .null, .int 0, .int 0, .int 0, .int 0]))], (wX0 cI q1 u1 iX0), (wX0 cI q2 u2 iX0), (wX4 cI q3 u3 iX4), (wX1 cI q4 u4 iX1), [(q5, .inr (2, [.int 0, .int 0, .int 0]))]] : List va_W).flatten := hD
  refine lv_dup hx hb dX6_init_52 rfl ?_
  refine z_callE (gs2 := fun u5 : Nat → Nat => [[(qS, .inr (6, [.ref q1, .ref q2, .ref q3, .ref q4, .null, .null, .null, .int 0, .int 0, .int 0, .int 0]))], (wX0 cI q1 u1 iX0), (wX0 cI q2 u2 iX0), (wX4 cI q3 u3 iX4), (wX1 cI q4 u4 iX1), (wX2 q5 iX2)]) hP hD hS hA [5] [0, 1, 2, 3, 4] rfl (fun _ => rfl) (fun _ => rfl) (show List.Perm [5, 0, 1, 2, 3, 4] (List.range 6) from by decide) (fun _ => rfl) (va_runIN (As := []) (rest := [.ref q5, .ref qS]) ⟨hx, hb, hml, hown, hts⟩ (c_X2_init l dC dI cI cC cO q5 H.size) ⟨va_cnB 0 hts gX6_init_X2_init_n35 rfl rfl rfl hN.2.2.2.2.2.2.2.2.1 (hts _ k_X6_init_19) (by decide +kernel) ⟨Nat.le_of_ble_eq_true rfl, Nat.le_of_ble_eq_true rfl⟩, rfl, (hts _ k_X6_init_58)⟩ ⟨zpM_blind, z_useM hK hN hP hD [5] [0, 1, 2, 3, 4] rfl (show List.Perm [5, 0, 1, 2, 3, 4] (List.range 6) from by decide)⟩ rfl rfl hl.1 rfl (lv_room (Nat.le_of_ble_eq_true rfl)) dX6_init_53 ⟨Nat.le_of_ble_eq_true rfl, Nat.le_of_ble_eq_true rfl⟩) (fun u5 _ H locs hP hD hS => ?_)
  refine W.eq (g2 := F0 m 56 ls [.ref q5, .ref qS]) rfl ?_
  have hP : va_P (dC, dI) vwCl ([[(qS, .inr (6, [.ref q1, .ref q2, .ref q3, .ref q4, .null, .null, .null, .int 0, .int 0, .int 0, .int 0]))], (wX0 cI q1 u1 iX0), (wX0 cI q2 u2 iX0), (wX4 cI q3 u3 iX4), (wX1 cI q4 u4 iX1), (wX2 q5 iX2)] : List va_W).flatten H := hP
  have hD : va_D A ([[(qS, .inr (6, [.ref q1, .ref q2, .ref q3, .ref q4, .null, .null, .null, .int 0, .int 0, .int 0, .int 0]))], (wX0 cI q1 u1 iX0), (wX0 cI q2 u2 iX0), (wX4 cI q3 u3 iX4), (wX1 cI q4 u4 iX1), (wX2 q5 iX2)] : List va_W).flatten := hD
  refine z_putF (gs' := [[(qS, .inr (6, [.ref q1, .ref q2, .ref q3, .ref q4, .ref q5, .null, .null, .int 0, .int 0, .int 0, .int 0]))], (wX0 cI q1 u1 iX0), (wX0 cI q2 u2 iX0), (wX4 cI q3 u3 iX4), (wX1 cI q4 u4 iX1), (wX2 q5 iX2)]) (D := (dC, dI)) (ci := 6) (ty := .object "JoinedLight$Choice") (C := RX6) (T := TX6) (N := 11) hx hb hts u_X6_init_X6 tyX6 tyX6_ok nmX6 hown hK hP hD hS 0 rfl rfl 4 (by decide) (hts _ k_X6_init_20) (fun _ h9 => h9) rfl hin rfl (by decide +kernel) rfl rfl (Nat.le_of_ble_eq_true rfl) rfl dX6_init_56 (fun H locs hP hD hS => ?_)
  refine lv_aload_n hx hb dX6_init_59 rfl (lv_at hl 0 rfl) ?_
  refine z_new (ci := 3) (fs := [.null, .int 0]) (C := RX3) (T := TX3) (N := 2) hx hb hts u_X6_init_X3 tyX3 tyX3_ok hown (hts _ k_X6_init_21) (hts _ k_X6_init_22) (hts _ k_X6_init_23) hK hP hD hS hA rfl (fun j hj => by rcases (show j = 0 ∨ j = 1 by omega) with rfl | rfl <;> rfl) (Nat.le_of_ble_eq_true rfl) (Nat.le_of_ble_eq_true rfl) dX6_init_60 (fun q6 H hP hD hS => ?_)
  have hP : va_P (dC, dI) vwCl ([[(qS, .inr (6, [.ref q1, .ref q2, .ref q3, .ref q4, .ref q5, .null, .null, .int 0, .int 0, .int 0, .int 0]))], (wX0 cI q1 u1 iX0), (wX0 cI q2 u2 iX0), (wX4 cI q3 u3 iX4), (wX1 cI q4 u4 iX1), (wX2 q5 iX2), [(q6, .inr (3, [.null, .int 0]))]] : List va_W).flatten H := hP
  have hD : va_D A ([[(qS, .inr (6, [.ref q1, .ref q2, .ref q3, .ref q4, .ref q5, .null, .null, .int 0, .int 0, .int 0, .int 0]))], (wX0 cI q1 u1 iX0), (wX0 cI q2 u2 iX0), (wX4 cI q3 u3 iX4), (wX1 cI q4 u4 iX1), (wX2 q5 iX2), [(q6, .inr (3, [.null, .int 0]))]] : List va_W).flatten := hD
  refine lv_dup hx hb dX6_init_63 rfl ?_
  refine z_callE (gs2 := fun u6 : Nat → Nat => [[(qS, .inr (6, [.ref q1, .ref q2, .ref q3, .ref q4, .ref q5, .null, .null, .int 0, .int 0, .int 0, .int 0]))], (wX0 cI q1 u1 iX0), (wX0 cI q2 u2 iX0), (wX4 cI q3 u3 iX4), (wX1 cI q4 u4 iX1), (wX2 q5 iX2), (wX3 cO q6 u6 iX3 (fun _ => none))]) hP hD hS hA [6] [0, 1, 2, 3, 4, 5] rfl (fun _ => rfl) (fun _ => rfl) (show List.Perm [6, 0, 1, 2, 3, 4, 5] (List.range 7) from by decide) (fun _ => rfl) (va_runIN (As := []) (rest := [.ref q6, .ref qS]) ⟨hx, hb, hml, hown, hts⟩ (c_X3_init l dC dI cI cC cO q6 H.size) ⟨va_cnB 0 hts gX6_init_X3_init_n42 rfl rfl rfl hN.2.2.2.2.2.2.2.2.2.1 (hts _ k_X6_init_23) (by decide +kernel) ⟨Nat.le_of_ble_eq_true rfl, Nat.le_of_ble_eq_true rfl⟩, rfl, (hts _ k_X6_init_64)⟩ ⟨zpM_blind, z_useM hK hN hP hD [6] [0, 1, 2, 3, 4, 5] rfl (show List.Perm [6, 0, 1, 2, 3, 4, 5] (List.range 7) from by decide)⟩ rfl rfl hl.1 rfl (lv_room (Nat.le_of_ble_eq_true rfl)) dX6_init_64 ⟨Nat.le_of_ble_eq_true rfl, Nat.le_of_ble_eq_true rfl⟩) (fun u6 _ H locs hP hD hS => ?_)
  refine W.eq (g2 := F0 m 67 ls [.ref q6, .ref qS]) rfl ?_
  have hP : va_P (dC, dI) vwCl ([[(qS, .inr (6, [.ref q1, .ref q2, .ref q3, .ref q4, .ref q5, .null, .null, .int 0, .int 0, .int 0, .int 0]))], (wX0 cI q1 u1 iX0), (wX0 cI q2 u2 iX0), (wX4 cI q3 u3 iX4), (wX1 cI q4 u4 iX1), (wX2 q5 iX2), (wX3 cO q6 u6 iX3 (fun _ => none))] : List va_W).flatten H := hP
  have hD : va_D A ([[(qS, .inr (6, [.ref q1, .ref q2, .ref q3, .ref q4, .ref q5, .null, .null, .int 0, .int 0, .int 0, .int 0]))], (wX0 cI q1 u1 iX0), (wX0 cI q2 u2 iX0), (wX4 cI q3 u3 iX4), (wX1 cI q4 u4 iX1), (wX2 q5 iX2), (wX3 cO q6 u6 iX3 (fun _ => none))] : List va_W).flatten := hD
  refine z_putF (gs' := [[(qS, .inr (6, [.ref q1, .ref q2, .ref q3, .ref q4, .ref q5, .ref q6, .null, .int 0, .int 0, .int 0, .int 0]))], (wX0 cI q1 u1 iX0), (wX0 cI q2 u2 iX0), (wX4 cI q3 u3 iX4), (wX1 cI q4 u4 iX1), (wX2 q5 iX2), (wX3 cO q6 u6 iX3 (fun _ => none))]) (D := (dC, dI)) (ci := 6) (ty := .object "JoinedLight$History") (C := RX6) (T := TX6) (N := 11) hx hb hts u_X6_init_X6 tyX6 tyX6_ok nmX6 hown hK hP hD hS 0 rfl rfl 5 (by decide) (hts _ k_X6_init_24) (fun _ h9 => h9) rfl hin rfl (by decide +kernel) rfl rfl (Nat.le_of_ble_eq_true rfl) rfl dX6_init_67 (fun H locs hP hD hS => ?_)
  refine lv_aload_n hx hb dX6_init_70 rfl (lv_at hl 0 rfl) ?_
  refine z_new (ci := 5) (fs := [.null, .int 0, .int 0, .null, .int 0]) (C := RX5) (T := TX5) (N := 5) hx hb hts u_X6_init_X5 tyX5 tyX5_ok hown (hts _ k_X6_init_25) (hts _ k_X6_init_26) (hts _ k_X6_init_27) hK hP hD hS hA rfl (fun j hj => by rcases (show j = 0 ∨ j = 1 ∨ j = 2 ∨ j = 3 ∨ j = 4 by omega) with rfl | rfl | rfl | rfl | rfl <;> rfl) (Nat.le_of_ble_eq_true rfl) (Nat.le_of_ble_eq_true rfl) dX6_init_71 (fun q7 H hP hD hS => ?_)
  have hP : va_P (dC, dI) vwCl ([[(qS, .inr (6, [.ref q1, .ref q2, .ref q3, .ref q4, .ref q5, .ref q6, .null, .int 0, .int 0, .int 0, .int 0]))], (wX0 cI q1 u1 iX0), (wX0 cI q2 u2 iX0), (wX4 cI q3 u3 iX4), (wX1 cI q4 u4 iX1), (wX2 q5 iX2), (wX3 cO q6 u6 iX3 (fun _ => none)), [(q7, .inr (5, [.null, .int 0, .int 0, .null, .int 0]))]] : List va_W).flatten H := hP
  have hD : va_D A ([[(qS, .inr (6, [.ref q1, .ref q2, .ref q3, .ref q4, .ref q5, .ref q6, .null, .int 0, .int 0, .int 0, .int 0]))], (wX0 cI q1 u1 iX0), (wX0 cI q2 u2 iX0), (wX4 cI q3 u3 iX4), (wX1 cI q4 u4 iX1), (wX2 q5 iX2), (wX3 cO q6 u6 iX3 (fun _ => none)), [(q7, .inr (5, [.null, .int 0, .int 0, .null, .int 0]))]] : List va_W).flatten := hD
  refine lv_dup hx hb dX6_init_74 rfl ?_
  refine z_callE (gs2 := fun u7 : Nat → Nat => [[(qS, .inr (6, [.ref q1, .ref q2, .ref q3, .ref q4, .ref q5, .ref q6, .null, .int 0, .int 0, .int 0, .int 0]))], (wX0 cI q1 u1 iX0), (wX0 cI q2 u2 iX0), (wX4 cI q3 u3 iX4), (wX1 cI q4 u4 iX1), (wX2 q5 iX2), (wX3 cO q6 u6 iX3 (fun _ => none)), (wX5 cI cC q7 u7 iX5)]) hP hD hS hA [7] [0, 1, 2, 3, 4, 5, 6] rfl (fun _ => rfl) (fun _ => rfl) (show List.Perm [7, 0, 1, 2, 3, 4, 5, 6] (List.range 8) from by decide) (fun _ => rfl) (va_runIN (As := []) (rest := [.ref q7, .ref qS]) ⟨hx, hb, hml, hown, hts⟩ (c_X5_init l dC dI cI cC cO q7 H.size) ⟨va_cnB 0 hts gX6_init_X5_init_n49 rfl rfl rfl hN.2.2.2.2.2.2.2.2.2.2.1 (hts _ k_X6_init_27) (by decide +kernel) ⟨Nat.le_of_ble_eq_true rfl, Nat.le_of_ble_eq_true rfl⟩, rfl, (hts _ k_X6_init_70)⟩ ⟨zpM_blind, z_useM hK hN hP hD [7] [0, 1, 2, 3, 4, 5, 6] rfl (show List.Perm [7, 0, 1, 2, 3, 4, 5, 6] (List.range 8) from by decide)⟩ rfl rfl hl.1 rfl (lv_room (Nat.le_of_ble_eq_true rfl)) dX6_init_75 ⟨Nat.le_of_ble_eq_true rfl, Nat.le_of_ble_eq_true rfl⟩) (fun u7 _ H locs hP hD hS => ?_)
  refine W.eq (g2 := F0 m 78 ls [.ref q7, .ref qS]) rfl ?_
  have hP : va_P (dC, dI) vwCl ([[(qS, .inr (6, [.ref q1, .ref q2, .ref q3, .ref q4, .ref q5, .ref q6, .null, .int 0, .int 0, .int 0, .int 0]))], (wX0 cI q1 u1 iX0), (wX0 cI q2 u2 iX0), (wX4 cI q3 u3 iX4), (wX1 cI q4 u4 iX1), (wX2 q5 iX2), (wX3 cO q6 u6 iX3 (fun _ => none)), (wX5 cI cC q7 u7 iX5)] : List va_W).flatten H := hP
  have hD : va_D A ([[(qS, .inr (6, [.ref q1, .ref q2, .ref q3, .ref q4, .ref q5, .ref q6, .null, .int 0, .int 0, .int 0, .int 0]))], (wX0 cI q1 u1 iX0), (wX0 cI q2 u2 iX0), (wX4 cI q3 u3 iX4), (wX1 cI q4 u4 iX1), (wX2 q5 iX2), (wX3 cO q6 u6 iX3 (fun _ => none)), (wX5 cI cC q7 u7 iX5)] : List va_W).flatten := hD
  refine z_putF (gs' := [[(qS, .inr (6, [.ref q1, .ref q2, .ref q3, .ref q4, .ref q5, .ref q6, .ref q7, .int 0, .int 0, .int 0, .int 0]))], (wX0 cI q1 u1 iX0), (wX0 cI q2 u2 iX0), (wX4 cI q3 u3 iX4), (wX1 cI q4 u4 iX1), (wX2 q5 iX2), (wX3 cO q6 u6 iX3 (fun _ => none)), (wX5 cI cC q7 u7 iX5)]) (D := (dC, dI)) (ci := 6) (ty := .object "JoinedLight$Text") (C := RX6) (T := TX6) (N := 11) hx hb hts u_X6_init_X6 tyX6 tyX6_ok nmX6 hown hK hP hD hS 0 rfl rfl 6 (by decide) (hts _ k_X6_init_28) (fun _ h9 => h9) rfl hin rfl (by decide +kernel) rfl rfl (Nat.le_of_ble_eq_true rfl) rfl dX6_init_78 (fun H locs hP hD hS => ?_)
  exact zE_vret (gs := [[(qS, .inr (6, [.ref q1, .ref q2, .ref q3, .ref q4, .ref q5, .ref q6, .ref q7, .int 0, .int 0, .int 0, .int 0]))], (wX0 cI q1 u1 iX0), (wX0 cI q2 u2 iX0), (wX4 cI q3 u3 iX4), (wX1 cI q4 u4 iX1), (wX2 q5 iX2), (wX3 cO q6 u6 iX3 (fun _ => none)), (wX5 cI cC q7 u7 iX5)]) (u := ((fun k => if k = 0 then q1 else if k = 1 then q2 else if k = 2 then q3 else if k = 3 then q4 else if k = 4 then q5 else if k = 5 then q6 else if k = 6 then q7 else 0, fun k => if k = 0 then u1 else if k = 1 then u2 else if k = 2 then u3 else if k = 3 then u4 else if k = 4 then u5 else if k = 5 then u6 else if k = 6 then u7 else fun _ => 0) : (Nat → Nat) × (Nat → Nat → Nat))) hx hb hr hP hD hS ⟨rfl, trivial, rfl⟩ hlk dX6_init_81

theorem u_X7_init_X7 : ∀ w ∈ u_ws RX7 TX7 21, w ∈ wsX7_init := fun w h => List.mem_cons_of_mem _ (List.mem_append_right _ h)
theorem k_X7_init_1 : Cond.methodLink RX7 1 objectInit ∈ wsX7_init := List.mem_of_getElem? (i := 1) rfl
theorem k_X7_init_2 : Cond.instanceMethod objectInit ∈ wsX7_init := List.mem_of_getElem? (i := 2) rfl
theorem k_X7_init_3 : Cond.code objectInit ⟨#[0xb1]⟩ 1 none ∈ wsX7_init := List.mem_of_getElem? (i := 3) rfl
theorem k_X7_init_4 : Cond.arrayClass .int ∈ wsX7_init := List.mem_of_getElem? (i := 4) rfl
theorem k_X7_init_5 : Cond.fieldLink RX7 7 "JoinedLightModel" "s" "[I" ∈ wsX7_init := List.mem_of_getElem? (i := 5) rfl
theorem k_X7_init_6 : Cond.fieldLink RX7 13 "JoinedLightModel" "past" "[I" ∈ wsX7_init := List.mem_of_getElem? (i := 6) rfl
theorem k_X7_init_7 : Cond.fieldLink RX7 16 "JoinedLightModel" "held" "[I" ∈ wsX7_init := List.mem_of_getElem? (i := 7) rfl
theorem k_X7_init_8 : Cond.fieldLink RX7 19 "JoinedLightModel" "tried" "[I" ∈ wsX7_init := List.mem_of_getElem? (i := 8) rfl
theorem k_X7_init_9 : Cond.fieldLink RX7 22 "JoinedLightModel" "text" "[I" ∈ wsX7_init := List.mem_of_getElem? (i := 9) rfl
theorem k_X7_init_10 : Cond.fieldLink RX7 25 "JoinedLightModel" "cells" "[I" ∈ wsX7_init := List.mem_of_getElem? (i := 10) rfl
theorem k_X7_init_11 : Cond.fieldLink RX7 28 "JoinedLightModel" "sets" "[I" ∈ wsX7_init := List.mem_of_getElem? (i := 11) rfl
theorem k_X7_init_12 : Cond.fieldLink RX7 31 "JoinedLightModel" "told" "[I" ∈ wsX7_init := List.mem_of_getElem? (i := 12) rfl
abbrev rm_X7_init : Room := { frames := 1, cells := 8, slots := 492, locals := 20 }
set_option maxHeartbeats 4000000 in
set_option maxRecDepth 100000 in
theorem c_X7_init (l : Launch) (dC : Nat → ClassId) (dI : Nat → Nat → Nat) (cI cC cO : ClassId) (qS : Nat) : cE l (dC, dI) (zT cI cC cO) yX7_init wsX7_init rm_X7_init [.ref qS] [[(qS, .inr (7, [.null, .null, .null, .null, .int 0, .int 0, .null, .int 0, .int 0, .int 0, .int 0, .int 0, .null, .null, .int 0, .int 0, .int 0, .int 0, .int 0, .int 0, .null]))]] (fun u : Nat → Nat => [(wX7 cI qS u iX7)]) (fun _ => True) none 8 492 := by
  refine zE_in (cc := cX7_init) (maxL := 1) (ret := none) (plainFor_of_name (by decide)) rfl (Nat.le_of_ble_eq_true rfl) ?_
  intro p e s m below meth c hx hb hml hr hlk hown hts hK hN hin A hA H locs hP hD hS ls hl
  have hl : lv_has ls 1 [(0, .ref qS)] := hl
  refine lv_aload_n hx hb dX7_init_0 rfl (lv_at hl 0 rfl) ?_
  refine W.objInit hx hb hown (hts _ k_X7_init_1) (hts _ k_X7_init_2) (hts _ k_X7_init_3) rfl (by rw [hml]; exact hl.1) rfl dX7_init_1 (Nat.le_of_ble_eq_true rfl) (Nat.le_of_ble_eq_true rfl) ?_
  refine W.eq (g2 := F0 m 4 ls []) rfl ?_
  refine lv_aload_n hx hb dX7_init_4 rfl (lv_at hl 0 rfl) ?_
  refine lv_bipush (v := (59 : Int32)) hx hb dX7_init_5 (by decide) ?_
  refine z_newi hx hb (hts _ k_X7_init_4) hK hP hD hS hA 59 (by decide) (by decide) (by decide) (Nat.le_of_ble_eq_true rfl) (Nat.le_of_ble_eq_true rfl) dX7_init_7 (fun q1 H hP hD hS => ?_)
  have hP : va_P (dC, dI) vwCl ([[(qS, .inr (7, [.null, .null, .null, .null, .int 0, .int 0, .null, .int 0, .int 0, .int 0, .int 0, .int 0, .null, .null, .int 0, .int 0, .int 0, .int 0, .int 0, .int 0, .null]))], [(q1, .inl (cI, 59, .inl (fun _ => 0)))]] : List va_W).flatten H := hP
  have hD : va_D A ([[(qS, .inr (7, [.null, .null, .null, .null, .int 0, .int 0, .null, .int 0, .int 0, .int 0, .int 0, .int 0, .null, .null, .int 0, .int 0, .int 0, .int 0, .int 0, .int 0, .null]))], [(q1, .inl (cI, 59, .inl (fun _ => 0)))]] : List va_W).flatten := hD
  refine z_putF (gs' := [[(qS, .inr (7, [.ref q1, .null, .null, .null, .int 0, .int 0, .null, .int 0, .int 0, .int 0, .int 0, .int 0, .null, .null, .int 0, .int 0, .int 0, .int 0, .int 0, .int 0, .null]))], [(q1, .inl (cI, 59, .inl (fun _ => 0)))]]) (D := (dC, dI)) (ci := 7) (ty := .array .int) (C := RX7) (T := TX7) (N := 21) hx hb hts u_X7_init_X7 tyX7 tyX7_ok nmX7 hown hK hP hD hS 0 rfl rfl 0 (by decide) (hts _ k_X7_init_5) (fun _ h9 => h9) rfl hin rfl (by decide +kernel) rfl rfl (Nat.le_of_ble_eq_true rfl) rfl dX7_init_9 (fun H locs hP hD hS => ?_)
  refine lv_aload_n hx hb dX7_init_12 rfl (lv_at hl 0 rfl) ?_
  refine lv_sipush (v := (236 : Int32)) hx hb dX7_init_13 (by decide) ?_
  refine z_newi hx hb (hts _ k_X7_init_4) hK hP hD hS hA 236 (by decide) (by decide) (by decide) (Nat.le_of_ble_eq_true rfl) (Nat.le_of_ble_eq_true rfl) dX7_init_16 (fun q2 H hP hD hS => ?_)
  have hP : va_P (dC, dI) vwCl ([[(qS, .inr (7, [.ref q1, .null, .null, .null, .int 0, .int 0, .null, .int 0, .int 0, .int 0, .int 0, .int 0, .null, .null, .int 0, .int 0, .int 0, .int 0, .int 0, .int 0, .null]))], [(q1, .inl (cI, 59, .inl (fun _ => 0)))], [(q2, .inl (cI, 236, .inl (fun _ => 0)))]] : List va_W).flatten H := hP
  have hD : va_D A ([[(qS, .inr (7, [.ref q1, .null, .null, .null, .int 0, .int 0, .null, .int 0, .int 0, .int 0, .int 0, .int 0, .null, .null, .int 0, .int 0, .int 0, .int 0, .int 0, .int 0, .null]))], [(q1, .inl (cI, 59, .inl (fun _ => 0)))], [(q2, .inl (cI, 236, .inl (fun _ => 0)))]] : List va_W).flatten := hD
  refine z_putF (gs' := [[(qS, .inr (7, [.ref q1, .ref q2, .null, .null, .int 0, .int 0, .null, .int 0, .int 0, .int 0, .int 0, .int 0, .null, .null, .int 0, .int 0, .int 0, .int 0, .int 0, .int 0, .null]))], [(q1, .inl (cI, 59, .inl (fun _ => 0)))], [(q2, .inl (cI, 236, .inl (fun _ => 0)))]]) (D := (dC, dI)) (ci := 7) (ty := .array .int) (C := RX7) (T := TX7) (N := 21) hx hb hts u_X7_init_X7 tyX7 tyX7_ok nmX7 hown hK hP hD hS 0 rfl rfl 1 (by decide) (hts _ k_X7_init_6) (fun _ h9 => h9) rfl hin rfl (by decide +kernel) rfl rfl (Nat.le_of_ble_eq_true rfl) rfl dX7_init_18 (fun H locs hP hD hS => ?_)
  refine lv_aload_n hx hb dX7_init_21 rfl (lv_at hl 0 rfl) ?_
  refine lv_bipush (v := (59 : Int32)) hx hb dX7_init_22 (by decide) ?_
  refine z_newi hx hb (hts _ k_X7_init_4) hK hP hD hS hA 59 (by decide) (by decide) (by decide) (Nat.le_of_ble_eq_true rfl) (Nat.le_of_ble_eq_true rfl) dX7_init_24 (fun q3 H hP hD hS => ?_)
  have hP : va_P (dC, dI) vwCl ([[(qS, .inr (7, [.ref q1, .ref q2, .null, .null, .int 0, .int 0, .null, .int 0, .int 0, .int 0, .int 0, .int 0, .null, .null, .int 0, .int 0, .int 0, .int 0, .int 0, .int 0, .null]))], [(q1, .inl (cI, 59, .inl (fun _ => 0)))], [(q2, .inl (cI, 236, .inl (fun _ => 0)))], [(q3, .inl (cI, 59, .inl (fun _ => 0)))]] : List va_W).flatten H := hP
  have hD : va_D A ([[(qS, .inr (7, [.ref q1, .ref q2, .null, .null, .int 0, .int 0, .null, .int 0, .int 0, .int 0, .int 0, .int 0, .null, .null, .int 0, .int 0, .int 0, .int 0, .int 0, .int 0, .null]))], [(q1, .inl (cI, 59, .inl (fun _ => 0)))], [(q2, .inl (cI, 236, .inl (fun _ => 0)))], [(q3, .inl (cI, 59, .inl (fun _ => 0)))]] : List va_W).flatten := hD
  refine z_putF (gs' := [[(qS, .inr (7, [.ref q1, .ref q2, .ref q3, .null, .int 0, .int 0, .null, .int 0, .int 0, .int 0, .int 0, .int 0, .null, .null, .int 0, .int 0, .int 0, .int 0, .int 0, .int 0, .null]))], [(q1, .inl (cI, 59, .inl (fun _ => 0)))], [(q2, .inl (cI, 236, .inl (fun _ => 0)))], [(q3, .inl (cI, 59, .inl (fun _ => 0)))]]) (D := (dC, dI)) (ci := 7) (ty := .array .int) (C := RX7) (T := TX7) (N := 21) hx hb hts u_X7_init_X7 tyX7 tyX7_ok nmX7 hown hK hP hD hS 0 rfl rfl 2 (by decide) (hts _ k_X7_init_7) (fun _ h9 => h9) rfl hin rfl (by decide +kernel) rfl rfl (Nat.le_of_ble_eq_true rfl) rfl dX7_init_26 (fun H locs hP hD hS => ?_)
  refine lv_aload_n hx hb dX7_init_29 rfl (lv_at hl 0 rfl) ?_
  refine lv_bipush (v := (59 : Int32)) hx hb dX7_init_30 (by decide) ?_
  refine z_newi hx hb (hts _ k_X7_init_4) hK hP hD hS hA 59 (by decide) (by decide) (by decide) (Nat.le_of_ble_eq_true rfl) (Nat.le_of_ble_eq_true rfl) dX7_init_32 (fun q4 H hP hD hS => ?_)
  have hP : va_P (dC, dI) vwCl ([[(qS, .inr (7, [.ref q1, .ref q2, .ref q3, .null, .int 0, .int 0, .null, .int 0, .int 0, .int 0, .int 0, .int 0, .null, .null, .int 0, .int 0, .int 0, .int 0, .int 0, .int 0, .null]))], [(q1, .inl (cI, 59, .inl (fun _ => 0)))], [(q2, .inl (cI, 236, .inl (fun _ => 0)))], [(q3, .inl (cI, 59, .inl (fun _ => 0)))], [(q4, .inl (cI, 59, .inl (fun _ => 0)))]] : List va_W).flatten H := hP
  have hD : va_D A ([[(qS, .inr (7, [.ref q1, .ref q2, .ref q3, .null, .int 0, .int 0, .null, .int 0, .int 0, .int 0, .int 0, .int 0, .null, .null, .int 0, .int 0, .int 0, .int 0, .int 0, .int 0, .null]))], [(q1, .inl (cI, 59, .inl (fun _ => 0)))], [(q2, .inl (cI, 236, .inl (fun _ => 0)))], [(q3, .inl (cI, 59, .inl (fun _ => 0)))], [(q4, .inl (cI, 59, .inl (fun _ => 0)))]] : List va_W).flatten := hD
  refine z_putF (gs' := [[(qS, .inr (7, [.ref q1, .ref q2, .ref q3, .ref q4, .int 0, .int 0, .null, .int 0, .int 0, .int 0, .int 0, .int 0, .null, .null, .int 0, .int 0, .int 0, .int 0, .int 0, .int 0, .null]))], [(q1, .inl (cI, 59, .inl (fun _ => 0)))], [(q2, .inl (cI, 236, .inl (fun _ => 0)))], [(q3, .inl (cI, 59, .inl (fun _ => 0)))], [(q4, .inl (cI, 59, .inl (fun _ => 0)))]]) (D := (dC, dI)) (ci := 7) (ty := .array .int) (C := RX7) (T := TX7) (N := 21) hx hb hts u_X7_init_X7 tyX7 tyX7_ok nmX7 hown hK hP hD hS 0 rfl rfl 3 (by decide) (hts _ k_X7_init_8) (fun _ h9 => h9) rfl hin rfl (by decide +kernel) rfl rfl (Nat.le_of_ble_eq_true rfl) rfl dX7_init_34 (fun H locs hP hD hS => ?_)
  refine lv_aload_n hx hb dX7_init_37 rfl (lv_at hl 0 rfl) ?_
  refine lv_bipush (v := (60 : Int32)) hx hb dX7_init_38 (by decide) ?_
  refine z_newi hx hb (hts _ k_X7_init_4) hK hP hD hS hA 60 (by decide) (by decide) (by decide) (Nat.le_of_ble_eq_true rfl) (Nat.le_of_ble_eq_true rfl) dX7_init_40 (fun q5 H hP hD hS => ?_)
  have hP : va_P (dC, dI) vwCl ([[(qS, .inr (7, [.ref q1, .ref q2, .ref q3, .ref q4, .int 0, .int 0, .null, .int 0, .int 0, .int 0, .int 0, .int 0, .null, .null, .int 0, .int 0, .int 0, .int 0, .int 0, .int 0, .null]))], [(q1, .inl (cI, 59, .inl (fun _ => 0)))], [(q2, .inl (cI, 236, .inl (fun _ => 0)))], [(q3, .inl (cI, 59, .inl (fun _ => 0)))], [(q4, .inl (cI, 59, .inl (fun _ => 0)))], [(q5, .inl (cI, 60, .inl (fun _ => 0)))]] : List va_W).flatten H := hP
  have hD : va_D A ([[(qS, .inr (7, [.ref q1, .ref q2, .ref q3, .ref q4, .int 0, .int 0, .null, .int 0, .int 0, .int 0, .int 0, .int 0, .null, .null, .int 0, .int 0, .int 0, .int 0, .int 0, .int 0, .null]))], [(q1, .inl (cI, 59, .inl (fun _ => 0)))], [(q2, .inl (cI, 236, .inl (fun _ => 0)))], [(q3, .inl (cI, 59, .inl (fun _ => 0)))], [(q4, .inl (cI, 59, .inl (fun _ => 0)))], [(q5, .inl (cI, 60, .inl (fun _ => 0)))]] : List va_W).flatten := hD
  refine z_putF (gs' := [[(qS, .inr (7, [.ref q1, .ref q2, .ref q3, .ref q4, .int 0, .int 0, .ref q5, .int 0, .int 0, .int 0, .int 0, .int 0, .null, .null, .int 0, .int 0, .int 0, .int 0, .int 0, .int 0, .null]))], [(q1, .inl (cI, 59, .inl (fun _ => 0)))], [(q2, .inl (cI, 236, .inl (fun _ => 0)))], [(q3, .inl (cI, 59, .inl (fun _ => 0)))], [(q4, .inl (cI, 59, .inl (fun _ => 0)))], [(q5, .inl (cI, 60, .inl (fun _ => 0)))]]) (D := (dC, dI)) (ci := 7) (ty := .array .int) (C := RX7) (T := TX7) (N := 21) hx hb hts u_X7_init_X7 tyX7 tyX7_ok nmX7 hown hK hP hD hS 0 rfl rfl 6 (by decide) (hts _ k_X7_init_9) (fun _ h9 => h9) rfl hin rfl (by decide +kernel) rfl rfl (Nat.le_of_ble_eq_true rfl) rfl dX7_init_42 (fun H locs hP hD hS => ?_)
  refine lv_aload_n hx hb dX7_init_45 rfl (lv_at hl 0 rfl) ?_
  refine lv_bipush (v := (8 : Int32)) hx hb dX7_init_46 (by decide) ?_
  refine z_newi hx hb (hts _ k_X7_init_4) hK hP hD hS hA 8 (by decide) (by decide) (by decide) (Nat.le_of_ble_eq_true rfl) (Nat.le_of_ble_eq_true rfl) dX7_init_48 (fun q6 H hP hD hS => ?_)
  have hP : va_P (dC, dI) vwCl ([[(qS, .inr (7, [.ref q1, .ref q2, .ref q3, .ref q4, .int 0, .int 0, .ref q5, .int 0, .int 0, .int 0, .int 0, .int 0, .null, .null, .int 0, .int 0, .int 0, .int 0, .int 0, .int 0, .null]))], [(q1, .inl (cI, 59, .inl (fun _ => 0)))], [(q2, .inl (cI, 236, .inl (fun _ => 0)))], [(q3, .inl (cI, 59, .inl (fun _ => 0)))], [(q4, .inl (cI, 59, .inl (fun _ => 0)))], [(q5, .inl (cI, 60, .inl (fun _ => 0)))], [(q6, .inl (cI, 8, .inl (fun _ => 0)))]] : List va_W).flatten H := hP
  have hD : va_D A ([[(qS, .inr (7, [.ref q1, .ref q2, .ref q3, .ref q4, .int 0, .int 0, .ref q5, .int 0, .int 0, .int 0, .int 0, .int 0, .null, .null, .int 0, .int 0, .int 0, .int 0, .int 0, .int 0, .null]))], [(q1, .inl (cI, 59, .inl (fun _ => 0)))], [(q2, .inl (cI, 236, .inl (fun _ => 0)))], [(q3, .inl (cI, 59, .inl (fun _ => 0)))], [(q4, .inl (cI, 59, .inl (fun _ => 0)))], [(q5, .inl (cI, 60, .inl (fun _ => 0)))], [(q6, .inl (cI, 8, .inl (fun _ => 0)))]] : List va_W).flatten := hD
  refine z_putF (gs' := [[(qS, .inr (7, [.ref q1, .ref q2, .ref q3, .ref q4, .int 0, .int 0, .ref q5, .int 0, .int 0, .int 0, .int 0, .int 0, .ref q6, .null, .int 0, .int 0, .int 0, .int 0, .int 0, .int 0, .null]))], [(q1, .inl (cI, 59, .inl (fun _ => 0)))], [(q2, .inl (cI, 236, .inl (fun _ => 0)))], [(q3, .inl (cI, 59, .inl (fun _ => 0)))], [(q4, .inl (cI, 59, .inl (fun _ => 0)))], [(q5, .inl (cI, 60, .inl (fun _ => 0)))], [(q6, .inl (cI, 8, .inl (fun _ => 0)))]]) (D := (dC, dI)) (ci := 7) (ty := .array .int) (C := RX7) (T := TX7) (N := 21) hx hb hts u_X7_init_X7 tyX7 tyX7_ok nmX7 hown hK hP hD hS 0 rfl rfl 12 (by decide) (hts _ k_X7_init_10) (fun _ h9 => h9) rfl hin rfl (by decide +kernel) rfl rfl (Nat.le_of_ble_eq_true rfl) rfl dX7_init_50 (fun H locs hP hD hS => ?_)
  refine lv_aload_n hx hb dX7_init_53 rfl (lv_at hl 0 rfl) ?_
  refine lv_bipush (v := (8 : Int32)) hx hb dX7_init_54 (by decide) ?_
  refine z_newi hx hb (hts _ k_X7_init_4) hK hP hD hS hA 8 (by decide) (by decide) (by decide) (Nat.le_of_ble_eq_true rfl) (Nat.le_of_ble_eq_true rfl) dX7_init_56 (fun q7 H hP hD hS => ?_)
  have hP : va_P (dC, dI) vwCl ([[(qS, .inr (7, [.ref q1, .ref q2, .ref q3, .ref q4, .int 0, .int 0, .ref q5, .int 0, .int 0, .int 0, .int 0, .int 0, .ref q6, .null, .int 0, .int 0, .int 0, .int 0, .int 0, .int 0, .null]))], [(q1, .inl (cI, 59, .inl (fun _ => 0)))], [(q2, .inl (cI, 236, .inl (fun _ => 0)))], [(q3, .inl (cI, 59, .inl (fun _ => 0)))], [(q4, .inl (cI, 59, .inl (fun _ => 0)))], [(q5, .inl (cI, 60, .inl (fun _ => 0)))], [(q6, .inl (cI, 8, .inl (fun _ => 0)))], [(q7, .inl (cI, 8, .inl (fun _ => 0)))]] : List va_W).flatten H := hP
  have hD : va_D A ([[(qS, .inr (7, [.ref q1, .ref q2, .ref q3, .ref q4, .int 0, .int 0, .ref q5, .int 0, .int 0, .int 0, .int 0, .int 0, .ref q6, .null, .int 0, .int 0, .int 0, .int 0, .int 0, .int 0, .null]))], [(q1, .inl (cI, 59, .inl (fun _ => 0)))], [(q2, .inl (cI, 236, .inl (fun _ => 0)))], [(q3, .inl (cI, 59, .inl (fun _ => 0)))], [(q4, .inl (cI, 59, .inl (fun _ => 0)))], [(q5, .inl (cI, 60, .inl (fun _ => 0)))], [(q6, .inl (cI, 8, .inl (fun _ => 0)))], [(q7, .inl (cI, 8, .inl (fun _ => 0)))]] : List va_W).flatten := hD
  refine z_putF (gs' := [[(qS, .inr (7, [.ref q1, .ref q2, .ref q3, .ref q4, .int 0, .int 0, .ref q5, .int 0, .int 0, .int 0, .int 0, .int 0, .ref q6, .ref q7, .int 0, .int 0, .int 0, .int 0, .int 0, .int 0, .null]))], [(q1, .inl (cI, 59, .inl (fun _ => 0)))], [(q2, .inl (cI, 236, .inl (fun _ => 0)))], [(q3, .inl (cI, 59, .inl (fun _ => 0)))], [(q4, .inl (cI, 59, .inl (fun _ => 0)))], [(q5, .inl (cI, 60, .inl (fun _ => 0)))], [(q6, .inl (cI, 8, .inl (fun _ => 0)))], [(q7, .inl (cI, 8, .inl (fun _ => 0)))]]) (D := (dC, dI)) (ci := 7) (ty := .array .int) (C := RX7) (T := TX7) (N := 21) hx hb hts u_X7_init_X7 tyX7 tyX7_ok nmX7 hown hK hP hD hS 0 rfl rfl 13 (by decide) (hts _ k_X7_init_11) (fun _ h9 => h9) rfl hin rfl (by decide +kernel) rfl rfl (Nat.le_of_ble_eq_true rfl) rfl dX7_init_58 (fun H locs hP hD hS => ?_)
  refine lv_aload_n hx hb dX7_init_61 rfl (lv_at hl 0 rfl) ?_
  refine lv_iconst (v := (3 : Int32)) hx hb dX7_init_62 (by decide) ?_
  refine z_newi hx hb (hts _ k_X7_init_4) hK hP hD hS hA 3 (by decide) (by decide) (by decide) (Nat.le_of_ble_eq_true rfl) (Nat.le_of_ble_eq_true rfl) dX7_init_63 (fun q8 H hP hD hS => ?_)
  have hP : va_P (dC, dI) vwCl ([[(qS, .inr (7, [.ref q1, .ref q2, .ref q3, .ref q4, .int 0, .int 0, .ref q5, .int 0, .int 0, .int 0, .int 0, .int 0, .ref q6, .ref q7, .int 0, .int 0, .int 0, .int 0, .int 0, .int 0, .null]))], [(q1, .inl (cI, 59, .inl (fun _ => 0)))], [(q2, .inl (cI, 236, .inl (fun _ => 0)))], [(q3, .inl (cI, 59, .inl (fun _ => 0)))], [(q4, .inl (cI, 59, .inl (fun _ => 0)))], [(q5, .inl (cI, 60, .inl (fun _ => 0)))], [(q6, .inl (cI, 8, .inl (fun _ => 0)))], [(q7, .inl (cI, 8, .inl (fun _ => 0)))], [(q8, .inl (cI, 3, .inl (fun _ => 0)))]] : List va_W).flatten H := hP
  have hD : va_D A ([[(qS, .inr (7, [.ref q1, .ref q2, .ref q3, .ref q4, .int 0, .int 0, .ref q5, .int 0, .int 0, .int 0, .int 0, .int 0, .ref q6, .ref q7, .int 0, .int 0, .int 0, .int 0, .int 0, .int 0, .null]))], [(q1, .inl (cI, 59, .inl (fun _ => 0)))], [(q2, .inl (cI, 236, .inl (fun _ => 0)))], [(q3, .inl (cI, 59, .inl (fun _ => 0)))], [(q4, .inl (cI, 59, .inl (fun _ => 0)))], [(q5, .inl (cI, 60, .inl (fun _ => 0)))], [(q6, .inl (cI, 8, .inl (fun _ => 0)))], [(q7, .inl (cI, 8, .inl (fun _ => 0)))], [(q8, .inl (cI, 3, .inl (fun _ => 0)))]] : List va_W).flatten := hD
  refine z_putF (gs' := [[(qS, .inr (7, [.ref q1, .ref q2, .ref q3, .ref q4, .int 0, .int 0, .ref q5, .int 0, .int 0, .int 0, .int 0, .int 0, .ref q6, .ref q7, .int 0, .int 0, .int 0, .int 0, .int 0, .int 0, .ref q8]))], [(q1, .inl (cI, 59, .inl (fun _ => 0)))], [(q2, .inl (cI, 236, .inl (fun _ => 0)))], [(q3, .inl (cI, 59, .inl (fun _ => 0)))], [(q4, .inl (cI, 59, .inl (fun _ => 0)))], [(q5, .inl (cI, 60, .inl (fun _ => 0)))], [(q6, .inl (cI, 8, .inl (fun _ => 0)))], [(q7, .inl (cI, 8, .inl (fun _ => 0)))], [(q8, .inl (cI, 3, .inl (fun _ => 0)))]]) (D := (dC, dI)) (ci := 7) (ty := .array .int) (C := RX7) (T := TX7) (N := 21) hx hb hts u_X7_init_X7 tyX7 tyX7_ok nmX7 hown hK hP hD hS 0 rfl rfl 20 (by decide) (hts _ k_X7_init_12) (fun _ h9 => h9) rfl hin rfl (by decide +kernel) rfl rfl (Nat.le_of_ble_eq_true rfl) rfl dX7_init_65 (fun H locs hP hD hS => ?_)
  refine lv_aload_n hx hb dX7_init_68 rfl (lv_at hl 0 rfl) ?_
  refine va_get (D := (dC, dI)) (ci := 7) (v := .ref q1) (C := RX7) (T := TX7) (N := 21) hx hb hts u_X7_init_X7 hown hK hP 0 rfl rfl 0 (by decide) (hts _ k_X7_init_5) (fun _ h9 => h9) rfl dX7_init_69 ?_
  refine lv_iconst (v := (2 : Int32)) hx hb dX7_init_72 (by decide) ?_
  refine lv_bipush (v := (20 : Int32)) hx hb dX7_init_73 (by decide) ?_
  refine z_iast (gs' := [[(qS, .inr (7, [.ref q1, .ref q2, .ref q3, .ref q4, .int 0, .int 0, .ref q5, .int 0, .int 0, .int 0, .int 0, .int 0, .ref q6, .ref q7, .int 0, .int 0, .int 0, .int 0, .int 0, .int 0, .ref q8]))], [(q1, .inl (cI, 59, .inl (upd (fun _ => 0) (2 : Int32).toNatClampNeg (20 : Int32))))], [(q2, .inl (cI, 236, .inl (fun _ => 0)))], [(q3, .inl (cI, 59, .inl (fun _ => 0)))], [(q4, .inl (cI, 59, .inl (fun _ => 0)))], [(q5, .inl (cI, 60, .inl (fun _ => 0)))], [(q6, .inl (cI, 8, .inl (fun _ => 0)))], [(q7, .inl (cI, 8, .inl (fun _ => 0)))], [(q8, .inl (cI, 3, .inl (fun _ => 0)))]]) hx hb hK hP hD hS 1 0 rfl rfl (vp_in_nI (n := 2) (by decide) (by decide)) rfl dX7_init_75 (fun H locs hP hD hS => ?_)
  exact zE_vret (gs := [[(qS, .inr (7, [.ref q1, .ref q2, .ref q3, .ref q4, .int 0, .int 0, .ref q5, .int 0, .int 0, .int 0, .int 0, .int 0, .ref q6, .ref q7, .int 0, .int 0, .int 0, .int 0, .int 0, .int 0, .ref q8]))], [(q1, .inl (cI, 59, .inl (upd (fun _ => 0) (2 : Int32).toNatClampNeg (20 : Int32))))], [(q2, .inl (cI, 236, .inl (fun _ => 0)))], [(q3, .inl (cI, 59, .inl (fun _ => 0)))], [(q4, .inl (cI, 59, .inl (fun _ => 0)))], [(q5, .inl (cI, 60, .inl (fun _ => 0)))], [(q6, .inl (cI, 8, .inl (fun _ => 0)))], [(q7, .inl (cI, 8, .inl (fun _ => 0)))], [(q8, .inl (cI, 3, .inl (fun _ => 0)))]]) (u := (fun k => if k = 0 then q1 else if k = 1 then q2 else if k = 2 then q3 else if k = 3 then q4 else if k = 6 then q5 else if k = 12 then q6 else if k = 13 then q7 else if k = 20 then q8 else 0 : Nat → Nat)) hx hb hr hP hD hS ⟨rfl, trivial, rfl⟩ hlk dX7_init_76
