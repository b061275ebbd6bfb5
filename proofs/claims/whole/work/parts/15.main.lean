def f_X6_oneIf  (x0 : Int32) : Option (Int32) := (if x0 = 0 then (some ((0 : Int32))) else (some ((1 : Int32))))
abbrev rm_X6_oneIf : Room := { frames := 0, cells := 0, slots := 0, locals := 0 }
set_option maxHeartbeats 4000000 in
set_option maxRecDepth 100000 in
theorem c_X6_oneIf (l : Launch) (dC : Nat → ClassId) (dI : Nat → Nat → Nat) (cI cC cO : ClassId)  (x0 : Int32) (R : Int32) (hf : f_X6_oneIf x0 = some R) : cR l (dC, dI) (zT cI cC cO) yX6_oneIf wsX6_oneIf rm_X6_oneIf [.int x0] [] (some (.int R)) := by
  refine zR_in (cc := cX6_oneIf) (maxL := 1) (ret := (some .int)) (plainFor_of_name (by decide)) rfl (Nat.le_of_ble_eq_true rfl) ?_
  intro p e s m below meth c hx hb hml hr hlk hown hts hK hN hP ls hl
  have hl : lv_has ls 1 [(0, .int x0)] := hl
  unfold f_X6_oneIf at hf
  refine lv_iload_n hx hb dX6_oneIf_0 rfl (lv_at hl 0 rfl) ?_
  refine lv_if_eq (tgt := 8) hx hb dX6_oneIf_1 (by decide) (fun c_1 => ?_) (fun c_1 => ?_)
  · have hf := zif_t hf c_1
    refine lv_iconst (v := (0 : Int32)) hx hb dX6_oneIf_8 (by decide) ?_
    exact zR_ret hx hb hr rfl hf hlk dX6_oneIf_9
  · have hf := zif_f hf c_1
    refine lv_iconst (v := (1 : Int32)) hx hb dX6_oneIf_4 (by decide) ?_
    refine lv_goto (tgt := 9) hx hb dX6_oneIf_5 (by decide) ?_
    exact zR_ret hx hb hr rfl hf hlk dX6_oneIf_9

def f_X6_lineOf (gM : zG) (gB : zG) (gR : zG) (x1 : Int32) (x2 : Int32) : Option (Int32 × zG) := (zbind (f_X0_hasLine gB x1) (fun R1 => (if R1 = 0 then (some ((-1000000001 : Int32), gR)) else (zbind (f_X6_within x2 (0 : Int32) (7 : Int32)) (fun R3 => (if R3 = 0 then (some ((-1000000001 : Int32), gR)) else (zbind (f_X4_follow gR gB) (fun R5 => (zbind (f_X4_comes R5 x1) (fun R6 => (if x2 = (0 : Int32) then (zin x1 8 (some ((gB 0 x1.toNatClampNeg), R5))) else (if x2 = (1 : Int32) then (zin x1 8 (some ((gB 1 x1.toNatClampNeg), R5))) else (if x2 = (2 : Int32) then (zbind (f_X6_oneIf R6) (fun R12 => (some (R12, R5)))) else (if x2 = (3 : Int32) then (if R6 = 0 then (some ((-1000000004 : Int32), R5)) else (zin x1 8 (some ((R5 0 x1.toNatClampNeg), R5)))) else (if x2 = (4 : Int32) then (if R6 = 0 then (some ((-1000000004 : Int32), R5)) else (zin x1 8 (some ((R5 1 x1.toNatClampNeg), R5)))) else (if x2 = (5 : Int32) then (if R6 = 0 then (some ((-1000000004 : Int32), R5)) else (zin x1 8 (zbind (f_X0_cellOf gB (R5 0 x1.toNatClampNeg)) (fun R22 => (some (R22, R5)))))) else (if x2 = (6 : Int32) then (if R6 = 0 then (zin x1 8 (some ((R5 2 x1.toNatClampNeg), R5))) else (some ((-1000000004 : Int32), R5))) else (if R6 = 0 then (zin x1 8 (some ((R5 3 x1.toNatClampNeg), R5))) else (some ((-1000000004 : Int32), R5))))))))))))))))))))
theorem u_X6_lineOf_X6 : ∀ w ∈ u_ws RX6 TX6 11, w ∈ wsX6_lineOf := fun w h => List.mem_cons_of_mem _ (List.mem_append_left _ (List.mem_append_left _ (List.mem_append_right _ h)))
theorem u_X6_lineOf_X0 : ∀ w ∈ u_ws RX0 TX0 10, w ∈ wsX6_lineOf := fun w h => List.mem_cons_of_mem _ (List.mem_append_left _ (List.mem_append_right _ h))
theorem u_X6_lineOf_X4 : ∀ w ∈ u_ws RX4 TX4 5, w ∈ wsX6_lineOf := fun w h => List.mem_cons_of_mem _ (List.mem_append_right _ h)
theorem k_X6_lineOf_1 : Cond.fieldLink RX6 10 "JoinedLight" "bench" "LJoinedLight$Bench;" ∈ wsX6_lineOf := List.mem_of_getElem? (i := 1) rfl
theorem k_X6_lineOf_2 : Cond.constant RX6 94 (-1000000001) ∈ wsX6_lineOf := List.mem_of_getElem? (i := 2) rfl
theorem k_X6_lineOf_3 : Cond.fieldLink RX6 22 "JoinedLight" "rays" "LJoinedLight$Rays;" ∈ wsX6_lineOf := List.mem_of_getElem? (i := 3) rfl
theorem k_X6_lineOf_4 : Cond.fieldLink RX6 101 "JoinedLight$Bench" "colours" "[I" ∈ wsX6_lineOf := List.mem_of_getElem? (i := 4) rfl
theorem k_X6_lineOf_5 : Cond.fieldLink RX6 105 "JoinedLight$Bench" "lights" "[I" ∈ wsX6_lineOf := List.mem_of_getElem? (i := 5) rfl
theorem k_X6_lineOf_7 : Cond.constant RX6 115 (-1000000004) ∈ wsX6_lineOf := List.mem_of_getElem? (i := 7) rfl
theorem k_X6_lineOf_6 : Cond.fieldLink RX6 112 "JoinedLight$Rays" "heights" "[I" ∈ wsX6_lineOf := List.mem_of_getElem? (i := 6) rfl
theorem k_X6_lineOf_8 : Cond.fieldLink RX6 116 "JoinedLight$Rays" "slopes" "[I" ∈ wsX6_lineOf := List.mem_of_getElem? (i := 8) rfl
theorem k_X6_lineOf_9 : Cond.fieldLink RX6 122 "JoinedLight$Rays" "lostAt" "[I" ∈ wsX6_lineOf := List.mem_of_getElem? (i := 9) rfl
theorem k_X6_lineOf_10 : Cond.fieldLink RX6 125 "JoinedLight$Rays" "lostWhy" "[I" ∈ wsX6_lineOf := List.mem_of_getElem? (i := 10) rfl
abbrev rm_X6_lineOf : Room := { frames := 5, cells := 0, slots := 0, locals := 118 }
set_option maxHeartbeats 4000000 in
set_option maxRecDepth 100000 in
theorem c_X6_lineOf (l : Launch) (dC : Nat → ClassId) (dI : Nat → Nat → Nat) (cI cC cO : ClassId) (qM : Nat) (bM : Nat → Nat) (gM : zG) (aB : Nat → Nat) (gB : zG) (aR : Nat → Nat) (gR : zG) (x1 : Int32) (x2 : Int32) (R : Int32 × zG) (hf : f_X6_lineOf gM gB gR x1 x2 = some R) : cM l (dC, dI) (zT cI cC cO) yX6_lineOf wsX6_lineOf rm_X6_lineOf [.ref qM, .int x1, .int x2] [(wX6 qM bM gM), (wX0 cI (bM 0) aB gB), (wX4 cI (bM 2) aR gR)] [(wX6 qM bM gM), (wX0 cI (bM 0) aB gB), (wX4 cI (bM 2) aR R.2)] (some (.int R.1)) 0 0 := by
  refine zM_in (cc := cX6_lineOf) (maxL := 4) (ret := (some .int)) (plainFor_of_name (by decide)) rfl (Nat.le_of_ble_eq_true rfl) ?_
  intro p e s m below meth c hx hb hml hr hlk hown hts hK hN A hA hP hD hS ls hl
  have hl : lv_has ls 4 [(0, .ref qM), (1, .int x1), (2, .int x2)] := hl
  unfold f_X6_lineOf at hf
  obtain ⟨H, hH⟩ : ∃ H, H = s.heap := ⟨_, rfl⟩
  obtain ⟨locs, hlocs⟩ : ∃ locs : List Loc, locs = [] := ⟨_, rfl⟩
  have hS : va_S A s.heap H locs := by rw [hH, hlocs]; exact hS
  rw [← hH] at hP
  refine zheap hH hlocs ?_
  refine lv_aload_n hx hb dX6_lineOf_0 rfl (lv_at hl 0 rfl) ?_
  refine va_get (D := (dC, dI)) (ci := 6) (v := .ref (bM 0)) (C := RX6) (T := TX6) (N := 11) hx hb hts u_X6_lineOf_X6 hown hK hP 0 rfl rfl 0 (by decide) (hts _ k_X6_lineOf_1) (fun _ h9 => h9) rfl dX6_lineOf_1 ?_
  refine lv_iload_n hx hb dX6_lineOf_4 rfl (lv_at hl 1 rfl) ?_
  obtain ⟨R1, e_1, hf⟩ := zbind_ex hf
  refine z_callRi (va_runV (As := [.int x1]) (rest := []) ⟨hx, hb, hml, hown, hts⟩ (c_X0_hasLine l dC dI cI cC cO (bM 0) aB gB x1 R1 e_1) (cwV 1 hts gX6_lineOf_X0_hasLine rfl rfl rfl (by decide +kernel) ⟨Nat.le_of_ble_eq_true rfl, Nat.le_of_ble_eq_true rfl⟩) ⟨zpR_blind, va_recv hK hP (ci := 0) (q0 := 1) rfl rfl, z_useR hK hN hP [1] rfl⟩ rfl rfl hl.1 rfl (lv_room (Nat.le_of_ble_eq_true rfl)) dX6_lineOf_5 ⟨Nat.le_of_ble_eq_true rfl, Nat.le_of_ble_eq_true rfl⟩) ?_
  refine lv_if_eq (tgt := 21) hx hb dX6_lineOf_8 (by decide) (fun c_2 => ?_) (fun c_2 => ?_)
  · have hf := zif_t hf c_2
    refine lv_ldc (v := (-1000000001 : Int32)) hx hb hown (hts _ k_X6_lineOf_2) dX6_lineOf_21 ?_
    exact zM_ret (gs := [(wX6 qM bM gM), (wX0 cI (bM 0) aB gB), (wX4 cI (bM 2) aR gR)]) hx hb hr rfl hP hD hS (by rw [← Option.some.inj hf]; exact ⟨rfl, rfl⟩) hlk dX6_lineOf_23
  · have hf := zif_f hf c_2
    refine lv_iload_n hx hb dX6_lineOf_11 rfl (lv_at hl 2 rfl) ?_
    refine lv_iconst (v := (0 : Int32)) hx hb dX6_lineOf_12 (by decide) ?_
    refine lv_bipush (v := (7 : Int32)) hx hb dX6_lineOf_13 (by decide) ?_
    obtain ⟨R3, e_3, hf⟩ := zbind_ex hf
    refine z_callRi (va_runS (As := [.int x2, .int (0 : Int32), .int (7 : Int32)]) (rest := []) ⟨hx, hb, hml, hown, hts⟩ (c_X6_within l dC dI cI cC cO  x2 (0 : Int32) (7 : Int32) R3 e_3) (va_cwS 3 hts gX6_lineOf_X6_within rfl rfl rfl (by decide +kernel) ⟨Nat.le_of_ble_eq_true rfl, Nat.le_of_ble_eq_true rfl⟩) ⟨zpR_blind, z_useR hK hN hP [] rfl⟩ rfl rfl hl.1 rfl (lv_room (Nat.le_of_ble_eq_true rfl)) dX6_lineOf_15 ⟨Nat.le_of_ble_eq_true rfl, Nat.le_of_ble_eq_true rfl⟩) ?_
    refine lv_if_ne (tgt := 24) hx hb dX6_lineOf_18 (by decide) (fun c_4 => ?_) (fun c_4 => ?_)
    · have hf := zif_f hf c_4
      refine lv_aload_n hx hb dX6_lineOf_24 rfl (lv_at hl 0 rfl) ?_
      refine va_get (D := (dC, dI)) (ci := 6) (v := .ref (bM 2)) (C := RX6) (T := TX6) (N := 11) hx hb hts u_X6_lineOf_X6 hown hK hP 0 rfl rfl 2 (by decide) (hts _ k_X6_lineOf_3) (fun _ h9 => h9) rfl dX6_lineOf_25 ?_
      refine lv_aload_n hx hb dX6_lineOf_28 rfl (lv_at hl 0 rfl) ?_
      refine va_get (D := (dC, dI)) (ci := 6) (v := .ref (bM 0)) (C := RX6) (T := TX6) (N := 11) hx hb hts u_X6_lineOf_X6 hown hK hP 0 rfl rfl 0 (by decide) (hts _ k_X6_lineOf_1) (fun _ h9 => h9) rfl dX6_lineOf_29 ?_
      obtain ⟨R5, e_5, hf⟩ := zbind_ex hf
      refine z_callM (gs2 := [(wX6 qM bM gM), (wX0 cI (bM 0) aB gB), (wX4 cI (bM 2) aR R5)]) hP hD hS hA [2, 1] [0] rfl rfl rfl (show List.Perm [2, 1, 0] (List.range 3) from by decide) rfl (va_runV (As := [.ref (bM 0)]) (rest := []) ⟨hx, hb, hml, hown, hts⟩ (c_X4_follow l dC dI cI cC cO (bM 2) aR gR (bM 0) aB gB  R5 e_5 H.size) (cwV 1 hts gX6_lineOf_X4_follow rfl rfl rfl (by decide +kernel) ⟨Nat.le_of_ble_eq_true rfl, Nat.le_of_ble_eq_true rfl⟩) ⟨zpM_blind, va_recv hK hP (ci := 4) (q0 := 9) rfl rfl, z_useM hK hN hP hD [2, 1] [0] rfl (show List.Perm [2, 1, 0] (List.range 3) from by decide)⟩ rfl rfl hl.1 rfl (lv_room (Nat.le_of_ble_eq_true rfl)) dX6_lineOf_32 ⟨Nat.le_of_ble_eq_true rfl, Nat.le_of_ble_eq_true rfl⟩) (fun H locs hP hD hS => ?_)
      refine W.eq (g2 := F0 m 35 ls []) rfl ?_
      refine lv_aload_n hx hb dX6_lineOf_35 rfl (lv_at hl 0 rfl) ?_
      refine va_get (D := (dC, dI)) (ci := 6) (v := .ref (bM 2)) (C := RX6) (T := TX6) (N := 11) hx hb hts u_X6_lineOf_X6 hown hK hP 0 rfl rfl 2 (by decide) (hts _ k_X6_lineOf_3) (fun _ h9 => h9) rfl dX6_lineOf_36 ?_
      refine lv_iload_n hx hb dX6_lineOf_39 rfl (lv_at hl 1 rfl) ?_
      obtain ⟨R6, e_6, hf⟩ := zbind_ex hf
      refine z_callRi (va_runV (As := [.int x1]) (rest := []) ⟨hx, hb, hml, hown, hts⟩ (c_X4_comes l dC dI cI cC cO (bM 2) aR R5 x1 R6 e_6) (cwV 1 hts gX6_lineOf_X4_comes rfl rfl rfl (by decide +kernel) ⟨Nat.le_of_ble_eq_true rfl, Nat.le_of_ble_eq_true rfl⟩) ⟨zpR_blind, va_recv hK hP (ci := 4) (q0 := 9) rfl rfl, z_useR hK hN hP [2] rfl⟩ rfl rfl hl.1 rfl (lv_room (Nat.le_of_ble_eq_true rfl)) dX6_lineOf_40 ⟨Nat.le_of_ble_eq_true rfl, Nat.le_of_ble_eq_true rfl⟩) ?_
      refine lv_istore_n (lv' := [(3, .int R6), (0, .ref qM), (1, .int x1), (2, .int x2)]) hx hb dX6_lineOf_43 rfl hl (by decide) rfl (fun ls hl => ?_)
      refine lv_iload_n hx hb dX6_lineOf_44 rfl (lv_at hl 3 rfl) ?_
      by_cases c_7 : x2 = (0 : Int32)
      · have hf := zif_t hf c_7
        refine lv_tableIn (tgt := 88) (off := 43) hx hb dX6_lineOf_45 (by rw [c_7]; decide) (by rw [c_7]; decide) (by rw [c_7]; first | done | rfl) (by decide) ?_
        refine lv_aload_n hx hb dX6_lineOf_88 rfl (lv_at hl 1 rfl) ?_
        refine va_get (D := (dC, dI)) (ci := 6) (v := .ref (bM 0)) (C := RX6) (T := TX6) (N := 11) hx hb hts u_X6_lineOf_X6 hown hK hP 0 rfl rfl 0 (by decide) (hts _ k_X6_lineOf_1) (fun _ h9 => h9) rfl dX6_lineOf_89 ?_
        refine va_get (D := (dC, dI)) (ci := 0) (v := .ref (aB 0)) (C := RX0) (T := TX0) (N := 10) hx hb hts u_X6_lineOf_X0 hown hK hP 1 rfl rfl 0 (by decide) (hts _ k_X6_lineOf_4) (fun _ h9 => h9) rfl dX6_lineOf_92 ?_
        refine lv_iload_n hx hb dX6_lineOf_95 rfl (lv_at hl 2 rfl) ?_
        obtain ⟨h_8, hf⟩ := zin_ex hf
        refine va_iald hx hb hK hP 2 0 rfl rfl h_8 dX6_lineOf_96 ?_
        exact zM_ret (gs := [(wX6 qM bM gM), (wX0 cI (bM 0) aB gB), (wX4 cI (bM 2) aR R5)]) hx hb hr rfl hP hD hS (by rw [← Option.some.inj hf]; exact ⟨rfl, rfl⟩) hlk dX6_lineOf_97
      · have hf := zif_f hf c_7
        by_cases c_9 : x2 = (1 : Int32)
        · have hf := zif_t hf c_9
          refine lv_tableIn (tgt := 98) (off := 53) hx hb dX6_lineOf_45 (by rw [c_9]; decide) (by rw [c_9]; decide) (by rw [c_9]; first | done | rfl) (by decide) ?_
          refine lv_aload_n hx hb dX6_lineOf_98 rfl (lv_at hl 1 rfl) ?_
          refine va_get (D := (dC, dI)) (ci := 6) (v := .ref (bM 0)) (C := RX6) (T := TX6) (N := 11) hx hb hts u_X6_lineOf_X6 hown hK hP 0 rfl rfl 0 (by decide) (hts _ k_X6_lineOf_1) (fun _ h9 => h9) rfl dX6_lineOf_99 ?_
          refine va_get (D := (dC, dI)) (ci := 0) (v := .ref (aB 1)) (C := RX0) (T := TX0) (N := 10) hx hb hts u_X6_lineOf_X0 hown hK hP 1 rfl rfl 1 (by decide) (hts _ k_X6_lineOf_5) (fun _ h9 => h9) rfl dX6_lineOf_102 ?_
          refine lv_iload_n hx hb dX6_lineOf_105 rfl (lv_at hl 2 rfl) ?_
          obtain ⟨h_10, hf⟩ := zin_ex hf
          refine va_iald hx hb hK hP 3 0 rfl rfl h_10 dX6_lineOf_106 ?_
          exact zM_ret (gs := [(wX6 qM bM gM), (wX0 cI (bM 0) aB gB), (wX4 cI (bM 2) aR R5)]) hx hb hr rfl hP hD hS (by rw [← Option.some.inj hf]; exact ⟨rfl, rfl⟩) hlk dX6_lineOf_107
        · have hf := zif_f hf c_9
          by_cases c_11 : x2 = (2 : Int32)
          · have hf := zif_t hf c_11
            refine lv_tableIn (tgt := 108) (off := 63) hx hb dX6_lineOf_45 (by rw [c_11]; decide) (by rw [c_11]; decide) (by rw [c_11]; first | done | rfl) (by decide) ?_
            refine lv_iload_n hx hb dX6_lineOf_108 rfl (lv_at hl 0 rfl) ?_
            obtain ⟨R12, e_12, hf⟩ := zbind_ex hf
            refine z_callRi (va_runS (As := [.int R6]) (rest := []) ⟨hx, hb, hml, hown, hts⟩ (c_X6_oneIf l dC dI cI cC cO  R6 R12 e_12) (va_cwS 1 hts gX6_lineOf_X6_oneIf rfl rfl rfl (by decide +kernel) ⟨Nat.le_of_ble_eq_true rfl, Nat.le_of_ble_eq_true rfl⟩) ⟨zpR_blind, z_useR hK hN hP [] rfl⟩ rfl rfl hl.1 rfl (lv_room (Nat.le_of_ble_eq_true rfl)) dX6_lineOf_109 ⟨Nat.le_of_ble_eq_true rfl, Nat.le_of_ble_eq_true rfl⟩) ?_
            exact zM_ret (gs := [(wX6 qM bM gM), (wX0 cI (bM 0) aB gB), (wX4 cI (bM 2) aR R5)]) hx hb hr rfl hP hD hS (by rw [← Option.some.inj hf]; exact ⟨rfl, rfl⟩) hlk dX6_lineOf_112
          · have hf := zif_f hf c_11
            by_cases c_13 : x2 = (3 : Int32)
            · have hf := zif_t hf c_13
              refine lv_tableIn (tgt := 113) (off := 68) hx hb dX6_lineOf_45 (by rw [c_13]; decide) (by rw [c_13]; decide) (by rw [c_13]; first | done | rfl) (by decide) ?_
              refine lv_iload_n hx hb dX6_lineOf_113 rfl (lv_at hl 0 rfl) ?_
              refine lv_if_eq (tgt := 129) hx hb dX6_lineOf_114 (by decide) (fun c_14 => ?_) (fun c_14 => ?_)
              · have hf := zif_t hf c_14
                refine lv_ldc (v := (-1000000004 : Int32)) hx hb hown (hts _ k_X6_lineOf_7) dX6_lineOf_129 ?_
                exact zM_ret (gs := [(wX6 qM bM gM), (wX0 cI (bM 0) aB gB), (wX4 cI (bM 2) aR R5)]) hx hb hr rfl hP hD hS (by rw [← Option.some.inj hf]; exact ⟨rfl, rfl⟩) hlk dX6_lineOf_131
              · have hf := zif_f hf c_14
                refine lv_aload_n hx hb dX6_lineOf_117 rfl (lv_at hl 1 rfl) ?_
                refine va_get (D := (dC, dI)) (ci := 6) (v := .ref (bM 2)) (C := RX6) (T := TX6) (N := 11) hx hb hts u_X6_lineOf_X6 hown hK hP 0 rfl rfl 2 (by decide) (hts _ k_X6_lineOf_3) (fun _ h9 => h9) rfl dX6_lineOf_118 ?_
                refine va_get (D := (dC, dI)) (ci := 4) (v := .ref (aR 0)) (C := RX4) (T := TX4) (N := 5) hx hb hts u_X6_lineOf_X4 hown hK hP 9 rfl rfl 0 (by decide) (hts _ k_X6_lineOf_6) (fun _ h9 => h9) rfl dX6_lineOf_121 ?_
                refine lv_iload_n hx hb dX6_lineOf_124 rfl (lv_at hl 2 rfl) ?_
                obtain ⟨h_15, hf⟩ := zin_ex hf
                refine va_iald hx hb hK hP 10 0 rfl rfl h_15 dX6_lineOf_125 ?_
                refine lv_goto (tgt := 131) hx hb dX6_lineOf_126 (by decide) ?_
                exact zM_ret (gs := [(wX6 qM bM gM), (wX0 cI (bM 0) aB gB), (wX4 cI (bM 2) aR R5)]) hx hb hr rfl hP hD hS (by rw [← Option.some.inj hf]; exact ⟨rfl, rfl⟩) hlk dX6_lineOf_131
            · have hf := zif_f hf c_13
              by_cases c_16 : x2 = (4 : Int32)
              · have hf := zif_t hf c_16
                refine lv_tableIn (tgt := 132) (off := 87) hx hb dX6_lineOf_45 (by rw [c_16]; decide) (by rw [c_16]; decide) (by rw [c_16]; first | done | rfl) (by decide) ?_
                refine lv_iload_n hx hb dX6_lineOf_132 rfl (lv_at hl 0 rfl) ?_
                refine lv_if_eq (tgt := 148) hx hb dX6_lineOf_133 (by decide) (fun c_17 => ?_) (fun c_17 => ?_)
                · have hf := zif_t hf c_17
                  refine lv_ldc (v := (-1000000004 : Int32)) hx hb hown (hts _ k_X6_lineOf_7) dX6_lineOf_148 ?_
                  exact zM_ret (gs := [(wX6 qM bM gM), (wX0 cI (bM 0) aB gB), (wX4 cI (bM 2) aR R5)]) hx hb hr rfl hP hD hS (by rw [← Option.some.inj hf]; exact ⟨rfl, rfl⟩) hlk dX6_lineOf_150
                · have hf := zif_f hf c_17
                  refine lv_aload_n hx hb dX6_lineOf_136 rfl (lv_at hl 1 rfl) ?_
                  refine va_get (D := (dC, dI)) (ci := 6) (v := .ref (bM 2)) (C := RX6) (T := TX6) (N := 11) hx hb hts u_X6_lineOf_X6 hown hK hP 0 rfl rfl 2 (by decide) (hts _ k_X6_lineOf_3) (fun _ h9 => h9) rfl dX6_lineOf_137 ?_
                  refine va_get (D := (dC, dI)) (ci := 4) (v := .ref (aR 1)) (C := RX4) (T := TX4) (N := 5) hx hb hts u_X6_lineOf_X4 hown hK hP 9 rfl rfl 1 (by decide) (hts _ k_X6_lineOf_8) (fun _ h9 => h9) rfl dX6_lineOf_140 ?_
                  refine lv_iload_n hx hb dX6_lineOf_143 rfl (lv_at hl 2 rfl) ?_
                  obtain ⟨h_18, hf⟩ := zin_ex hf
                  refine va_iald hx hb hK hP 11 0 rfl rfl h_18 dX6_lineOf_144 ?_
                  refine lv_goto (tgt := 150) hx hb dX6_lineOf_145 (by decide) ?_
                  exact zM_ret (gs := [(wX6 qM bM gM), (wX0 cI (bM 0) aB gB), (wX4 cI (bM 2) aR R5)]) hx hb hr rfl hP hD hS (by rw [← Option.some.inj hf]; exact ⟨rfl, rfl⟩) hlk dX6_lineOf_150
              · have hf := zif_f hf c_16
                by_cases c_19 : x2 = (5 : Int32)
                · have hf := zif_t hf c_19
                  refine lv_tableIn (tgt := 151) (off := 106) hx hb dX6_lineOf_45 (by rw [c_19]; decide) (by rw [c_19]; decide) (by rw [c_19]; first | done | rfl) (by decide) ?_
                  refine lv_iload_n hx hb dX6_lineOf_151 rfl (lv_at hl 0 rfl) ?_
                  refine lv_if_eq (tgt := 174) hx hb dX6_lineOf_152 (by decide) (fun c_20 => ?_) (fun c_20 => ?_)
                  · have hf := zif_t hf c_20
                    refine lv_ldc (v := (-1000000004 : Int32)) hx hb hown (hts _ k_X6_lineOf_7) dX6_lineOf_174 ?_
                    exact zM_ret (gs := [(wX6 qM bM gM), (wX0 cI (bM 0) aB gB), (wX4 cI (bM 2) aR R5)]) hx hb hr rfl hP hD hS (by rw [← Option.some.inj hf]; exact ⟨rfl, rfl⟩) hlk dX6_lineOf_176
                  · have hf := zif_f hf c_20
                    refine lv_aload_n hx hb dX6_lineOf_155 rfl (lv_at hl 1 rfl) ?_
                    refine va_get (D := (dC, dI)) (ci := 6) (v := .ref (bM 0)) (C := RX6) (T := TX6) (N := 11) hx hb hts u_X6_lineOf_X6 hown hK hP 0 rfl rfl 0 (by decide) (hts _ k_X6_lineOf_1) (fun _ h9 => h9) rfl dX6_lineOf_156 ?_
                    refine lv_aload_n hx hb dX6_lineOf_159 rfl (lv_at hl 1 rfl) ?_
                    refine va_get (D := (dC, dI)) (ci := 6) (v := .ref (bM 2)) (C := RX6) (T := TX6) (N := 11) hx hb hts u_X6_lineOf_X6 hown hK hP 0 rfl rfl 2 (by decide) (hts _ k_X6_lineOf_3) (fun _ h9 => h9) rfl dX6_lineOf_160 ?_
                    refine va_get (D := (dC, dI)) (ci := 4) (v := .ref (aR 0)) (C := RX4) (T := TX4) (N := 5) hx hb hts u_X6_lineOf_X4 hown hK hP 9 rfl rfl 0 (by decide) (hts _ k_X6_lineOf_6) (fun _ h9 => h9) rfl dX6_lineOf_163 ?_
                    refine lv_iload_n hx hb dX6_lineOf_166 rfl (lv_at hl 2 rfl) ?_
                    obtain ⟨h_21, hf⟩ := zin_ex hf
                    refine va_iald hx hb hK hP 10 0 rfl rfl h_21 dX6_lineOf_167 ?_
                    obtain ⟨R22, e_22, hf⟩ := zbind_ex hf
                    refine z_callRi (va_runV (As := [.int (R5 0 x1.toNatClampNeg)]) (rest := []) ⟨hx, hb, hml, hown, hts⟩ (c_X0_cellOf l dC dI cI cC cO (bM 0) aB gB (R5 0 x1.toNatClampNeg) R22 e_22) (cwV 1 hts gX6_lineOf_X0_cellOf rfl rfl rfl (by decide +kernel) ⟨Nat.le_of_ble_eq_true rfl, Nat.le_of_ble_eq_true rfl⟩) ⟨zpR_blind, va_recv hK hP (ci := 0) (q0 := 1) rfl rfl, z_useR hK hN hP [1] rfl⟩ rfl rfl hl.1 rfl (lv_room (Nat.le_of_ble_eq_true rfl)) dX6_lineOf_168 ⟨Nat.le_of_ble_eq_true rfl, Nat.le_of_ble_eq_true rfl⟩) ?_
                    refine lv_goto (tgt := 176) hx hb dX6_lineOf_171 (by decide) ?_
                    exact zM_ret (gs := [(wX6 qM bM gM), (wX0 cI (bM 0) aB gB), (wX4 cI (bM 2) aR R5)]) hx hb hr rfl hP hD hS (by rw [← Option.some.inj hf]; exact ⟨rfl, rfl⟩) hlk dX6_lineOf_176
                · have hf := zif_f hf c_19
                  by_cases c_23 : x2 = (6 : Int32)
                  · have hf := zif_t hf c_23
                    refine lv_tableIn (tgt := 177) (off := 132) hx hb dX6_lineOf_45 (by rw [c_23]; decide) (by rw [c_23]; decide) (by rw [c_23]; first | done | rfl) (by decide) ?_
                    refine lv_iload_n hx hb dX6_lineOf_177 rfl (lv_at hl 0 rfl) ?_
                    refine lv_if_eq (tgt := 186) hx hb dX6_lineOf_178 (by decide) (fun c_24 => ?_) (fun c_24 => ?_)
                    · have hf := zif_t hf c_24
                      refine lv_aload_n hx hb dX6_lineOf_186 rfl (lv_at hl 1 rfl) ?_
                      refine va_get (D := (dC, dI)) (ci := 6) (v := .ref (bM 2)) (C := RX6) (T := TX6) (N := 11) hx hb hts u_X6_lineOf_X6 hown hK hP 0 rfl rfl 2 (by decide) (hts _ k_X6_lineOf_3) (fun _ h9 => h9) rfl dX6_lineOf_187 ?_
                      refine va_get (D := (dC, dI)) (ci := 4) (v := .ref (aR 2)) (C := RX4) (T := TX4) (N := 5) hx hb hts u_X6_lineOf_X4 hown hK hP 9 rfl rfl 2 (by decide) (hts _ k_X6_lineOf_9) (fun _ h9 => h9) rfl dX6_lineOf_190 ?_
                      refine lv_iload_n hx hb dX6_lineOf_193 rfl (lv_at hl 2 rfl) ?_
                      obtain ⟨h_25, hf⟩ := zin_ex hf
                      refine va_iald hx hb hK hP 12 0 rfl rfl h_25 dX6_lineOf_194 ?_
                      exact zM_ret (gs := [(wX6 qM bM gM), (wX0 cI (bM 0) aB gB), (wX4 cI (bM 2) aR R5)]) hx hb hr rfl hP hD hS (by rw [← Option.some.inj hf]; exact ⟨rfl, rfl⟩) hlk dX6_lineOf_195
                    · have hf := zif_f hf c_24
                      refine lv_ldc (v := (-1000000004 : Int32)) hx hb hown (hts _ k_X6_lineOf_7) dX6_lineOf_181 ?_
                      refine lv_goto (tgt := 195) hx hb dX6_lineOf_183 (by decide) ?_
                      exact zM_ret (gs := [(wX6 qM bM gM), (wX0 cI (bM 0) aB gB), (wX4 cI (bM 2) aR R5)]) hx hb hr rfl hP hD hS (by rw [← Option.some.inj hf]; exact ⟨rfl, rfl⟩) hlk dX6_lineOf_195
                  · have hf := zif_f hf c_23
                    refine lv_tableOut (tgt := 196) hx hb dX6_lineOf_45 (by have q_7 := zne_toInt c_7 (a := 0) (by decide); have q_9 := zne_toInt c_9 (a := 1) (by decide); have q_11 := zne_toInt c_11 (a := 2) (by decide); have q_13 := zne_toInt c_13 (a := 3) (by decide); have q_16 := zne_toInt c_16 (a := 4) (by decide); have q_19 := zne_toInt c_19 (a := 5) (by decide); have q_23 := zne_toInt c_23 (a := 6) (by decide); omega) (by decide) ?_
                    refine lv_iload_n hx hb dX6_lineOf_196 rfl (lv_at hl 0 rfl) ?_
                    refine lv_if_eq (tgt := 205) hx hb dX6_lineOf_197 (by decide) (fun c_26 => ?_) (fun c_26 => ?_)
                    · have hf := zif_t hf c_26
                      refine lv_aload_n hx hb dX6_lineOf_205 rfl (lv_at hl 1 rfl) ?_
                      refine va_get (D := (dC, dI)) (ci := 6) (v := .ref (bM 2)) (C := RX6) (T := TX6) (N := 11) hx hb hts u_X6_lineOf_X6 hown hK hP 0 rfl rfl 2 (by decide) (hts _ k_X6_lineOf_3) (fun _ h9 => h9) rfl dX6_lineOf_206 ?_
                      refine va_get (D := (dC, dI)) (ci := 4) (v := .ref (aR 3)) (C := RX4) (T := TX4) (N := 5) hx hb hts u_X6_lineOf_X4 hown hK hP 9 rfl rfl 3 (by decide) (hts _ k_X6_lineOf_10) (fun _ h9 => h9) rfl dX6_lineOf_209 ?_
                      refine lv_iload_n hx hb dX6_lineOf_212 rfl (lv_at hl 2 rfl) ?_
                      obtain ⟨h_27, hf⟩ := zin_ex hf
                      refine va_iald hx hb hK hP 13 0 rfl rfl h_27 dX6_lineOf_213 ?_
                      exact zM_ret (gs := [(wX6 qM bM gM), (wX0 cI (bM 0) aB gB), (wX4 cI (bM 2) aR R5)]) hx hb hr rfl hP hD hS (by rw [← Option.some.inj hf]; exact ⟨rfl, rfl⟩) hlk dX6_lineOf_214
                    · have hf := zif_f hf c_26
                      refine lv_ldc (v := (-1000000004 : Int32)) hx hb hown (hts _ k_X6_lineOf_7) dX6_lineOf_200 ?_
                      refine lv_goto (tgt := 214) hx hb dX6_lineOf_202 (by decide) ?_
                      exact zM_ret (gs := [(wX6 qM bM gM), (wX0 cI (bM 0) aB gB), (wX4 cI (bM 2) aR R5)]) hx hb hr rfl hP hD hS (by rw [← Option.some.inj hf]; exact ⟨rfl, rfl⟩) hlk dX6_lineOf_214
    · have hf := zif_t hf c_4
      refine lv_ldc (v := (-1000000001 : Int32)) hx hb hown (hts _ k_X6_lineOf_2) dX6_lineOf_21 ?_
      exact zM_ret (gs := [(wX6 qM bM gM), (wX0 cI (bM 0) aB gB), (wX4 cI (bM 2) aR gR)]) hx hb hr rfl hP hD hS (by rw [← Option.some.inj hf]; exact ⟨rfl, rfl⟩) hlk dX6_lineOf_23

def f_X6_turnOfThing (gM : zG) (gB : zG) (x1 : Int32) : Option (Int32) := (zbind (f_X0_hasThing gB x1) (fun R1 => (if R1 = 0 then (some ((-1000000004 : Int32))) else (zin x1 8 (if (gB 4 x1.toNatClampNeg) = 0 then (zin x1 8 (if (gB 7 x1.toNatClampNeg) = (1 : Int32) then (some ((1 : Int32))) else (some ((2 : Int32))))) else (some ((-1000000004 : Int32))))))))
theorem u_X6_turnOfThing_X6 : ∀ w ∈ u_ws RX6 TX6 11, w ∈ wsX6_turnOfThing := fun w h => List.mem_cons_of_mem _ (List.mem_append_left _ (List.mem_append_right _ h))
theorem u_X6_turnOfThing_X0 : ∀ w ∈ u_ws RX0 TX0 10, w ∈ wsX6_turnOfThing := fun w h => List.mem_cons_of_mem _ (List.mem_append_right _ h)
theorem k_X6_turnOfThing_1 : Cond.fieldLink RX6 10 "JoinedLight" "bench" "LJoinedLight$Bench;" ∈ wsX6_turnOfThing := List.mem_of_getElem? (i := 1) rfl
theorem k_X6_turnOfThing_3 : Cond.constant RX6 115 (-1000000004) ∈ wsX6_turnOfThing := List.mem_of_getElem? (i := 3) rfl
theorem k_X6_turnOfThing_2 : Cond.fieldLink RX6 134 "JoinedLight$Bench" "kinds" "[I" ∈ wsX6_turnOfThing := List.mem_of_getElem? (i := 2) rfl
theorem k_X6_turnOfThing_4 : Cond.fieldLink RX6 266 "JoinedLight$Bench" "turns" "[I" ∈ wsX6_turnOfThing := List.mem_of_getElem? (i := 4) rfl
abbrev rm_X6_turnOfThing : Room := { frames := 1, cells := 0, slots := 0, locals := 21 }
set_option maxHeartbeats 4000000 in
set_option maxRecDepth 100000 in
theorem c_X6_turnOfThing (l : Launch) (dC : Nat → ClassId) (dI : Nat → Nat → Nat) (cI cC cO : ClassId) (qM : Nat) (bM : Nat → Nat) (gM : zG) (aB : Nat → Nat) (gB : zG) (x1 : Int32) (R : Int32) (hf : f_X6_turnOfThing gM gB x1 = some R) : cR l (dC, dI) (zT cI cC cO) yX6_turnOfThing wsX6_turnOfThing rm_X6_turnOfThing [.ref qM, .int x1] [(wX6 qM bM gM), (wX0 cI (bM 0) aB gB)] (some (.int R)) := by
  refine zR_in (cc := cX6_turnOfThing) (maxL := 2) (ret := (some .int)) (plainFor_of_name (by decide)) rfl (Nat.le_of_ble_eq_true rfl) ?_
  intro p e s m below meth c hx hb hml hr hlk hown hts hK hN hP ls hl
  have hl : lv_has ls 2 [(0, .ref qM), (1, .int x1)] := hl
  unfold f_X6_turnOfThing at hf
  refine lv_aload_n hx hb dX6_turnOfThing_0 rfl (lv_at hl 0 rfl) ?_
  refine va_get (D := (dC, dI)) (ci := 6) (v := .ref (bM 0)) (C := RX6) (T := TX6) (N := 11) hx hb hts u_X6_turnOfThing_X6 hown hK hP 0 rfl rfl 0 (by decide) (hts _ k_X6_turnOfThing_1) (fun _ h9 => h9) rfl dX6_turnOfThing_1 ?_
  refine lv_iload_n hx hb dX6_turnOfThing_4 rfl (lv_at hl 1 rfl) ?_
  obtain ⟨R1, e_1, hf⟩ := zbind_ex hf
  refine z_callRi (va_runV (As := [.int x1]) (rest := []) ⟨hx, hb, hml, hown, hts⟩ (c_X0_hasThing l dC dI cI cC cO (bM 0) aB gB x1 R1 e_1) (cwV 1 hts gX6_turnOfThing_X0_hasThing rfl rfl rfl (by decide +kernel) ⟨Nat.le_of_ble_eq_true rfl, Nat.le_of_ble_eq_true rfl⟩) ⟨zpR_blind, va_recv hK hP (ci := 0) (q0 := 1) rfl rfl, z_useR hK hN hP [1] rfl⟩ rfl rfl hl.1 rfl (lv_room (Nat.le_of_ble_eq_true rfl)) dX6_turnOfThing_5 ⟨Nat.le_of_ble_eq_true rfl, Nat.le_of_ble_eq_true rfl⟩) ?_
  refine lv_if_eq (tgt := 23) hx hb dX6_turnOfThing_8 (by decide) (fun c_2 => ?_) (fun c_2 => ?_)
  · have hf := zif_t hf c_2
    refine lv_ldc (v := (-1000000004 : Int32)) hx hb hown (hts _ k_X6_turnOfThing_3) dX6_turnOfThing_23 ?_
    exact zR_ret hx hb hr rfl hf hlk dX6_turnOfThing_25
  · have hf := zif_f hf c_2
    refine lv_aload_n hx hb dX6_turnOfThing_11 rfl (lv_at hl 0 rfl) ?_
    refine va_get (D := (dC, dI)) (ci := 6) (v := .ref (bM 0)) (C := RX6) (T := TX6) (N := 11) hx hb hts u_X6_turnOfThing_X6 hown hK hP 0 rfl rfl 0 (by decide) (hts _ k_X6_turnOfThing_1) (fun _ h9 => h9) rfl dX6_turnOfThing_12 ?_
    refine va_get (D := (dC, dI)) (ci := 0) (v := .ref (aB 4)) (C := RX0) (T := TX0) (N := 10) hx hb hts u_X6_turnOfThing_X0 hown hK hP 1 rfl rfl 4 (by decide) (hts _ k_X6_turnOfThing_2) (fun _ h9 => h9) rfl dX6_turnOfThing_15 ?_
    refine lv_iload_n hx hb dX6_turnOfThing_18 rfl (lv_at hl 1 rfl) ?_
    obtain ⟨h_3, hf⟩ := zin_ex hf
    refine va_iald hx hb hK hP 5 0 rfl rfl h_3 dX6_turnOfThing_19 ?_
    refine lv_if_eq (tgt := 26) hx hb dX6_turnOfThing_20 (by decide) (fun c_4 => ?_) (fun c_4 => ?_)
    · have hf := zif_t hf c_4
      refine lv_aload_n hx hb dX6_turnOfThing_26 rfl (lv_at hl 0 rfl) ?_
      refine va_get (D := (dC, dI)) (ci := 6) (v := .ref (bM 0)) (C := RX6) (T := TX6) (N := 11) hx hb hts u_X6_turnOfThing_X6 hown hK hP 0 rfl rfl 0 (by decide) (hts _ k_X6_turnOfThing_1) (fun _ h9 => h9) rfl dX6_turnOfThing_27 ?_
      refine va_get (D := (dC, dI)) (ci := 0) (v := .ref (aB 7)) (C := RX0) (T := TX0) (N := 10) hx hb hts u_X6_turnOfThing_X0 hown hK hP 1 rfl rfl 7 (by decide) (hts _ k_X6_turnOfThing_4) (fun _ h9 => h9) rfl dX6_turnOfThing_30 ?_
      refine lv_iload_n hx hb dX6_turnOfThing_33 rfl (lv_at hl 1 rfl) ?_
      obtain ⟨h_5, hf⟩ := zin_ex hf
      refine va_iald hx hb hK hP 8 0 rfl rfl h_5 dX6_turnOfThing_34 ?_
      refine lv_iconst (v := (1 : Int32)) hx hb dX6_turnOfThing_35 (by decide) ?_
      refine lv_icmp_ne (tgt := 43) hx hb dX6_turnOfThing_36 (by decide) (fun c_6 => ?_) (fun c_6 => ?_)
      · have hf := zif_f hf c_6
        refine lv_iconst (v := (2 : Int32)) hx hb dX6_turnOfThing_43 (by decide) ?_
        exact zR_ret hx hb hr rfl hf hlk dX6_turnOfThing_44
      · have hf := zif_t hf c_6
        refine lv_iconst (v := (1 : Int32)) hx hb dX6_turnOfThing_39 (by decide) ?_
        refine lv_goto (tgt := 44) hx hb dX6_turnOfThing_40 (by decide) ?_
        exact zR_ret hx hb hr rfl hf hlk dX6_turnOfThing_44
    · have hf := zif_f hf c_4
      refine lv_ldc (v := (-1000000004 : Int32)) hx hb hown (hts _ k_X6_turnOfThing_3) dX6_turnOfThing_23 ?_
      exact zR_ret hx hb hr rfl hf hlk dX6_turnOfThing_25

def f_X6_thing (gM : zG) (gB : zG) (gR : zG) (x1 : Int32) (x2 : Int32) : Option (Int32 × zG) := (if x1 < 0 then (some ((-1000000001 : Int32), gR)) else (zbind (f_X6_within x2 (0 : Int32) (6 : Int32)) (fun R2 => (if R2 = 0 then (some ((-1000000001 : Int32), gR)) else (zbind (f_X0_hasThing gB x1) (fun R4 => (if R4 = 0 then (some ((-1000000004 : Int32), gR)) else (zbind (f_X4_follow gR gB) (fun R6 => (if x2 = (0 : Int32) then (zin x1 8 (some ((gB 3 x1.toNatClampNeg), R6))) else (if x2 = (1 : Int32) then (zin x1 8 (some ((gB 4 x1.toNatClampNeg), R6))) else (if x2 = (2 : Int32) then (zin x1 8 (some ((gB 5 x1.toNatClampNeg), R6))) else (if x2 = (3 : Int32) then (zin x1 8 (some ((gB 6 x1.toNatClampNeg), R6))) else (if x2 = (4 : Int32) then (zbind (f_X6_turnOfThing gM gB x1) (fun R16 => (some (R16, R6)))) else (if x2 = (5 : Int32) then (zin x1 8 (zbind (f_X4_linesAt R6 gB (gB 3 x1.toNatClampNeg)) (fun R19 => (some (R19, R6))))) else (zin x1 8 (zbind (f_X4_lightLostAt R6 gB (gB 3 x1.toNatClampNeg)) (fun R21 => (some (R21, R6))))))))))))))))))))
theorem u_X6_thing_X6 : ∀ w ∈ u_ws RX6 TX6 11, w ∈ wsX6_thing := fun w h => List.mem_cons_of_mem _ (List.mem_append_left _ (List.mem_append_left _ (List.mem_append_right _ h)))
theorem u_X6_thing_X0 : ∀ w ∈ u_ws RX0 TX0 10, w ∈ wsX6_thing := fun w h => List.mem_cons_of_mem _ (List.mem_append_left _ (List.mem_append_right _ h))
theorem k_X6_thing_1 : Cond.constant RX6 94 (-1000000001) ∈ wsX6_thing := List.mem_of_getElem? (i := 1) rfl
theorem k_X6_thing_2 : Cond.fieldLink RX6 10 "JoinedLight" "bench" "LJoinedLight$Bench;" ∈ wsX6_thing := List.mem_of_getElem? (i := 2) rfl
theorem k_X6_thing_4 : Cond.fieldLink RX6 22 "JoinedLight" "rays" "LJoinedLight$Rays;" ∈ wsX6_thing := List.mem_of_getElem? (i := 4) rfl
theorem k_X6_thing_5 : Cond.fieldLink RX6 131 "JoinedLight$Bench" "places" "[I" ∈ wsX6_thing := List.mem_of_getElem? (i := 5) rfl
theorem k_X6_thing_6 : Cond.fieldLink RX6 134 "JoinedLight$Bench" "kinds" "[I" ∈ wsX6_thing := List.mem_of_getElem? (i := 6) rfl
theorem k_X6_thing_7 : Cond.fieldLink RX6 137 "JoinedLight$Bench" "firsts" "[I" ∈ wsX6_thing := List.mem_of_getElem? (i := 7) rfl
theorem k_X6_thing_8 : Cond.fieldLink RX6 140 "JoinedLight$Bench" "seconds" "[I" ∈ wsX6_thing := List.mem_of_getElem? (i := 8) rfl
theorem k_X6_thing_3 : Cond.constant RX6 115 (-1000000004) ∈ wsX6_thing := List.mem_of_getElem? (i := 3) rfl
abbrev rm_X6_thing : Room := { frames := 5, cells := 0, slots := 0, locals := 118 }
set_option maxHeartbeats 4000000 in
set_option maxRecDepth 100000 in
theorem c_X6_thing (l : Launch) (dC : Nat → ClassId) (dI : Nat → Nat → Nat) (cI cC cO : ClassId) (qM : Nat) (bM : Nat → Nat) (gM : zG) (aB : Nat → Nat) (gB : zG) (aR : Nat → Nat) (gR : zG) (x1 : Int32) (x2 : Int32) (R : Int32 × zG) (hf : f_X6_thing gM gB gR x1 x2 = some R) : cM l (dC, dI) (zT cI cC cO) yX6_thing wsX6_thing rm_X6_thing [.ref qM, .int x1, .int x2] [(wX6 qM bM gM), (wX0 cI (bM 0) aB gB), (wX4 cI (bM 2) aR gR)] [(wX6 qM bM gM), (wX0 cI (bM 0) aB gB), (wX4 cI (bM 2) aR R.2)] (some (.int R.1)) 0 0 := by
  refine zM_in (cc := cX6_thing) (maxL := 3) (ret := (some .int)) (plainFor_of_name (by decide)) rfl (Nat.le_of_ble_eq_true rfl) ?_
  intro p e s m below meth c hx hb hml hr hlk hown hts hK hN A hA hP hD hS ls hl
  have hl : lv_has ls 3 [(0, .ref qM), (1, .int x1), (2, .int x2)] := hl
  unfold f_X6_thing at hf
  obtain ⟨H, hH⟩ : ∃ H, H = s.heap := ⟨_, rfl⟩
  obtain ⟨locs, hlocs⟩ : ∃ locs : List Loc, locs = [] := ⟨_, rfl⟩
  have hS : va_S A s.heap H locs := by rw [hH, hlocs]; exact hS
  rw [← hH] at hP
  refine zheap hH hlocs ?_
  refine lv_iload_n hx hb dX6_thing_0 rfl (lv_at hl 1 rfl) ?_
  refine lv_if_lt (tgt := 14) hx hb dX6_thing_1 (by decide) (fun c_1 => ?_) (fun c_1 => ?_)
  · have hf := zif_t hf c_1
    refine lv_ldc (v := (-1000000001 : Int32)) hx hb hown (hts _ k_X6_thing_1) dX6_thing_14 ?_
    exact zM_ret (gs := [(wX6 qM bM gM), (wX0 cI (bM 0) aB gB), (wX4 cI (bM 2) aR gR)]) hx hb hr rfl hP hD hS (by rw [← Option.some.inj hf]; exact ⟨rfl, rfl⟩) hlk dX6_thing_16
  · have hf := zif_f hf c_1
    refine lv_iload_n hx hb dX6_thing_4 rfl (lv_at hl 2 rfl) ?_
    refine lv_iconst (v := (0 : Int32)) hx hb dX6_thing_5 (by decide) ?_
    refine lv_bipush (v := (6 : Int32)) hx hb dX6_thing_6 (by decide) ?_
    obtain ⟨R2, e_2, hf⟩ := zbind_ex hf
    refine z_callRi (va_runS (As := [.int x2, .int (0 : Int32), .int (6 : Int32)]) (rest := []) ⟨hx, hb, hml, hown, hts⟩ (c_X6_within l dC dI cI cC cO  x2 (0 : Int32) (6 : Int32) R2 e_2) (va_cwS 3 hts gX6_thing_X6_within rfl rfl rfl (by decide +kernel) ⟨Nat.le_of_ble_eq_true rfl, Nat.le_of_ble_eq_true rfl⟩) ⟨zpR_blind, z_useR hK hN hP [] rfl⟩ rfl rfl hl.1 rfl (lv_room (Nat.le_of_ble_eq_true rfl)) dX6_thing_8 ⟨Nat.le_of_ble_eq_true rfl, Nat.le_of_ble_eq_true rfl⟩) ?_
    refine lv_if_ne (tgt := 17) hx hb dX6_thing_11 (by decide) (fun c_3 => ?_) (fun c_3 => ?_)
    · have hf := zif_f hf c_3
      refine lv_aload_n hx hb dX6_thing_17 rfl (lv_at hl 0 rfl) ?_
      refine va_get (D := (dC, dI)) (ci := 6) (v := .ref (bM 0)) (C := RX6) (T := TX6) (N := 11) hx hb hts u_X6_thing_X6 hown hK hP 0 rfl rfl 0 (by decide) (hts _ k_X6_thing_2) (fun _ h9 => h9) rfl dX6_thing_18 ?_
      refine lv_iload_n hx hb dX6_thing_21 rfl (lv_at hl 1 rfl) ?_
      obtain ⟨R4, e_4, hf⟩ := zbind_ex hf
      refine z_callRi (va_runV (As := [.int x1]) (rest := []) ⟨hx, hb, hml, hown, hts⟩ (c_X0_hasThing l dC dI cI cC cO (bM 0) aB gB x1 R4 e_4) (cwV 1 hts gX6_thing_X0_hasThing rfl rfl rfl (by decide +kernel) ⟨Nat.le_of_ble_eq_true rfl, Nat.le_of_ble_eq_true rfl⟩) ⟨zpR_blind, va_recv hK hP (ci := 0) (q0 := 1) rfl rfl, z_useR hK hN hP [1] rfl⟩ rfl rfl hl.1 rfl (lv_room (Nat.le_of_ble_eq_true rfl)) dX6_thing_22 ⟨Nat.le_of_ble_eq_true rfl, Nat.le_of_ble_eq_true rfl⟩) ?_
      refine lv_if_ne (tgt := 31) hx hb dX6_thing_25 (by decide) (fun c_5 => ?_) (fun c_5 => ?_)
      · have hf := zif_f hf c_5
        refine lv_aload_n hx hb dX6_thing_31 rfl (lv_at hl 0 rfl) ?_
        refine va_get (D := (dC, dI)) (ci := 6) (v := .ref (bM 2)) (C := RX6) (T := TX6) (N := 11) hx hb hts u_X6_thing_X6 hown hK hP 0 rfl rfl 2 (by decide) (hts _ k_X6_thing_4) (fun _ h9 => h9) rfl dX6_thing_32 ?_
        refine lv_aload_n hx hb dX6_thing_35 rfl (lv_at hl 0 rfl) ?_
        refine va_get (D := (dC, dI)) (ci := 6) (v := .ref (bM 0)) (C := RX6) (T := TX6) (N := 11) hx hb hts u_X6_thing_X6 hown hK hP 0 rfl rfl 0 (by decide) (hts _ k_X6_thing_2) (fun _ h9 => h9) rfl dX6_thing_36 ?_
        obtain ⟨R6, e_6, hf⟩ := zbind_ex hf
        refine z_callM (gs2 := [(wX6 qM bM gM), (wX0 cI (bM 0) aB gB), (wX4 cI (bM 2) aR R6)]) hP hD hS hA [2, 1] [0] rfl rfl rfl (show List.Perm [2, 1, 0] (List.range 3) from by decide) rfl (va_runV (As := [.ref (bM 0)]) (rest := []) ⟨hx, hb, hml, hown, hts⟩ (c_X4_follow l dC dI cI cC cO (bM 2) aR gR (bM 0) aB gB  R6 e_6 H.size) (cwV 1 hts gX6_thing_X4_follow rfl rfl rfl (by decide +kernel) ⟨Nat.le_of_ble_eq_true rfl, Nat.le_of_ble_eq_true rfl⟩) ⟨zpM_blind, va_recv hK hP (ci := 4) (q0 := 9) rfl rfl, z_useM hK hN hP hD [2, 1] [0] rfl (show List.Perm [2, 1, 0] (List.range 3) from by decide)⟩ rfl rfl hl.1 rfl (lv_room (Nat.le_of_ble_eq_true rfl)) dX6_thing_39 ⟨Nat.le_of_ble_eq_true rfl, Nat.le_of_ble_eq_true rfl⟩) (fun H locs hP hD hS => ?_)
        refine W.eq (g2 := F0 m 42 ls []) rfl ?_
        refine lv_iload_n hx hb dX6_thing_42 rfl (lv_at hl 2 rfl) ?_
        by_cases c_7 : x2 = (0 : Int32)
        · have hf := zif_t hf c_7
          refine lv_tableIn (tgt := 80) (off := 37) hx hb dX6_thing_43 (by rw [c_7]; decide) (by rw [c_7]; decide) (by rw [c_7]; first | done | rfl) (by decide) ?_
          refine lv_aload_n hx hb dX6_thing_80 rfl (lv_at hl 0 rfl) ?_
          refine va_get (D := (dC, dI)) (ci := 6) (v := .ref (bM 0)) (C := RX6) (T := TX6) (N := 11) hx hb hts u_X6_thing_X6 hown hK hP 0 rfl rfl 0 (by decide) (hts _ k_X6_thing_2) (fun _ h9 => h9) rfl dX6_thing_81 ?_
          refine va_get (D := (dC, dI)) (ci := 0) (v := .ref (aB 3)) (C := RX0) (T := TX0) (N := 10) hx hb hts u_X6_thing_X0 hown hK hP 1 rfl rfl 3 (by decide) (hts _ k_X6_thing_5) (fun _ h9 => h9) rfl dX6_thing_84 ?_
          refine lv_iload_n hx hb dX6_thing_87 rfl (lv_at hl 1 rfl) ?_
          obtain ⟨h_8, hf⟩ := zin_ex hf
          refine va_iald hx hb hK hP 4 0 rfl rfl h_8 dX6_thing_88 ?_
          exact zM_ret (gs := [(wX6 qM bM gM), (wX0 cI (bM 0) aB gB), (wX4 cI (bM 2) aR R6)]) hx hb hr rfl hP hD hS (by rw [← Option.some.inj hf]; exact ⟨rfl, rfl⟩) hlk dX6_thing_89
        · have hf := zif_f hf c_7
          by_cases c_9 : x2 = (1 : Int32)
          · have hf := zif_t hf c_9
            refine lv_tableIn (tgt := 90) (off := 47) hx hb dX6_thing_43 (by rw [c_9]; decide) (by rw [c_9]; decide) (by rw [c_9]; first | done | rfl) (by decide) ?_
            refine lv_aload_n hx hb dX6_thing_90 rfl (lv_at hl 0 rfl) ?_
            refine va_get (D := (dC, dI)) (ci := 6) (v := .ref (bM 0)) (C := RX6) (T := TX6) (N := 11) hx hb hts u_X6_thing_X6 hown hK hP 0 rfl rfl 0 (by decide) (hts _ k_X6_thing_2) (fun _ h9 => h9) rfl dX6_thing_91 ?_
            refine va_get (D := (dC, dI)) (ci := 0) (v := .ref (aB 4)) (C := RX0) (T := TX0) (N := 10) hx hb hts u_X6_thing_X0 hown hK hP 1 rfl rfl 4 (by decide) (hts _ k_X6_thing_6) (fun _ h9 => h9) rfl dX6_thing_94 ?_
            refine lv_iload_n hx hb dX6_thing_97 rfl (lv_at hl 1 rfl) ?_
            obtain ⟨h_10, hf⟩ := zin_ex hf
            refine va_iald hx hb hK hP 5 0 rfl rfl h_10 dX6_thing_98 ?_
            exact zM_ret (gs := [(wX6 qM bM gM), (wX0 cI (bM 0) aB gB), (wX4 cI (bM 2) aR R6)]) hx hb hr rfl hP hD hS (by rw [← Option.some.inj hf]; exact ⟨rfl, rfl⟩) hlk dX6_thing_99
          · have hf := zif_f hf c_9
            by_cases c_11 : x2 = (2 : Int32)
            · have hf := zif_t hf c_11
              refine lv_tableIn (tgt := 100) (off := 57) hx hb dX6_thing_43 (by rw [c_11]; decide) (by rw [c_11]; decide) (by rw [c_11]; first | done | rfl) (by decide) ?_
              refine lv_aload_n hx hb dX6_thing_100 rfl (lv_at hl 0 rfl) ?_
              refine va_get (D := (dC, dI)) (ci := 6) (v := .ref (bM 0)) (C := RX6) (T := TX6) (N := 11) hx hb hts u_X6_thing_X6 hown hK hP 0 rfl rfl 0 (by decide) (hts _ k_X6_thing_2) (fun _ h9 => h9) rfl dX6_thing_101 ?_
              refine va_get (D := (dC, dI)) (ci := 0) (v := .ref (aB 5)) (C := RX0) (T := TX0) (N := 10) hx hb hts u_X6_thing_X0 hown hK hP 1 rfl rfl 5 (by decide) (hts _ k_X6_thing_7) (fun _ h9 => h9) rfl dX6_thing_104 ?_
              refine lv_iload_n hx hb dX6_thing_107 rfl (lv_at hl 1 rfl) ?_
              obtain ⟨h_12, hf⟩ := zin_ex hf
              refine va_iald hx hb hK hP 6 0 rfl rfl h_12 dX6_thing_108 ?_
              exact zM_ret (gs := [(wX6 qM bM gM), (wX0 cI (bM 0) aB gB), (wX4 cI (bM 2) aR R6)]) hx hb hr rfl hP hD hS (by rw [← Option.some.inj hf]; exact ⟨rfl, rfl⟩) hlk dX6_thing_109
            · have hf := zif_f hf c_11
              by_cases c_13 : x2 = (3 : Int32)
              · have hf := zif_t hf c_13
                refine lv_tableIn (tgt := 110) (off := 67) hx hb dX6_thing_43 (by rw [c_13]; decide) (by rw [c_13]; decide) (by rw [c_13]; first | done | rfl) (by decide) ?_
                refine lv_aload_n hx hb dX6_thing_110 rfl (lv_at hl 0 rfl) ?_
                refine va_get (D := (dC, dI)) (ci := 6) (v := .ref (bM 0)) (C := RX6) (T := TX6) (N := 11) hx hb hts u_X6_thing_X6 hown hK hP 0 rfl rfl 0 (by decide) (hts _ k_X6_thing_2) (fun _ h9 => h9) rfl dX6_thing_111 ?_
                refine va_get (D := (dC, dI)) (ci := 0) (v := .ref (aB 6)) (C := RX0) (T := TX0) (N := 10) hx hb hts u_X6_thing_X0 hown hK hP 1 rfl rfl 6 (by decide) (hts _ k_X6_thing_8) (fun _ h9 => h9) rfl dX6_thing_114 ?_
                refine lv_iload_n hx hb dX6_thing_117 rfl (lv_at hl 1 rfl) ?_
                obtain ⟨h_14, hf⟩ := zin_ex hf
                refine va_iald hx hb hK hP 7 0 rfl rfl h_14 dX6_thing_118 ?_
                exact zM_ret (gs := [(wX6 qM bM gM), (wX0 cI (bM 0) aB gB), (wX4 cI (bM 2) aR R6)]) hx hb hr rfl hP hD hS (by rw [← Option.some.inj hf]; exact ⟨rfl, rfl⟩) hlk dX6_thing_119
              · have hf := zif_f hf c_13
                by_cases c_15 : x2 = (4 : Int32)
                · have hf := zif_t hf c_15
                  refine lv_tableIn (tgt := 120) (off := 77) hx hb dX6_thing_43 (by rw [c_15]; decide) (by rw [c_15]; decide) (by rw [c_15]; first | done | rfl) (by decide) ?_
                  refine lv_aload_n hx hb dX6_thing_120 rfl (lv_at hl 0 rfl) ?_
                  refine lv_iload_n hx hb dX6_thing_121 rfl (lv_at hl 1 rfl) ?_
                  obtain ⟨R16, e_16, hf⟩ := zbind_ex hf
                  refine z_callRi (va_runV (As := [.int x1]) (rest := []) ⟨hx, hb, hml, hown, hts⟩ (c_X6_turnOfThing l dC dI cI cC cO qM bM gM aB gB x1 R16 e_16) (cwV 1 hts gX6_thing_X6_turnOfThing rfl rfl rfl (by decide +kernel) ⟨Nat.le_of_ble_eq_true rfl, Nat.le_of_ble_eq_true rfl⟩) ⟨zpR_blind, va_recv hK hP (ci := 6) (q0 := 0) rfl rfl, z_useR hK hN hP [0, 1] rfl⟩ rfl rfl hl.1 rfl (lv_room (Nat.le_of_ble_eq_true rfl)) dX6_thing_122 ⟨Nat.le_of_ble_eq_true rfl, Nat.le_of_ble_eq_true rfl⟩) ?_
                  exact zM_ret (gs := [(wX6 qM bM gM), (wX0 cI (bM 0) aB gB), (wX4 cI (bM 2) aR R6)]) hx hb hr rfl hP hD hS (by rw [← Option.some.inj hf]; exact ⟨rfl, rfl⟩) hlk dX6_thing_125
                · have hf := zif_f hf c_15
                  by_cases c_17 : x2 = (5 : Int32)
                  · have hf := zif_t hf c_17
                    refine lv_tableIn (tgt := 126) (off := 83) hx hb dX6_thing_43 (by rw [c_17]; decide) (by rw [c_17]; decide) (by rw [c_17]; first | done | rfl) (by decide) ?_
                    refine lv_aload_n hx hb dX6_thing_126 rfl (lv_at hl 0 rfl) ?_
                    refine va_get (D := (dC, dI)) (ci := 6) (v := .ref (bM 2)) (C := RX6) (T := TX6) (N := 11) hx hb hts u_X6_thing_X6 hown hK hP 0 rfl rfl 2 (by decide) (hts _ k_X6_thing_4) (fun _ h9 => h9) rfl dX6_thing_127 ?_
                    refine lv_aload_n hx hb dX6_thing_130 rfl (lv_at hl 0 rfl) ?_
                    refine va_get (D := (dC, dI)) (ci := 6) (v := .ref (bM 0)) (C := RX6) (T := TX6) (N := 11) hx hb hts u_X6_thing_X6 hown hK hP 0 rfl rfl 0 (by decide) (hts _ k_X6_thing_2) (fun _ h9 => h9) rfl dX6_thing_131 ?_
                    refine lv_aload_n hx hb dX6_thing_134 rfl (lv_at hl 0 rfl) ?_
                    refine va_get (D := (dC, dI)) (ci := 6) (v := .ref (bM 0)) (C := RX6) (T := TX6) (N := 11) hx hb hts u_X6_thing_X6 hown hK hP 0 rfl rfl 0 (by decide) (hts _ k_X6_thing_2) (fun _ h9 => h9) rfl dX6_thing_135 ?_
                    refine va_get (D := (dC, dI)) (ci := 0) (v := .ref (aB 3)) (C := RX0) (T := TX0) (N := 10) hx hb hts u_X6_thing_X0 hown hK hP 1 rfl rfl 3 (by decide) (hts _ k_X6_thing_5) (fun _ h9 => h9) rfl dX6_thing_138 ?_
                    refine lv_iload_n hx hb dX6_thing_141 rfl (lv_at hl 1 rfl) ?_
                    obtain ⟨h_18, hf⟩ := zin_ex hf
                    refine va_iald hx hb hK hP 4 0 rfl rfl h_18 dX6_thing_142 ?_
                    obtain ⟨R19, e_19, hf⟩ := zbind_ex hf
                    refine z_callRi (va_runV (As := [.ref (bM 0), .int (gB 3 x1.toNatClampNeg)]) (rest := []) ⟨hx, hb, hml, hown, hts⟩ (c_X4_linesAt l dC dI cI cC cO (bM 2) aR R6 (bM 0) aB gB (gB 3 x1.toNatClampNeg) R19 e_19) (cwV 2 hts gX6_thing_X4_linesAt rfl rfl rfl (by decide +kernel) ⟨Nat.le_of_ble_eq_true rfl, Nat.le_of_ble_eq_true rfl⟩) ⟨zpR_blind, va_recv hK hP (ci := 4) (q0 := 9) rfl rfl, z_useR hK hN hP [2, 1] rfl⟩ rfl rfl hl.1 rfl (lv_room (Nat.le_of_ble_eq_true rfl)) dX6_thing_143 ⟨Nat.le_of_ble_eq_true rfl, Nat.le_of_ble_eq_true rfl⟩) ?_
                    exact zM_ret (gs := [(wX6 qM bM gM), (wX0 cI (bM 0) aB gB), (wX4 cI (bM 2) aR R6)]) hx hb hr rfl hP hD hS (by rw [← Option.some.inj hf]; exact ⟨rfl, rfl⟩) hlk dX6_thing_146
                  · have hf := zif_f hf c_17
                    refine lv_tableOut (tgt := 147) hx hb dX6_thing_43 (by have q_7 := zne_toInt c_7 (a := 0) (by decide); have q_9 := zne_toInt c_9 (a := 1) (by decide); have q_11 := zne_toInt c_11 (a := 2) (by decide); have q_13 := zne_toInt c_13 (a := 3) (by decide); have q_15 := zne_toInt c_15 (a := 4) (by decide); have q_17 := zne_toInt c_17 (a := 5) (by decide); omega) (by decide) ?_
                    refine lv_aload_n hx hb dX6_thing_147 rfl (lv_at hl 0 rfl) ?_
                    refine va_get (D := (dC, dI)) (ci := 6) (v := .ref (bM 2)) (C := RX6) (T := TX6) (N := 11) hx hb hts u_X6_thing_X6 hown hK hP 0 rfl rfl 2 (by decide) (hts _ k_X6_thing_4) (fun _ h9 => h9) rfl dX6_thing_148 ?_
                    refine lv_aload_n hx hb dX6_thing_151 rfl (lv_at hl 0 rfl) ?_
                    refine va_get (D := (dC, dI)) (ci := 6) (v := .ref (bM 0)) (C := RX6) (T := TX6) (N := 11) hx hb hts u_X6_thing_X6 hown hK hP 0 rfl rfl 0 (by decide) (hts _ k_X6_thing_2) (fun _ h9 => h9) rfl dX6_thing_152 ?_
                    refine lv_aload_n hx hb dX6_thing_155 rfl (lv_at hl 0 rfl) ?_
                    refine va_get (D := (dC, dI)) (ci := 6) (v := .ref (bM 0)) (C := RX6) (T := TX6) (N := 11) hx hb hts u_X6_thing_X6 hown hK hP 0 rfl rfl 0 (by decide) (hts _ k_X6_thing_2) (fun _ h9 => h9) rfl dX6_thing_156 ?_
                    refine va_get (D := (dC, dI)) (ci := 0) (v := .ref (aB 3)) (C := RX0) (T := TX0) (N := 10) hx hb hts u_X6_thing_X0 hown hK hP 1 rfl rfl 3 (by decide) (hts _ k_X6_thing_5) (fun _ h9 => h9) rfl dX6_thing_159 ?_
                    refine lv_iload_n hx hb dX6_thing_162 rfl (lv_at hl 1 rfl) ?_
                    obtain ⟨h_20, hf⟩ := zin_ex hf
                    refine va_iald hx hb hK hP 4 0 rfl rfl h_20 dX6_thing_163 ?_
                    obtain ⟨R21, e_21, hf⟩ := zbind_ex hf
                    refine z_callRi (va_runV (As := [.ref (bM 0), .int (gB 3 x1.toNatClampNeg)]) (rest := []) ⟨hx, hb, hml, hown, hts⟩ (c_X4_lightLostAt l dC dI cI cC cO (bM 2) aR R6 (bM 0) aB gB (gB 3 x1.toNatClampNeg) R21 e_21) (cwV 2 hts gX6_thing_X4_lightLostAt rfl rfl rfl (by decide +kernel) ⟨Nat.le_of_ble_eq_true rfl, Nat.le_of_ble_eq_true rfl⟩) ⟨zpR_blind, va_recv hK hP (ci := 4) (q0 := 9) rfl rfl, z_useR hK hN hP [2, 1] rfl⟩ rfl rfl hl.1 rfl (lv_room (Nat.le_of_ble_eq_true rfl)) dX6_thing_164 ⟨Nat.le_of_ble_eq_true rfl, Nat.le_of_ble_eq_true rfl⟩) ?_
                    exact zM_ret (gs := [(wX6 qM bM gM), (wX0 cI (bM 0) aB gB), (wX4 cI (bM 2) aR R6)]) hx hb hr rfl hP hD hS (by rw [← Option.some.inj hf]; exact ⟨rfl, rfl⟩) hlk dX6_thing_167
      · have hf := zif_t hf c_5
        refine lv_ldc (v := (-1000000004 : Int32)) hx hb hown (hts _ k_X6_thing_3) dX6_thing_28 ?_
        exact zM_ret (gs := [(wX6 qM bM gM), (wX0 cI (bM 0) aB gB), (wX4 cI (bM 2) aR gR)]) hx hb hr rfl hP hD hS (by rw [← Option.some.inj hf]; exact ⟨rfl, rfl⟩) hlk dX6_thing_30
    · have hf := zif_t hf c_3
      refine lv_ldc (v := (-1000000001 : Int32)) hx hb hown (hts _ k_X6_thing_1) dX6_thing_14 ?_
      exact zM_ret (gs := [(wX6 qM bM gM), (wX0 cI (bM 0) aB gB), (wX4 cI (bM 2) aR gR)]) hx hb hr rfl hP hD hS (by rw [← Option.some.inj hf]; exact ⟨rfl, rfl⟩) hlk dX6_thing_16

def f_X6_heightAt (gM : zG) (gB : zG) (gR : zG) (x1 : Int32) (x2 : Int32) : Option (Int32 × zG) := (zbind (f_X4_followLine gR gB x1 x2) (fun R1 => (zbind (f_X4_comes R1 x1) (fun R2 => (if R2 = 0 then (some ((-1000000004 : Int32), R1)) else (zin x1 8 (some ((R1 0 x1.toNatClampNeg), R1))))))))
theorem u_X6_heightAt_X6 : ∀ w ∈ u_ws RX6 TX6 11, w ∈ wsX6_heightAt := fun w h => List.mem_cons_of_mem _ (List.mem_append_left _ (List.mem_append_left _ (List.mem_append_right _ h)))
theorem u_X6_heightAt_X4 : ∀ w ∈ u_ws RX4 TX4 5, w ∈ wsX6_heightAt := fun w h => List.mem_cons_of_mem _ (List.mem_append_left _ (List.mem_append_right _ h))
theorem k_X6_heightAt_1 : Cond.fieldLink RX6 22 "JoinedLight" "rays" "LJoinedLight$Rays;" ∈ wsX6_heightAt := List.mem_of_getElem? (i := 1) rfl
theorem k_X6_heightAt_2 : Cond.fieldLink RX6 10 "JoinedLight" "bench" "LJoinedLight$Bench;" ∈ wsX6_heightAt := List.mem_of_getElem? (i := 2) rfl
theorem k_X6_heightAt_4 : Cond.constant RX6 115 (-1000000004) ∈ wsX6_heightAt := List.mem_of_getElem? (i := 4) rfl
theorem k_X6_heightAt_3 : Cond.fieldLink RX6 112 "JoinedLight$Rays" "heights" "[I" ∈ wsX6_heightAt := List.mem_of_getElem? (i := 3) rfl
abbrev rm_X6_heightAt : Room := { frames := 4, cells := 0, slots := 0, locals := 96 }
set_option maxHeartbeats 4000000 in
set_option maxRecDepth 100000 in
theorem c_X6_heightAt (l : Launch) (dC : Nat → ClassId) (dI : Nat → Nat → Nat) (cI cC cO : ClassId) (qM : Nat) (bM : Nat → Nat) (gM : zG) (aB : Nat → Nat) (gB : zG) (aR : Nat → Nat) (gR : zG) (x1 : Int32) (x2 : Int32) (R : Int32 × zG) (hf : f_X6_heightAt gM gB gR x1 x2 = some R) : cM l (dC, dI) (zT cI cC cO) yX6_heightAt wsX6_heightAt rm_X6_heightAt [.ref qM, .int x1, .int x2] [(wX6 qM bM gM), (wX0 cI (bM 0) aB gB), (wX4 cI (bM 2) aR gR)] [(wX6 qM bM gM), (wX0 cI (bM 0) aB gB), (wX4 cI (bM 2) aR R.2)] (some (.int R.1)) 0 0 := by
  refine zM_in (cc := cX6_heightAt) (maxL := 3) (ret := (some .int)) (plainFor_of_name (by decide)) rfl (Nat.le_of_ble_eq_true rfl) ?_
  intro p e s m below meth c hx hb hml hr hlk hown hts hK hN A hA hP hD hS ls hl
  have hl : lv_has ls 3 [(0, .ref qM), (1, .int x1), (2, .int x2)] := hl
  unfold f_X6_heightAt at hf
  obtain ⟨H, hH⟩ : ∃ H, H = s.heap := ⟨_, rfl⟩
  obtain ⟨locs, hlocs⟩ : ∃ locs : List Loc, locs = [] := ⟨_, rfl⟩
  have hS : va_S A s.heap H locs := by rw [hH, hlocs]; exact hS
  rw [← hH] at hP
  refine zheap hH hlocs ?_
  refine lv_aload_n hx hb dX6_heightAt_0 rfl (lv_at hl 0 rfl) ?_
  refine va_get (D := (dC, dI)) (ci := 6) (v := .ref (bM 2)) (C := RX6) (T := TX6) (N := 11) hx hb hts u_X6_heightAt_X6 hown hK hP 0 rfl rfl 2 (by decide) (hts _ k_X6_heightAt_1) (fun _ h9 => h9) rfl dX6_heightAt_1 ?_
  refine lv_aload_n hx hb dX6_heightAt_4 rfl (lv_at hl 0 rfl) ?_
  refine va_get (D := (dC, dI)) (ci := 6) (v := .ref (bM 0)) (C := RX6) (T := TX6) (N := 11) hx hb hts u_X6_heightAt_X6 hown hK hP 0 rfl rfl 0 (by decide) (hts _ k_X6_heightAt_2) (fun _ h9 => h9) rfl dX6_heightAt_5 ?_
  refine lv_iload_n hx hb dX6_heightAt_8 rfl (lv_at hl 1 rfl) ?_
  refine lv_iload_n hx hb dX6_heightAt_9 rfl (lv_at hl 2 rfl) ?_
  obtain ⟨R1, e_1, hf⟩ := zbind_ex hf
  refine z_callM (gs2 := [(wX6 qM bM gM), (wX0 cI (bM 0) aB gB), (wX4 cI (bM 2) aR R1)]) hP hD hS hA [2, 1] [0] rfl rfl rfl (show List.Perm [2, 1, 0] (List.range 3) from by decide) rfl (va_runV (As := [.ref (bM 0), .int x1, .int x2]) (rest := []) ⟨hx, hb, hml, hown, hts⟩ (c_X4_followLine l dC dI cI cC cO (bM 2) aR gR (bM 0) aB gB x1 x2 R1 e_1 H.size) (cwV 3 hts gX6_heightAt_X4_followLine rfl rfl rfl (by decide +kernel) ⟨Nat.le_of_ble_eq_true rfl, Nat.le_of_ble_eq_true rfl⟩) ⟨zpM_blind, va_recv hK hP (ci := 4) (q0 := 9) rfl rfl, z_useM hK hN hP hD [2, 1] [0] rfl (show List.Perm [2, 1, 0] (List.range 3) from by decide)⟩ rfl rfl hl.1 rfl (lv_room (Nat.le_of_ble_eq_true rfl)) dX6_heightAt_10 ⟨Nat.le_of_ble_eq_true rfl, Nat.le_of_ble_eq_true rfl⟩) (fun H locs hP hD hS => ?_)
  refine W.eq (g2 := F0 m 13 ls []) rfl ?_
  refine lv_aload_n hx hb dX6_heightAt_13 rfl (lv_at hl 0 rfl) ?_
  refine va_get (D := (dC, dI)) (ci := 6) (v := .ref (bM 2)) (C := RX6) (T := TX6) (N := 11) hx hb hts u_X6_heightAt_X6 hown hK hP 0 rfl rfl 2 (by decide) (hts _ k_X6_heightAt_1) (fun _ h9 => h9) rfl dX6_heightAt_14 ?_
  refine lv_iload_n hx hb dX6_heightAt_17 rfl (lv_at hl 1 rfl) ?_
  obtain ⟨R2, e_2, hf⟩ := zbind_ex hf
  refine z_callRi (va_runV (As := [.int x1]) (rest := []) ⟨hx, hb, hml, hown, hts⟩ (c_X4_comes l dC dI cI cC cO (bM 2) aR R1 x1 R2 e_2) (cwV 1 hts gX6_heightAt_X4_comes rfl rfl rfl (by decide +kernel) ⟨Nat.le_of_ble_eq_true rfl, Nat.le_of_ble_eq_true rfl⟩) ⟨zpR_blind, va_recv hK hP (ci := 4) (q0 := 9) rfl rfl, z_useR hK hN hP [2] rfl⟩ rfl rfl hl.1 rfl (lv_room (Nat.le_of_ble_eq_true rfl)) dX6_heightAt_18 ⟨Nat.le_of_ble_eq_true rfl, Nat.le_of_ble_eq_true rfl⟩) ?_
  refine lv_if_eq (tgt := 36) hx hb dX6_heightAt_21 (by decide) (fun c_3 => ?_) (fun c_3 => ?_)
  · have hf := zif_t hf c_3
    refine lv_ldc (v := (-1000000004 : Int32)) hx hb hown (hts _ k_X6_heightAt_4) dX6_heightAt_36 ?_
    exact zM_ret (gs := [(wX6 qM bM gM), (wX0 cI (bM 0) aB gB), (wX4 cI (bM 2) aR R1)]) hx hb hr rfl hP hD hS (by rw [← Option.some.inj hf]; exact ⟨rfl, rfl⟩) hlk dX6_heightAt_38
  · have hf := zif_f hf c_3
    refine lv_aload_n hx hb dX6_heightAt_24 rfl (lv_at hl 0 rfl) ?_
    refine va_get (D := (dC, dI)) (ci := 6) (v := .ref (bM 2)) (C := RX6) (T := TX6) (N := 11) hx hb hts u_X6_heightAt_X6 hown hK hP 0 rfl rfl 2 (by decide) (hts _ k_X6_heightAt_1) (fun _ h9 => h9) rfl dX6_heightAt_25 ?_
    refine va_get (D := (dC, dI)) (ci := 4) (v := .ref (aR 0)) (C := RX4) (T := TX4) (N := 5) hx hb hts u_X6_heightAt_X4 hown hK hP 9 rfl rfl 0 (by decide) (hts _ k_X6_heightAt_3) (fun _ h9 => h9) rfl dX6_heightAt_28 ?_
    refine lv_iload_n hx hb dX6_heightAt_31 rfl (lv_at hl 1 rfl) ?_
    obtain ⟨h_4, hf⟩ := zin_ex hf
    refine va_iald hx hb hK hP 10 0 rfl rfl h_4 dX6_heightAt_32 ?_
    refine lv_goto (tgt := 38) hx hb dX6_heightAt_33 (by decide) ?_
    exact zM_ret (gs := [(wX6 qM bM gM), (wX0 cI (bM 0) aB gB), (wX4 cI (bM 2) aR R1)]) hx hb hr rfl hP hD hS (by rw [← Option.some.inj hf]; exact ⟨rfl, rfl⟩) hlk dX6_heightAt_38

def f_X6_height (gM : zG) (gB : zG) (gR : zG) (x1 : Int32) (x2 : Int32) : Option (Int32 × zG) := (zbind (f_X0_hasLine gB x1) (fun R1 => (if R1 = 0 then (some ((-1000000001 : Int32), gR)) else (zbind (f_X6_within x2 (0 : Int32) (1000 : Int32)) (fun R3 => (if R3 = 0 then (some ((-1000000001 : Int32), gR)) else (zbind (f_X6_heightAt gM gB gR x1 x2) (fun R5 => (some (R5.1, R5.2))))))))))
theorem u_X6_height_X6 : ∀ w ∈ u_ws RX6 TX6 11, w ∈ wsX6_height := fun w h => List.mem_cons_of_mem _ (List.mem_append_left _ (List.mem_append_left _ (List.mem_append_right _ h)))
theorem k_X6_height_1 : Cond.fieldLink RX6 10 "JoinedLight" "bench" "LJoinedLight$Bench;" ∈ wsX6_height := List.mem_of_getElem? (i := 1) rfl
theorem k_X6_height_2 : Cond.constant RX6 94 (-1000000001) ∈ wsX6_height := List.mem_of_getElem? (i := 2) rfl
abbrev rm_X6_height : Room := { frames := 5, cells := 0, slots := 0, locals := 118 }
set_option maxHeartbeats 4000000 in
set_option maxRecDepth 100000 in
theorem c_X6_height (l : Launch) (dC : Nat → ClassId) (dI : Nat → Nat → Nat) (cI cC cO : ClassId) (qM : Nat) (bM : Nat → Nat) (gM : zG) (aB : Nat → Nat) (gB : zG) (aR : Nat → Nat) (gR : zG) (x1 : Int32) (x2 : Int32) (R : Int32 × zG) (hf : f_X6_height gM gB gR x1 x2 = some R) : cM l (dC, dI) (zT cI cC cO) yX6_height wsX6_height rm_X6_height [.ref qM, .int x1, .int x2] [(wX6 qM bM gM), (wX0 cI (bM 0) aB gB), (wX4 cI (bM 2) aR gR)] [(wX6 qM bM gM), (wX0 cI (bM 0) aB gB), (wX4 cI (bM 2) aR R.2)] (some (.int R.1)) 0 0 := by
  refine zM_in (cc := cX6_height) (maxL := 3) (ret := (some .int)) (plainFor_of_name (by decide)) rfl (Nat.le_of_ble_eq_true rfl) ?_
  intro p e s m below meth c hx hb hml hr hlk hown hts hK hN A hA hP hD hS ls hl
  have hl : lv_has ls 3 [(0, .ref qM), (1, .int x1), (2, .int x2)] := hl
  unfold f_X6_height at hf
  obtain ⟨H, hH⟩ : ∃ H, H = s.heap := ⟨_, rfl⟩
  obtain ⟨locs, hlocs⟩ : ∃ locs : List Loc, locs = [] := ⟨_, rfl⟩
  have hS : va_S A s.heap H locs := by rw [hH, hlocs]; exact hS
  rw [← hH] at hP
  refine zheap hH hlocs ?_
  refine lv_aload_n hx hb dX6_height_0 rfl (lv_at hl 0 rfl) ?_
  refine va_get (D := (dC, dI)) (ci := 6) (v := .ref (bM 0)) (C := RX6) (T := TX6) (N := 11) hx hb hts u_X6_height_X6 hown hK hP 0 rfl rfl 0 (by decide) (hts _ k_X6_height_1) (fun _ h9 => h9) rfl dX6_height_1 ?_
  refine lv_iload_n hx hb dX6_height_4 rfl (lv_at hl 1 rfl) ?_
  obtain ⟨R1, e_1, hf⟩ := zbind_ex hf
  refine z_callRi (va_runV (As := [.int x1]) (rest := []) ⟨hx, hb, hml, hown, hts⟩ (c_X0_hasLine l dC dI cI cC cO (bM 0) aB gB x1 R1 e_1) (cwV 1 hts gX6_height_X0_hasLine rfl rfl rfl (by decide +kernel) ⟨Nat.le_of_ble_eq_true rfl, Nat.le_of_ble_eq_true rfl⟩) ⟨zpR_blind, va_recv hK hP (ci := 0) (q0 := 1) rfl rfl, z_useR hK hN hP [1] rfl⟩ rfl rfl hl.1 rfl (lv_room (Nat.le_of_ble_eq_true rfl)) dX6_height_5 ⟨Nat.le_of_ble_eq_true rfl, Nat.le_of_ble_eq_true rfl⟩) ?_
  refine lv_if_eq (tgt := 22) hx hb dX6_height_8 (by decide) (fun c_2 => ?_) (fun c_2 => ?_)
  · have hf := zif_t hf c_2
    refine lv_ldc (v := (-1000000001 : Int32)) hx hb hown (hts _ k_X6_height_2) dX6_height_22 ?_
    exact zM_ret (gs := [(wX6 qM bM gM), (wX0 cI (bM 0) aB gB), (wX4 cI (bM 2) aR gR)]) hx hb hr rfl hP hD hS (by rw [← Option.some.inj hf]; exact ⟨rfl, rfl⟩) hlk dX6_height_24
  · have hf := zif_f hf c_2
    refine lv_iload_n hx hb dX6_height_11 rfl (lv_at hl 2 rfl) ?_
    refine lv_iconst (v := (0 : Int32)) hx hb dX6_height_12 (by decide) ?_
    refine lv_sipush (v := (1000 : Int32)) hx hb dX6_height_13 (by decide) ?_
    obtain ⟨R3, e_3, hf⟩ := zbind_ex hf
    refine z_callRi (va_runS (As := [.int x2, .int (0 : Int32), .int (1000 : Int32)]) (rest := []) ⟨hx, hb, hml, hown, hts⟩ (c_X6_within l dC dI cI cC cO  x2 (0 : Int32) (1000 : Int32) R3 e_3) (va_cwS 3 hts gX6_height_X6_within rfl rfl rfl (by decide +kernel) ⟨Nat.le_of_ble_eq_true rfl, Nat.le_of_ble_eq_true rfl⟩) ⟨zpR_blind, z_useR hK hN hP [] rfl⟩ rfl rfl hl.1 rfl (lv_room (Nat.le_of_ble_eq_true rfl)) dX6_height_16 ⟨Nat.le_of_ble_eq_true rfl, Nat.le_of_ble_eq_true rfl⟩) ?_
    refine lv_if_ne (tgt := 25) hx hb dX6_height_19 (by decide) (fun c_4 => ?_) (fun c_4 => ?_)
    · have hf := zif_f hf c_4
      refine lv_aload_n hx hb dX6_height_25 rfl (lv_at hl 0 rfl) ?_
      refine lv_iload_n hx hb dX6_height_26 rfl (lv_at hl 1 rfl) ?_
      refine lv_iload_n hx hb dX6_height_27 rfl (lv_at hl 2 rfl) ?_
      obtain ⟨R5, e_5, hf⟩ := zbind_ex hf
      refine z_callM (gs2 := [(wX6 qM bM gM), (wX0 cI (bM 0) aB gB), (wX4 cI (bM 2) aR R5.2)]) hP hD hS hA [0, 1, 2] [] rfl rfl rfl (show List.Perm [0, 1, 2] (List.range 3) from by decide) rfl (va_runV (As := [.int x1, .int x2]) (rest := []) ⟨hx, hb, hml, hown, hts⟩ (c_X6_heightAt l dC dI cI cC cO qM bM gM aB gB aR gR x1 x2 R5 e_5 H.size) (cwV 2 hts gX6_height_X6_heightAt rfl rfl rfl (by decide +kernel) ⟨Nat.le_of_ble_eq_true rfl, Nat.le_of_ble_eq_true rfl⟩) ⟨zpM_blind, va_recv hK hP (ci := 6) (q0 := 0) rfl rfl, z_useM hK hN hP hD [0, 1, 2] [] rfl (show List.Perm [0, 1, 2] (List.range 3) from by decide)⟩ rfl rfl hl.1 rfl (lv_room (Nat.le_of_ble_eq_true rfl)) dX6_height_28 ⟨Nat.le_of_ble_eq_true rfl, Nat.le_of_ble_eq_true rfl⟩) (fun H locs hP hD hS => ?_)
      refine W.eq (g2 := F0 m 31 ls [.int R5.1]) rfl ?_
      exact zM_ret (gs := [(wX6 qM bM gM), (wX0 cI (bM 0) aB gB), (wX4 cI (bM 2) aR R5.2)]) hx hb hr rfl hP hD hS (by rw [← Option.some.inj hf]; exact ⟨rfl, rfl⟩) hlk dX6_height_31
    · have hf := zif_t hf c_4
      refine lv_ldc (v := (-1000000001 : Int32)) hx hb hown (hts _ k_X6_height_2) dX6_height_22 ?_
      exact zM_ret (gs := [(wX6 qM bM gM), (wX0 cI (bM 0) aB gB), (wX4 cI (bM 2) aR gR)]) hx hb hr rfl hP hD hS (by rw [← Option.some.inj hf]; exact ⟨rfl, rfl⟩) hlk dX6_height_24

def f_X6_light (gM : zG) (gB : zG) (gR : zG) (gC : zG) (x1 : Int32) : Option (Int32 × zG × zG) := (zbind (f_X6_within x1 (-9999 : Int32) (9999 : Int32)) (fun R1 => (if R1 = 0 then (some ((-1000000001 : Int32), gR, gC)) else (zbind (f_X4_follow gR gB) (fun R3 => (zbind (f_X1_gather gC gB R3) (fun R4 => (zbind (f_X1_lightOf R4 x1) (fun R5 => (some (R5, R3, R4)))))))))))
theorem u_X6_light_X6 : ∀ w ∈ u_ws RX6 TX6 11, w ∈ wsX6_light := fun w h => List.mem_cons_of_mem _ (List.mem_append_left _ (List.mem_append_left _ (List.mem_append_left _ (List.mem_append_right _ h))))
theorem k_X6_light_2 : Cond.fieldLink RX6 22 "JoinedLight" "rays" "LJoinedLight$Rays;" ∈ wsX6_light := List.mem_of_getElem? (i := 2) rfl
theorem k_X6_light_3 : Cond.fieldLink RX6 10 "JoinedLight" "bench" "LJoinedLight$Bench;" ∈ wsX6_light := List.mem_of_getElem? (i := 3) rfl
theorem k_X6_light_4 : Cond.fieldLink RX6 29 "JoinedLight" "cells" "LJoinedLight$Cells;" ∈ wsX6_light := List.mem_of_getElem? (i := 4) rfl
theorem k_X6_light_1 : Cond.constant RX6 94 (-1000000001) ∈ wsX6_light := List.mem_of_getElem? (i := 1) rfl
abbrev rm_X6_light : Room := { frames := 5, cells := 0, slots := 0, locals := 118 }
set_option maxHeartbeats 4000000 in
set_option maxRecDepth 100000 in
theorem c_X6_light (l : Launch) (dC : Nat → ClassId) (dI : Nat → Nat → Nat) (cI cC cO : ClassId) (qM : Nat) (bM : Nat → Nat) (gM : zG) (aB : Nat → Nat) (gB : zG) (aR : Nat → Nat) (gR : zG) (aC : Nat → Nat) (gC : zG) (x1 : Int32) (R : Int32 × zG × zG) (hf : f_X6_light gM gB gR gC x1 = some R) : cM l (dC, dI) (zT cI cC cO) yX6_light wsX6_light rm_X6_light [.ref qM, .int x1] [(wX6 qM bM gM), (wX0 cI (bM 0) aB gB), (wX4 cI (bM 2) aR gR), (wX1 cI (bM 3) aC gC)] [(wX6 qM bM gM), (wX0 cI (bM 0) aB gB), (wX4 cI (bM 2) aR R.2.1), (wX1 cI (bM 3) aC R.2.2)] (some (.int R.1)) 0 0 := by
  refine zM_in (cc := cX6_light) (maxL := 2) (ret := (some .int)) (plainFor_of_name (by decide)) rfl (Nat.le_of_ble_eq_true rfl) ?_
  intro p e s m below meth c hx hb hml hr hlk hown hts hK hN A hA hP hD hS ls hl
  have hl : lv_has ls 2 [(0, .ref qM), (1, .int x1)] := hl
  unfold f_X6_light at hf
  obtain ⟨H, hH⟩ : ∃ H, H = s.heap := ⟨_, rfl⟩
  obtain ⟨locs, hlocs⟩ : ∃ locs : List Loc, locs = [] := ⟨_, rfl⟩
  have hS : va_S A s.heap H locs := by rw [hH, hlocs]; exact hS
  rw [← hH] at hP
  refine zheap hH hlocs ?_
  refine lv_iload_n hx hb dX6_light_0 rfl (lv_at hl 1 rfl) ?_
  refine lv_sipush (v := (-9999 : Int32)) hx hb dX6_light_1 (by decide) ?_
  refine lv_sipush (v := (9999 : Int32)) hx hb dX6_light_4 (by decide) ?_
  obtain ⟨R1, e_1, hf⟩ := zbind_ex hf
  refine z_callRi (va_runS (As := [.int x1, .int (-9999 : Int32), .int (9999 : Int32)]) (rest := []) ⟨hx, hb, hml, hown, hts⟩ (c_X6_within l dC dI cI cC cO  x1 (-9999 : Int32) (9999 : Int32) R1 e_1) (va_cwS 3 hts gX6_light_X6_within rfl rfl rfl (by decide +kernel) ⟨Nat.le_of_ble_eq_true rfl, Nat.le_of_ble_eq_true rfl⟩) ⟨zpR_blind, z_useR hK hN hP [] rfl⟩ rfl rfl hl.1 rfl (lv_room (Nat.le_of_ble_eq_true rfl)) dX6_light_7 ⟨Nat.le_of_ble_eq_true rfl, Nat.le_of_ble_eq_true rfl⟩) ?_
  refine lv_if_ne (tgt := 16) hx hb dX6_light_10 (by decide) (fun c_2 => ?_) (fun c_2 => ?_)
  · have hf := zif_f hf c_2
    refine lv_aload_n hx hb dX6_light_16 rfl (lv_at hl 0 rfl) ?_
    refine va_get (D := (dC, dI)) (ci := 6) (v := .ref (bM 2)) (C := RX6) (T := TX6) (N := 11) hx hb hts u_X6_light_X6 hown hK hP 0 rfl rfl 2 (by decide) (hts _ k_X6_light_2) (fun _ h9 => h9) rfl dX6_light_17 ?_
    refine lv_aload_n hx hb dX6_light_20 rfl (lv_at hl 0 rfl) ?_
    refine va_get (D := (dC, dI)) (ci := 6) (v := .ref (bM 0)) (C := RX6) (T := TX6) (N := 11) hx hb hts u_X6_light_X6 hown hK hP 0 rfl rfl 0 (by decide) (hts _ k_X6_light_3) (fun _ h9 => h9) rfl dX6_light_21 ?_
    obtain ⟨R3, e_3, hf⟩ := zbind_ex hf
    refine z_callM (gs2 := [(wX6 qM bM gM), (wX0 cI (bM 0) aB gB), (wX4 cI (bM 2) aR R3), (wX1 cI (bM 3) aC gC)]) hP hD hS hA [2, 1] [0, 3] rfl rfl rfl (show List.Perm [2, 1, 0, 3] (List.range 4) from by decide) rfl (va_runV (As := [.ref (bM 0)]) (rest := []) ⟨hx, hb, hml, hown, hts⟩ (c_X4_follow l dC dI cI cC cO (bM 2) aR gR (bM 0) aB gB  R3 e_3 H.size) (cwV 1 hts gX6_light_X4_follow rfl rfl rfl (by decide +kernel) ⟨Nat.le_of_ble_eq_true rfl, Nat.le_of_ble_eq_true rfl⟩) ⟨zpM_blind, va_recv hK hP (ci := 4) (q0 := 9) rfl rfl, z_useM hK hN hP hD [2, 1] [0, 3] rfl (show List.Perm [2, 1, 0, 3] (List.range 4) from by decide)⟩ rfl rfl hl.1 rfl (lv_room (Nat.le_of_ble_eq_true rfl)) dX6_light_24 ⟨Nat.le_of_ble_eq_true rfl, Nat.le_of_ble_eq_true rfl⟩) (fun H locs hP hD hS => ?_)
    refine W.eq (g2 := F0 m 27 ls []) rfl ?_
    refine lv_aload_n hx hb dX6_light_27 rfl (lv_at hl 0 rfl) ?_
    refine va_get (D := (dC, dI)) (ci := 6) (v := .ref (bM 3)) (C := RX6) (T := TX6) (N := 11) hx hb hts u_X6_light_X6 hown hK hP 0 rfl rfl 3 (by decide) (hts _ k_X6_light_4) (fun _ h9 => h9) rfl dX6_light_28 ?_
    refine lv_aload_n hx hb dX6_light_31 rfl (lv_at hl 0 rfl) ?_
    refine va_get (D := (dC, dI)) (ci := 6) (v := .ref (bM 0)) (C := RX6) (T := TX6) (N := 11) hx hb hts u_X6_light_X6 hown hK hP 0 rfl rfl 0 (by decide) (hts _ k_X6_light_3) (fun _ h9 => h9) rfl dX6_light_32 ?_
    refine lv_aload_n hx hb dX6_light_35 rfl (lv_at hl 0 rfl) ?_
    refine va_get (D := (dC, dI)) (ci := 6) (v := .ref (bM 2)) (C := RX6) (T := TX6) (N := 11) hx hb hts u_X6_light_X6 hown hK hP 0 rfl rfl 2 (by decide) (hts _ k_X6_light_2) (fun _ h9 => h9) rfl dX6_light_36 ?_
    obtain ⟨R4, e_4, hf⟩ := zbind_ex hf
    refine z_callM (gs2 := [(wX6 qM bM gM), (wX0 cI (bM 0) aB gB), (wX4 cI (bM 2) aR R3), (wX1 cI (bM 3) aC R4)]) hP hD hS hA [3, 1, 2] [0] rfl rfl rfl (show List.Perm [3, 1, 2, 0] (List.range 4) from by decide) rfl (va_runV (As := [.ref (bM 0), .ref (bM 2)]) (rest := []) ⟨hx, hb, hml, hown, hts⟩ (c_X1_gather l dC dI cI cC cO (bM 3) aC gC (bM 0) aB gB (bM 2) aR R3  R4 e_4 H.size) (cwV 2 hts gX6_light_X1_gather rfl rfl rfl (by decide +kernel) ⟨Nat.le_of_ble_eq_true rfl, Nat.le_of_ble_eq_true rfl⟩) ⟨zpM_blind, va_recv hK hP (ci := 1) (q0 := 14) rfl rfl, z_useM hK hN hP hD [3, 1, 2] [0] rfl (show List.Perm [3, 1, 2, 0] (List.range 4) from by decide)⟩ rfl rfl hl.1 rfl (lv_room (Nat.le_of_ble_eq_true rfl)) dX6_light_39 ⟨Nat.le_of_ble_eq_true rfl, Nat.le_of_ble_eq_true rfl⟩) (fun H locs hP hD hS => ?_)
    refine W.eq (g2 := F0 m 42 ls []) rfl ?_
    refine lv_aload_n hx hb dX6_light_42 rfl (lv_at hl 0 rfl) ?_
    refine va_get (D := (dC, dI)) (ci := 6) (v := .ref (bM 3)) (C := RX6) (T := TX6) (N := 11) hx hb hts u_X6_light_X6 hown hK hP 0 rfl rfl 3 (by decide) (hts _ k_X6_light_4) (fun _ h9 => h9) rfl dX6_light_43 ?_
    refine lv_iload_n hx hb dX6_light_46 rfl (lv_at hl 1 rfl) ?_
    obtain ⟨R5, e_5, hf⟩ := zbind_ex hf
    refine z_callRi (va_runV (As := [.int x1]) (rest := []) ⟨hx, hb, hml, hown, hts⟩ (c_X1_lightOf l dC dI cI cC cO (bM 3) aC R4 x1 R5 e_5) (cwV 1 hts gX6_light_X1_lightOf rfl rfl rfl (by decide +kernel) ⟨Nat.le_of_ble_eq_true rfl, Nat.le_of_ble_eq_true rfl⟩) ⟨zpR_blind, va_recv hK hP (ci := 1) (q0 := 14) rfl rfl, z_useR hK hN hP [3] rfl⟩ rfl rfl hl.1 rfl (lv_room (Nat.le_of_ble_eq_true rfl)) dX6_light_47 ⟨Nat.le_of_ble_eq_true rfl, Nat.le_of_ble_eq_true rfl⟩) ?_
    exact zM_ret (gs := [(wX6 qM bM gM), (wX0 cI (bM 0) aB gB), (wX4 cI (bM 2) aR R3), (wX1 cI (bM 3) aC R4)]) hx hb hr rfl hP hD hS (by rw [← Option.some.inj hf]; exact ⟨rfl, rfl⟩) hlk dX6_light_50
  · have hf := zif_t hf c_2
    refine lv_ldc (v := (-1000000001 : Int32)) hx hb hown (hts _ k_X6_light_1) dX6_light_13 ?_
    exact zM_ret (gs := [(wX6 qM bM gM), (wX0 cI (bM 0) aB gB), (wX4 cI (bM 2) aR gR), (wX1 cI (bM 3) aC gC)]) hx hb hr rfl hP hD hS (by rw [← Option.some.inj hf]; exact ⟨rfl, rfl⟩) hlk dX6_light_15

def f_X6_bright (gM : zG) (gB : zG) (gR : zG) (gC : zG) (x1 : Int32) (x2 : Int32) : Option (Int32 × zG × zG) := (if x1 < 0 then (some ((-1000000001 : Int32), gR, gC)) else (zbind (f_X6_within x2 (0 : Int32) (2 : Int32)) (fun R2 => (if R2 = 0 then (some ((-1000000001 : Int32), gR, gC)) else (zbind (f_X4_follow gR gB) (fun R4 => (zbind (f_X1_gather gC gB R4) (fun R5 => (zbind (f_X1_slotOfRank R5 x1) (fun R6 => (zbind (f_X1_hasSlot R5 R6) (fun R7 => (if R7 = 0 then (some ((-1000000004 : Int32), R4, R5)) else (if x2 = (0 : Int32) then (zin R6 8 (some ((R5 0 R6.toNatClampNeg), R4, R5))) else (if x2 = (1 : Int32) then (zin R6 8 (some ((R5 1 R6.toNatClampNeg), R4, R5))) else (zin R6 8 (some ((R5 2 R6.toNatClampNeg), R4, R5))))))))))))))))))
theorem u_X6_bright_X6 : ∀ w ∈ u_ws RX6 TX6 11, w ∈ wsX6_bright := fun w h => List.mem_cons_of_mem _ (List.mem_append_left _ (List.mem_append_left _ (List.mem_append_left _ (List.mem_append_right _ h))))
theorem u_X6_bright_X1 : ∀ w ∈ u_ws RX1 TX1 4, w ∈ wsX6_bright := fun w h => List.mem_cons_of_mem _ (List.mem_append_left _ (List.mem_append_left _ (List.mem_append_right _ h)))
theorem k_X6_bright_1 : Cond.constant RX6 94 (-1000000001) ∈ wsX6_bright := List.mem_of_getElem? (i := 1) rfl
theorem k_X6_bright_2 : Cond.fieldLink RX6 22 "JoinedLight" "rays" "LJoinedLight$Rays;" ∈ wsX6_bright := List.mem_of_getElem? (i := 2) rfl
theorem k_X6_bright_3 : Cond.fieldLink RX6 10 "JoinedLight" "bench" "LJoinedLight$Bench;" ∈ wsX6_bright := List.mem_of_getElem? (i := 3) rfl
theorem k_X6_bright_4 : Cond.fieldLink RX6 29 "JoinedLight" "cells" "LJoinedLight$Cells;" ∈ wsX6_bright := List.mem_of_getElem? (i := 4) rfl
theorem k_X6_bright_6 : Cond.fieldLink RX6 169 "JoinedLight$Cells" "numbers" "[I" ∈ wsX6_bright := List.mem_of_getElem? (i := 6) rfl
theorem k_X6_bright_7 : Cond.fieldLink RX6 172 "JoinedLight$Cells" "lights" "[I" ∈ wsX6_bright := List.mem_of_getElem? (i := 7) rfl
theorem k_X6_bright_8 : Cond.fieldLink RX6 173 "JoinedLight$Cells" "lines" "[I" ∈ wsX6_bright := List.mem_of_getElem? (i := 8) rfl
theorem k_X6_bright_5 : Cond.constant RX6 115 (-1000000004) ∈ wsX6_bright := List.mem_of_getElem? (i := 5) rfl
abbrev rm_X6_bright : Room := { frames := 5, cells := 0, slots := 0, locals := 118 }
set_option maxHeartbeats 4000000 in
set_option maxRecDepth 100000 in
theorem c_X6_bright (l : Launch) (dC : Nat → ClassId) (dI : Nat → Nat → Nat) (cI cC cO : ClassId) (qM : Nat) (bM : Nat → Nat) (gM : zG) (aB : Nat → Nat) (gB : zG) (aR : Nat → Nat) (gR : zG) (aC : Nat → Nat) (gC : zG) (x1 : Int32) (x2 : Int32) (R : Int32 × zG × zG) (hf : f_X6_bright gM gB gR gC x1 x2 = some R) : cM l (dC, dI) (zT cI cC cO) yX6_bright wsX6_bright rm_X6_bright [.ref qM, .int x1, .int x2] [(wX6 qM bM gM), (wX0 cI (bM 0) aB gB), (wX4 cI (bM 2) aR gR), (wX1 cI (bM 3) aC gC)] [(wX6 qM bM gM), (wX0 cI (bM 0) aB gB), (wX4 cI (bM 2) aR R.2.1), (wX1 cI (bM 3) aC R.2.2)] (some (.int R.1)) 0 0 := by
  refine zM_in (cc := cX6_bright) (maxL := 4) (ret := (some .int)) (plainFor_of_name (by decide)) rfl (Nat.le_of_ble_eq_true rfl) ?_
  intro p e s m below meth c hx hb hml hr hlk hown hts hK hN A hA hP hD hS ls hl
  have hl : lv_has ls 4 [(0, .ref qM), (1, .int x1), (2, .int x2)] := hl
  unfold f_X6_bright at hf
  obtain ⟨H, hH⟩ : ∃ H, H = s.heap := ⟨_, rfl⟩
  obtain ⟨locs, hlocs⟩ : ∃ locs : List Loc, locs = [] := ⟨_, rfl⟩
  have hS : va_S A s.heap H locs := by rw [hH, hlocs]; exact hS
  rw [← hH] at hP
  refine zheap hH hlocs ?_
  refine lv_iload_n hx hb dX6_bright_0 rfl (lv_at hl 1 rfl) ?_
  refine lv_if_lt (tgt := 13) hx hb dX6_bright_1 (by decide) (fun c_1 => ?_) (fun c_1 => ?_)
  · have hf := zif_t hf c_1
    refine lv_ldc (v := (-1000000001 : Int32)) hx hb hown (hts _ k_X6_bright_1) dX6_bright_13 ?_
    exact zM_ret (gs := [(wX6 qM bM gM), (wX0 cI (bM 0) aB gB), (wX4 cI (bM 2) aR gR), (wX1 cI (bM 3) aC gC)]) hx hb hr rfl hP hD hS (by rw [← Option.some.inj hf]; exact ⟨rfl, rfl⟩) hlk dX6_bright_15
  · have hf := zif_f hf c_1
    refine lv_iload_n hx hb dX6_bright_4 rfl (lv_at hl 2 rfl) ?_
    refine lv_iconst (v := (0 : Int32)) hx hb dX6_bright_5 (by decide) ?_
    refine lv_iconst (v := (2 : Int32)) hx hb dX6_bright_6 (by decide) ?_
    obtain ⟨R2, e_2, hf⟩ := zbind_ex hf
    refine z_callRi (va_runS (As := [.int x2, .int (0 : Int32), .int (2 : Int32)]) (rest := []) ⟨hx, hb, hml, hown, hts⟩ (c_X6_within l dC dI cI cC cO  x2 (0 : Int32) (2 : Int32) R2 e_2) (va_cwS 3 hts gX6_bright_X6_within rfl rfl rfl (by decide +kernel) ⟨Nat.le_of_ble_eq_true rfl, Nat.le_of_ble_eq_true rfl⟩) ⟨zpR_blind, z_useR hK hN hP [] rfl⟩ rfl rfl hl.1 rfl (lv_room (Nat.le_of_ble_eq_true rfl)) dX6_bright_7 ⟨Nat.le_of_ble_eq_true rfl, Nat.le_of_ble_eq_true rfl⟩) ?_
    refine lv_if_ne (tgt := 16) hx hb dX6_bright_10 (by decide) (fun c_3 => ?_) (fun c_3 => ?_)
    · have hf := zif_f hf c_3
      refine lv_aload_n hx hb dX6_bright_16 rfl (lv_at hl 0 rfl) ?_
      refine va_get (D := (dC, dI)) (ci := 6) (v := .ref (bM 2)) (C := RX6) (T := TX6) (N := 11) hx hb hts u_X6_bright_X6 hown hK hP 0 rfl rfl 2 (by decide) (hts _ k_X6_bright_2) (fun _ h9 => h9) rfl dX6_bright_17 ?_
      refine lv_aload_n hx hb dX6_bright_20 rfl (lv_at hl 0 rfl) ?_
      refine va_get (D := (dC, dI)) (ci := 6) (v := .ref (bM 0)) (C := RX6) (T := TX6) (N := 11) hx hb hts u_X6_bright_X6 hown hK hP 0 rfl rfl 0 (by decide) (hts _ k_X6_bright_3) (fun _ h9 => h9) rfl dX6_bright_21 ?_
      obtain ⟨R4, e_4, hf⟩ := zbind_ex hf
      refine z_callM (gs2 := [(wX6 qM bM gM), (wX0 cI (bM 0) aB gB), (wX4 cI (bM 2) aR R4), (wX1 cI (bM 3) aC gC)]) hP hD hS hA [2, 1] [0, 3] rfl rfl rfl (show List.Perm [2, 1, 0, 3] (List.range 4) from by decide) rfl (va_runV (As := [.ref (bM 0)]) (rest := []) ⟨hx, hb, hml, hown, hts⟩ (c_X4_follow l dC dI cI cC cO (bM 2) aR gR (bM 0) aB gB  R4 e_4 H.size) (cwV 1 hts gX6_bright_X4_follow rfl rfl rfl (by decide +kernel) ⟨Nat.le_of_ble_eq_true rfl, Nat.le_of_ble_eq_true rfl⟩) ⟨zpM_blind, va_recv hK hP (ci := 4) (q0 := 9) rfl rfl, z_useM hK hN hP hD [2, 1] [0, 3] rfl (show List.Perm [2, 1, 0, 3] (List.range 4) from by decide)⟩ rfl rfl hl.1 rfl (lv_room (Nat.le_of_ble_eq_true rfl)) dX6_bright_24 ⟨Nat.le_of_ble_eq_true rfl, Nat.le_of_ble_eq_true rfl⟩) (fun H locs hP hD hS => ?_)
      refine W.eq (g2 := F0 m 27 ls []) rfl ?_
      refine lv_aload_n hx hb dX6_bright_27 rfl (lv_at hl 0 rfl) ?_
      refine va_get (D := (dC, dI)) (ci := 6) (v := .ref (bM 3)) (C := RX6) (T := TX6) (N := 11) hx hb hts u_X6_bright_X6 hown hK hP 0 rfl rfl 3 (by decide) (hts _ k_X6_bright_4) (fun _ h9 => h9) rfl dX6_bright_28 ?_
      refine lv_aload_n hx hb dX6_bright_31 rfl (lv_at hl 0 rfl) ?_
      refine va_get (D := (dC, dI)) (ci := 6) (v := .ref (bM 0)) (C := RX6) (T := TX6) (N := 11) hx hb hts u_X6_bright_X6 hown hK hP 0 rfl rfl 0 (by decide) (hts _ k_X6_bright_3) (fun _ h9 => h9) rfl dX6_bright_32 ?_
      refine lv_aload_n hx hb dX6_bright_35 rfl (lv_at hl 0 rfl) ?_
      refine va_get (D := (dC, dI)) (ci := 6) (v := .ref (bM 2)) (C := RX6) (T := TX6) (N := 11) hx hb hts u_X6_bright_X6 hown hK hP 0 rfl rfl 2 (by decide) (hts _ k_X6_bright_2) (fun _ h9 => h9) rfl dX6_bright_36 ?_
      obtain ⟨R5, e_5, hf⟩ := zbind_ex hf
      refine z_callM (gs2 := [(wX6 qM bM gM), (wX0 cI (bM 0) aB gB), (wX4 cI (bM 2) aR R4), (wX1 cI (bM 3) aC R5)]) hP hD hS hA [3, 1, 2] [0] rfl rfl rfl (show List.Perm [3, 1, 2, 0] (List.range 4) from by decide) rfl (va_runV (As := [.ref (bM 0), .ref (bM 2)]) (rest := []) ⟨hx, hb, hml, hown, hts⟩ (c_X1_gather l dC dI cI cC cO (bM 3) aC gC (bM 0) aB gB (bM 2) aR R4  R5 e_5 H.size) (cwV 2 hts gX6_bright_X1_gather rfl rfl rfl (by decide +kernel) ⟨Nat.le_of_ble_eq_true rfl, Nat.le_of_ble_eq_true rfl⟩) ⟨zpM_blind, va_recv hK hP (ci := 1) (q0 := 14) rfl rfl, z_useM hK hN hP hD [3, 1, 2] [0] rfl (show List.Perm [3, 1, 2, 0] (List.range 4) from by decide)⟩ rfl rfl hl.1 rfl (lv_room (Nat.le_of_ble_eq_true rfl)) dX6_bright_39 ⟨Nat.le_of_ble_eq_true rfl, Nat.le_of_ble_eq_true rfl⟩) (fun H locs hP hD hS => ?_)
      refine W.eq (g2 := F0 m 42 ls []) rfl ?_
      refine lv_aload_n hx hb dX6_bright_42 rfl (lv_at hl 0 rfl) ?_
      refine va_get (D := (dC, dI)) (ci := 6) (v := .ref (bM 3)) (C := RX6) (T := TX6) (N := 11) hx hb hts u_X6_bright_X6 hown hK hP 0 rfl rfl 3 (by decide) (hts _ k_X6_bright_4) (fun _ h9 => h9) rfl dX6_bright_43 ?_
      refine lv_iload_n hx hb dX6_bright_46 rfl (lv_at hl 1 rfl) ?_
      obtain ⟨R6, e_6, hf⟩ := zbind_ex hf
      refine z_callRi (va_runV (As := [.int x1]) (rest := []) ⟨hx, hb, hml, hown, hts⟩ (c_X1_slotOfRank l dC dI cI cC cO (bM 3) aC R5 x1 R6 e_6) (cwV 1 hts gX6_bright_X1_slotOfRank rfl rfl rfl (by decide +kernel) ⟨Nat.le_of_ble_eq_true rfl, Nat.le_of_ble_eq_true rfl⟩) ⟨zpR_blind, va_recv hK hP (ci := 1) (q0 := 14) rfl rfl, z_useR hK hN hP [3] rfl⟩ rfl rfl hl.1 rfl (lv_room (Nat.le_of_ble_eq_true rfl)) dX6_bright_47 ⟨Nat.le_of_ble_eq_true rfl, Nat.le_of_ble_eq_true rfl⟩) ?_
      refine lv_istore_n (lv' := [(3, .int R6), (0, .ref qM), (1, .int x1), (2, .int x2)]) hx hb dX6_bright_50 rfl hl (by decide) rfl (fun ls hl => ?_)
      refine lv_aload_n hx hb dX6_bright_51 rfl (lv_at hl 1 rfl) ?_
      refine va_get (D := (dC, dI)) (ci := 6) (v := .ref (bM 3)) (C := RX6) (T := TX6) (N := 11) hx hb hts u_X6_bright_X6 hown hK hP 0 rfl rfl 3 (by decide) (hts _ k_X6_bright_4) (fun _ h9 => h9) rfl dX6_bright_52 ?_
      refine lv_iload_n hx hb dX6_bright_55 rfl (lv_at hl 0 rfl) ?_
      obtain ⟨R7, e_7, hf⟩ := zbind_ex hf
      refine z_callRi (va_runV (As := [.int R6]) (rest := []) ⟨hx, hb, hml, hown, hts⟩ (c_X1_hasSlot l dC dI cI cC cO (bM 3) aC R5 R6 R7 e_7) (cwV 1 hts gX6_bright_X1_hasSlot rfl rfl rfl (by decide +kernel) ⟨Nat.le_of_ble_eq_true rfl, Nat.le_of_ble_eq_true rfl⟩) ⟨zpR_blind, va_recv hK hP (ci := 1) (q0 := 14) rfl rfl, z_useR hK hN hP [3] rfl⟩ rfl rfl hl.1 rfl (lv_room (Nat.le_of_ble_eq_true rfl)) dX6_bright_56 ⟨Nat.le_of_ble_eq_true rfl, Nat.le_of_ble_eq_true rfl⟩) ?_
      refine lv_if_ne (tgt := 65) hx hb dX6_bright_59 (by decide) (fun c_8 => ?_) (fun c_8 => ?_)
      · have hf := zif_f hf c_8
        refine lv_iload_n hx hb dX6_bright_65 rfl (lv_at hl 3 rfl) ?_
        by_cases c_9 : x2 = (0 : Int32)
        · have hf := zif_t hf c_9
          refine lv_lookup (tgt := 92) (off := 26) hx hb dX6_bright_66 (by decide +kernel) (by rw [c_9]; first | done | rfl) (by decide) ?_
          refine lv_aload_n hx hb dX6_bright_92 rfl (lv_at hl 1 rfl) ?_
          refine va_get (D := (dC, dI)) (ci := 6) (v := .ref (bM 3)) (C := RX6) (T := TX6) (N := 11) hx hb hts u_X6_bright_X6 hown hK hP 0 rfl rfl 3 (by decide) (hts _ k_X6_bright_4) (fun _ h9 => h9) rfl dX6_bright_93 ?_
          refine va_get (D := (dC, dI)) (ci := 1) (v := .ref (aC 0)) (C := RX1) (T := TX1) (N := 4) hx hb hts u_X6_bright_X1 hown hK hP 14 rfl rfl 0 (by decide) (hts _ k_X6_bright_6) (fun _ h9 => h9) rfl dX6_bright_96 ?_
          refine lv_iload_n hx hb dX6_bright_99 rfl (lv_at hl 0 rfl) ?_
          obtain ⟨h_10, hf⟩ := zin_ex hf
          refine va_iald hx hb hK hP 15 0 rfl rfl h_10 dX6_bright_100 ?_
          exact zM_ret (gs := [(wX6 qM bM gM), (wX0 cI (bM 0) aB gB), (wX4 cI (bM 2) aR R4), (wX1 cI (bM 3) aC R5)]) hx hb hr rfl hP hD hS (by rw [← Option.some.inj hf]; exact ⟨rfl, rfl⟩) hlk dX6_bright_101
        · have hf := zif_f hf c_9
          by_cases c_11 : x2 = (1 : Int32)
          · have hf := zif_t hf c_11
            refine lv_lookup (tgt := 102) (off := 36) hx hb dX6_bright_66 (by decide +kernel) (by rw [c_11]; first | done | rfl) (by decide) ?_
            refine lv_aload_n hx hb dX6_bright_102 rfl (lv_at hl 1 rfl) ?_
            refine va_get (D := (dC, dI)) (ci := 6) (v := .ref (bM 3)) (C := RX6) (T := TX6) (N := 11) hx hb hts u_X6_bright_X6 hown hK hP 0 rfl rfl 3 (by decide) (hts _ k_X6_bright_4) (fun _ h9 => h9) rfl dX6_bright_103 ?_
            refine va_get (D := (dC, dI)) (ci := 1) (v := .ref (aC 1)) (C := RX1) (T := TX1) (N := 4) hx hb hts u_X6_bright_X1 hown hK hP 14 rfl rfl 1 (by decide) (hts _ k_X6_bright_7) (fun _ h9 => h9) rfl dX6_bright_106 ?_
            refine lv_iload_n hx hb dX6_bright_109 rfl (lv_at hl 0 rfl) ?_
            obtain ⟨h_12, hf⟩ := zin_ex hf
            refine va_iald hx hb hK hP 16 0 rfl rfl h_12 dX6_bright_110 ?_
            exact zM_ret (gs := [(wX6 qM bM gM), (wX0 cI (bM 0) aB gB), (wX4 cI (bM 2) aR R4), (wX1 cI (bM 3) aC R5)]) hx hb hr rfl hP hD hS (by rw [← Option.some.inj hf]; exact ⟨rfl, rfl⟩) hlk dX6_bright_111
          · have hf := zif_f hf c_11
            refine lv_lookup (tgt := 112) (off := 46) hx hb dX6_bright_66 (by decide +kernel) (by show Op.lookupswitch.offset [((0 : Int), (26 : Int)), ((1 : Int), (36 : Int))] _ _ = _; rw [lv_osw (a := 0) c_9 (by decide)]; rw [lv_osw (a := 1) c_11 (by decide)]; first | done | rfl) (by decide) ?_
            refine lv_aload_n hx hb dX6_bright_112 rfl (lv_at hl 1 rfl) ?_
            refine va_get (D := (dC, dI)) (ci := 6) (v := .ref (bM 3)) (C := RX6) (T := TX6) (N := 11) hx hb hts u_X6_bright_X6 hown hK hP 0 rfl rfl 3 (by decide) (hts _ k_X6_bright_4) (fun _ h9 => h9) rfl dX6_bright_113 ?_
            refine va_get (D := (dC, dI)) (ci := 1) (v := .ref (aC 2)) (C := RX1) (T := TX1) (N := 4) hx hb hts u_X6_bright_X1 hown hK hP 14 rfl rfl 2 (by decide) (hts _ k_X6_bright_8) (fun _ h9 => h9) rfl dX6_bright_116 ?_
            refine lv_iload_n hx hb dX6_bright_119 rfl (lv_at hl 0 rfl) ?_
            obtain ⟨h_13, hf⟩ := zin_ex hf
            refine va_iald hx hb hK hP 17 0 rfl rfl h_13 dX6_bright_120 ?_
            exact zM_ret (gs := [(wX6 qM bM gM), (wX0 cI (bM 0) aB gB), (wX4 cI (bM 2) aR R4), (wX1 cI (bM 3) aC R5)]) hx hb hr rfl hP hD hS (by rw [← Option.some.inj hf]; exact ⟨rfl, rfl⟩) hlk dX6_bright_121
      · have hf := zif_t hf c_8
        refine lv_ldc (v := (-1000000004 : Int32)) hx hb hown (hts _ k_X6_bright_5) dX6_bright_62 ?_
        exact zM_ret (gs := [(wX6 qM bM gM), (wX0 cI (bM 0) aB gB), (wX4 cI (bM 2) aR R4), (wX1 cI (bM 3) aC R5)]) hx hb hr rfl hP hD hS (by rw [← Option.some.inj hf]; exact ⟨rfl, rfl⟩) hlk dX6_bright_64
    · have hf := zif_t hf c_3
      refine lv_ldc (v := (-1000000001 : Int32)) hx hb hown (hts _ k_X6_bright_1) dX6_bright_13 ?_
      exact zM_ret (gs := [(wX6 qM bM gM), (wX0 cI (bM 0) aB gB), (wX4 cI (bM 2) aR gR), (wX1 cI (bM 3) aC gC)]) hx hb hr rfl hP hD hS (by rw [← Option.some.inj hf]; exact ⟨rfl, rfl⟩) hlk dX6_bright_15

def f_X6_bending (gM : zG) (x1 : Int32) (x2 : Int32) : Option (Int32) := (zbind (f_X6_within x1 (0 : Int32) (1 : Int32)) (fun R1 => (if R1 = 0 then (some ((-1000000001 : Int32))) else (zbind (f_X6_within x2 (380 : Int32) (780 : Int32)) (fun R3 => (if R3 = 0 then (some ((-1000000001 : Int32))) else (zbind (f_X6_bendingOf x1 x2) (fun R5 => (some (R5))))))))))
theorem k_X6_bending_1 : Cond.constant RX6 94 (-1000000001) ∈ wsX6_bending := List.mem_of_getElem? (i := 1) rfl
abbrev rm_X6_bending : Room := { frames := 2, cells := 0, slots := 0, locals := 44 }
set_option maxHeartbeats 4000000 in
set_option maxRecDepth 100000 in
theorem c_X6_bending (l : Launch) (dC : Nat → ClassId) (dI : Nat → Nat → Nat) (cI cC cO : ClassId) (qM : Nat) (bM : Nat → Nat) (gM : zG) (x1 : Int32) (x2 : Int32) (R : Int32) (hf : f_X6_bending gM x1 x2 = some R) : cR l (dC, dI) (zT cI cC cO) yX6_bending wsX6_bending rm_X6_bending [.ref qM, .int x1, .int x2] [(wX6 qM bM gM)] (some (.int R)) := by
  refine zR_in (cc := cX6_bending) (maxL := 3) (ret := (some .int)) (plainFor_of_name (by decide)) rfl (Nat.le_of_ble_eq_true rfl) ?_
  intro p e s m below meth c hx hb hml hr hlk hown hts hK hN hP ls hl
  have hl : lv_has ls 3 [(0, .ref qM), (1, .int x1), (2, .int x2)] := hl
  unfold f_X6_bending at hf
  refine lv_iload_n hx hb dX6_bending_0 rfl (lv_at hl 1 rfl) ?_
  refine lv_iconst (v := (0 : Int32)) hx hb dX6_bending_1 (by decide) ?_
  refine lv_iconst (v := (1 : Int32)) hx hb dX6_bending_2 (by decide) ?_
  obtain ⟨R1, e_1, hf⟩ := zbind_ex hf
  refine z_callRi (va_runS (As := [.int x1, .int (0 : Int32), .int (1 : Int32)]) (rest := []) ⟨hx, hb, hml, hown, hts⟩ (c_X6_within l dC dI cI cC cO  x1 (0 : Int32) (1 : Int32) R1 e_1) (va_cwS 3 hts gX6_bending_X6_within rfl rfl rfl (by decide +kernel) ⟨Nat.le_of_ble_eq_true rfl, Nat.le_of_ble_eq_true rfl⟩) ⟨zpR_blind, z_useR hK hN hP [] rfl⟩ rfl rfl hl.1 rfl (lv_room (Nat.le_of_ble_eq_true rfl)) dX6_bending_3 ⟨Nat.le_of_ble_eq_true rfl, Nat.le_of_ble_eq_true rfl⟩) ?_
  refine lv_if_eq (tgt := 22) hx hb dX6_bending_6 (by decide) (fun c_2 => ?_) (fun c_2 => ?_)
  · have hf := zif_t hf c_2
    refine lv_ldc (v := (-1000000001 : Int32)) hx hb hown (hts _ k_X6_bending_1) dX6_bending_22 ?_
    exact zR_ret hx hb hr rfl hf hlk dX6_bending_24
  · have hf := zif_f hf c_2
    refine lv_iload_n hx hb dX6_bending_9 rfl (lv_at hl 2 rfl) ?_
    refine lv_sipush (v := (380 : Int32)) hx hb dX6_bending_10 (by decide) ?_
    refine lv_sipush (v := (780 : Int32)) hx hb dX6_bending_13 (by decide) ?_
    obtain ⟨R3, e_3, hf⟩ := zbind_ex hf
    refine z_callRi (va_runS (As := [.int x2, .int (380 : Int32), .int (780 : Int32)]) (rest := []) ⟨hx, hb, hml, hown, hts⟩ (c_X6_within l dC dI cI cC cO  x2 (380 : Int32) (780 : Int32) R3 e_3) (va_cwS 3 hts gX6_bending_X6_within rfl rfl rfl (by decide +kernel) ⟨Nat.le_of_ble_eq_true rfl, Nat.le_of_ble_eq_true rfl⟩) ⟨zpR_blind, z_useR hK hN hP [] rfl⟩ rfl rfl hl.1 rfl (lv_room (Nat.le_of_ble_eq_true rfl)) dX6_bending_16 ⟨Nat.le_of_ble_eq_true rfl, Nat.le_of_ble_eq_true rfl⟩) ?_
    refine lv_if_ne (tgt := 25) hx hb dX6_bending_19 (by decide) (fun c_4 => ?_) (fun c_4 => ?_)
    · have hf := zif_f hf c_4
      refine lv_iload_n hx hb dX6_bending_25 rfl (lv_at hl 1 rfl) ?_
      refine lv_iload_n hx hb dX6_bending_26 rfl (lv_at hl 2 rfl) ?_
      obtain ⟨R5, e_5, hf⟩ := zbind_ex hf
      refine z_callRi (va_runS (As := [.int x1, .int x2]) (rest := []) ⟨hx, hb, hml, hown, hts⟩ (c_X6_bendingOf l dC dI cI cC cO  x1 x2 R5 e_5) (va_cwS 2 hts gX6_bending_X6_bendingOf rfl rfl rfl (by decide +kernel) ⟨Nat.le_of_ble_eq_true rfl, Nat.le_of_ble_eq_true rfl⟩) ⟨zpR_blind, z_useR hK hN hP [] rfl⟩ rfl rfl hl.1 rfl (lv_room (Nat.le_of_ble_eq_true rfl)) dX6_bending_27 ⟨Nat.le_of_ble_eq_true rfl, Nat.le_of_ble_eq_true rfl⟩) ?_
      exact zR_ret hx hb hr rfl hf hlk dX6_bending_30
    · have hf := zif_t hf c_4
      refine lv_ldc (v := (-1000000001 : Int32)) hx hb hown (hts _ k_X6_bending_1) dX6_bending_22 ?_
      exact zR_ret hx hb hr rfl hf hlk dX6_bending_24

def f_X6_offerTrial (gM : zG) (gT : zG) (gR : zG) (gH : zG) (x1 : Int32) : Option (zG × zG) := (zbind (f_X4_follow gR gT) (fun R1 => (zbind (f_X4_linesOnScreen R1) (fun R2 => (zbind (f_J6_bitCount_0f7a4 R2) (fun R3 => (zbind (f_X4_spread R1) (fun R4 => (zbind (f_X2_offer gH x1 R3 R4) (fun R5 => (some (R1, R5))))))))))))
theorem u_X6_offerTrial_X6 : ∀ w ∈ u_ws RX6 TX6 11, w ∈ wsX6_offerTrial := fun w h => List.mem_cons_of_mem _ (List.mem_append_left _ (List.mem_append_left _ (List.mem_append_left _ (List.mem_append_right _ h))))
theorem k_X6_offerTrial_1 : Cond.fieldLink RX6 22 "JoinedLight" "rays" "LJoinedLight$Rays;" ∈ wsX6_offerTrial := List.mem_of_getElem? (i := 1) rfl
theorem k_X6_offerTrial_2 : Cond.fieldLink RX6 16 "JoinedLight" "trial" "LJoinedLight$Bench;" ∈ wsX6_offerTrial := List.mem_of_getElem? (i := 2) rfl
theorem k_X6_offerTrial_3 : Cond.fieldLink RX6 36 "JoinedLight" "choice" "LJoinedLight$Choice;" ∈ wsX6_offerTrial := List.mem_of_getElem? (i := 3) rfl
abbrev rm_X6_offerTrial : Room := { frames := 5, cells := 0, slots := 0, locals := 118 }
set_option maxHeartbeats 4000000 in
set_option maxRecDepth 100000 in
theorem c_X6_offerTrial (l : Launch) (dC : Nat → ClassId) (dI : Nat → Nat → Nat) (cI cC cO : ClassId) (qM : Nat) (bM : Nat → Nat) (gM : zG) (aT : Nat → Nat) (gT : zG) (aR : Nat → Nat) (gR : zG) (gH : zG) (x1 : Int32) (R : zG × zG) (hf : f_X6_offerTrial gM gT gR gH x1 = some R) : cM l (dC, dI) (zT cI cC cO) yX6_offerTrial wsX6_offerTrial rm_X6_offerTrial [.ref qM, .int x1] [(wX6 qM bM gM), (wX0 cI (bM 1) aT gT), (wX4 cI (bM 2) aR gR), (wX2 (bM 4) gH)] [(wX6 qM bM gM), (wX0 cI (bM 1) aT gT), (wX4 cI (bM 2) aR R.1), (wX2 (bM 4) R.2)] none 0 0 := by
  refine zM_in (cc := cX6_offerTrial) (maxL := 2) (ret := none) (plainFor_of_name (by decide)) rfl (Nat.le_of_ble_eq_true rfl) ?_
  intro p e s m below meth c hx hb hml hr hlk hown hts hK hN A hA hP hD hS ls hl
  have hl : lv_has ls 2 [(0, .ref qM), (1, .int x1)] := hl
  unfold f_X6_offerTrial at hf
  obtain ⟨H, hH⟩ : ∃ H, H = s.heap := ⟨_, rfl⟩
  obtain ⟨locs, hlocs⟩ : ∃ locs : List Loc, locs = [] := ⟨_, rfl⟩
  have hS : va_S A s.heap H locs := by rw [hH, hlocs]; exact hS
  rw [← hH] at hP
  refine zheap hH hlocs ?_
  refine lv_aload_n hx hb dX6_offerTrial_0 rfl (lv_at hl 0 rfl) ?_
  refine va_get (D := (dC, dI)) (ci := 6) (v := .ref (bM 2)) (C := RX6) (T := TX6) (N := 11) hx hb hts u_X6_offerTrial_X6 hown hK hP 0 rfl rfl 2 (by decide) (hts _ k_X6_offerTrial_1) (fun _ h9 => h9) rfl dX6_offerTrial_1 ?_
  refine lv_aload_n hx hb dX6_offerTrial_4 rfl (lv_at hl 0 rfl) ?_
  refine va_get (D := (dC, dI)) (ci := 6) (v := .ref (bM 1)) (C := RX6) (T := TX6) (N := 11) hx hb hts u_X6_offerTrial_X6 hown hK hP 0 rfl rfl 1 (by decide) (hts _ k_X6_offerTrial_2) (fun _ h9 => h9) rfl dX6_offerTrial_5 ?_
  obtain ⟨R1, e_1, hf⟩ := zbind_ex hf
  refine z_callM (gs2 := [(wX6 qM bM gM), (wX0 cI (bM 1) aT gT), (wX4 cI (bM 2) aR R1), (wX2 (bM 4) gH)]) hP hD hS hA [2, 1] [0, 3] rfl rfl rfl (show List.Perm [2, 1, 0, 3] (List.range 4) from by decide) rfl (va_runV (As := [.ref (bM 1)]) (rest := []) ⟨hx, hb, hml, hown, hts⟩ (c_X4_follow l dC dI cI cC cO (bM 2) aR gR (bM 1) aT gT  R1 e_1 H.size) (cwV 1 hts gX6_offerTrial_X4_follow rfl rfl rfl (by decide +kernel) ⟨Nat.le_of_ble_eq_true rfl, Nat.le_of_ble_eq_true rfl⟩) ⟨zpM_blind, va_recv hK hP (ci := 4) (q0 := 9) rfl rfl, z_useM hK hN hP hD [2, 1] [0, 3] rfl (show List.Perm [2, 1, 0, 3] (List.range 4) from by decide)⟩ rfl rfl hl.1 rfl (lv_room (Nat.le_of_ble_eq_true rfl)) dX6_offerTrial_8 ⟨Nat.le_of_ble_eq_true rfl, Nat.le_of_ble_eq_true rfl⟩) (fun H locs hP hD hS => ?_)
  refine W.eq (g2 := F0 m 11 ls []) rfl ?_
  refine lv_aload_n hx hb dX6_offerTrial_11 rfl (lv_at hl 0 rfl) ?_
  refine va_get (D := (dC, dI)) (ci := 6) (v := .ref (bM 4)) (C := RX6) (T := TX6) (N := 11) hx hb hts u_X6_offerTrial_X6 hown hK hP 0 rfl rfl 4 (by decide) (hts _ k_X6_offerTrial_3) (fun _ h9 => h9) rfl dX6_offerTrial_12 ?_
  refine lv_iload_n hx hb dX6_offerTrial_15 rfl (lv_at hl 1 rfl) ?_
  refine lv_aload_n hx hb dX6_offerTrial_16 rfl (lv_at hl 0 rfl) ?_
  refine va_get (D := (dC, dI)) (ci := 6) (v := .ref (bM 2)) (C := RX6) (T := TX6) (N := 11) hx hb hts u_X6_offerTrial_X6 hown hK hP 0 rfl rfl 2 (by decide) (hts _ k_X6_offerTrial_1) (fun _ h9 => h9) rfl dX6_offerTrial_17 ?_
  obtain ⟨R2, e_2, hf⟩ := zbind_ex hf
  refine z_callRi (va_runV (As := []) (rest := [.int x1, .ref (bM 4)]) ⟨hx, hb, hml, hown, hts⟩ (c_X4_linesOnScreen l dC dI cI cC cO (bM 2) aR R1  R2 e_2) (cwV 0 hts gX6_offerTrial_X4_linesOnScreen rfl rfl rfl (by decide +kernel) ⟨Nat.le_of_ble_eq_true rfl, Nat.le_of_ble_eq_true rfl⟩) ⟨zpR_blind, va_recv hK hP (ci := 4) (q0 := 9) rfl rfl, z_useR hK hN hP [2] rfl⟩ rfl rfl hl.1 rfl (lv_room (Nat.le_of_ble_eq_true rfl)) dX6_offerTrial_20 ⟨Nat.le_of_ble_eq_true rfl, Nat.le_of_ble_eq_true rfl⟩) ?_
  obtain ⟨R3, e_3, hf⟩ := zbind_ex hf
  refine z_callRi (va_runS (As := [.int R2]) (rest := [.int x1, .ref (bM 4)]) ⟨hx, hb, hml, hown, hts⟩ (c_J6_bitCount_0f7a4 l dC dI cI cC cO  R2 R3 e_3) (va_cwS 1 hts gX6_offerTrial_J6_bitCount_0f7a4 rfl rfl rfl (by decide +kernel) ⟨Nat.le_of_ble_eq_true rfl, Nat.le_of_ble_eq_true rfl⟩) ⟨zpR_blind, z_useR hK hN hP [] rfl⟩ rfl rfl hl.1 rfl (lv_room (Nat.le_of_ble_eq_true rfl)) dX6_offerTrial_23 ⟨Nat.le_of_ble_eq_true rfl, Nat.le_of_ble_eq_true rfl⟩) ?_
  refine lv_aload_n hx hb dX6_offerTrial_26 rfl (lv_at hl 0 rfl) ?_
  refine va_get (D := (dC, dI)) (ci := 6) (v := .ref (bM 2)) (C := RX6) (T := TX6) (N := 11) hx hb hts u_X6_offerTrial_X6 hown hK hP 0 rfl rfl 2 (by decide) (hts _ k_X6_offerTrial_1) (fun _ h9 => h9) rfl dX6_offerTrial_27 ?_
  obtain ⟨R4, e_4, hf⟩ := zbind_ex hf
  refine z_callRi (va_runV (As := []) (rest := [.int R3, .int x1, .ref (bM 4)]) ⟨hx, hb, hml, hown, hts⟩ (c_X4_spread l dC dI cI cC cO (bM 2) aR R1  R4 e_4) (cwV 0 hts gX6_offerTrial_X4_spread rfl rfl rfl (by decide +kernel) ⟨Nat.le_of_ble_eq_true rfl, Nat.le_of_ble_eq_true rfl⟩) ⟨zpR_blind, va_recv hK hP (ci := 4) (q0 := 9) rfl rfl, z_useR hK hN hP [2] rfl⟩ rfl rfl hl.1 rfl (lv_room (Nat.le_of_ble_eq_true rfl)) dX6_offerTrial_30 ⟨Nat.le_of_ble_eq_true rfl, Nat.le_of_ble_eq_true rfl⟩) ?_
  obtain ⟨R5, e_5, hf⟩ := zbind_ex hf
  refine z_callM (gs2 := [(wX6 qM bM gM), (wX0 cI (bM 1) aT gT), (wX4 cI (bM 2) aR R1), (wX2 (bM 4) R5)]) hP hD hS hA [3] [0, 1, 2] rfl rfl rfl (show List.Perm [3, 0, 1, 2] (List.range 4) from by decide) rfl (va_runV (As := [.int x1, .int R3, .int R4]) (rest := []) ⟨hx, hb, hml, hown, hts⟩ (c_X2_offer l dC dI cI cC cO (bM 4) gH x1 R3 R4 R5 e_5 H.size) (cwV 3 hts gX6_offerTrial_X2_offer rfl rfl rfl (by decide +kernel) ⟨Nat.le_of_ble_eq_true rfl, Nat.le_of_ble_eq_true rfl⟩) ⟨zpM_blind, va_recv hK hP (ci := 2) (q0 := 14) rfl rfl, z_useM hK hN hP hD [3] [0, 1, 2] rfl (show List.Perm [3, 0, 1, 2] (List.range 4) from by decide)⟩ rfl rfl hl.1 rfl (lv_room (Nat.le_of_ble_eq_true rfl)) dX6_offerTrial_33 ⟨Nat.le_of_ble_eq_true rfl, Nat.le_of_ble_eq_true rfl⟩) (fun H locs hP hD hS => ?_)
  refine W.eq (g2 := F0 m 36 ls []) rfl ?_
  exact zM_vret (gs := [(wX6 qM bM gM), (wX0 cI (bM 1) aT gT), (wX4 cI (bM 2) aR R1), (wX2 (bM 4) R5)]) hx hb hr hP hD hS (by rw [← Option.some.inj hf]; exact ⟨rfl, rfl⟩) hlk dX6_offerTrial_36

def f_X6_offerPlace (gM : zG) (gB : zG) (gT : zG) (gR : zG) (gH : zG) (x1 : Int32) (x2 : Int32) : Option (zG × zG × zG) := (zbind (f_X0_copyFrom gT gB) (fun R1 => (if x2 = x1 then (zbind (f_X6_offerTrial gM R1 gR gH x2) (fun R3 => (some (R1, R3.1, R3.2)))) else (zbind (f_X0_moveThing R1 x1 x2) (fun R4 => (if R4.1 < 0 then (some (R4.2, gR, gH)) else (zbind (f_X6_offerTrial gM R4.2 gR gH x2) (fun R6 => (some (R4.2, R6.1, R6.2))))))))))
theorem u_X6_offerPlace_X6 : ∀ w ∈ u_ws RX6 TX6 11, w ∈ wsX6_offerPlace := fun w h => List.mem_cons_of_mem _ (List.mem_append_left _ (List.mem_append_left _ (List.mem_append_left _ (List.mem_append_right _ h))))
theorem k_X6_offerPlace_1 : Cond.fieldLink RX6 16 "JoinedLight" "trial" "LJoinedLight$Bench;" ∈ wsX6_offerPlace := List.mem_of_getElem? (i := 1) rfl
theorem k_X6_offerPlace_2 : Cond.fieldLink RX6 10 "JoinedLight" "bench" "LJoinedLight$Bench;" ∈ wsX6_offerPlace := List.mem_of_getElem? (i := 2) rfl
abbrev rm_X6_offerPlace : Room := { frames := 6, cells := 0, slots := 0, locals := 139 }
set_option maxHeartbeats 4000000 in
set_option maxRecDepth 100000 in
theorem c_X6_offerPlace (l : Launch) (dC : Nat → ClassId) (dI : Nat → Nat → Nat) (cI cC cO : ClassId) (qM : Nat) (bM : Nat → Nat) (gM : zG) (aB : Nat → Nat) (gB : zG) (aT : Nat → Nat) (gT : zG) (aR : Nat → Nat) (gR : zG) (gH : zG) (x1 : Int32) (x2 : Int32) (R : zG × zG × zG) (hf : f_X6_offerPlace gM gB gT gR gH x1 x2 = some R) : cM l (dC, dI) (zT cI cC cO) yX6_offerPlace wsX6_offerPlace rm_X6_offerPlace [.ref qM, .int x1, .int x2] [(wX6 qM bM gM), (wX0 cI (bM 0) aB gB), (wX0 cI (bM 1) aT gT), (wX4 cI (bM 2) aR gR), (wX2 (bM 4) gH)] [(wX6 qM bM gM), (wX0 cI (bM 0) aB gB), (wX0 cI (bM 1) aT R.1), (wX4 cI (bM 2) aR R.2.1), (wX2 (bM 4) R.2.2)] none 0 0 := by
  refine zM_in (cc := cX6_offerPlace) (maxL := 3) (ret := none) (plainFor_of_name (by decide)) rfl (Nat.le_of_ble_eq_true rfl) ?_
  intro p e s m below meth c hx hb hml hr hlk hown hts hK hN A hA hP hD hS ls hl
  have hl : lv_has ls 3 [(0, .ref qM), (1, .int x1), (2, .int x2)] := hl
  unfold f_X6_offerPlace at hf
  obtain ⟨H, hH⟩ : ∃ H, H = s.heap := ⟨_, rfl⟩
  obtain ⟨locs, hlocs⟩ : ∃ locs : List Loc, locs = [] := ⟨_, rfl⟩
  have hS : va_S A s.heap H locs := by rw [hH, hlocs]; exact hS
  rw [← hH] at hP
  refine zheap hH hlocs ?_
  refine lv_aload_n hx hb dX6_offerPlace_0 rfl (lv_at hl 0 rfl) ?_
  refine va_get (D := (dC, dI)) (ci := 6) (v := .ref (bM 1)) (C := RX6) (T := TX6) (N := 11) hx hb hts u_X6_offerPlace_X6 hown hK hP 0 rfl rfl 1 (by decide) (hts _ k_X6_offerPlace_1) (fun _ h9 => h9) rfl dX6_offerPlace_1 ?_
  refine lv_aload_n hx hb dX6_offerPlace_4 rfl (lv_at hl 0 rfl) ?_
  refine va_get (D := (dC, dI)) (ci := 6) (v := .ref (bM 0)) (C := RX6) (T := TX6) (N := 11) hx hb hts u_X6_offerPlace_X6 hown hK hP 0 rfl rfl 0 (by decide) (hts _ k_X6_offerPlace_2) (fun _ h9 => h9) rfl dX6_offerPlace_5 ?_
  obtain ⟨R1, e_1, hf⟩ := zbind_ex hf
  refine z_callM (gs2 := [(wX6 qM bM gM), (wX0 cI (bM 0) aB gB), (wX0 cI (bM 1) aT R1), (wX4 cI (bM 2) aR gR), (wX2 (bM 4) gH)]) hP hD hS hA [2, 1] [0, 3, 4] rfl rfl rfl (show List.Perm [2, 1, 0, 3, 4] (List.range 5) from by decide) rfl (va_runV (As := [.ref (bM 0)]) (rest := []) ⟨hx, hb, hml, hown, hts⟩ (c_X0_copyFrom l dC dI cI cC cO (bM 1) aT gT (bM 0) aB gB  R1 e_1 H.size) (cwV 1 hts gX6_offerPlace_X0_copyFrom rfl rfl rfl (by decide +kernel) ⟨Nat.le_of_ble_eq_true rfl, Nat.le_of_ble_eq_true rfl⟩) ⟨zpM_blind, va_recv hK hP (ci := 0) (q0 := 9) rfl rfl, z_useM hK hN hP hD [2, 1] [0, 3, 4] rfl (show List.Perm [2, 1, 0, 3, 4] (List.range 5) from by decide)⟩ rfl rfl hl.1 rfl (lv_room (Nat.le_of_ble_eq_true rfl)) dX6_offerPlace_8 ⟨Nat.le_of_ble_eq_true rfl, Nat.le_of_ble_eq_true rfl⟩) (fun H locs hP hD hS => ?_)
  refine W.eq (g2 := F0 m 11 ls []) rfl ?_
  refine lv_iload_n hx hb dX6_offerPlace_11 rfl (lv_at hl 2 rfl) ?_
  refine lv_iload_n hx hb dX6_offerPlace_12 rfl (lv_at hl 1 rfl) ?_
  refine lv_icmp_eq (tgt := 28) hx hb dX6_offerPlace_13 (by decide) (fun c_2 => ?_) (fun c_2 => ?_)
  · have hf := zif_t hf c_2
    refine lv_aload_n hx hb dX6_offerPlace_28 rfl (lv_at hl 0 rfl) ?_
    refine lv_iload_n hx hb dX6_offerPlace_29 rfl (lv_at hl 2 rfl) ?_
    obtain ⟨R3, e_3, hf⟩ := zbind_ex hf
    refine z_callM (gs2 := [(wX6 qM bM gM), (wX0 cI (bM 0) aB gB), (wX0 cI (bM 1) aT R1), (wX4 cI (bM 2) aR R3.1), (wX2 (bM 4) R3.2)]) hP hD hS hA [0, 2, 3, 4] [1] rfl rfl rfl (show List.Perm [0, 2, 3, 4, 1] (List.range 5) from by decide) rfl (va_runV (As := [.int x2]) (rest := []) ⟨hx, hb, hml, hown, hts⟩ (c_X6_offerTrial l dC dI cI cC cO qM bM gM aT R1 aR gR gH x2 R3 e_3 H.size) (cwV 1 hts gX6_offerPlace_X6_offerTrial rfl rfl rfl (by decide +kernel) ⟨Nat.le_of_ble_eq_true rfl, Nat.le_of_ble_eq_true rfl⟩) ⟨zpM_blind, va_recv hK hP (ci := 6) (q0 := 0) rfl rfl, z_useM hK hN hP hD [0, 2, 3, 4] [1] rfl (show List.Perm [0, 2, 3, 4, 1] (List.range 5) from by decide)⟩ rfl rfl hl.1 rfl (lv_room (Nat.le_of_ble_eq_true rfl)) dX6_offerPlace_30 ⟨Nat.le_of_ble_eq_true rfl, Nat.le_of_ble_eq_true rfl⟩) (fun H locs hP hD hS => ?_)
    refine W.eq (g2 := F0 m 33 ls []) rfl ?_
    exact zM_vret (gs := [(wX6 qM bM gM), (wX0 cI (bM 0) aB gB), (wX0 cI (bM 1) aT R1), (wX4 cI (bM 2) aR R3.1), (wX2 (bM 4) R3.2)]) hx hb hr hP hD hS (by rw [← Option.some.inj hf]; exact ⟨rfl, rfl⟩) hlk dX6_offerPlace_33
  · have hf := zif_f hf c_2
    refine lv_aload_n hx hb dX6_offerPlace_16 rfl (lv_at hl 0 rfl) ?_
    refine va_get (D := (dC, dI)) (ci := 6) (v := .ref (bM 1)) (C := RX6) (T := TX6) (N := 11) hx hb hts u_X6_offerPlace_X6 hown hK hP 0 rfl rfl 1 (by decide) (hts _ k_X6_offerPlace_1) (fun _ h9 => h9) rfl dX6_offerPlace_17 ?_
    refine lv_iload_n hx hb dX6_offerPlace_20 rfl (lv_at hl 1 rfl) ?_
    refine lv_iload_n hx hb dX6_offerPlace_21 rfl (lv_at hl 2 rfl) ?_
    obtain ⟨R4, e_4, hf⟩ := zbind_ex hf
    refine z_callM (gs2 := [(wX6 qM bM gM), (wX0 cI (bM 0) aB gB), (wX0 cI (bM 1) aT R4.2), (wX4 cI (bM 2) aR gR), (wX2 (bM 4) gH)]) hP hD hS hA [2] [0, 1, 3, 4] rfl rfl rfl (show List.Perm [2, 0, 1, 3, 4] (List.range 5) from by decide) rfl (va_runV (As := [.int x1, .int x2]) (rest := []) ⟨hx, hb, hml, hown, hts⟩ (c_X0_moveThing l dC dI cI cC cO (bM 1) aT R1 x1 x2 R4 e_4 H.size) (cwV 2 hts gX6_offerPlace_X0_moveThing rfl rfl rfl (by decide +kernel) ⟨Nat.le_of_ble_eq_true rfl, Nat.le_of_ble_eq_true rfl⟩) ⟨zpM_blind, va_recv hK hP (ci := 0) (q0 := 9) rfl rfl, z_useM hK hN hP hD [2] [0, 1, 3, 4] rfl (show List.Perm [2, 0, 1, 3, 4] (List.range 5) from by decide)⟩ rfl rfl hl.1 rfl (lv_room (Nat.le_of_ble_eq_true rfl)) dX6_offerPlace_22 ⟨Nat.le_of_ble_eq_true rfl, Nat.le_of_ble_eq_true rfl⟩) (fun H locs hP hD hS => ?_)
    refine W.eq (g2 := F0 m 25 ls [.int R4.1]) rfl ?_
    refine lv_if_lt (tgt := 33) hx hb dX6_offerPlace_25 (by decide) (fun c_5 => ?_) (fun c_5 => ?_)
    · have hf := zif_t hf c_5
      exact zM_vret (gs := [(wX6 qM bM gM), (wX0 cI (bM 0) aB gB), (wX0 cI (bM 1) aT R4.2), (wX4 cI (bM 2) aR gR), (wX2 (bM 4) gH)]) hx hb hr hP hD hS (by rw [← Option.some.inj hf]; exact ⟨rfl, rfl⟩) hlk dX6_offerPlace_33
    · have hf := zif_f hf c_5
      refine lv_aload_n hx hb dX6_offerPlace_28 rfl (lv_at hl 0 rfl) ?_
      refine lv_iload_n hx hb dX6_offerPlace_29 rfl (lv_at hl 2 rfl) ?_
      obtain ⟨R6, e_6, hf⟩ := zbind_ex hf
      refine z_callM (gs2 := [(wX6 qM bM gM), (wX0 cI (bM 0) aB gB), (wX0 cI (bM 1) aT R4.2), (wX4 cI (bM 2) aR R6.1), (wX2 (bM 4) R6.2)]) hP hD hS hA [0, 2, 3, 4] [1] rfl rfl rfl (show List.Perm [0, 2, 3, 4, 1] (List.range 5) from by decide) rfl (va_runV (As := [.int x2]) (rest := []) ⟨hx, hb, hml, hown, hts⟩ (c_X6_offerTrial l dC dI cI cC cO qM bM gM aT R4.2 aR gR gH x2 R6 e_6 H.size) (cwV 1 hts gX6_offerPlace_X6_offerTrial rfl rfl rfl (by decide +kernel) ⟨Nat.le_of_ble_eq_true rfl, Nat.le_of_ble_eq_true rfl⟩) ⟨zpM_blind, va_recv hK hP (ci := 6) (q0 := 0) rfl rfl, z_useM hK hN hP hD [0, 2, 3, 4] [1] rfl (show List.Perm [0, 2, 3, 4, 1] (List.range 5) from by decide)⟩ rfl rfl hl.1 rfl (lv_room (Nat.le_of_ble_eq_true rfl)) dX6_offerPlace_30 ⟨Nat.le_of_ble_eq_true rfl, Nat.le_of_ble_eq_true rfl⟩) (fun H locs hP hD hS => ?_)
      refine W.eq (g2 := F0 m 33 ls []) rfl ?_
      exact zM_vret (gs := [(wX6 qM bM gM), (wX0 cI (bM 0) aB gB), (wX0 cI (bM 1) aT R4.2), (wX4 cI (bM 2) aR R6.1), (wX2 (bM 4) R6.2)]) hx hb hr hP hD hS (by rw [← Option.some.inj hf]; exact ⟨rfl, rfl⟩) hlk dX6_offerPlace_33

def f_X6_best_33_b (gM : zG) (gB : zG)  (k33 : Int32 → Int32 → Int32 → zG → zG → zG → Option (Int32 × zG × zG × zG)) (y1 : Int32) (y2 : Int32) (y3 : Int32) (gT : zG) (gR : zG) (gH : zG) : Option (Int32 × zG × zG × zG) := (if (990 : Int32) < y3 then (if y2 = (0 : Int32) then (some ((gH 0 0), gT, gR, gH)) else (if y2 = (1 : Int32) then (some ((gH 1 0), gT, gR, gH)) else (some ((gH 2 0), gT, gR, gH)))) else (zbind (f_X6_offerPlace gM gB gT gR gH y1 y3) (fun R9 => (k33 y1 y2 (y3 + (10 : Int32)) R9.1 R9.2.1 R9.2.2))))
def f_X6_best_33 (gM : zG) (gB : zG)  : Nat → Int32 → Int32 → Int32 → zG → zG → zG → Option (Int32 × zG × zG × zG)
  | 0 => fun _ _ _ _ _ _ => none
  | n + 1 => f_X6_best_33_b gM gB  (f_X6_best_33 gM gB  n)
def f_X6_best (gM : zG) (gB : zG) (gT : zG) (gR : zG) (gH : zG) (x1 : Int32) (x2 : Int32) : Option (Int32 × zG × zG × zG) := (zbind (f_X0_indexOf gB x1) (fun R1 => (if R1 < 0 then (some ((-1000000001 : Int32), gT, gR, gH)) else (zbind (f_X6_within x2 (0 : Int32) (2 : Int32)) (fun R3 => (if R3 = 0 then (some ((-1000000001 : Int32), gT, gR, gH)) else (zbind (f_X2_clear gH) (fun R5 => (f_X6_best_33 gM gB  zfuel x1 x2 (10 : Int32) gT gR R5)))))))))
theorem u_X6_best_X6 : ∀ w ∈ u_ws RX6 TX6 11, w ∈ wsX6_best := fun w h => List.mem_cons_of_mem _ (List.mem_append_left _ (List.mem_append_left _ (List.mem_append_left _ (List.mem_append_right _ h))))
theorem u_X6_best_X2 : ∀ w ∈ u_ws RX2 TX2 3, w ∈ wsX6_best := fun w h => List.mem_cons_of_mem _ (List.mem_append_left _ (List.mem_append_left _ (List.mem_append_right _ h)))
theorem k_X6_best_1 : Cond.fieldLink RX6 10 "JoinedLight" "bench" "LJoinedLight$Bench;" ∈ wsX6_best := List.mem_of_getElem? (i := 1) rfl
theorem k_X6_best_2 : Cond.constant RX6 94 (-1000000001) ∈ wsX6_best := List.mem_of_getElem? (i := 2) rfl
theorem k_X6_best_3 : Cond.fieldLink RX6 36 "JoinedLight" "choice" "LJoinedLight$Choice;" ∈ wsX6_best := List.mem_of_getElem? (i := 3) rfl
theorem k_X6_best_4 : Cond.fieldLink RX6 189 "JoinedLight$Choice" "value" "I" ∈ wsX6_best := List.mem_of_getElem? (i := 4) rfl
theorem k_X6_best_5 : Cond.fieldLink RX6 193 "JoinedLight$Choice" "arrivals" "I" ∈ wsX6_best := List.mem_of_getElem? (i := 5) rfl
theorem k_X6_best_6 : Cond.fieldLink RX6 196 "JoinedLight$Choice" "spread" "I" ∈ wsX6_best := List.mem_of_getElem? (i := 6) rfl
abbrev rm_X6_best : Room := { frames := 7, cells := 0, slots := 0, locals := 161 }
set_option maxHeartbeats 4000000 in
set_option maxRecDepth 100000 in
theorem c_X6_best (l : Launch) (dC : Nat → ClassId) (dI : Nat → Nat → Nat) (cI cC cO : ClassId) (qM : Nat) (bM : Nat → Nat) (gM : zG) (aB : Nat → Nat) (gB : zG) (aT : Nat → Nat) (gT : zG) (aR : Nat → Nat) (gR : zG) (gH : zG) (x1 : Int32) (x2 : Int32) (R : Int32 × zG × zG × zG) (hf : f_X6_best gM gB gT gR gH x1 x2 = some R) : cM l (dC, dI) (zT cI cC cO) yX6_best wsX6_best rm_X6_best [.ref qM, .int x1, .int x2] [(wX6 qM bM gM), (wX0 cI (bM 0) aB gB), (wX0 cI (bM 1) aT gT), (wX4 cI (bM 2) aR gR), (wX2 (bM 4) gH)] [(wX6 qM bM gM), (wX0 cI (bM 0) aB gB), (wX0 cI (bM 1) aT R.2.1), (wX4 cI (bM 2) aR R.2.2.1), (wX2 (bM 4) R.2.2.2)] (some (.int R.1)) 0 0 := by
  refine zM_in (cc := cX6_best) (maxL := 4) (ret := (some .int)) (plainFor_of_name (by decide)) rfl (Nat.le_of_ble_eq_true rfl) ?_
  intro p e s m below meth c hx hb hml hr hlk hown hts hK hN A hA hP hD hS ls hl
  have hl : lv_has ls 4 [(0, .ref qM), (1, .int x1), (2, .int x2)] := hl
  have w33 : ∀ (n33 : Nat) (y1 : Int32) (y2 : Int32) (y3 : Int32) (gT : zG) (gR : zG) (gH : zG) (H : Heap) (locs : List Loc) (ls : Array Slot), f_X6_best_33 gM gB  n33 y1 y2 y3 gT gR gH = some R → va_P (dC, dI) vwCl [(wX6 qM bM gM), (wX0 cI (bM 0) aB gB), (wX0 cI (bM 1) aT gT), (wX4 cI (bM 2) aR gR), (wX2 (bM 4) gH)].flatten H → va_D A [(wX6 qM bM gM), (wX0 cI (bM 0) aB gB), (wX0 cI (bM 1) aT gT), (wX4 cI (bM 2) aR gR), (wX2 (bM 4) gH)].flatten → va_S A s.heap H locs → lv_has ls 4 [(0, .ref qM), (1, .int y1), (2, .int y2), (3, .int y3)] → W p l e (headSpec wsX6_best rm_X6_best).room s m [.ref qM, .int x1, .int x2].toArray below meth c H locs 0 0 (MQ below (zqM (dC, dI) (some (.int R.1)) [(wX6 qM bM gM), (wX0 cI (bM 0) aB gB), (wX0 cI (bM 1) aT R.2.1), (wX4 cI (bM 2) aR R.2.2.1), (wX2 (bM 4) R.2.2.2)] A) [.ref qM, .int x1, .int x2].toArray s 0 0 A) (F0 m 33 ls []) := by
    intro n33
    induction n33 with
    | zero =>
      intro y1 y2 y3 gT gR gH H locs ls hf hP hD hS hl
      have hf : (none : Option (Int32 × zG × zG × zG)) = some R := hf
      cases hf
    | succ n33 ih33 =>
      intro y1 y2 y3 gT gR gH H locs ls hf hP hD hS hl
      have hf : f_X6_best_33_b gM gB  (f_X6_best_33 gM gB  n33) y1 y2 y3 gT gR gH = some R := hf
      unfold f_X6_best_33_b at hf
      refine lv_iload_n hx hb dX6_best_33 rfl (lv_at hl 3 rfl) ?_
      refine lv_sipush (v := (990 : Int32)) hx hb dX6_best_34 (by decide) ?_
      refine lv_icmp_gt (tgt := 52) hx hb dX6_best_37 (by decide) (fun c_6 => ?_) (fun c_6 => ?_)
      · have hf := zif_t hf c_6
        refine lv_iload_n hx hb dX6_best_52 rfl (lv_at hl 2 rfl) ?_
        by_cases c_7 : y2 = (0 : Int32)
        · have hf := zif_t hf c_7
          refine lv_lookup (tgt := 80) (off := 27) hx hb dX6_best_53 (by decide +kernel) (by rw [c_7]; first | done | rfl) (by decide) ?_
          refine lv_aload_n hx hb dX6_best_80 rfl (lv_at hl 0 rfl) ?_
          refine va_get (D := (dC, dI)) (ci := 6) (v := .ref (bM 4)) (C := RX6) (T := TX6) (N := 11) hx hb hts u_X6_best_X6 hown hK hP 0 rfl rfl 4 (by decide) (hts _ k_X6_best_3) (fun _ h9 => h9) rfl dX6_best_81 ?_
          refine va_get (D := (dC, dI)) (ci := 2) (v := .int (gH 0 0)) (C := RX2) (T := TX2) (N := 3) hx hb hts u_X6_best_X2 hown hK hP 22 rfl rfl 0 (by decide) (hts _ k_X6_best_4) (fun _ h9 => h9) rfl dX6_best_84 ?_
          exact zM_ret (gs := [(wX6 qM bM gM), (wX0 cI (bM 0) aB gB), (wX0 cI (bM 1) aT gT), (wX4 cI (bM 2) aR gR), (wX2 (bM 4) gH)]) hx hb hr rfl hP hD hS (by rw [← Option.some.inj hf]; exact ⟨rfl, rfl⟩) hlk dX6_best_87
        · have hf := zif_f hf c_7
          by_cases c_8 : y2 = (1 : Int32)
          · have hf := zif_t hf c_8
            refine lv_lookup (tgt := 88) (off := 35) hx hb dX6_best_53 (by decide +kernel) (by rw [c_8]; first | done | rfl) (by decide) ?_
            refine lv_aload_n hx hb dX6_best_88 rfl (lv_at hl 0 rfl) ?_
            refine va_get (D := (dC, dI)) (ci := 6) (v := .ref (bM 4)) (C := RX6) (T := TX6) (N := 11) hx hb hts u_X6_best_X6 hown hK hP 0 rfl rfl 4 (by decide) (hts _ k_X6_best_3) (fun _ h9 => h9) rfl dX6_best_89 ?_
            refine va_get (D := (dC, dI)) (ci := 2) (v := .int (gH 1 0)) (C := RX2) (T := TX2) (N := 3) hx hb hts u_X6_best_X2 hown hK hP 22 rfl rfl 1 (by decide) (hts _ k_X6_best_5) (fun _ h9 => h9) rfl dX6_best_92 ?_
            exact zM_ret (gs := [(wX6 qM bM gM), (wX0 cI (bM 0) aB gB), (wX0 cI (bM 1) aT gT), (wX4 cI (bM 2) aR gR), (wX2 (bM 4) gH)]) hx hb hr rfl hP hD hS (by rw [← Option.some.inj hf]; exact ⟨rfl, rfl⟩) hlk dX6_best_95
          · have hf := zif_f hf c_8
            refine lv_lookup (tgt := 96) (off := 43) hx hb dX6_best_53 (by decide +kernel) (by show Op.lookupswitch.offset [((0 : Int), (27 : Int)), ((1 : Int), (35 : Int))] _ _ = _; rw [lv_osw (a := 0) c_7 (by decide)]; rw [lv_osw (a := 1) c_8 (by decide)]; first | done | rfl) (by decide) ?_
            refine lv_aload_n hx hb dX6_best_96 rfl (lv_at hl 0 rfl) ?_
            refine va_get (D := (dC, dI)) (ci := 6) (v := .ref (bM 4)) (C := RX6) (T := TX6) (N := 11) hx hb hts u_X6_best_X6 hown hK hP 0 rfl rfl 4 (by decide) (hts _ k_X6_best_3) (fun _ h9 => h9) rfl dX6_best_97 ?_
            refine va_get (D := (dC, dI)) (ci := 2) (v := .int (gH 2 0)) (C := RX2) (T := TX2) (N := 3) hx hb hts u_X6_best_X2 hown hK hP 22 rfl rfl 2 (by decide) (hts _ k_X6_best_6) (fun _ h9 => h9) rfl dX6_best_100 ?_
            exact zM_ret (gs := [(wX6 qM bM gM), (wX0 cI (bM 0) aB gB), (wX0 cI (bM 1) aT gT), (wX4 cI (bM 2) aR gR), (wX2 (bM 4) gH)]) hx hb hr rfl hP hD hS (by rw [← Option.some.inj hf]; exact ⟨rfl, rfl⟩) hlk dX6_best_103
      · have hf := zif_f hf c_6
        refine lv_aload_n hx hb dX6_best_40 rfl (lv_at hl 0 rfl) ?_
        refine lv_iload_n hx hb dX6_best_41 rfl (lv_at hl 1 rfl) ?_
        refine lv_iload_n hx hb dX6_best_42 rfl (lv_at hl 3 rfl) ?_
        obtain ⟨R9, e_9, hf⟩ := zbind_ex hf
        refine z_callM (gs2 := [(wX6 qM bM gM), (wX0 cI (bM 0) aB gB), (wX0 cI (bM 1) aT R9.1), (wX4 cI (bM 2) aR R9.2.1), (wX2 (bM 4) R9.2.2)]) hP hD hS hA [0, 1, 2, 3, 4] [] rfl rfl rfl (show List.Perm [0, 1, 2, 3, 4] (List.range 5) from by decide) rfl (va_runV (As := [.int y1, .int y3]) (rest := []) ⟨hx, hb, hml, hown, hts⟩ (c_X6_offerPlace l dC dI cI cC cO qM bM gM aB gB aT gT aR gR gH y1 y3 R9 e_9 H.size) (cwV 2 hts gX6_best_X6_offerPlace rfl rfl rfl (by decide +kernel) ⟨Nat.le_of_ble_eq_true rfl, Nat.le_of_ble_eq_true rfl⟩) ⟨zpM_blind, va_recv hK hP (ci := 6) (q0 := 0) rfl rfl, z_useM hK hN hP hD [0, 1, 2, 3, 4] [] rfl (show List.Perm [0, 1, 2, 3, 4] (List.range 5) from by decide)⟩ rfl rfl hl.1 rfl (lv_room (Nat.le_of_ble_eq_true rfl)) dX6_best_43 ⟨Nat.le_of_ble_eq_true rfl, Nat.le_of_ble_eq_true rfl⟩) (fun H locs hP hD hS => ?_)
        refine W.eq (g2 := F0 m 46 ls []) rfl ?_
        refine lv_iinc (v := (y3 + (10 : Int32))) (lv' := [(3, .int (y3 + (10 : Int32))), (0, .ref qM), (1, .int y1), (2, .int y2)]) hx hb dX6_best_46 hl (k := 3) rfl rfl (by decide) rfl (fun ls hl => ?_)
        refine lv_goto (tgt := 33) hx hb dX6_best_49 (by decide) ?_
        exact ih33 y1 y2 (y3 + (10 : Int32)) R9.1 R9.2.1 R9.2.2 H locs ls hf hP hD hS (lv_sub hl [1, 2, 3, 0] rfl)
  unfold f_X6_best at hf
  obtain ⟨H, hH⟩ : ∃ H, H = s.heap := ⟨_, rfl⟩
  obtain ⟨locs, hlocs⟩ : ∃ locs : List Loc, locs = [] := ⟨_, rfl⟩
  have hS : va_S A s.heap H locs := by rw [hH, hlocs]; exact hS
  rw [← hH] at hP
  refine zheap hH hlocs ?_
  refine lv_aload_n hx hb dX6_best_0 rfl (lv_at hl 0 rfl) ?_
  refine va_get (D := (dC, dI)) (ci := 6) (v := .ref (bM 0)) (C := RX6) (T := TX6) (N := 11) hx hb hts u_X6_best_X6 hown hK hP 0 rfl rfl 0 (by decide) (hts _ k_X6_best_1) (fun _ h9 => h9) rfl dX6_best_1 ?_
  refine lv_iload_n hx hb dX6_best_4 rfl (lv_at hl 1 rfl) ?_
  obtain ⟨R1, e_1, hf⟩ := zbind_ex hf
  refine z_callRi (va_runV (As := [.int x1]) (rest := []) ⟨hx, hb, hml, hown, hts⟩ (c_X0_indexOf l dC dI cI cC cO (bM 0) aB gB x1 R1 e_1) (cwV 1 hts gX6_best_X0_indexOf rfl rfl rfl (by decide +kernel) ⟨Nat.le_of_ble_eq_true rfl, Nat.le_of_ble_eq_true rfl⟩) ⟨zpR_blind, va_recv hK hP (ci := 0) (q0 := 1) rfl rfl, z_useR hK hN hP [1] rfl⟩ rfl rfl hl.1 rfl (lv_room (Nat.le_of_ble_eq_true rfl)) dX6_best_5 ⟨Nat.le_of_ble_eq_true rfl, Nat.le_of_ble_eq_true rfl⟩) ?_
  refine lv_if_lt (tgt := 20) hx hb dX6_best_8 (by decide) (fun c_2 => ?_) (fun c_2 => ?_)
  · have hf := zif_t hf c_2
    refine lv_ldc (v := (-1000000001 : Int32)) hx hb hown (hts _ k_X6_best_2) dX6_best_20 ?_
    exact zM_ret (gs := [(wX6 qM bM gM), (wX0 cI (bM 0) aB gB), (wX0 cI (bM 1) aT gT), (wX4 cI (bM 2) aR gR), (wX2 (bM 4) gH)]) hx hb hr rfl hP hD hS (by rw [← Option.some.inj hf]; exact ⟨rfl, rfl⟩) hlk dX6_best_22
  · have hf := zif_f hf c_2
    refine lv_iload_n hx hb dX6_best_11 rfl (lv_at hl 2 rfl) ?_
    refine lv_iconst (v := (0 : Int32)) hx hb dX6_best_12 (by decide) ?_
    refine lv_iconst (v := (2 : Int32)) hx hb dX6_best_13 (by decide) ?_
    obtain ⟨R3, e_3, hf⟩ := zbind_ex hf
    refine z_callRi (va_runS (As := [.int x2, .int (0 : Int32), .int (2 : Int32)]) (rest := []) ⟨hx, hb, hml, hown, hts⟩ (c_X6_within l dC dI cI cC cO  x2 (0 : Int32) (2 : Int32) R3 e_3) (va_cwS 3 hts gX6_best_X6_within rfl rfl rfl (by decide +kernel) ⟨Nat.le_of_ble_eq_true rfl, Nat.le_of_ble_eq_true rfl⟩) ⟨zpR_blind, z_useR hK hN hP [] rfl⟩ rfl rfl hl.1 rfl (lv_room (Nat.le_of_ble_eq_true rfl)) dX6_best_14 ⟨Nat.le_of_ble_eq_true rfl, Nat.le_of_ble_eq_true rfl⟩) ?_
    refine lv_if_ne (tgt := 23) hx hb dX6_best_17 (by decide) (fun c_4 => ?_) (fun c_4 => ?_)
    · have hf := zif_f hf c_4
      refine lv_aload_n hx hb dX6_best_23 rfl (lv_at hl 0 rfl) ?_
      refine va_get (D := (dC, dI)) (ci := 6) (v := .ref (bM 4)) (C := RX6) (T := TX6) (N := 11) hx hb hts u_X6_best_X6 hown hK hP 0 rfl rfl 4 (by decide) (hts _ k_X6_best_3) (fun _ h9 => h9) rfl dX6_best_24 ?_
      obtain ⟨R5, e_5, hf⟩ := zbind_ex hf
      refine z_callM (gs2 := [(wX6 qM bM gM), (wX0 cI (bM 0) aB gB), (wX0 cI (bM 1) aT gT), (wX4 cI (bM 2) aR gR), (wX2 (bM 4) R5)]) hP hD hS hA [4] [0, 1, 2, 3] rfl rfl rfl (show List.Perm [4, 0, 1, 2, 3] (List.range 5) from by decide) rfl (va_runV (As := []) (rest := []) ⟨hx, hb, hml, hown, hts⟩ (c_X2_clear l dC dI cI cC cO (bM 4) gH  R5 e_5 H.size) (cwV 0 hts gX6_best_X2_clear rfl rfl rfl (by decide +kernel) ⟨Nat.le_of_ble_eq_true rfl, Nat.le_of_ble_eq_true rfl⟩) ⟨zpM_blind, va_recv hK hP (ci := 2) (q0 := 22) rfl rfl, z_useM hK hN hP hD [4] [0, 1, 2, 3] rfl (show List.Perm [4, 0, 1, 2, 3] (List.range 5) from by decide)⟩ rfl rfl hl.1 rfl (lv_room (Nat.le_of_ble_eq_true rfl)) dX6_best_27 ⟨Nat.le_of_ble_eq_true rfl, Nat.le_of_ble_eq_true rfl⟩) (fun H locs hP hD hS => ?_)
      refine W.eq (g2 := F0 m 30 ls []) rfl ?_
      refine lv_bipush (v := (10 : Int32)) hx hb dX6_best_30 (by decide) ?_
      refine lv_istore_n (lv' := [(3, .int (10 : Int32)), (0, .ref qM), (1, .int x1), (2, .int x2)]) hx hb dX6_best_32 rfl hl (by decide) rfl (fun ls hl => ?_)
      exact w33 zfuel x1 x2 (10 : Int32) gT gR R5 H locs ls hf hP hD hS (lv_sub hl [1, 2, 3, 0] rfl)
    · have hf := zif_t hf c_4
      refine lv_ldc (v := (-1000000001 : Int32)) hx hb hown (hts _ k_X6_best_2) dX6_best_20 ?_
      exact zM_ret (gs := [(wX6 qM bM gM), (wX0 cI (bM 0) aB gB), (wX0 cI (bM 1) aT gT), (wX4 cI (bM 2) aR gR), (wX2 (bM 4) gH)]) hx hb hr rfl hP hD hS (by rw [← Option.some.inj hf]; exact ⟨rfl, rfl⟩) hlk dX6_best_22

def f_X6_alone_58_b (gM : zG) (gB : zG)  (k58 : Int32 → Int32 → Int32 → Int32 → zG → Option (Int32 × zG)) (y1 : Int32) (y2 : Int32) (y3 : Int32) (y4 : Int32) (gR : zG) : Option (Int32 × zG) := (if (8 : Int32) ≤ y4 then (some (y3, gR)) else (zbind (f_X0_hasLine gB y4) (fun R10 => (if R10 = 0 then (some (y3, gR)) else (if y4 = y1 then (k58 y1 y2 y3 (y4 + (1 : Int32)) gR) else (zbind (f_X6_heightAt gM gB gR y4 y2) (fun R13 => (if R13.1 = y3 then (some ((-1000000002 : Int32), R13.2)) else (k58 y1 y2 y3 (y4 + (1 : Int32)) R13.2)))))))))
def f_X6_alone_58 (gM : zG) (gB : zG)  : Nat → Int32 → Int32 → Int32 → Int32 → zG → Option (Int32 × zG)
  | 0 => fun _ _ _ _ _ => none
  | n + 1 => f_X6_alone_58_b gM gB  (f_X6_alone_58 gM gB  n)
def f_X6_alone (gM : zG) (gB : zG) (gR : zG) (x1 : Int32) (x2 : Int32) : Option (Int32 × zG) := (zbind (f_X0_hasLine gB x1) (fun R1 => (if R1 = 0 then (some ((-1000000001 : Int32), gR)) else (zbind (f_X6_within x2 (1 : Int32) (999 : Int32)) (fun R3 => (if R3 = 0 then (some ((-1000000001 : Int32), gR)) else (zbind (f_X0_indexOf gB x2) (fun R5 => (if R5 < 0 then (zbind (f_X6_heightAt gM gB gR x1 x2) (fun R7 => (if R7.1 = (-1000000004 : Int32) then (some ((-1000000004 : Int32), R7.2)) else (f_X6_alone_58 gM gB  zfuel x1 x2 R7.1 (0 : Int32) R7.2)))) else (some ((-1000000002 : Int32), gR)))))))))))
theorem u_X6_alone_X6 : ∀ w ∈ u_ws RX6 TX6 11, w ∈ wsX6_alone := fun w h => List.mem_cons_of_mem _ (List.mem_append_left _ (List.mem_append_left _ (List.mem_append_right _ h)))
theorem k_X6_alone_1 : Cond.fieldLink RX6 10 "JoinedLight" "bench" "LJoinedLight$Bench;" ∈ wsX6_alone := List.mem_of_getElem? (i := 1) rfl
theorem k_X6_alone_2 : Cond.constant RX6 94 (-1000000001) ∈ wsX6_alone := List.mem_of_getElem? (i := 2) rfl
theorem k_X6_alone_4 : Cond.constant RX6 115 (-1000000004) ∈ wsX6_alone := List.mem_of_getElem? (i := 4) rfl
theorem k_X6_alone_3 : Cond.constant RX6 199 (-1000000002) ∈ wsX6_alone := List.mem_of_getElem? (i := 3) rfl
abbrev rm_X6_alone : Room := { frames := 5, cells := 0, slots := 0, locals := 118 }
set_option maxHeartbeats 4000000 in
set_option maxRecDepth 100000 in
theorem c_X6_alone (l : Launch) (dC : Nat → ClassId) (dI : Nat → Nat → Nat) (cI cC cO : ClassId) (qM : Nat) (bM : Nat → Nat) (gM : zG) (aB : Nat → Nat) (gB : zG) (aR : Nat → Nat) (gR : zG) (x1 : Int32) (x2 : Int32) (R : Int32 × zG) (hf : f_X6_alone gM gB gR x1 x2 = some R) : cM l (dC, dI) (zT cI cC cO) yX6_alone wsX6_alone rm_X6_alone [.ref qM, .int x1, .int x2] [(wX6 qM bM gM), (wX0 cI (bM 0) aB gB), (wX4 cI (bM 2) aR gR)] [(wX6 qM bM gM), (wX0 cI (bM 0) aB gB), (wX4 cI (bM 2) aR R.2)] (some (.int R.1)) 0 0 := by
  refine zM_in (cc := cX6_alone) (maxL := 5) (ret := (some .int)) (plainFor_of_name (by decide)) rfl (Nat.le_of_ble_eq_true rfl) ?_
  intro p e s m below meth c hx hb hml hr hlk hown hts hK hN A hA hP hD hS ls hl
  have hl : lv_has ls 5 [(0, .ref qM), (1, .int x1), (2, .int x2)] := hl
  have w58 : ∀ (n58 : Nat) (y1 : Int32) (y2 : Int32) (y3 : Int32) (y4 : Int32) (gR : zG) (H : Heap) (locs : List Loc) (ls : Array Slot), f_X6_alone_58 gM gB  n58 y1 y2 y3 y4 gR = some R → va_P (dC, dI) vwCl [(wX6 qM bM gM), (wX0 cI (bM 0) aB gB), (wX4 cI (bM 2) aR gR)].flatten H → va_D A [(wX6 qM bM gM), (wX0 cI (bM 0) aB gB), (wX4 cI (bM 2) aR gR)].flatten → va_S A s.heap H locs → lv_has ls 5 [(0, .ref qM), (1, .int y1), (2, .int y2), (3, .int y3), (4, .int y4)] → W p l e (headSpec wsX6_alone rm_X6_alone).room s m [.ref qM, .int x1, .int x2].toArray below meth c H locs 0 0 (MQ below (zqM (dC, dI) (some (.int R.1)) [(wX6 qM bM gM), (wX0 cI (bM 0) aB gB), (wX4 cI (bM 2) aR R.2)] A) [.ref qM, .int x1, .int x2].toArray s 0 0 A) (F0 m 58 ls []) := by
    intro n58
    induction n58 with
    | zero =>
      intro y1 y2 y3 y4 gR H locs ls hf hP hD hS hl
      have hf : (none : Option (Int32 × zG)) = some R := hf
      cases hf
    | succ n58 ih58 =>
      intro y1 y2 y3 y4 gR H locs ls hf hP hD hS hl
      have hf : f_X6_alone_58_b gM gB  (f_X6_alone_58 gM gB  n58) y1 y2 y3 y4 gR = some R := hf
      unfold f_X6_alone_58_b at hf
      refine lv_iload hx hb dX6_alone_58 (lv_at hl 4 rfl) ?_
      refine lv_bipush (v := (8 : Int32)) hx hb dX6_alone_60 (by decide) ?_
      refine lv_icmp_ge (tgt := 103) hx hb dX6_alone_62 (by decide) (fun c_9 => ?_) (fun c_9 => ?_)
      · have hf := zif_t hf c_9
        refine lv_iload_n hx hb dX6_alone_103 rfl (lv_at hl 3 rfl) ?_
        exact zM_ret (gs := [(wX6 qM bM gM), (wX0 cI (bM 0) aB gB), (wX4 cI (bM 2) aR gR)]) hx hb hr rfl hP hD hS (by rw [← Option.some.inj hf]; exact ⟨rfl, rfl⟩) hlk dX6_alone_104
      · have hf := zif_f hf c_9
        refine lv_aload_n hx hb dX6_alone_65 rfl (lv_at hl 0 rfl) ?_
        refine va_get (D := (dC, dI)) (ci := 6) (v := .ref (bM 0)) (C := RX6) (T := TX6) (N := 11) hx hb hts u_X6_alone_X6 hown hK hP 0 rfl rfl 0 (by decide) (hts _ k_X6_alone_1) (fun _ h9 => h9) rfl dX6_alone_66 ?_
        refine lv_iload hx hb dX6_alone_69 (lv_at hl 4 rfl) ?_
        obtain ⟨R10, e_10, hf⟩ := zbind_ex hf
        refine z_callRi (va_runV (As := [.int y4]) (rest := []) ⟨hx, hb, hml, hown, hts⟩ (c_X0_hasLine l dC dI cI cC cO (bM 0) aB gB y4 R10 e_10) (cwV 1 hts gX6_alone_X0_hasLine rfl rfl rfl (by decide +kernel) ⟨Nat.le_of_ble_eq_true rfl, Nat.le_of_ble_eq_true rfl⟩) ⟨zpR_blind, va_recv hK hP (ci := 0) (q0 := 1) rfl rfl, z_useR hK hN hP [1] rfl⟩ rfl rfl hl.1 rfl (lv_room (Nat.le_of_ble_eq_true rfl)) dX6_alone_71 ⟨Nat.le_of_ble_eq_true rfl, Nat.le_of_ble_eq_true rfl⟩) ?_
        refine lv_if_eq (tgt := 103) hx hb dX6_alone_74 (by decide) (fun c_11 => ?_) (fun c_11 => ?_)
        · have hf := zif_t hf c_11
          refine lv_iload_n hx hb dX6_alone_103 rfl (lv_at hl 3 rfl) ?_
          exact zM_ret (gs := [(wX6 qM bM gM), (wX0 cI (bM 0) aB gB), (wX4 cI (bM 2) aR gR)]) hx hb hr rfl hP hD hS (by rw [← Option.some.inj hf]; exact ⟨rfl, rfl⟩) hlk dX6_alone_104
        · have hf := zif_f hf c_11
          refine lv_iload hx hb dX6_alone_77 (lv_at hl 4 rfl) ?_
          refine lv_iload_n hx hb dX6_alone_79 rfl (lv_at hl 1 rfl) ?_
          refine lv_icmp_eq (tgt := 97) hx hb dX6_alone_80 (by decide) (fun c_12 => ?_) (fun c_12 => ?_)
          · have hf := zif_t hf c_12
            refine lv_iinc (v := (y4 + (1 : Int32))) (lv' := [(4, .int (y4 + (1 : Int32))), (0, .ref qM), (1, .int y1), (2, .int y2), (3, .int y3)]) hx hb dX6_alone_97 hl (k := 4) rfl rfl (by decide) rfl (fun ls hl => ?_)
            refine lv_goto (tgt := 58) hx hb dX6_alone_100 (by decide) ?_
            exact ih58 y1 y2 y3 (y4 + (1 : Int32)) gR H locs ls hf hP hD hS (lv_sub hl [1, 2, 3, 4, 0] rfl)
          · have hf := zif_f hf c_12
            refine lv_aload_n hx hb dX6_alone_83 rfl (lv_at hl 0 rfl) ?_
            refine lv_iload hx hb dX6_alone_84 (lv_at hl 4 rfl) ?_
            refine lv_iload_n hx hb dX6_alone_86 rfl (lv_at hl 2 rfl) ?_
            obtain ⟨R13, e_13, hf⟩ := zbind_ex hf
            refine z_callM (gs2 := [(wX6 qM bM gM), (wX0 cI (bM 0) aB gB), (wX4 cI (bM 2) aR R13.2)]) hP hD hS hA [0, 1, 2] [] rfl rfl rfl (show List.Perm [0, 1, 2] (List.range 3) from by decide) rfl (va_runV (As := [.int y4, .int y2]) (rest := []) ⟨hx, hb, hml, hown, hts⟩ (c_X6_heightAt l dC dI cI cC cO qM bM gM aB gB aR gR y4 y2 R13 e_13 H.size) (cwV 2 hts gX6_alone_X6_heightAt rfl rfl rfl (by decide +kernel) ⟨Nat.le_of_ble_eq_true rfl, Nat.le_of_ble_eq_true rfl⟩) ⟨zpM_blind, va_recv hK hP (ci := 6) (q0 := 0) rfl rfl, z_useM hK hN hP hD [0, 1, 2] [] rfl (show List.Perm [0, 1, 2] (List.range 3) from by decide)⟩ rfl rfl hl.1 rfl (lv_room (Nat.le_of_ble_eq_true rfl)) dX6_alone_87 ⟨Nat.le_of_ble_eq_true rfl, Nat.le_of_ble_eq_true rfl⟩) (fun H locs hP hD hS => ?_)
            refine W.eq (g2 := F0 m 90 ls [.int R13.1]) rfl ?_
            refine lv_iload_n hx hb dX6_alone_90 rfl (lv_at hl 3 rfl) ?_
            refine lv_icmp_ne (tgt := 97) hx hb dX6_alone_91 (by decide) (fun c_14 => ?_) (fun c_14 => ?_)
            · have hf := zif_f hf c_14
              refine lv_iinc (v := (y4 + (1 : Int32))) (lv' := [(4, .int (y4 + (1 : Int32))), (0, .ref qM), (1, .int y1), (2, .int y2), (3, .int y3)]) hx hb dX6_alone_97 hl (k := 4) rfl rfl (by decide) rfl (fun ls hl => ?_)
              refine lv_goto (tgt := 58) hx hb dX6_alone_100 (by decide) ?_
              exact ih58 y1 y2 y3 (y4 + (1 : Int32)) R13.2 H locs ls hf hP hD hS (lv_sub hl [1, 2, 3, 4, 0] rfl)
            · have hf := zif_t hf c_14
              refine lv_ldc (v := (-1000000002 : Int32)) hx hb hown (hts _ k_X6_alone_3) dX6_alone_94 ?_
              exact zM_ret (gs := [(wX6 qM bM gM), (wX0 cI (bM 0) aB gB), (wX4 cI (bM 2) aR R13.2)]) hx hb hr rfl hP hD hS (by rw [← Option.some.inj hf]; exact ⟨rfl, rfl⟩) hlk dX6_alone_96
  unfold f_X6_alone at hf
  obtain ⟨H, hH⟩ : ∃ H, H = s.heap := ⟨_, rfl⟩
  obtain ⟨locs, hlocs⟩ : ∃ locs : List Loc, locs = [] := ⟨_, rfl⟩
  have hS : va_S A s.heap H locs := by rw [hH, hlocs]; exact hS
  rw [← hH] at hP
  refine zheap hH hlocs ?_
  refine lv_aload_n hx hb dX6_alone_0 rfl (lv_at hl 0 rfl) ?_
  refine va_get (D := (dC, dI)) (ci := 6) (v := .ref (bM 0)) (C := RX6) (T := TX6) (N := 11) hx hb hts u_X6_alone_X6 hown hK hP 0 rfl rfl 0 (by decide) (hts _ k_X6_alone_1) (fun _ h9 => h9) rfl dX6_alone_1 ?_
  refine lv_iload_n hx hb dX6_alone_4 rfl (lv_at hl 1 rfl) ?_
  obtain ⟨R1, e_1, hf⟩ := zbind_ex hf
  refine z_callRi (va_runV (As := [.int x1]) (rest := []) ⟨hx, hb, hml, hown, hts⟩ (c_X0_hasLine l dC dI cI cC cO (bM 0) aB gB x1 R1 e_1) (cwV 1 hts gX6_alone_X0_hasLine rfl rfl rfl (by decide +kernel) ⟨Nat.le_of_ble_eq_true rfl, Nat.le_of_ble_eq_true rfl⟩) ⟨zpR_blind, va_recv hK hP (ci := 0) (q0 := 1) rfl rfl, z_useR hK hN hP [1] rfl⟩ rfl rfl hl.1 rfl (lv_room (Nat.le_of_ble_eq_true rfl)) dX6_alone_5 ⟨Nat.le_of_ble_eq_true rfl, Nat.le_of_ble_eq_true rfl⟩) ?_
  refine lv_if_eq (tgt := 22) hx hb dX6_alone_8 (by decide) (fun c_2 => ?_) (fun c_2 => ?_)
  · have hf := zif_t hf c_2
    refine lv_ldc (v := (-1000000001 : Int32)) hx hb hown (hts _ k_X6_alone_2) dX6_alone_22 ?_
    exact zM_ret (gs := [(wX6 qM bM gM), (wX0 cI (bM 0) aB gB), (wX4 cI (bM 2) aR gR)]) hx hb hr rfl hP hD hS (by rw [← Option.some.inj hf]; exact ⟨rfl, rfl⟩) hlk dX6_alone_24
  · have hf := zif_f hf c_2
    refine lv_iload_n hx hb dX6_alone_11 rfl (lv_at hl 2 rfl) ?_
    refine lv_iconst (v := (1 : Int32)) hx hb dX6_alone_12 (by decide) ?_
    refine lv_sipush (v := (999 : Int32)) hx hb dX6_alone_13 (by decide) ?_
    obtain ⟨R3, e_3, hf⟩ := zbind_ex hf
    refine z_callRi (va_runS (As := [.int x2, .int (1 : Int32), .int (999 : Int32)]) (rest := []) ⟨hx, hb, hml, hown, hts⟩ (c_X6_within l dC dI cI cC cO  x2 (1 : Int32) (999 : Int32) R3 e_3) (va_cwS 3 hts gX6_alone_X6_within rfl rfl rfl (by decide +kernel) ⟨Nat.le_of_ble_eq_true rfl, Nat.le_of_ble_eq_true rfl⟩) ⟨zpR_blind, z_useR hK hN hP [] rfl⟩ rfl rfl hl.1 rfl (lv_room (Nat.le_of_ble_eq_true rfl)) dX6_alone_16 ⟨Nat.le_of_ble_eq_true rfl, Nat.le_of_ble_eq_true rfl⟩) ?_
    refine lv_if_ne (tgt := 25) hx hb dX6_alone_19 (by decide) (fun c_4 => ?_) (fun c_4 => ?_)
    · have hf := zif_f hf c_4
      refine lv_aload_n hx hb dX6_alone_25 rfl (lv_at hl 0 rfl) ?_
      refine va_get (D := (dC, dI)) (ci := 6) (v := .ref (bM 0)) (C := RX6) (T := TX6) (N := 11) hx hb hts u_X6_alone_X6 hown hK hP 0 rfl rfl 0 (by decide) (hts _ k_X6_alone_1) (fun _ h9 => h9) rfl dX6_alone_26 ?_
      refine lv_iload_n hx hb dX6_alone_29 rfl (lv_at hl 2 rfl) ?_
      obtain ⟨R5, e_5, hf⟩ := zbind_ex hf
      refine z_callRi (va_runV (As := [.int x2]) (rest := []) ⟨hx, hb, hml, hown, hts⟩ (c_X0_indexOf l dC dI cI cC cO (bM 0) aB gB x2 R5 e_5) (cwV 1 hts gX6_alone_X0_indexOf rfl rfl rfl (by decide +kernel) ⟨Nat.le_of_ble_eq_true rfl, Nat.le_of_ble_eq_true rfl⟩) ⟨zpR_blind, va_recv hK hP (ci := 0) (q0 := 1) rfl rfl, z_useR hK hN hP [1] rfl⟩ rfl rfl hl.1 rfl (lv_room (Nat.le_of_ble_eq_true rfl)) dX6_alone_30 ⟨Nat.le_of_ble_eq_true rfl, Nat.le_of_ble_eq_true rfl⟩) ?_
      refine lv_if_lt (tgt := 39) hx hb dX6_alone_33 (by decide) (fun c_6 => ?_) (fun c_6 => ?_)
      · have hf := zif_t hf c_6
        refine lv_aload_n hx hb dX6_alone_39 rfl (lv_at hl 0 rfl) ?_
        refine lv_iload_n hx hb dX6_alone_40 rfl (lv_at hl 1 rfl) ?_
        refine lv_iload_n hx hb dX6_alone_41 rfl (lv_at hl 2 rfl) ?_
        obtain ⟨R7, e_7, hf⟩ := zbind_ex hf
        refine z_callM (gs2 := [(wX6 qM bM gM), (wX0 cI (bM 0) aB gB), (wX4 cI (bM 2) aR R7.2)]) hP hD hS hA [0, 1, 2] [] rfl rfl rfl (show List.Perm [0, 1, 2] (List.range 3) from by decide) rfl (va_runV (As := [.int x1, .int x2]) (rest := []) ⟨hx, hb, hml, hown, hts⟩ (c_X6_heightAt l dC dI cI cC cO qM bM gM aB gB aR gR x1 x2 R7 e_7 H.size) (cwV 2 hts gX6_alone_X6_heightAt rfl rfl rfl (by decide +kernel) ⟨Nat.le_of_ble_eq_true rfl, Nat.le_of_ble_eq_true rfl⟩) ⟨zpM_blind, va_recv hK hP (ci := 6) (q0 := 0) rfl rfl, z_useM hK hN hP hD [0, 1, 2] [] rfl (show List.Perm [0, 1, 2] (List.range 3) from by decide)⟩ rfl rfl hl.1 rfl (lv_room (Nat.le_of_ble_eq_true rfl)) dX6_alone_42 ⟨Nat.le_of_ble_eq_true rfl, Nat.le_of_ble_eq_true rfl⟩) (fun H locs hP hD hS => ?_)
        refine W.eq (g2 := F0 m 45 ls [.int R7.1]) rfl ?_
        refine lv_istore_n (lv' := [(3, .int R7.1), (0, .ref qM), (1, .int x1), (2, .int x2)]) hx hb dX6_alone_45 rfl hl (by decide) rfl (fun ls hl => ?_)
        refine lv_iload_n hx hb dX6_alone_46 rfl (lv_at hl 0 rfl) ?_
        refine lv_ldc (v := (-1000000004 : Int32)) hx hb hown (hts _ k_X6_alone_4) dX6_alone_47 ?_
        refine lv_icmp_ne (tgt := 55) hx hb dX6_alone_49 (by decide) (fun c_8 => ?_) (fun c_8 => ?_)
        · have hf := zif_f hf c_8
          refine lv_iconst (v := (0 : Int32)) hx hb dX6_alone_55 (by decide) ?_
          refine lv_istore (lv' := [(4, .int (0 : Int32)), (3, .int R7.1), (0, .ref qM), (1, .int x1), (2, .int x2)]) hx hb dX6_alone_56 hl (by decide) rfl (fun ls hl => ?_)
          exact w58 zfuel x1 x2 R7.1 (0 : Int32) R7.2 H locs ls hf hP hD hS (lv_sub hl [2, 3, 4, 1, 0] rfl)
        · have hf := zif_t hf c_8
          refine lv_ldc (v := (-1000000004 : Int32)) hx hb hown (hts _ k_X6_alone_4) dX6_alone_52 ?_
          exact zM_ret (gs := [(wX6 qM bM gM), (wX0 cI (bM 0) aB gB), (wX4 cI (bM 2) aR R7.2)]) hx hb hr rfl hP hD hS (by rw [← Option.some.inj hf]; exact ⟨rfl, rfl⟩) hlk dX6_alone_54
      · have hf := zif_f hf c_6
        refine lv_ldc (v := (-1000000002 : Int32)) hx hb hown (hts _ k_X6_alone_3) dX6_alone_36 ?_
        exact zM_ret (gs := [(wX6 qM bM gM), (wX0 cI (bM 0) aB gB), (wX4 cI (bM 2) aR gR)]) hx hb hr rfl hP hD hS (by rw [← Option.some.inj hf]; exact ⟨rfl, rfl⟩) hlk dX6_alone_38
    · have hf := zif_t hf c_4
      refine lv_ldc (v := (-1000000001 : Int32)) hx hb hown (hts _ k_X6_alone_2) dX6_alone_22 ?_
      exact zM_ret (gs := [(wX6 qM bM gM), (wX0 cI (bM 0) aB gB), (wX4 cI (bM 2) aR gR)]) hx hb hr rfl hP hD hS (by rw [← Option.some.inj hf]; exact ⟨rfl, rfl⟩) hlk dX6_alone_24

def f_X6_tuned_55_b (gM : zG) (gB : zG)  (k55 : Int32 → Int32 → zG → zG → zG → Option (Int32 × zG × zG × zG)) (y2 : Int32) (y3 : Int32) (gT : zG) (gR : zG) (gH : zG) : Option (Int32 × zG × zG × zG) := (if (99 : Int32) < y3 then (some ((gH 0 0), gT, gR, gH)) else (zin y2 8 (zlet (gup gT 6 y2.toNatClampNeg y3) (fun gT_9 => (zbind (f_X6_offerTrial gM gT_9 gR gH y3) (fun R10 => (k55 y2 (y3 + (1 : Int32)) gT_9 R10.1 R10.2)))))))
def f_X6_tuned_55 (gM : zG) (gB : zG)  : Nat → Int32 → Int32 → zG → zG → zG → Option (Int32 × zG × zG × zG)
  | 0 => fun _ _ _ _ _ => none
  | n + 1 => f_X6_tuned_55_b gM gB  (f_X6_tuned_55 gM gB  n)
def f_X6_tuned (gM : zG) (gB : zG) (gT : zG) (gR : zG) (gH : zG) (x1 : Int32) : Option (Int32 × zG × zG × zG) := (zbind (f_X0_indexOf gB x1) (fun R1 => (zbind (f_X0_hasThing gB R1) (fun R2 => (if R2 = 0 then (some ((-1000000001 : Int32), gT, gR, gH)) else (zin R1 8 (if (gB 4 R1.toNatClampNeg) = 0 then (zbind (f_X2_clear gH) (fun R6 => (zbind (f_X0_copyFrom gT gB) (fun R7 => (f_X6_tuned_55 gM gB  zfuel R1 (1 : Int32) R7 gR R6))))) else (some ((-1000000001 : Int32), gT, gR, gH)))))))))
theorem u_X6_tuned_X6 : ∀ w ∈ u_ws RX6 TX6 11, w ∈ wsX6_tuned := fun w h => List.mem_cons_of_mem _ (List.mem_append_left _ (List.mem_append_left _ (List.mem_append_left _ (List.mem_append_right _ h))))
theorem u_X6_tuned_X0 : ∀ w ∈ u_ws RX0 TX0 10, w ∈ wsX6_tuned := fun w h => List.mem_cons_of_mem _ (List.mem_append_left _ (List.mem_append_left _ (List.mem_append_right _ h)))
theorem u_X6_tuned_X2 : ∀ w ∈ u_ws RX2 TX2 3, w ∈ wsX6_tuned := fun w h => List.mem_cons_of_mem _ (List.mem_append_left _ (List.mem_append_right _ h))
theorem k_X6_tuned_1 : Cond.fieldLink RX6 10 "JoinedLight" "bench" "LJoinedLight$Bench;" ∈ wsX6_tuned := List.mem_of_getElem? (i := 1) rfl
theorem k_X6_tuned_3 : Cond.constant RX6 94 (-1000000001) ∈ wsX6_tuned := List.mem_of_getElem? (i := 3) rfl
theorem k_X6_tuned_2 : Cond.fieldLink RX6 134 "JoinedLight$Bench" "kinds" "[I" ∈ wsX6_tuned := List.mem_of_getElem? (i := 2) rfl
theorem k_X6_tuned_4 : Cond.fieldLink RX6 36 "JoinedLight" "choice" "LJoinedLight$Choice;" ∈ wsX6_tuned := List.mem_of_getElem? (i := 4) rfl
theorem k_X6_tuned_5 : Cond.fieldLink RX6 16 "JoinedLight" "trial" "LJoinedLight$Bench;" ∈ wsX6_tuned := List.mem_of_getElem? (i := 5) rfl
theorem k_X6_tuned_7 : Cond.fieldLink RX6 189 "JoinedLight$Choice" "value" "I" ∈ wsX6_tuned := List.mem_of_getElem? (i := 7) rfl
theorem k_X6_tuned_6 : Cond.fieldLink RX6 140 "JoinedLight$Bench" "seconds" "[I" ∈ wsX6_tuned := List.mem_of_getElem? (i := 6) rfl
abbrev rm_X6_tuned : Room := { frames := 6, cells := 0, slots := 0, locals := 139 }
set_option maxHeartbeats 4000000 in
set_option maxRecDepth 100000 in
theorem c_X6_tuned (l : Launch) (dC : Nat → ClassId) (dI : Nat → Nat → Nat) (cI cC cO : ClassId) (qM : Nat) (bM : Nat → Nat) (gM : zG) (aB : Nat → Nat) (gB : zG) (aT : Nat → Nat) (gT : zG) (aR : Nat → Nat) (gR : zG) (gH : zG) (x1 : Int32) (R : Int32 × zG × zG × zG) (hf : f_X6_tuned gM gB gT gR gH x1 = some R) : cM l (dC, dI) (zT cI cC cO) yX6_tuned wsX6_tuned rm_X6_tuned [.ref qM, .int x1] [(wX6 qM bM gM), (wX0 cI (bM 0) aB gB), (wX0 cI (bM 1) aT gT), (wX4 cI (bM 2) aR gR), (wX2 (bM 4) gH)] [(wX6 qM bM gM), (wX0 cI (bM 0) aB gB), (wX0 cI (bM 1) aT R.2.1), (wX4 cI (bM 2) aR R.2.2.1), (wX2 (bM 4) R.2.2.2)] (some (.int R.1)) 0 0 := by
  refine zM_in (cc := cX6_tuned) (maxL := 4) (ret := (some .int)) (plainFor_of_name (by decide)) rfl (Nat.le_of_ble_eq_true rfl) ?_
  intro p e s m below meth c hx hb hml hr hlk hown hts hK hN A hA hP hD hS ls hl
  have hl : lv_has ls 4 [(0, .ref qM), (1, .int x1)] := hl
  have w55 : ∀ (n55 : Nat) (y2 : Int32) (y3 : Int32) (gT : zG) (gR : zG) (gH : zG) (H : Heap) (locs : List Loc) (ls : Array Slot), f_X6_tuned_55 gM gB  n55 y2 y3 gT gR gH = some R → va_P (dC, dI) vwCl [(wX6 qM bM gM), (wX0 cI (bM 0) aB gB), (wX0 cI (bM 1) aT gT), (wX4 cI (bM 2) aR gR), (wX2 (bM 4) gH)].flatten H → va_D A [(wX6 qM bM gM), (wX0 cI (bM 0) aB gB), (wX0 cI (bM 1) aT gT), (wX4 cI (bM 2) aR gR), (wX2 (bM 4) gH)].flatten → va_S A s.heap H locs → lv_has ls 4 [(0, .ref qM), (2, .int y2), (3, .int y3)] → W p l e (headSpec wsX6_tuned rm_X6_tuned).room s m [.ref qM, .int x1].toArray below meth c H locs 0 0 (MQ below (zqM (dC, dI) (some (.int R.1)) [(wX6 qM bM gM), (wX0 cI (bM 0) aB gB), (wX0 cI (bM 1) aT R.2.1), (wX4 cI (bM 2) aR R.2.2.1), (wX2 (bM 4) R.2.2.2)] A) [.ref qM, .int x1].toArray s 0 0 A) (F0 m 55 ls []) := by
    intro n55
    induction n55 with
    | zero =>
      intro y2 y3 gT gR gH H locs ls hf hP hD hS hl
      have hf : (none : Option (Int32 × zG × zG × zG)) = some R := hf
      cases hf
    | succ n55 ih55 =>
      intro y2 y3 gT gR gH H locs ls hf hP hD hS hl
      have hf : f_X6_tuned_55_b gM gB  (f_X6_tuned_55 gM gB  n55) y2 y3 gT gR gH = some R := hf
      unfold f_X6_tuned_55_b at hf
      refine lv_iload_n hx hb dX6_tuned_55 rfl (lv_at hl 2 rfl) ?_
      refine lv_bipush (v := (99 : Int32)) hx hb dX6_tuned_56 (by decide) ?_
      refine lv_icmp_gt (tgt := 82) hx hb dX6_tuned_58 (by decide) (fun c_8 => ?_) (fun c_8 => ?_)
      · have hf := zif_t hf c_8
        refine lv_aload_n hx hb dX6_tuned_82 rfl (lv_at hl 0 rfl) ?_
        refine va_get (D := (dC, dI)) (ci := 6) (v := .ref (bM 4)) (C := RX6) (T := TX6) (N := 11) hx hb hts u_X6_tuned_X6 hown hK hP 0 rfl rfl 4 (by decide) (hts _ k_X6_tuned_4) (fun _ h9 => h9) rfl dX6_tuned_83 ?_
        refine va_get (D := (dC, dI)) (ci := 2) (v := .int (gH 0 0)) (C := RX2) (T := TX2) (N := 3) hx hb hts u_X6_tuned_X2 hown hK hP 22 rfl rfl 0 (by decide) (hts _ k_X6_tuned_7) (fun _ h9 => h9) rfl dX6_tuned_86 ?_
        exact zM_ret (gs := [(wX6 qM bM gM), (wX0 cI (bM 0) aB gB), (wX0 cI (bM 1) aT gT), (wX4 cI (bM 2) aR gR), (wX2 (bM 4) gH)]) hx hb hr rfl hP hD hS (by rw [← Option.some.inj hf]; exact ⟨rfl, rfl⟩) hlk dX6_tuned_89
      · have hf := zif_f hf c_8
        refine lv_aload_n hx hb dX6_tuned_61 rfl (lv_at hl 0 rfl) ?_
        refine va_get (D := (dC, dI)) (ci := 6) (v := .ref (bM 1)) (C := RX6) (T := TX6) (N := 11) hx hb hts u_X6_tuned_X6 hown hK hP 0 rfl rfl 1 (by decide) (hts _ k_X6_tuned_5) (fun _ h9 => h9) rfl dX6_tuned_62 ?_
        refine va_get (D := (dC, dI)) (ci := 0) (v := .ref (aT 6)) (C := RX0) (T := TX0) (N := 10) hx hb hts u_X6_tuned_X0 hown hK hP 9 rfl rfl 6 (by decide) (hts _ k_X6_tuned_6) (fun _ h9 => h9) rfl dX6_tuned_65 ?_
        refine lv_iload_n hx hb dX6_tuned_68 rfl (lv_at hl 1 rfl) ?_
        refine lv_iload_n hx hb dX6_tuned_69 rfl (lv_at hl 2 rfl) ?_
        obtain ⟨h_9, hf⟩ := zin_ex hf
        obtain ⟨gT_9, e_9, hf⟩ := zlet_ex hf
        refine z_iast (gs' := [(wX6 qM bM gM), (wX0 cI (bM 0) aB gB), (wX0 cI (bM 1) aT gT_9), (wX4 cI (bM 2) aR gR), (wX2 (bM 4) gH)]) hx hb hK hP hD hS 15 0 rfl rfl h_9 (by rw [e_9]; rfl) dX6_tuned_70 (fun H locs hP hD hS => ?_)
        refine lv_aload_n hx hb dX6_tuned_71 rfl (lv_at hl 0 rfl) ?_
        refine lv_iload_n hx hb dX6_tuned_72 rfl (lv_at hl 2 rfl) ?_
        obtain ⟨R10, e_10, hf⟩ := zbind_ex hf
        refine z_callM (gs2 := [(wX6 qM bM gM), (wX0 cI (bM 0) aB gB), (wX0 cI (bM 1) aT gT_9), (wX4 cI (bM 2) aR R10.1), (wX2 (bM 4) R10.2)]) hP hD hS hA [0, 2, 3, 4] [1] rfl rfl rfl (show List.Perm [0, 2, 3, 4, 1] (List.range 5) from by decide) rfl (va_runV (As := [.int y3]) (rest := []) ⟨hx, hb, hml, hown, hts⟩ (c_X6_offerTrial l dC dI cI cC cO qM bM gM aT gT_9 aR gR gH y3 R10 e_10 H.size) (cwV 1 hts gX6_tuned_X6_offerTrial rfl rfl rfl (by decide +kernel) ⟨Nat.le_of_ble_eq_true rfl, Nat.le_of_ble_eq_true rfl⟩) ⟨zpM_blind, va_recv hK hP (ci := 6) (q0 := 0) rfl rfl, z_useM hK hN hP hD [0, 2, 3, 4] [1] rfl (show List.Perm [0, 2, 3, 4, 1] (List.range 5) from by decide)⟩ rfl rfl hl.1 rfl (lv_room (Nat.le_of_ble_eq_true rfl)) dX6_tuned_73 ⟨Nat.le_of_ble_eq_true rfl, Nat.le_of_ble_eq_true rfl⟩) (fun H locs hP hD hS => ?_)
        refine W.eq (g2 := F0 m 76 ls []) rfl ?_
        refine lv_iinc (v := (y3 + (1 : Int32))) (lv' := [(3, .int (y3 + (1 : Int32))), (0, .ref qM), (2, .int y2)]) hx hb dX6_tuned_76 hl (k := 2) rfl rfl (by decide) rfl (fun ls hl => ?_)
        refine lv_goto (tgt := 55) hx hb dX6_tuned_79 (by decide) ?_
        exact ih55 y2 (y3 + (1 : Int32)) gT_9 R10.1 R10.2 H locs ls hf hP hD hS (lv_sub hl [1, 2, 0] rfl)
  unfold f_X6_tuned at hf
  obtain ⟨H, hH⟩ : ∃ H, H = s.heap := ⟨_, rfl⟩
  obtain ⟨locs, hlocs⟩ : ∃ locs : List Loc, locs = [] := ⟨_, rfl⟩
  have hS : va_S A s.heap H locs := by rw [hH, hlocs]; exact hS
  rw [← hH] at hP
  refine zheap hH hlocs ?_
  refine lv_aload_n hx hb dX6_tuned_0 rfl (lv_at hl 0 rfl) ?_
  refine va_get (D := (dC, dI)) (ci := 6) (v := .ref (bM 0)) (C := RX6) (T := TX6) (N := 11) hx hb hts u_X6_tuned_X6 hown hK hP 0 rfl rfl 0 (by decide) (hts _ k_X6_tuned_1) (fun _ h9 => h9) rfl dX6_tuned_1 ?_
  refine lv_iload_n hx hb dX6_tuned_4 rfl (lv_at hl 1 rfl) ?_
  obtain ⟨R1, e_1, hf⟩ := zbind_ex hf
  refine z_callRi (va_runV (As := [.int x1]) (rest := []) ⟨hx, hb, hml, hown, hts⟩ (c_X0_indexOf l dC dI cI cC cO (bM 0) aB gB x1 R1 e_1) (cwV 1 hts gX6_tuned_X0_indexOf rfl rfl rfl (by decide +kernel) ⟨Nat.le_of_ble_eq_true rfl, Nat.le_of_ble_eq_true rfl⟩) ⟨zpR_blind, va_recv hK hP (ci := 0) (q0 := 1) rfl rfl, z_useR hK hN hP [1] rfl⟩ rfl rfl hl.1 rfl (lv_room (Nat.le_of_ble_eq_true rfl)) dX6_tuned_5 ⟨Nat.le_of_ble_eq_true rfl, Nat.le_of_ble_eq_true rfl⟩) ?_
  refine lv_istore_n (lv' := [(2, .int R1), (0, .ref qM), (1, .int x1)]) hx hb dX6_tuned_8 rfl hl (by decide) rfl (fun ls hl => ?_)
  refine lv_aload_n hx hb dX6_tuned_9 rfl (lv_at hl 1 rfl) ?_
  refine va_get (D := (dC, dI)) (ci := 6) (v := .ref (bM 0)) (C := RX6) (T := TX6) (N := 11) hx hb hts u_X6_tuned_X6 hown hK hP 0 rfl rfl 0 (by decide) (hts _ k_X6_tuned_1) (fun _ h9 => h9) rfl dX6_tuned_10 ?_
  refine lv_iload_n hx hb dX6_tuned_13 rfl (lv_at hl 0 rfl) ?_
  obtain ⟨R2, e_2, hf⟩ := zbind_ex hf
  refine z_callRi (va_runV (As := [.int R1]) (rest := []) ⟨hx, hb, hml, hown, hts⟩ (c_X0_hasThing l dC dI cI cC cO (bM 0) aB gB R1 R2 e_2) (cwV 1 hts gX6_tuned_X0_hasThing rfl rfl rfl (by decide +kernel) ⟨Nat.le_of_ble_eq_true rfl, Nat.le_of_ble_eq_true rfl⟩) ⟨zpR_blind, va_recv hK hP (ci := 0) (q0 := 1) rfl rfl, z_useR hK hN hP [1] rfl⟩ rfl rfl hl.1 rfl (lv_room (Nat.le_of_ble_eq_true rfl)) dX6_tuned_14 ⟨Nat.le_of_ble_eq_true rfl, Nat.le_of_ble_eq_true rfl⟩) ?_
  refine lv_if_eq (tgt := 32) hx hb dX6_tuned_17 (by decide) (fun c_3 => ?_) (fun c_3 => ?_)
  · have hf := zif_t hf c_3
    refine lv_ldc (v := (-1000000001 : Int32)) hx hb hown (hts _ k_X6_tuned_3) dX6_tuned_32 ?_
    exact zM_ret (gs := [(wX6 qM bM gM), (wX0 cI (bM 0) aB gB), (wX0 cI (bM 1) aT gT), (wX4 cI (bM 2) aR gR), (wX2 (bM 4) gH)]) hx hb hr rfl hP hD hS (by rw [← Option.some.inj hf]; exact ⟨rfl, rfl⟩) hlk dX6_tuned_34
  · have hf := zif_f hf c_3
    refine lv_aload_n hx hb dX6_tuned_20 rfl (lv_at hl 1 rfl) ?_
    refine va_get (D := (dC, dI)) (ci := 6) (v := .ref (bM 0)) (C := RX6) (T := TX6) (N := 11) hx hb hts u_X6_tuned_X6 hown hK hP 0 rfl rfl 0 (by decide) (hts _ k_X6_tuned_1) (fun _ h9 => h9) rfl dX6_tuned_21 ?_
    refine va_get (D := (dC, dI)) (ci := 0) (v := .ref (aB 4)) (C := RX0) (T := TX0) (N := 10) hx hb hts u_X6_tuned_X0 hown hK hP 1 rfl rfl 4 (by decide) (hts _ k_X6_tuned_2) (fun _ h9 => h9) rfl dX6_tuned_24 ?_
    refine lv_iload_n hx hb dX6_tuned_27 rfl (lv_at hl 0 rfl) ?_
    obtain ⟨h_4, hf⟩ := zin_ex hf
    refine va_iald hx hb hK hP 5 0 rfl rfl h_4 dX6_tuned_28 ?_
    refine lv_if_eq (tgt := 35) hx hb dX6_tuned_29 (by decide) (fun c_5 => ?_) (fun c_5 => ?_)
    · have hf := zif_t hf c_5
      refine lv_aload_n hx hb dX6_tuned_35 rfl (lv_at hl 1 rfl) ?_
      refine va_get (D := (dC, dI)) (ci := 6) (v := .ref (bM 4)) (C := RX6) (T := TX6) (N := 11) hx hb hts u_X6_tuned_X6 hown hK hP 0 rfl rfl 4 (by decide) (hts _ k_X6_tuned_4) (fun _ h9 => h9) rfl dX6_tuned_36 ?_
      obtain ⟨R6, e_6, hf⟩ := zbind_ex hf
      refine z_callM (gs2 := [(wX6 qM bM gM), (wX0 cI (bM 0) aB gB), (wX0 cI (bM 1) aT gT), (wX4 cI (bM 2) aR gR), (wX2 (bM 4) R6)]) hP hD hS hA [4] [0, 1, 2, 3] rfl rfl rfl (show List.Perm [4, 0, 1, 2, 3] (List.range 5) from by decide) rfl (va_runV (As := []) (rest := []) ⟨hx, hb, hml, hown, hts⟩ (c_X2_clear l dC dI cI cC cO (bM 4) gH  R6 e_6 H.size) (cwV 0 hts gX6_tuned_X2_clear rfl rfl rfl (by decide +kernel) ⟨Nat.le_of_ble_eq_true rfl, Nat.le_of_ble_eq_true rfl⟩) ⟨zpM_blind, va_recv hK hP (ci := 2) (q0 := 22) rfl rfl, z_useM hK hN hP hD [4] [0, 1, 2, 3] rfl (show List.Perm [4, 0, 1, 2, 3] (List.range 5) from by decide)⟩ rfl rfl hl.1 rfl (lv_room (Nat.le_of_ble_eq_true rfl)) dX6_tuned_39 ⟨Nat.le_of_ble_eq_true rfl, Nat.le_of_ble_eq_true rfl⟩) (fun H locs hP hD hS => ?_)
      refine W.eq (g2 := F0 m 42 ls []) rfl ?_
      refine lv_aload_n hx hb dX6_tuned_42 rfl (lv_at hl 1 rfl) ?_
      refine va_get (D := (dC, dI)) (ci := 6) (v := .ref (bM 1)) (C := RX6) (T := TX6) (N := 11) hx hb hts u_X6_tuned_X6 hown hK hP 0 rfl rfl 1 (by decide) (hts _ k_X6_tuned_5) (fun _ h9 => h9) rfl dX6_tuned_43 ?_
      refine lv_aload_n hx hb dX6_tuned_46 rfl (lv_at hl 1 rfl) ?_
      refine va_get (D := (dC, dI)) (ci := 6) (v := .ref (bM 0)) (C := RX6) (T := TX6) (N := 11) hx hb hts u_X6_tuned_X6 hown hK hP 0 rfl rfl 0 (by decide) (hts _ k_X6_tuned_1) (fun _ h9 => h9) rfl dX6_tuned_47 ?_
      obtain ⟨R7, e_7, hf⟩ := zbind_ex hf
      refine z_callM (gs2 := [(wX6 qM bM gM), (wX0 cI (bM 0) aB gB), (wX0 cI (bM 1) aT R7), (wX4 cI (bM 2) aR gR), (wX2 (bM 4) R6)]) hP hD hS hA [2, 1] [0, 3, 4] rfl rfl rfl (show List.Perm [2, 1, 0, 3, 4] (List.range 5) from by decide) rfl (va_runV (As := [.ref (bM 0)]) (rest := []) ⟨hx, hb, hml, hown, hts⟩ (c_X0_copyFrom l dC dI cI cC cO (bM 1) aT gT (bM 0) aB gB  R7 e_7 H.size) (cwV 1 hts gX6_tuned_X0_copyFrom rfl rfl rfl (by decide +kernel) ⟨Nat.le_of_ble_eq_true rfl, Nat.le_of_ble_eq_true rfl⟩) ⟨zpM_blind, va_recv hK hP (ci := 0) (q0 := 9) rfl rfl, z_useM hK hN hP hD [2, 1] [0, 3, 4] rfl (show List.Perm [2, 1, 0, 3, 4] (List.range 5) from by decide)⟩ rfl rfl hl.1 rfl (lv_room (Nat.le_of_ble_eq_true rfl)) dX6_tuned_50 ⟨Nat.le_of_ble_eq_true rfl, Nat.le_of_ble_eq_true rfl⟩) (fun H locs hP hD hS => ?_)
      refine W.eq (g2 := F0 m 53 ls []) rfl ?_
      refine lv_iconst (v := (1 : Int32)) hx hb dX6_tuned_53 (by decide) ?_
      refine lv_istore_n (lv' := [(3, .int (1 : Int32)), (2, .int R1), (0, .ref qM), (1, .int x1)]) hx hb dX6_tuned_54 rfl hl (by decide) rfl (fun ls hl => ?_)
      exact w55 zfuel R1 (1 : Int32) R7 gR R6 H locs ls hf hP hD hS (lv_sub hl [2, 1, 0] rfl)
    · have hf := zif_f hf c_5
      refine lv_ldc (v := (-1000000001 : Int32)) hx hb hown (hts _ k_X6_tuned_3) dX6_tuned_32 ?_
      exact zM_ret (gs := [(wX6 qM bM gM), (wX0 cI (bM 0) aB gB), (wX0 cI (bM 1) aT gT), (wX4 cI (bM 2) aR gR), (wX2 (bM 4) gH)]) hx hb hr rfl hP hD hS (by rw [← Option.some.inj hf]; exact ⟨rfl, rfl⟩) hlk dX6_tuned_34

def f_X6_bitsOf_34   (y1 : UInt32) (y2 : Int32) : Option (Int32) := (zfl (FP.fsub y1 FP.fconst1) (zfl (FP.fmul (FP.fsub y1 FP.fconst1) (1258291200 : UInt32)) (some (((y2 <<< ((23 : Int32) &&& 31)) ||| (FP.f2i (FP.fmul (FP.fsub y1 FP.fconst1) (1258291200 : UInt32))))))))
def f_X6_bitsOf_13_b   (k13 : UInt32 → Int32 → Option (Int32)) (y1 : UInt32) (y2 : Int32) : Option (Int32) := (if 0 ≤ (Op.cmpValue (FP.fcmp y1 FP.fconst1) .g) then (f_X6_bitsOf_34    y1 y2) else (if y2 ≤ (1 : Int32) then (f_X6_bitsOf_34    y1 y2) else (zfl (FP.fmul y1 FP.fconst2) (k13 (FP.fmul y1 FP.fconst2) (y2 + (-1 : Int32))))))
def f_X6_bitsOf_13   : Nat → UInt32 → Int32 → Option (Int32)
  | 0 => fun _ _ => none
  | n + 1 => f_X6_bitsOf_13_b   (f_X6_bitsOf_13   n)
def f_X6_bitsOf  (x0 : UInt32) : Option (Int32) := (if 0 < (Op.cmpValue (FP.fcmp x0 FP.fconst0) .l) then (f_X6_bitsOf_13   zfuel x0 (127 : Int32)) else (some ((0 : Int32))))
theorem k_X6_bitsOf_1 : Cond.constantFloat RX6 297 (1258291200) ∈ wsX6_bitsOf := List.mem_of_getElem? (i := 1) rfl
abbrev rm_X6_bitsOf : Room := { frames := 0, cells := 0, slots := 0, locals := 0 }
set_option maxHeartbeats 4000000 in
set_option maxRecDepth 100000 in
theorem c_X6_bitsOf (l : Launch) (dC : Nat → ClassId) (dI : Nat → Nat → Nat) (cI cC cO : ClassId)  (x0 : UInt32) (R : Int32) (hf : f_X6_bitsOf x0 = some R) : cR l (dC, dI) (zT cI cC cO) yX6_bitsOf wsX6_bitsOf rm_X6_bitsOf [.float x0] [] (some (.int R)) := by
  refine zR_in (cc := cX6_bitsOf) (maxL := 3) (ret := (some .int)) (plainFor_of_name (by decide)) rfl (Nat.le_of_ble_eq_true rfl) ?_
  intro p e s m below meth c hx hb hml hr hlk hown hts hK hN hP ls hl
  have hl : lv_has ls 3 [(0, .float x0)] := hl
  have w34 : ∀ (y1 : UInt32) (y2 : Int32) (ls : Array Slot), f_X6_bitsOf_34    y1 y2 = some R → lv_has ls 3 [(1, .float y1), (2, .int y2)] → W p l e (headSpec wsX6_bitsOf rm_X6_bitsOf).room s m [.float x0].toArray below meth c s.heap [] 0 0 (MQ below (zqR (some (.int R))) [.float x0].toArray s 0 0 (fun _ => False)) (F0 m 34 ls []) := by
    intro y1 y2 ls hf hl
    unfold f_X6_bitsOf_34 at hf
    refine lv_iload_n hx hb dX6_bitsOf_34 rfl (lv_at hl 1 rfl) ?_
    refine lv_bipush (v := (23 : Int32)) hx hb dX6_bitsOf_35 (by decide) ?_
    refine lv_ishl hx hb dX6_bitsOf_37 ?_
    refine lv_fload_n hx hb dX6_bitsOf_38 rfl (lv_at hl 0 rfl) ?_
    refine lv_fconst1 hx hb dX6_bitsOf_39 ?_
    obtain ⟨h_5, hf⟩ := zfl_ex hf
    refine lv_fsub hx hb dX6_bitsOf_40 h_5 ?_
    refine z_ldcwf (v := (1258291200 : UInt32)) hx hb hown (hts _ k_X6_bitsOf_1) dX6_bitsOf_41 ?_
    obtain ⟨h_6, hf⟩ := zfl_ex hf
    refine lv_fmul hx hb dX6_bitsOf_44 h_6 ?_
    refine lv_f2i hx hb dX6_bitsOf_45 ?_
    refine lv_ior hx hb dX6_bitsOf_46 ?_
    exact zR_ret hx hb hr rfl hf hlk dX6_bitsOf_47
  have w13 : ∀ (n13 : Nat) (y1 : UInt32) (y2 : Int32) (ls : Array Slot), f_X6_bitsOf_13   n13 y1 y2 = some R → lv_has ls 3 [(1, .float y1), (2, .int y2)] → W p l e (headSpec wsX6_bitsOf rm_X6_bitsOf).room s m [.float x0].toArray below meth c s.heap [] 0 0 (MQ below (zqR (some (.int R))) [.float x0].toArray s 0 0 (fun _ => False)) (F0 m 13 ls []) := by
    intro n13
    induction n13 with
    | zero =>
      intro y1 y2 ls hf hl
      have hf : (none : Option (Int32)) = some R := hf
      cases hf
    | succ n13 ih13 =>
      intro y1 y2 ls hf hl
      have hf : f_X6_bitsOf_13_b   (f_X6_bitsOf_13   n13) y1 y2 = some R := hf
      unfold f_X6_bitsOf_13_b at hf
      refine lv_fload_n hx hb dX6_bitsOf_13 rfl (lv_at hl 0 rfl) ?_
      refine lv_fconst1 hx hb dX6_bitsOf_14 ?_
      refine lv_fcmp hx hb dX6_bitsOf_15 ?_
      refine lv_if_ge (tgt := 34) hx hb dX6_bitsOf_16 (by decide) (fun c_2 => ?_) (fun c_2 => ?_)
      · have hf := zif_t hf c_2
        exact w34  y1 y2 ls hf (lv_sub hl [0, 1] rfl)
      · have hf := zif_f hf c_2
        refine lv_iload_n hx hb dX6_bitsOf_19 rfl (lv_at hl 1 rfl) ?_
        refine lv_iconst (v := (1 : Int32)) hx hb dX6_bitsOf_20 (by decide) ?_
        refine lv_icmp_le (tgt := 34) hx hb dX6_bitsOf_21 (by decide) (fun c_3 => ?_) (fun c_3 => ?_)
        · have hf := zif_t hf c_3
          exact w34  y1 y2 ls hf (lv_sub hl [0, 1] rfl)
        · have hf := zif_f hf c_3
          refine lv_fload_n hx hb dX6_bitsOf_24 rfl (lv_at hl 0 rfl) ?_
          refine lv_fconst2 hx hb dX6_bitsOf_25 ?_
          obtain ⟨h_4, hf⟩ := zfl_ex hf
          refine lv_fmul hx hb dX6_bitsOf_26 h_4 ?_
          refine lv_fstore_n (lv' := [(1, .float (FP.fmul y1 FP.fconst2)), (2, .int y2)]) hx hb dX6_bitsOf_27 rfl hl (by decide) rfl (fun ls hl => ?_)
          refine lv_iinc (v := (y2 + (-1 : Int32))) (lv' := [(2, .int (y2 + (-1 : Int32))), (1, .float (FP.fmul y1 FP.fconst2))]) hx hb dX6_bitsOf_28 hl (k := 1) rfl rfl (by decide) rfl (fun ls hl => ?_)
          refine lv_goto (tgt := 13) hx hb dX6_bitsOf_31 (by decide) ?_
          exact ih13 (FP.fmul y1 FP.fconst2) (y2 + (-1 : Int32)) ls hf (lv_sub hl [1, 0] rfl)
  unfold f_X6_bitsOf at hf
  refine lv_fload_n hx hb dX6_bitsOf_0 rfl (lv_at hl 0 rfl) ?_
  refine lv_fconst0 hx hb dX6_bitsOf_1 ?_
  refine lv_fcmp hx hb dX6_bitsOf_2 ?_
  refine lv_if_gt (tgt := 8) hx hb dX6_bitsOf_3 (by decide) (fun c_1 => ?_) (fun c_1 => ?_)
  · have hf := zif_t hf c_1
    refine lv_fload_n hx hb dX6_bitsOf_8 rfl (lv_at hl 0 rfl) ?_
    refine lv_fstore_n (lv' := [(1, .float x0), (0, .float x0)]) hx hb dX6_bitsOf_9 rfl hl (by decide) rfl (fun ls hl => ?_)
    refine lv_bipush (v := (127 : Int32)) hx hb dX6_bitsOf_10 (by decide) ?_
    refine lv_istore_n (lv' := [(2, .int (127 : Int32)), (1, .float x0), (0, .float x0)]) hx hb dX6_bitsOf_12 rfl hl (by decide) rfl (fun ls hl => ?_)
    exact w13 zfuel x0 (127 : Int32) ls hf (lv_sub hl [1, 0] rfl)
  · have hf := zif_f hf c_1
    refine lv_iconst (v := (0 : Int32)) hx hb dX6_bitsOf_6 (by decide) ?_
    exact zR_ret hx hb hr rfl hf hlk dX6_bitsOf_7

def f_X6_share (gM : zG) (gB : zG) (gR : zG)  : Option (Int32 × zG) := (zbind (f_X0_lightOfAll gB) (fun R1 => (if 0 < R1 then (zbind (f_X4_follow gR gB) (fun R3 => (zbind (f_X4_lightOnScreen R3 gB) (fun R4 => (zfl (FP.fdiv (FP.i2f R4) (FP.i2f R1)) (zbind (f_X6_bitsOf (FP.fdiv (FP.i2f R4) (FP.i2f R1))) (fun R6 => (some (R6, R3))))))))) else (some ((-1000000004 : Int32), gR)))))
theorem u_X6_share_X6 : ∀ w ∈ u_ws RX6 TX6 11, w ∈ wsX6_share := fun w h => List.mem_cons_of_mem _ (List.mem_append_left _ (List.mem_append_left _ (List.mem_append_right _ h)))
theorem k_X6_share_1 : Cond.fieldLink RX6 10 "JoinedLight" "bench" "LJoinedLight$Bench;" ∈ wsX6_share := List.mem_of_getElem? (i := 1) rfl
theorem k_X6_share_3 : Cond.fieldLink RX6 22 "JoinedLight" "rays" "LJoinedLight$Rays;" ∈ wsX6_share := List.mem_of_getElem? (i := 3) rfl
theorem k_X6_share_2 : Cond.constant RX6 115 (-1000000004) ∈ wsX6_share := List.mem_of_getElem? (i := 2) rfl
abbrev rm_X6_share : Room := { frames := 5, cells := 0, slots := 0, locals := 118 }
set_option maxHeartbeats 4000000 in
set_option maxRecDepth 100000 in
theorem c_X6_share (l : Launch) (dC : Nat → ClassId) (dI : Nat → Nat → Nat) (cI cC cO : ClassId) (qM : Nat) (bM : Nat → Nat) (gM : zG) (aB : Nat → Nat) (gB : zG) (aR : Nat → Nat) (gR : zG)  (R : Int32 × zG) (hf : f_X6_share gM gB gR = some R) : cM l (dC, dI) (zT cI cC cO) yX6_share wsX6_share rm_X6_share [.ref qM] [(wX6 qM bM gM), (wX0 cI (bM 0) aB gB), (wX4 cI (bM 2) aR gR)] [(wX6 qM bM gM), (wX0 cI (bM 0) aB gB), (wX4 cI (bM 2) aR R.2)] (some (.int R.1)) 0 0 := by
  refine zM_in (cc := cX6_share) (maxL := 2) (ret := (some .int)) (plainFor_of_name (by decide)) rfl (Nat.le_of_ble_eq_true rfl) ?_
  intro p e s m below meth c hx hb hml hr hlk hown hts hK hN A hA hP hD hS ls hl
  have hl : lv_has ls 2 [(0, .ref qM)] := hl
  unfold f_X6_share at hf
  obtain ⟨H, hH⟩ : ∃ H, H = s.heap := ⟨_, rfl⟩
  obtain ⟨locs, hlocs⟩ : ∃ locs : List Loc, locs = [] := ⟨_, rfl⟩
  have hS : va_S A s.heap H locs := by rw [hH, hlocs]; exact hS
  rw [← hH] at hP
  refine zheap hH hlocs ?_
  refine lv_aload_n hx hb dX6_share_0 rfl (lv_at hl 0 rfl) ?_
  refine va_get (D := (dC, dI)) (ci := 6) (v := .ref (bM 0)) (C := RX6) (T := TX6) (N := 11) hx hb hts u_X6_share_X6 hown hK hP 0 rfl rfl 0 (by decide) (hts _ k_X6_share_1) (fun _ h9 => h9) rfl dX6_share_1 ?_
  obtain ⟨R1, e_1, hf⟩ := zbind_ex hf
  refine z_callRi (va_runV (As := []) (rest := []) ⟨hx, hb, hml, hown, hts⟩ (c_X0_lightOfAll l dC dI cI cC cO (bM 0) aB gB  R1 e_1) (cwV 0 hts gX6_share_X0_lightOfAll rfl rfl rfl (by decide +kernel) ⟨Nat.le_of_ble_eq_true rfl, Nat.le_of_ble_eq_true rfl⟩) ⟨zpR_blind, va_recv hK hP (ci := 0) (q0 := 1) rfl rfl, z_useR hK hN hP [1] rfl⟩ rfl rfl hl.1 rfl (lv_room (Nat.le_of_ble_eq_true rfl)) dX6_share_4 ⟨Nat.le_of_ble_eq_true rfl, Nat.le_of_ble_eq_true rfl⟩) ?_
  refine lv_istore_n (lv' := [(1, .int R1), (0, .ref qM)]) hx hb dX6_share_7 rfl hl (by decide) rfl (fun ls hl => ?_)
  refine lv_iload_n hx hb dX6_share_8 rfl (lv_at hl 0 rfl) ?_
  refine lv_if_gt (tgt := 15) hx hb dX6_share_9 (by decide) (fun c_2 => ?_) (fun c_2 => ?_)
  · have hf := zif_t hf c_2
    refine lv_aload_n hx hb dX6_share_15 rfl (lv_at hl 1 rfl) ?_
    refine va_get (D := (dC, dI)) (ci := 6) (v := .ref (bM 2)) (C := RX6) (T := TX6) (N := 11) hx hb hts u_X6_share_X6 hown hK hP 0 rfl rfl 2 (by decide) (hts _ k_X6_share_3) (fun _ h9 => h9) rfl dX6_share_16 ?_
    refine lv_aload_n hx hb dX6_share_19 rfl (lv_at hl 1 rfl) ?_
    refine va_get (D := (dC, dI)) (ci := 6) (v := .ref (bM 0)) (C := RX6) (T := TX6) (N := 11) hx hb hts u_X6_share_X6 hown hK hP 0 rfl rfl 0 (by decide) (hts _ k_X6_share_1) (fun _ h9 => h9) rfl dX6_share_20 ?_
    obtain ⟨R3, e_3, hf⟩ := zbind_ex hf
    refine z_callM (gs2 := [(wX6 qM bM gM), (wX0 cI (bM 0) aB gB), (wX4 cI (bM 2) aR R3)]) hP hD hS hA [2, 1] [0] rfl rfl rfl (show List.Perm [2, 1, 0] (List.range 3) from by decide) rfl (va_runV (As := [.ref (bM 0)]) (rest := []) ⟨hx, hb, hml, hown, hts⟩ (c_X4_follow l dC dI cI cC cO (bM 2) aR gR (bM 0) aB gB  R3 e_3 H.size) (cwV 1 hts gX6_share_X4_follow rfl rfl rfl (by decide +kernel) ⟨Nat.le_of_ble_eq_true rfl, Nat.le_of_ble_eq_true rfl⟩) ⟨zpM_blind, va_recv hK hP (ci := 4) (q0 := 9) rfl rfl, z_useM hK hN hP hD [2, 1] [0] rfl (show List.Perm [2, 1, 0] (List.range 3) from by decide)⟩ rfl rfl hl.1 rfl (lv_room (Nat.le_of_ble_eq_true rfl)) dX6_share_23 ⟨Nat.le_of_ble_eq_true rfl, Nat.le_of_ble_eq_true rfl⟩) (fun H locs hP hD hS => ?_)
    refine W.eq (g2 := F0 m 26 ls []) rfl ?_
    refine lv_aload_n hx hb dX6_share_26 rfl (lv_at hl 1 rfl) ?_
    refine va_get (D := (dC, dI)) (ci := 6) (v := .ref (bM 2)) (C := RX6) (T := TX6) (N := 11) hx hb hts u_X6_share_X6 hown hK hP 0 rfl rfl 2 (by decide) (hts _ k_X6_share_3) (fun _ h9 => h9) rfl dX6_share_27 ?_
    refine lv_aload_n hx hb dX6_share_30 rfl (lv_at hl 1 rfl) ?_
    refine va_get (D := (dC, dI)) (ci := 6) (v := .ref (bM 0)) (C := RX6) (T := TX6) (N := 11) hx hb hts u_X6_share_X6 hown hK hP 0 rfl rfl 0 (by decide) (hts _ k_X6_share_1) (fun _ h9 => h9) rfl dX6_share_31 ?_
    obtain ⟨R4, e_4, hf⟩ := zbind_ex hf
    refine z_callRi (va_runV (As := [.ref (bM 0)]) (rest := []) ⟨hx, hb, hml, hown, hts⟩ (c_X4_lightOnScreen l dC dI cI cC cO (bM 2) aR R3 (bM 0) aB gB  R4 e_4) (cwV 1 hts gX6_share_X4_lightOnScreen rfl rfl rfl (by decide +kernel) ⟨Nat.le_of_ble_eq_true rfl, Nat.le_of_ble_eq_true rfl⟩) ⟨zpR_blind, va_recv hK hP (ci := 4) (q0 := 9) rfl rfl, z_useR hK hN hP [2, 1] rfl⟩ rfl rfl hl.1 rfl (lv_room (Nat.le_of_ble_eq_true rfl)) dX6_share_34 ⟨Nat.le_of_ble_eq_true rfl, Nat.le_of_ble_eq_true rfl⟩) ?_
    refine lv_i2f hx hb dX6_share_37 ?_
    refine lv_iload_n hx hb dX6_share_38 rfl (lv_at hl 0 rfl) ?_
    refine lv_i2f hx hb dX6_share_39 ?_
    obtain ⟨h_5, hf⟩ := zfl_ex hf
    refine lv_fdiv hx hb dX6_share_40 h_5 ?_
    obtain ⟨R6, e_6, hf⟩ := zbind_ex hf
    refine z_callRi (va_runS (As := [.float (FP.fdiv (FP.i2f R4) (FP.i2f R1))]) (rest := []) ⟨hx, hb, hml, hown, hts⟩ (c_X6_bitsOf l dC dI cI cC cO  (FP.fdiv (FP.i2f R4) (FP.i2f R1)) R6 e_6) (va_cwS 1 hts gX6_share_X6_bitsOf rfl rfl rfl (by decide +kernel) ⟨Nat.le_of_ble_eq_true rfl, Nat.le_of_ble_eq_true rfl⟩) ⟨zpR_blind, z_useR hK hN hP [] rfl⟩ rfl rfl hl.1 rfl (lv_room (Nat.le_of_ble_eq_true rfl)) dX6_share_41 ⟨Nat.le_of_ble_eq_true rfl, Nat.le_of_ble_eq_true rfl⟩) ?_
    exact zM_ret (gs := [(wX6 qM bM gM), (wX0 cI (bM 0) aB gB), (wX4 cI (bM 2) aR R3)]) hx hb hr rfl hP hD hS (by rw [← Option.some.inj hf]; exact ⟨rfl, rfl⟩) hlk dX6_share_44
  · have hf := zif_f hf c_2
    refine lv_ldc (v := (-1000000004 : Int32)) hx hb hown (hts _ k_X6_share_2) dX6_share_12 ?_
    exact zM_ret (gs := [(wX6 qM bM gM), (wX0 cI (bM 0) aB gB), (wX4 cI (bM 2) aR gR)]) hx hb hr rfl hP hD hS (by rw [← Option.some.inj hf]; exact ⟨rfl, rfl⟩) hlk dX6_share_14

def f_X6_lightIsJoined (gM : zG) (gB : zG) (gR : zG) (gC : zG)  : Option (Int32 × zG) := (zbind (f_X1_gather gC gB gR) (fun R1 => (if (R1 3 0) = (1 : Int32) then (zbind (f_X4_linesOnScreen gR) (fun R3 => (zbind (f_J6_bitCount_0f7a4 R3) (fun R4 => (if R4 = (gB 2 0) then (some ((1 : Int32), R1)) else (some ((0 : Int32), R1))))))) else (some ((0 : Int32), R1)))))
theorem u_X6_lightIsJoined_X6 : ∀ w ∈ u_ws RX6 TX6 11, w ∈ wsX6_lightIsJoined := fun w h => List.mem_cons_of_mem _ (List.mem_append_left _ (List.mem_append_left _ (List.mem_append_left _ (List.mem_append_right _ h))))
theorem u_X6_lightIsJoined_X1 : ∀ w ∈ u_ws RX1 TX1 4, w ∈ wsX6_lightIsJoined := fun w h => List.mem_cons_of_mem _ (List.mem_append_left _ (List.mem_append_left _ (List.mem_append_right _ h)))
theorem u_X6_lightIsJoined_X0 : ∀ w ∈ u_ws RX0 TX0 10, w ∈ wsX6_lightIsJoined := fun w h => List.mem_cons_of_mem _ (List.mem_append_left _ (List.mem_append_right _ h))
theorem k_X6_lightIsJoined_1 : Cond.fieldLink RX6 29 "JoinedLight" "cells" "LJoinedLight$Cells;" ∈ wsX6_lightIsJoined := List.mem_of_getElem? (i := 1) rfl
theorem k_X6_lightIsJoined_2 : Cond.fieldLink RX6 10 "JoinedLight" "bench" "LJoinedLight$Bench;" ∈ wsX6_lightIsJoined := List.mem_of_getElem? (i := 2) rfl
theorem k_X6_lightIsJoined_3 : Cond.fieldLink RX6 22 "JoinedLight" "rays" "LJoinedLight$Rays;" ∈ wsX6_lightIsJoined := List.mem_of_getElem? (i := 3) rfl
theorem k_X6_lightIsJoined_4 : Cond.fieldLink RX6 294 "JoinedLight$Cells" "used" "I" ∈ wsX6_lightIsJoined := List.mem_of_getElem? (i := 4) rfl
theorem k_X6_lightIsJoined_5 : Cond.fieldLink RX6 216 "JoinedLight$Bench" "lineCount" "I" ∈ wsX6_lightIsJoined := List.mem_of_getElem? (i := 5) rfl
abbrev rm_X6_lightIsJoined : Room := { frames := 4, cells := 0, slots := 0, locals := 90 }
set_option maxHeartbeats 4000000 in
set_option maxRecDepth 100000 in
theorem c_X6_lightIsJoined (l : Launch) (dC : Nat → ClassId) (dI : Nat → Nat → Nat) (cI cC cO : ClassId) (qM : Nat) (bM : Nat → Nat) (gM : zG) (aB : Nat → Nat) (gB : zG) (aR : Nat → Nat) (gR : zG) (aC : Nat → Nat) (gC : zG)  (R : Int32 × zG) (hf : f_X6_lightIsJoined gM gB gR gC = some R) : cM l (dC, dI) (zT cI cC cO) yX6_lightIsJoined wsX6_lightIsJoined rm_X6_lightIsJoined [.ref qM] [(wX6 qM bM gM), (wX0 cI (bM 0) aB gB), (wX4 cI (bM 2) aR gR), (wX1 cI (bM 3) aC gC)] [(wX6 qM bM gM), (wX0 cI (bM 0) aB gB), (wX4 cI (bM 2) aR gR), (wX1 cI (bM 3) aC R.2)] (some (.int R.1)) 0 0 := by
  refine zM_in (cc := cX6_lightIsJoined) (maxL := 1) (ret := (some .boolean)) (plainFor_of_name (by decide)) rfl (Nat.le_of_ble_eq_true rfl) ?_
  intro p e s m below meth c hx hb hml hr hlk hown hts hK hN A hA hP hD hS ls hl
  have hl : lv_has ls 1 [(0, .ref qM)] := hl
  unfold f_X6_lightIsJoined at hf
  obtain ⟨H, hH⟩ : ∃ H, H = s.heap := ⟨_, rfl⟩
  obtain ⟨locs, hlocs⟩ : ∃ locs : List Loc, locs = [] := ⟨_, rfl⟩
  have hS : va_S A s.heap H locs := by rw [hH, hlocs]; exact hS
  rw [← hH] at hP
  refine zheap hH hlocs ?_
  refine lv_aload_n hx hb dX6_lightIsJoined_0 rfl (lv_at hl 0 rfl) ?_
  refine va_get (D := (dC, dI)) (ci := 6) (v := .ref (bM 3)) (C := RX6) (T := TX6) (N := 11) hx hb hts u_X6_lightIsJoined_X6 hown hK hP 0 rfl rfl 3 (by decide) (hts _ k_X6_lightIsJoined_1) (fun _ h9 => h9) rfl dX6_lightIsJoined_1 ?_
  refine lv_aload_n hx hb dX6_lightIsJoined_4 rfl (lv_at hl 0 rfl) ?_
  refine va_get (D := (dC, dI)) (ci := 6) (v := .ref (bM 0)) (C := RX6) (T := TX6) (N := 11) hx hb hts u_X6_lightIsJoined_X6 hown hK hP 0 rfl rfl 0 (by decide) (hts _ k_X6_lightIsJoined_2) (fun _ h9 => h9) rfl dX6_lightIsJoined_5 ?_
  refine lv_aload_n hx hb dX6_lightIsJoined_8 rfl (lv_at hl 0 rfl) ?_
  refine va_get (D := (dC, dI)) (ci := 6) (v := .ref (bM 2)) (C := RX6) (T := TX6) (N := 11) hx hb hts u_X6_lightIsJoined_X6 hown hK hP 0 rfl rfl 2 (by decide) (hts _ k_X6_lightIsJoined_3) (fun _ h9 => h9) rfl dX6_lightIsJoined_9 ?_
  obtain ⟨R1, e_1, hf⟩ := zbind_ex hf
  refine z_callM (gs2 := [(wX6 qM bM gM), (wX0 cI (bM 0) aB gB), (wX4 cI (bM 2) aR gR), (wX1 cI (bM 3) aC R1)]) hP hD hS hA [3, 1, 2] [0] rfl rfl rfl (show List.Perm [3, 1, 2, 0] (List.range 4) from by decide) rfl (va_runV (As := [.ref (bM 0), .ref (bM 2)]) (rest := []) ⟨hx, hb, hml, hown, hts⟩ (c_X1_gather l dC dI cI cC cO (bM 3) aC gC (bM 0) aB gB (bM 2) aR gR  R1 e_1 H.size) (cwV 2 hts gX6_lightIsJoined_X1_gather rfl rfl rfl (by decide +kernel) ⟨Nat.le_of_ble_eq_true rfl, Nat.le_of_ble_eq_true rfl⟩) ⟨zpM_blind, va_recv hK hP (ci := 1) (q0 := 14) rfl rfl, z_useM hK hN hP hD [3, 1, 2] [0] rfl (show List.Perm [3, 1, 2, 0] (List.range 4) from by decide)⟩ rfl rfl hl.1 rfl (lv_room (Nat.le_of_ble_eq_true rfl)) dX6_lightIsJoined_12 ⟨Nat.le_of_ble_eq_true rfl, Nat.le_of_ble_eq_true rfl⟩) (fun H locs hP hD hS => ?_)
  refine W.eq (g2 := F0 m 15 ls []) rfl ?_
  refine lv_aload_n hx hb dX6_lightIsJoined_15 rfl (lv_at hl 0 rfl) ?_
  refine va_get (D := (dC, dI)) (ci := 6) (v := .ref (bM 3)) (C := RX6) (T := TX6) (N := 11) hx hb hts u_X6_lightIsJoined_X6 hown hK hP 0 rfl rfl 3 (by decide) (hts _ k_X6_lightIsJoined_1) (fun _ h9 => h9) rfl dX6_lightIsJoined_16 ?_
  refine va_get (D := (dC, dI)) (ci := 1) (v := .int (R1 3 0)) (C := RX1) (T := TX1) (N := 4) hx hb hts u_X6_lightIsJoined_X1 hown hK hP 14 rfl rfl 3 (by decide) (hts _ k_X6_lightIsJoined_4) (fun _ h9 => h9) rfl dX6_lightIsJoined_19 ?_
  refine lv_iconst (v := (1 : Int32)) hx hb dX6_lightIsJoined_22 (by decide) ?_
  refine lv_icmp_ne (tgt := 50) hx hb dX6_lightIsJoined_23 (by decide) (fun c_2 => ?_) (fun c_2 => ?_)
  · have hf := zif_f hf c_2
    refine lv_iconst (v := (0 : Int32)) hx hb dX6_lightIsJoined_50 (by decide) ?_
    exact zM_ret (gs := [(wX6 qM bM gM), (wX0 cI (bM 0) aB gB), (wX4 cI (bM 2) aR gR), (wX1 cI (bM 3) aC R1)]) hx hb hr rfl hP hD hS (by rw [← Option.some.inj hf]; exact ⟨rfl, rfl⟩) hlk dX6_lightIsJoined_51
  · have hf := zif_t hf c_2
    refine lv_aload_n hx hb dX6_lightIsJoined_26 rfl (lv_at hl 0 rfl) ?_
    refine va_get (D := (dC, dI)) (ci := 6) (v := .ref (bM 2)) (C := RX6) (T := TX6) (N := 11) hx hb hts u_X6_lightIsJoined_X6 hown hK hP 0 rfl rfl 2 (by decide) (hts _ k_X6_lightIsJoined_3) (fun _ h9 => h9) rfl dX6_lightIsJoined_27 ?_
    obtain ⟨R3, e_3, hf⟩ := zbind_ex hf
    refine z_callRi (va_runV (As := []) (rest := []) ⟨hx, hb, hml, hown, hts⟩ (c_X4_linesOnScreen l dC dI cI cC cO (bM 2) aR gR  R3 e_3) (cwV 0 hts gX6_lightIsJoined_X4_linesOnScreen rfl rfl rfl (by decide +kernel) ⟨Nat.le_of_ble_eq_true rfl, Nat.le_of_ble_eq_true rfl⟩) ⟨zpR_blind, va_recv hK hP (ci := 4) (q0 := 9) rfl rfl, z_useR hK hN hP [2] rfl⟩ rfl rfl hl.1 rfl (lv_room (Nat.le_of_ble_eq_true rfl)) dX6_lightIsJoined_30 ⟨Nat.le_of_ble_eq_true rfl, Nat.le_of_ble_eq_true rfl⟩) ?_
    obtain ⟨R4, e_4, hf⟩ := zbind_ex hf
    refine z_callRi (va_runS (As := [.int R3]) (rest := []) ⟨hx, hb, hml, hown, hts⟩ (c_J6_bitCount_0f7a4 l dC dI cI cC cO  R3 R4 e_4) (va_cwS 1 hts gX6_lightIsJoined_J6_bitCount_0f7a4 rfl rfl rfl (by decide +kernel) ⟨Nat.le_of_ble_eq_true rfl, Nat.le_of_ble_eq_true rfl⟩) ⟨zpR_blind, z_useR hK hN hP [] rfl⟩ rfl rfl hl.1 rfl (lv_room (Nat.le_of_ble_eq_true rfl)) dX6_lightIsJoined_33 ⟨Nat.le_of_ble_eq_true rfl, Nat.le_of_ble_eq_true rfl⟩) ?_
    refine lv_aload_n hx hb dX6_lightIsJoined_36 rfl (lv_at hl 0 rfl) ?_
    refine va_get (D := (dC, dI)) (ci := 6) (v := .ref (bM 0)) (C := RX6) (T := TX6) (N := 11) hx hb hts u_X6_lightIsJoined_X6 hown hK hP 0 rfl rfl 0 (by decide) (hts _ k_X6_lightIsJoined_2) (fun _ h9 => h9) rfl dX6_lightIsJoined_37 ?_
    refine va_get (D := (dC, dI)) (ci := 0) (v := .int (gB 2 0)) (C := RX0) (T := TX0) (N := 10) hx hb hts u_X6_lightIsJoined_X0 hown hK hP 1 rfl rfl 2 (by decide) (hts _ k_X6_lightIsJoined_5) (fun _ h9 => h9) rfl dX6_lightIsJoined_40 ?_
    refine lv_icmp_ne (tgt := 50) hx hb dX6_lightIsJoined_43 (by decide) (fun c_5 => ?_) (fun c_5 => ?_)
    · have hf := zif_f hf c_5
      refine lv_iconst (v := (0 : Int32)) hx hb dX6_lightIsJoined_50 (by decide) ?_
      exact zM_ret (gs := [(wX6 qM bM gM), (wX0 cI (bM 0) aB gB), (wX4 cI (bM 2) aR gR), (wX1 cI (bM 3) aC R1)]) hx hb hr rfl hP hD hS (by rw [← Option.some.inj hf]; exact ⟨rfl, rfl⟩) hlk dX6_lightIsJoined_51
    · have hf := zif_t hf c_5
      refine lv_iconst (v := (1 : Int32)) hx hb dX6_lightIsJoined_46 (by decide) ?_
      refine lv_goto (tgt := 51) hx hb dX6_lightIsJoined_47 (by decide) ?_
      exact zM_ret (gs := [(wX6 qM bM gM), (wX0 cI (bM 0) aB gB), (wX4 cI (bM 2) aR gR), (wX1 cI (bM 3) aC R1)]) hx hb hr rfl hP hD hS (by rw [← Option.some.inj hf]; exact ⟨rfl, rfl⟩) hlk dX6_lightIsJoined_51

def f_X6_countOfRays (gM : zG) (gB : zG) (gR : zG) (gC : zG) (x1 : Int32) : Option (Int32 × zG × zG) := (zbind (f_X4_follow gR gB) (fun R1 => (if x1 = (2 : Int32) then (zbind (f_X4_linesOnScreen R1) (fun R3 => (some (R3, R1, gC)))) else (if x1 = (3 : Int32) then (zbind (f_X4_spread R1) (fun R5 => (some (R5, R1, gC)))) else (if x1 = (4 : Int32) then (zbind (f_X6_lightIsJoined gM gB R1 gC) (fun R7 => (zbind (f_X6_oneIf R7.1) (fun R8 => (some (R8, R1, R7.2)))))) else (if x1 = (5 : Int32) then (zbind (f_X6_lightIsJoined gM gB R1 gC) (fun R10 => (if R10.1 = 0 then (zbind (f_X6_oneIf (0 : Int32)) (fun R12 => (some (R12, R1, R10.2)))) else (zbind (f_X4_slopesAreSame R1) (fun R13 => (if R13 = 0 then (zbind (f_X6_oneIf (0 : Int32)) (fun R15 => (some (R15, R1, R10.2)))) else (zbind (f_X6_oneIf (1 : Int32)) (fun R16 => (some (R16, R1, R10.2)))))))))) else (if x1 = (6 : Int32) then (some ((-1000000001 : Int32), R1, gC)) else (if x1 = (7 : Int32) then (zbind (f_X4_lightOnScreen R1 gB) (fun R19 => (some (R19, R1, gC)))) else (if x1 = (8 : Int32) then (zbind (f_X0_lightOfAll gB) (fun R21 => (zbind (f_X4_lightOnScreen R1 gB) (fun R22 => (zbind (f_X4_lightLostAt R1 gB (1000 : Int32)) (fun R23 => (some (((R21 - R22) - R23), R1, gC)))))))) else (if x1 = (9 : Int32) then (zbind (f_X4_lightLostAt R1 gB (1000 : Int32)) (fun R25 => (some (R25, R1, gC)))) else (if x1 = (10 : Int32) then (zbind (f_X1_gather gC gB R1) (fun R27 => (some ((R27 3 0), R1, R27)))) else (some ((-1000000001 : Int32), R1, gC)))))))))))))
theorem u_X6_countOfRays_X6 : ∀ w ∈ u_ws RX6 TX6 11, w ∈ wsX6_countOfRays := fun w h => List.mem_cons_of_mem _ (List.mem_append_left _ (List.mem_append_left _ (List.mem_append_left _ (List.mem_append_right _ h))))
theorem u_X6_countOfRays_X1 : ∀ w ∈ u_ws RX1 TX1 4, w ∈ wsX6_countOfRays := fun w h => List.mem_cons_of_mem _ (List.mem_append_left _ (List.mem_append_left _ (List.mem_append_right _ h)))
theorem k_X6_countOfRays_1 : Cond.fieldLink RX6 22 "JoinedLight" "rays" "LJoinedLight$Rays;" ∈ wsX6_countOfRays := List.mem_of_getElem? (i := 1) rfl
theorem k_X6_countOfRays_2 : Cond.fieldLink RX6 10 "JoinedLight" "bench" "LJoinedLight$Bench;" ∈ wsX6_countOfRays := List.mem_of_getElem? (i := 2) rfl
theorem k_X6_countOfRays_5 : Cond.constant RX6 94 (-1000000001) ∈ wsX6_countOfRays := List.mem_of_getElem? (i := 5) rfl
theorem k_X6_countOfRays_3 : Cond.fieldLink RX6 29 "JoinedLight" "cells" "LJoinedLight$Cells;" ∈ wsX6_countOfRays := List.mem_of_getElem? (i := 3) rfl
theorem k_X6_countOfRays_4 : Cond.fieldLink RX6 294 "JoinedLight$Cells" "used" "I" ∈ wsX6_countOfRays := List.mem_of_getElem? (i := 4) rfl
abbrev rm_X6_countOfRays : Room := { frames := 5, cells := 0, slots := 0, locals := 118 }
set_option maxHeartbeats 4000000 in
set_option maxRecDepth 100000 in
theorem c_X6_countOfRays (l : Launch) (dC : Nat → ClassId) (dI : Nat → Nat → Nat) (cI cC cO : ClassId) (qM : Nat) (bM : Nat → Nat) (gM : zG) (aB : Nat → Nat) (gB : zG) (aR : Nat → Nat) (gR : zG) (aC : Nat → Nat) (gC : zG) (x1 : Int32) (R : Int32 × zG × zG) (hf : f_X6_countOfRays gM gB gR gC x1 = some R) : cM l (dC, dI) (zT cI cC cO) yX6_countOfRays wsX6_countOfRays rm_X6_countOfRays [.ref qM, .int x1] [(wX6 qM bM gM), (wX0 cI (bM 0) aB gB), (wX4 cI (bM 2) aR gR), (wX1 cI (bM 3) aC gC)] [(wX6 qM bM gM), (wX0 cI (bM 0) aB gB), (wX4 cI (bM 2) aR R.2.1), (wX1 cI (bM 3) aC R.2.2)] (some (.int R.1)) 0 0 := by
  refine zM_in (cc := cX6_countOfRays) (maxL := 2) (ret := (some .int)) (plainFor_of_name (by decide)) rfl (Nat.le_of_ble_eq_true rfl) ?_
  intro p e s m below meth c hx hb hml hr hlk hown hts hK hN A hA hP hD hS ls hl
  have hl : lv_has ls 2 [(0, .ref qM), (1, .int x1)] := hl
  unfold f_X6_countOfRays at hf
  obtain ⟨H, hH⟩ : ∃ H, H = s.heap := ⟨_, rfl⟩
  obtain ⟨locs, hlocs⟩ : ∃ locs : List Loc, locs = [] := ⟨_, rfl⟩
  have hS : va_S A s.heap H locs := by rw [hH, hlocs]; exact hS
  rw [← hH] at hP
  refine zheap hH hlocs ?_
  refine lv_aload_n hx hb dX6_countOfRays_0 rfl (lv_at hl 0 rfl) ?_
  refine va_get (D := (dC, dI)) (ci := 6) (v := .ref (bM 2)) (C := RX6) (T := TX6) (N := 11) hx hb hts u_X6_countOfRays_X6 hown hK hP 0 rfl rfl 2 (by decide) (hts _ k_X6_countOfRays_1) (fun _ h9 => h9) rfl dX6_countOfRays_1 ?_
  refine lv_aload_n hx hb dX6_countOfRays_4 rfl (lv_at hl 0 rfl) ?_
  refine va_get (D := (dC, dI)) (ci := 6) (v := .ref (bM 0)) (C := RX6) (T := TX6) (N := 11) hx hb hts u_X6_countOfRays_X6 hown hK hP 0 rfl rfl 0 (by decide) (hts _ k_X6_countOfRays_2) (fun _ h9 => h9) rfl dX6_countOfRays_5 ?_
  obtain ⟨R1, e_1, hf⟩ := zbind_ex hf
  refine z_callM (gs2 := [(wX6 qM bM gM), (wX0 cI (bM 0) aB gB), (wX4 cI (bM 2) aR R1), (wX1 cI (bM 3) aC gC)]) hP hD hS hA [2, 1] [0, 3] rfl rfl rfl (show List.Perm [2, 1, 0, 3] (List.range 4) from by decide) rfl (va_runV (As := [.ref (bM 0)]) (rest := []) ⟨hx, hb, hml, hown, hts⟩ (c_X4_follow l dC dI cI cC cO (bM 2) aR gR (bM 0) aB gB  R1 e_1 H.size) (cwV 1 hts gX6_countOfRays_X4_follow rfl rfl rfl (by decide +kernel) ⟨Nat.le_of_ble_eq_true rfl, Nat.le_of_ble_eq_true rfl⟩) ⟨zpM_blind, va_recv hK hP (ci := 4) (q0 := 9) rfl rfl, z_useM hK hN hP hD [2, 1] [0, 3] rfl (show List.Perm [2, 1, 0, 3] (List.range 4) from by decide)⟩ rfl rfl hl.1 rfl (lv_room (Nat.le_of_ble_eq_true rfl)) dX6_countOfRays_8 ⟨Nat.le_of_ble_eq_true rfl, Nat.le_of_ble_eq_true rfl⟩) (fun H locs hP hD hS => ?_)
  refine W.eq (g2 := F0 m 11 ls []) rfl ?_
  refine lv_iload_n hx hb dX6_countOfRays_11 rfl (lv_at hl 1 rfl) ?_
  by_cases c_2 : x1 = (2 : Int32)
  · have hf := zif_t hf c_2
    refine lv_tableIn (tgt := 64) (off := 52) hx hb dX6_countOfRays_12 (by rw [c_2]; decide) (by rw [c_2]; decide) (by rw [c_2]; first | done | rfl) (by decide) ?_
    refine lv_aload_n hx hb dX6_countOfRays_64 rfl (lv_at hl 0 rfl) ?_
    refine va_get (D := (dC, dI)) (ci := 6) (v := .ref (bM 2)) (C := RX6) (T := TX6) (N := 11) hx hb hts u_X6_countOfRays_X6 hown hK hP 0 rfl rfl 2 (by decide) (hts _ k_X6_countOfRays_1) (fun _ h9 => h9) rfl dX6_countOfRays_65 ?_
    obtain ⟨R3, e_3, hf⟩ := zbind_ex hf
    refine z_callRi (va_runV (As := []) (rest := []) ⟨hx, hb, hml, hown, hts⟩ (c_X4_linesOnScreen l dC dI cI cC cO (bM 2) aR R1  R3 e_3) (cwV 0 hts gX6_countOfRays_X4_linesOnScreen rfl rfl rfl (by decide +kernel) ⟨Nat.le_of_ble_eq_true rfl, Nat.le_of_ble_eq_true rfl⟩) ⟨zpR_blind, va_recv hK hP (ci := 4) (q0 := 9) rfl rfl, z_useR hK hN hP [2] rfl⟩ rfl rfl hl.1 rfl (lv_room (Nat.le_of_ble_eq_true rfl)) dX6_countOfRays_68 ⟨Nat.le_of_ble_eq_true rfl, Nat.le_of_ble_eq_true rfl⟩) ?_
    exact zM_ret (gs := [(wX6 qM bM gM), (wX0 cI (bM 0) aB gB), (wX4 cI (bM 2) aR R1), (wX1 cI (bM 3) aC gC)]) hx hb hr rfl hP hD hS (by rw [← Option.some.inj hf]; exact ⟨rfl, rfl⟩) hlk dX6_countOfRays_71
  · have hf := zif_f hf c_2
    by_cases c_4 : x1 = (3 : Int32)
    · have hf := zif_t hf c_4
      refine lv_tableIn (tgt := 72) (off := 60) hx hb dX6_countOfRays_12 (by rw [c_4]; decide) (by rw [c_4]; decide) (by rw [c_4]; first | done | rfl) (by decide) ?_
      refine lv_aload_n hx hb dX6_countOfRays_72 rfl (lv_at hl 0 rfl) ?_
      refine va_get (D := (dC, dI)) (ci := 6) (v := .ref (bM 2)) (C := RX6) (T := TX6) (N := 11) hx hb hts u_X6_countOfRays_X6 hown hK hP 0 rfl rfl 2 (by decide) (hts _ k_X6_countOfRays_1) (fun _ h9 => h9) rfl dX6_countOfRays_73 ?_
      obtain ⟨R5, e_5, hf⟩ := zbind_ex hf
      refine z_callRi (va_runV (As := []) (rest := []) ⟨hx, hb, hml, hown, hts⟩ (c_X4_spread l dC dI cI cC cO (bM 2) aR R1  R5 e_5) (cwV 0 hts gX6_countOfRays_X4_spread rfl rfl rfl (by decide +kernel) ⟨Nat.le_of_ble_eq_true rfl, Nat.le_of_ble_eq_true rfl⟩) ⟨zpR_blind, va_recv hK hP (ci := 4) (q0 := 9) rfl rfl, z_useR hK hN hP [2] rfl⟩ rfl rfl hl.1 rfl (lv_room (Nat.le_of_ble_eq_true rfl)) dX6_countOfRays_76 ⟨Nat.le_of_ble_eq_true rfl, Nat.le_of_ble_eq_true rfl⟩) ?_
      exact zM_ret (gs := [(wX6 qM bM gM), (wX0 cI (bM 0) aB gB), (wX4 cI (bM 2) aR R1), (wX1 cI (bM 3) aC gC)]) hx hb hr rfl hP hD hS (by rw [← Option.some.inj hf]; exact ⟨rfl, rfl⟩) hlk dX6_countOfRays_79
    · have hf := zif_f hf c_4
      by_cases c_6 : x1 = (4 : Int32)
      · have hf := zif_t hf c_6
        refine lv_tableIn (tgt := 80) (off := 68) hx hb dX6_countOfRays_12 (by rw [c_6]; decide) (by rw [c_6]; decide) (by rw [c_6]; first | done | rfl) (by decide) ?_
        refine lv_aload_n hx hb dX6_countOfRays_80 rfl (lv_at hl 0 rfl) ?_
        obtain ⟨R7, e_7, hf⟩ := zbind_ex hf
        refine z_callM (gs2 := [(wX6 qM bM gM), (wX0 cI (bM 0) aB gB), (wX4 cI (bM 2) aR R1), (wX1 cI (bM 3) aC R7.2)]) hP hD hS hA [0, 1, 2, 3] [] rfl rfl rfl (show List.Perm [0, 1, 2, 3] (List.range 4) from by decide) rfl (va_runV (As := []) (rest := []) ⟨hx, hb, hml, hown, hts⟩ (c_X6_lightIsJoined l dC dI cI cC cO qM bM gM aB gB aR R1 aC gC  R7 e_7 H.size) (cwV 0 hts gX6_countOfRays_X6_lightIsJoined rfl rfl rfl (by decide +kernel) ⟨Nat.le_of_ble_eq_true rfl, Nat.le_of_ble_eq_true rfl⟩) ⟨zpM_blind, va_recv hK hP (ci := 6) (q0 := 0) rfl rfl, z_useM hK hN hP hD [0, 1, 2, 3] [] rfl (show List.Perm [0, 1, 2, 3] (List.range 4) from by decide)⟩ rfl rfl hl.1 rfl (lv_room (Nat.le_of_ble_eq_true rfl)) dX6_countOfRays_81 ⟨Nat.le_of_ble_eq_true rfl, Nat.le_of_ble_eq_true rfl⟩) (fun H locs hP hD hS => ?_)
        refine W.eq (g2 := F0 m 84 ls [.int R7.1]) rfl ?_
        obtain ⟨R8, e_8, hf⟩ := zbind_ex hf
        refine z_callRi (va_runS (As := [.int R7.1]) (rest := []) ⟨hx, hb, hml, hown, hts⟩ (c_X6_oneIf l dC dI cI cC cO  R7.1 R8 e_8) (va_cwS 1 hts gX6_countOfRays_X6_oneIf rfl rfl rfl (by decide +kernel) ⟨Nat.le_of_ble_eq_true rfl, Nat.le_of_ble_eq_true rfl⟩) ⟨zpR_blind, z_useR hK hN hP [] rfl⟩ rfl rfl hl.1 rfl (lv_room (Nat.le_of_ble_eq_true rfl)) dX6_countOfRays_84 ⟨Nat.le_of_ble_eq_true rfl, Nat.le_of_ble_eq_true rfl⟩) ?_
        exact zM_ret (gs := [(wX6 qM bM gM), (wX0 cI (bM 0) aB gB), (wX4 cI (bM 2) aR R1), (wX1 cI (bM 3) aC R7.2)]) hx hb hr rfl hP hD hS (by rw [← Option.some.inj hf]; exact ⟨rfl, rfl⟩) hlk dX6_countOfRays_87
      · have hf := zif_f hf c_6
        by_cases c_9 : x1 = (5 : Int32)
        · have hf := zif_t hf c_9
          refine lv_tableIn (tgt := 88) (off := 76) hx hb dX6_countOfRays_12 (by rw [c_9]; decide) (by rw [c_9]; decide) (by rw [c_9]; first | done | rfl) (by decide) ?_
          refine lv_aload_n hx hb dX6_countOfRays_88 rfl (lv_at hl 0 rfl) ?_
          obtain ⟨R10, e_10, hf⟩ := zbind_ex hf
          refine z_callM (gs2 := [(wX6 qM bM gM), (wX0 cI (bM 0) aB gB), (wX4 cI (bM 2) aR R1), (wX1 cI (bM 3) aC R10.2)]) hP hD hS hA [0, 1, 2, 3] [] rfl rfl rfl (show List.Perm [0, 1, 2, 3] (List.range 4) from by decide) rfl (va_runV (As := []) (rest := []) ⟨hx, hb, hml, hown, hts⟩ (c_X6_lightIsJoined l dC dI cI cC cO qM bM gM aB gB aR R1 aC gC  R10 e_10 H.size) (cwV 0 hts gX6_countOfRays_X6_lightIsJoined rfl rfl rfl (by decide +kernel) ⟨Nat.le_of_ble_eq_true rfl, Nat.le_of_ble_eq_true rfl⟩) ⟨zpM_blind, va_recv hK hP (ci := 6) (q0 := 0) rfl rfl, z_useM hK hN hP hD [0, 1, 2, 3] [] rfl (show List.Perm [0, 1, 2, 3] (List.range 4) from by decide)⟩ rfl rfl hl.1 rfl (lv_room (Nat.le_of_ble_eq_true rfl)) dX6_countOfRays_89 ⟨Nat.le_of_ble_eq_true rfl, Nat.le_of_ble_eq_true rfl⟩) (fun H locs hP hD hS => ?_)
          refine W.eq (g2 := F0 m 92 ls [.int R10.1]) rfl ?_
          refine lv_if_eq (tgt := 109) hx hb dX6_countOfRays_92 (by decide) (fun c_11 => ?_) (fun c_11 => ?_)
          · have hf := zif_t hf c_11
            refine lv_iconst (v := (0 : Int32)) hx hb dX6_countOfRays_109 (by decide) ?_
            obtain ⟨R12, e_12, hf⟩ := zbind_ex hf
            refine z_callRi (va_runS (As := [.int (0 : Int32)]) (rest := []) ⟨hx, hb, hml, hown, hts⟩ (c_X6_oneIf l dC dI cI cC cO  (0 : Int32) R12 e_12) (va_cwS 1 hts gX6_countOfRays_X6_oneIf rfl rfl rfl (by decide +kernel) ⟨Nat.le_of_ble_eq_true rfl, Nat.le_of_ble_eq_true rfl⟩) ⟨zpR_blind, z_useR hK hN hP [] rfl⟩ rfl rfl hl.1 rfl (lv_room (Nat.le_of_ble_eq_true rfl)) dX6_countOfRays_110 ⟨Nat.le_of_ble_eq_true rfl, Nat.le_of_ble_eq_true rfl⟩) ?_
            exact zM_ret (gs := [(wX6 qM bM gM), (wX0 cI (bM 0) aB gB), (wX4 cI (bM 2) aR R1), (wX1 cI (bM 3) aC R10.2)]) hx hb hr rfl hP hD hS (by rw [← Option.some.inj hf]; exact ⟨rfl, rfl⟩) hlk dX6_countOfRays_113
          · have hf := zif_f hf c_11
            refine lv_aload_n hx hb dX6_countOfRays_95 rfl (lv_at hl 0 rfl) ?_
            refine va_get (D := (dC, dI)) (ci := 6) (v := .ref (bM 2)) (C := RX6) (T := TX6) (N := 11) hx hb hts u_X6_countOfRays_X6 hown hK hP 0 rfl rfl 2 (by decide) (hts _ k_X6_countOfRays_1) (fun _ h9 => h9) rfl dX6_countOfRays_96 ?_
            obtain ⟨R13, e_13, hf⟩ := zbind_ex hf
            refine z_callRi (va_runV (As := []) (rest := []) ⟨hx, hb, hml, hown, hts⟩ (c_X4_slopesAreSame l dC dI cI cC cO (bM 2) aR R1  R13 e_13) (cwV 0 hts gX6_countOfRays_X4_slopesAreSame rfl rfl rfl (by decide +kernel) ⟨Nat.le_of_ble_eq_true rfl, Nat.le_of_ble_eq_true rfl⟩) ⟨zpR_blind, va_recv hK hP (ci := 4) (q0 := 9) rfl rfl, z_useR hK hN hP [2] rfl⟩ rfl rfl hl.1 rfl (lv_room (Nat.le_of_ble_eq_true rfl)) dX6_countOfRays_99 ⟨Nat.le_of_ble_eq_true rfl, Nat.le_of_ble_eq_true rfl⟩) ?_
            refine lv_if_eq (tgt := 109) hx hb dX6_countOfRays_102 (by decide) (fun c_14 => ?_) (fun c_14 => ?_)
            · have hf := zif_t hf c_14
              refine lv_iconst (v := (0 : Int32)) hx hb dX6_countOfRays_109 (by decide) ?_
              obtain ⟨R15, e_15, hf⟩ := zbind_ex hf
              refine z_callRi (va_runS (As := [.int (0 : Int32)]) (rest := []) ⟨hx, hb, hml, hown, hts⟩ (c_X6_oneIf l dC dI cI cC cO  (0 : Int32) R15 e_15) (va_cwS 1 hts gX6_countOfRays_X6_oneIf rfl rfl rfl (by decide +kernel) ⟨Nat.le_of_ble_eq_true rfl, Nat.le_of_ble_eq_true rfl⟩) ⟨zpR_blind, z_useR hK hN hP [] rfl⟩ rfl rfl hl.1 rfl (lv_room (Nat.le_of_ble_eq_true rfl)) dX6_countOfRays_110 ⟨Nat.le_of_ble_eq_true rfl, Nat.le_of_ble_eq_true rfl⟩) ?_
              exact zM_ret (gs := [(wX6 qM bM gM), (wX0 cI (bM 0) aB gB), (wX4 cI (bM 2) aR R1), (wX1 cI (bM 3) aC R10.2)]) hx hb hr rfl hP hD hS (by rw [← Option.some.inj hf]; exact ⟨rfl, rfl⟩) hlk dX6_countOfRays_113
            · have hf := zif_f hf c_14
              refine lv_iconst (v := (1 : Int32)) hx hb dX6_countOfRays_105 (by decide) ?_
              refine lv_goto (tgt := 110) hx hb dX6_countOfRays_106 (by decide) ?_
              obtain ⟨R16, e_16, hf⟩ := zbind_ex hf
              refine z_callRi (va_runS (As := [.int (1 : Int32)]) (rest := []) ⟨hx, hb, hml, hown, hts⟩ (c_X6_oneIf l dC dI cI cC cO  (1 : Int32) R16 e_16) (va_cwS 1 hts gX6_countOfRays_X6_oneIf rfl rfl rfl (by decide +kernel) ⟨Nat.le_of_ble_eq_true rfl, Nat.le_of_ble_eq_true rfl⟩) ⟨zpR_blind, z_useR hK hN hP [] rfl⟩ rfl rfl hl.1 rfl (lv_room (Nat.le_of_ble_eq_true rfl)) dX6_countOfRays_110 ⟨Nat.le_of_ble_eq_true rfl, Nat.le_of_ble_eq_true rfl⟩) ?_
              exact zM_ret (gs := [(wX6 qM bM gM), (wX0 cI (bM 0) aB gB), (wX4 cI (bM 2) aR R1), (wX1 cI (bM 3) aC R10.2)]) hx hb hr rfl hP hD hS (by rw [← Option.some.inj hf]; exact ⟨rfl, rfl⟩) hlk dX6_countOfRays_113
        · have hf := zif_f hf c_9
          by_cases c_17 : x1 = (6 : Int32)
          · have hf := zif_t hf c_17
            refine lv_tableIn (tgt := 199) (off := 187) hx hb dX6_countOfRays_12 (by rw [c_17]; decide) (by rw [c_17]; decide) (by rw [c_17]; first | done | rfl) (by decide) ?_
            refine lv_ldc (v := (-1000000001 : Int32)) hx hb hown (hts _ k_X6_countOfRays_5) dX6_countOfRays_199 ?_
            exact zM_ret (gs := [(wX6 qM bM gM), (wX0 cI (bM 0) aB gB), (wX4 cI (bM 2) aR R1), (wX1 cI (bM 3) aC gC)]) hx hb hr rfl hP hD hS (by rw [← Option.some.inj hf]; exact ⟨rfl, rfl⟩) hlk dX6_countOfRays_201
          · have hf := zif_f hf c_17
            by_cases c_18 : x1 = (7 : Int32)
            · have hf := zif_t hf c_18
              refine lv_tableIn (tgt := 114) (off := 102) hx hb dX6_countOfRays_12 (by rw [c_18]; decide) (by rw [c_18]; decide) (by rw [c_18]; first | done | rfl) (by decide) ?_
              refine lv_aload_n hx hb dX6_countOfRays_114 rfl (lv_at hl 0 rfl) ?_
              refine va_get (D := (dC, dI)) (ci := 6) (v := .ref (bM 2)) (C := RX6) (T := TX6) (N := 11) hx hb hts u_X6_countOfRays_X6 hown hK hP 0 rfl rfl 2 (by decide) (hts _ k_X6_countOfRays_1) (fun _ h9 => h9) rfl dX6_countOfRays_115 ?_
              refine lv_aload_n hx hb dX6_countOfRays_118 rfl (lv_at hl 0 rfl) ?_
              refine va_get (D := (dC, dI)) (ci := 6) (v := .ref (bM 0)) (C := RX6) (T := TX6) (N := 11) hx hb hts u_X6_countOfRays_X6 hown hK hP 0 rfl rfl 0 (by decide) (hts _ k_X6_countOfRays_2) (fun _ h9 => h9) rfl dX6_countOfRays_119 ?_
              obtain ⟨R19, e_19, hf⟩ := zbind_ex hf
              refine z_callRi (va_runV (As := [.ref (bM 0)]) (rest := []) ⟨hx, hb, hml, hown, hts⟩ (c_X4_lightOnScreen l dC dI cI cC cO (bM 2) aR R1 (bM 0) aB gB  R19 e_19) (cwV 1 hts gX6_countOfRays_X4_lightOnScreen rfl rfl rfl (by decide +kernel) ⟨Nat.le_of_ble_eq_true rfl, Nat.le_of_ble_eq_true rfl⟩) ⟨zpR_blind, va_recv hK hP (ci := 4) (q0 := 9) rfl rfl, z_useR hK hN hP [2, 1] rfl⟩ rfl rfl hl.1 rfl (lv_room (Nat.le_of_ble_eq_true rfl)) dX6_countOfRays_122 ⟨Nat.le_of_ble_eq_true rfl, Nat.le_of_ble_eq_true rfl⟩) ?_
              exact zM_ret (gs := [(wX6 qM bM gM), (wX0 cI (bM 0) aB gB), (wX4 cI (bM 2) aR R1), (wX1 cI (bM 3) aC gC)]) hx hb hr rfl hP hD hS (by rw [← Option.some.inj hf]; exact ⟨rfl, rfl⟩) hlk dX6_countOfRays_125
            · have hf := zif_f hf c_18
              by_cases c_20 : x1 = (8 : Int32)
              · have hf := zif_t hf c_20
                refine lv_tableIn (tgt := 126) (off := 114) hx hb dX6_countOfRays_12 (by rw [c_20]; decide) (by rw [c_20]; decide) (by rw [c_20]; first | done | rfl) (by decide) ?_
                refine lv_aload_n hx hb dX6_countOfRays_126 rfl (lv_at hl 0 rfl) ?_
                refine va_get (D := (dC, dI)) (ci := 6) (v := .ref (bM 0)) (C := RX6) (T := TX6) (N := 11) hx hb hts u_X6_countOfRays_X6 hown hK hP 0 rfl rfl 0 (by decide) (hts _ k_X6_countOfRays_2) (fun _ h9 => h9) rfl dX6_countOfRays_127 ?_
                obtain ⟨R21, e_21, hf⟩ := zbind_ex hf
                refine z_callRi (va_runV (As := []) (rest := []) ⟨hx, hb, hml, hown, hts⟩ (c_X0_lightOfAll l dC dI cI cC cO (bM 0) aB gB  R21 e_21) (cwV 0 hts gX6_countOfRays_X0_lightOfAll rfl rfl rfl (by decide +kernel) ⟨Nat.le_of_ble_eq_true rfl, Nat.le_of_ble_eq_true rfl⟩) ⟨zpR_blind, va_recv hK hP (ci := 0) (q0 := 1) rfl rfl, z_useR hK hN hP [1] rfl⟩ rfl rfl hl.1 rfl (lv_room (Nat.le_of_ble_eq_true rfl)) dX6_countOfRays_130 ⟨Nat.le_of_ble_eq_true rfl, Nat.le_of_ble_eq_true rfl⟩) ?_
                refine lv_aload_n hx hb dX6_countOfRays_133 rfl (lv_at hl 0 rfl) ?_
                refine va_get (D := (dC, dI)) (ci := 6) (v := .ref (bM 2)) (C := RX6) (T := TX6) (N := 11) hx hb hts u_X6_countOfRays_X6 hown hK hP 0 rfl rfl 2 (by decide) (hts _ k_X6_countOfRays_1) (fun _ h9 => h9) rfl dX6_countOfRays_134 ?_
                refine lv_aload_n hx hb dX6_countOfRays_137 rfl (lv_at hl 0 rfl) ?_
                refine va_get (D := (dC, dI)) (ci := 6) (v := .ref (bM 0)) (C := RX6) (T := TX6) (N := 11) hx hb hts u_X6_countOfRays_X6 hown hK hP 0 rfl rfl 0 (by decide) (hts _ k_X6_countOfRays_2) (fun _ h9 => h9) rfl dX6_countOfRays_138 ?_
                obtain ⟨R22, e_22, hf⟩ := zbind_ex hf
                refine z_callRi (va_runV (As := [.ref (bM 0)]) (rest := [.int R21]) ⟨hx, hb, hml, hown, hts⟩ (c_X4_lightOnScreen l dC dI cI cC cO (bM 2) aR R1 (bM 0) aB gB  R22 e_22) (cwV 1 hts gX6_countOfRays_X4_lightOnScreen rfl rfl rfl (by decide +kernel) ⟨Nat.le_of_ble_eq_true rfl, Nat.le_of_ble_eq_true rfl⟩) ⟨zpR_blind, va_recv hK hP (ci := 4) (q0 := 9) rfl rfl, z_useR hK hN hP [2, 1] rfl⟩ rfl rfl hl.1 rfl (lv_room (Nat.le_of_ble_eq_true rfl)) dX6_countOfRays_141 ⟨Nat.le_of_ble_eq_true rfl, Nat.le_of_ble_eq_true rfl⟩) ?_
                refine lv_isub hx hb dX6_countOfRays_144 ?_
                refine lv_aload_n hx hb dX6_countOfRays_145 rfl (lv_at hl 0 rfl) ?_
                refine va_get (D := (dC, dI)) (ci := 6) (v := .ref (bM 2)) (C := RX6) (T := TX6) (N := 11) hx hb hts u_X6_countOfRays_X6 hown hK hP 0 rfl rfl 2 (by decide) (hts _ k_X6_countOfRays_1) (fun _ h9 => h9) rfl dX6_countOfRays_146 ?_
                refine lv_aload_n hx hb dX6_countOfRays_149 rfl (lv_at hl 0 rfl) ?_
                refine va_get (D := (dC, dI)) (ci := 6) (v := .ref (bM 0)) (C := RX6) (T := TX6) (N := 11) hx hb hts u_X6_countOfRays_X6 hown hK hP 0 rfl rfl 0 (by decide) (hts _ k_X6_countOfRays_2) (fun _ h9 => h9) rfl dX6_countOfRays_150 ?_
                refine lv_sipush (v := (1000 : Int32)) hx hb dX6_countOfRays_153 (by decide) ?_
                obtain ⟨R23, e_23, hf⟩ := zbind_ex hf
                refine z_callRi (va_runV (As := [.ref (bM 0), .int (1000 : Int32)]) (rest := [.int (R21 - R22)]) ⟨hx, hb, hml, hown, hts⟩ (c_X4_lightLostAt l dC dI cI cC cO (bM 2) aR R1 (bM 0) aB gB (1000 : Int32) R23 e_23) (cwV 2 hts gX6_countOfRays_X4_lightLostAt rfl rfl rfl (by decide +kernel) ⟨Nat.le_of_ble_eq_true rfl, Nat.le_of_ble_eq_true rfl⟩) ⟨zpR_blind, va_recv hK hP (ci := 4) (q0 := 9) rfl rfl, z_useR hK hN hP [2, 1] rfl⟩ rfl rfl hl.1 rfl (lv_room (Nat.le_of_ble_eq_true rfl)) dX6_countOfRays_156 ⟨Nat.le_of_ble_eq_true rfl, Nat.le_of_ble_eq_true rfl⟩) ?_
                refine lv_isub hx hb dX6_countOfRays_159 ?_
                exact zM_ret (gs := [(wX6 qM bM gM), (wX0 cI (bM 0) aB gB), (wX4 cI (bM 2) aR R1), (wX1 cI (bM 3) aC gC)]) hx hb hr rfl hP hD hS (by rw [← Option.some.inj hf]; exact ⟨rfl, rfl⟩) hlk dX6_countOfRays_160
              · have hf := zif_f hf c_20
                by_cases c_24 : x1 = (9 : Int32)
                · have hf := zif_t hf c_24
                  refine lv_tableIn (tgt := 161) (off := 149) hx hb dX6_countOfRays_12 (by rw [c_24]; decide) (by rw [c_24]; decide) (by rw [c_24]; first | done | rfl) (by decide) ?_
                  refine lv_aload_n hx hb dX6_countOfRays_161 rfl (lv_at hl 0 rfl) ?_
                  refine va_get (D := (dC, dI)) (ci := 6) (v := .ref (bM 2)) (C := RX6) (T := TX6) (N := 11) hx hb hts u_X6_countOfRays_X6 hown hK hP 0 rfl rfl 2 (by decide) (hts _ k_X6_countOfRays_1) (fun _ h9 => h9) rfl dX6_countOfRays_162 ?_
                  refine lv_aload_n hx hb dX6_countOfRays_165 rfl (lv_at hl 0 rfl) ?_
                  refine va_get (D := (dC, dI)) (ci := 6) (v := .ref (bM 0)) (C := RX6) (T := TX6) (N := 11) hx hb hts u_X6_countOfRays_X6 hown hK hP 0 rfl rfl 0 (by decide) (hts _ k_X6_countOfRays_2) (fun _ h9 => h9) rfl dX6_countOfRays_166 ?_
                  refine lv_sipush (v := (1000 : Int32)) hx hb dX6_countOfRays_169 (by decide) ?_
                  obtain ⟨R25, e_25, hf⟩ := zbind_ex hf
                  refine z_callRi (va_runV (As := [.ref (bM 0), .int (1000 : Int32)]) (rest := []) ⟨hx, hb, hml, hown, hts⟩ (c_X4_lightLostAt l dC dI cI cC cO (bM 2) aR R1 (bM 0) aB gB (1000 : Int32) R25 e_25) (cwV 2 hts gX6_countOfRays_X4_lightLostAt rfl rfl rfl (by decide +kernel) ⟨Nat.le_of_ble_eq_true rfl, Nat.le_of_ble_eq_true rfl⟩) ⟨zpR_blind, va_recv hK hP (ci := 4) (q0 := 9) rfl rfl, z_useR hK hN hP [2, 1] rfl⟩ rfl rfl hl.1 rfl (lv_room (Nat.le_of_ble_eq_true rfl)) dX6_countOfRays_172 ⟨Nat.le_of_ble_eq_true rfl, Nat.le_of_ble_eq_true rfl⟩) ?_
                  exact zM_ret (gs := [(wX6 qM bM gM), (wX0 cI (bM 0) aB gB), (wX4 cI (bM 2) aR R1), (wX1 cI (bM 3) aC gC)]) hx hb hr rfl hP hD hS (by rw [← Option.some.inj hf]; exact ⟨rfl, rfl⟩) hlk dX6_countOfRays_175
                · have hf := zif_f hf c_24
                  by_cases c_26 : x1 = (10 : Int32)
                  · have hf := zif_t hf c_26
                    refine lv_tableIn (tgt := 176) (off := 164) hx hb dX6_countOfRays_12 (by rw [c_26]; decide) (by rw [c_26]; decide) (by rw [c_26]; first | done | rfl) (by decide) ?_
                    refine lv_aload_n hx hb dX6_countOfRays_176 rfl (lv_at hl 0 rfl) ?_
                    refine va_get (D := (dC, dI)) (ci := 6) (v := .ref (bM 3)) (C := RX6) (T := TX6) (N := 11) hx hb hts u_X6_countOfRays_X6 hown hK hP 0 rfl rfl 3 (by decide) (hts _ k_X6_countOfRays_3) (fun _ h9 => h9) rfl dX6_countOfRays_177 ?_
                    refine lv_aload_n hx hb dX6_countOfRays_180 rfl (lv_at hl 0 rfl) ?_
                    refine va_get (D := (dC, dI)) (ci := 6) (v := .ref (bM 0)) (C := RX6) (T := TX6) (N := 11) hx hb hts u_X6_countOfRays_X6 hown hK hP 0 rfl rfl 0 (by decide) (hts _ k_X6_countOfRays_2) (fun _ h9 => h9) rfl dX6_countOfRays_181 ?_
                    refine lv_aload_n hx hb dX6_countOfRays_184 rfl (lv_at hl 0 rfl) ?_
                    refine va_get (D := (dC, dI)) (ci := 6) (v := .ref (bM 2)) (C := RX6) (T := TX6) (N := 11) hx hb hts u_X6_countOfRays_X6 hown hK hP 0 rfl rfl 2 (by decide) (hts _ k_X6_countOfRays_1) (fun _ h9 => h9) rfl dX6_countOfRays_185 ?_
                    obtain ⟨R27, e_27, hf⟩ := zbind_ex hf
                    refine z_callM (gs2 := [(wX6 qM bM gM), (wX0 cI (bM 0) aB gB), (wX4 cI (bM 2) aR R1), (wX1 cI (bM 3) aC R27)]) hP hD hS hA [3, 1, 2] [0] rfl rfl rfl (show List.Perm [3, 1, 2, 0] (List.range 4) from by decide) rfl (va_runV (As := [.ref (bM 0), .ref (bM 2)]) (rest := []) ⟨hx, hb, hml, hown, hts⟩ (c_X1_gather l dC dI cI cC cO (bM 3) aC gC (bM 0) aB gB (bM 2) aR R1  R27 e_27 H.size) (cwV 2 hts gX6_countOfRays_X1_gather rfl rfl rfl (by decide +kernel) ⟨Nat.le_of_ble_eq_true rfl, Nat.le_of_ble_eq_true rfl⟩) ⟨zpM_blind, va_recv hK hP (ci := 1) (q0 := 14) rfl rfl, z_useM hK hN hP hD [3, 1, 2] [0] rfl (show List.Perm [3, 1, 2, 0] (List.range 4) from by decide)⟩ rfl rfl hl.1 rfl (lv_room (Nat.le_of_ble_eq_true rfl)) dX6_countOfRays_188 ⟨Nat.le_of_ble_eq_true rfl, Nat.le_of_ble_eq_true rfl⟩) (fun H locs hP hD hS => ?_)
                    refine W.eq (g2 := F0 m 191 ls []) rfl ?_
                    refine lv_aload_n hx hb dX6_countOfRays_191 rfl (lv_at hl 0 rfl) ?_
                    refine va_get (D := (dC, dI)) (ci := 6) (v := .ref (bM 3)) (C := RX6) (T := TX6) (N := 11) hx hb hts u_X6_countOfRays_X6 hown hK hP 0 rfl rfl 3 (by decide) (hts _ k_X6_countOfRays_3) (fun _ h9 => h9) rfl dX6_countOfRays_192 ?_
                    refine va_get (D := (dC, dI)) (ci := 1) (v := .int (R27 3 0)) (C := RX1) (T := TX1) (N := 4) hx hb hts u_X6_countOfRays_X1 hown hK hP 14 rfl rfl 3 (by decide) (hts _ k_X6_countOfRays_4) (fun _ h9 => h9) rfl dX6_countOfRays_195 ?_
                    exact zM_ret (gs := [(wX6 qM bM gM), (wX0 cI (bM 0) aB gB), (wX4 cI (bM 2) aR R1), (wX1 cI (bM 3) aC R27)]) hx hb hr rfl hP hD hS (by rw [← Option.some.inj hf]; exact ⟨rfl, rfl⟩) hlk dX6_countOfRays_198
                  · have hf := zif_f hf c_26
                    refine lv_tableOut (tgt := 199) hx hb dX6_countOfRays_12 (by have q_2 := zne_toInt c_2 (a := 2) (by decide); have q_4 := zne_toInt c_4 (a := 3) (by decide); have q_6 := zne_toInt c_6 (a := 4) (by decide); have q_9 := zne_toInt c_9 (a := 5) (by decide); have q_17 := zne_toInt c_17 (a := 6) (by decide); have q_18 := zne_toInt c_18 (a := 7) (by decide); have q_20 := zne_toInt c_20 (a := 8) (by decide); have q_24 := zne_toInt c_24 (a := 9) (by decide); have q_26 := zne_toInt c_26 (a := 10) (by decide); omega) (by decide) ?_
                    refine lv_ldc (v := (-1000000001 : Int32)) hx hb hown (hts _ k_X6_countOfRays_5) dX6_countOfRays_199 ?_
                    exact zM_ret (gs := [(wX6 qM bM gM), (wX0 cI (bM 0) aB gB), (wX4 cI (bM 2) aR R1), (wX1 cI (bM 3) aC gC)]) hx hb hr rfl hP hD hS (by rw [← Option.some.inj hf]; exact ⟨rfl, rfl⟩) hlk dX6_countOfRays_201

def f_X6_count (gM : zG) (gB : zG) (gR : zG) (gC : zG) (gX : zG) (gY : zG) (x1 : Int32) : Option (Int32 × zG × zG) := (if x1 = (0 : Int32) then (some ((gB 2 0), gR, gC)) else (if x1 = (1 : Int32) then (some ((gB 8 0), gR, gC)) else (if x1 = (6 : Int32) then (zbind (f_X0_lightOfAll gB) (fun R4 => (some (R4, gR, gC)))) else (if x1 = (11 : Int32) then (some ((gY 1 0), gR, gC)) else (if x1 = (12 : Int32) then (some ((gX 1 0), gR, gC)) else (if x1 = (20 : Int32) then (some ((gB 9 0), gR, gC)) else (zbind (f_X6_countOfRays gM gB gR gC x1) (fun R8 => (some (R8.1, R8.2.1, R8.2.2))))))))))
theorem u_X6_count_X6 : ∀ w ∈ u_ws RX6 TX6 11, w ∈ wsX6_count := fun w h => List.mem_cons_of_mem _ (List.mem_append_left _ (List.mem_append_left _ (List.mem_append_left _ (List.mem_append_left _ (List.mem_append_left _ (List.mem_append_right _ h))))))
theorem u_X6_count_X0 : ∀ w ∈ u_ws RX0 TX0 10, w ∈ wsX6_count := fun w h => List.mem_cons_of_mem _ (List.mem_append_left _ (List.mem_append_left _ (List.mem_append_left _ (List.mem_append_left _ (List.mem_append_right _ h)))))
theorem u_X6_count_X3 : ∀ w ∈ u_ws RX3 TX3 2, w ∈ wsX6_count := fun w h => List.mem_cons_of_mem _ (List.mem_append_left _ (List.mem_append_left _ (List.mem_append_left _ (List.mem_append_right _ h))))
theorem u_X6_count_X5 : ∀ w ∈ u_ws RX5 TX5 5, w ∈ wsX6_count := fun w h => List.mem_cons_of_mem _ (List.mem_append_left _ (List.mem_append_left _ (List.mem_append_right _ h)))
theorem k_X6_count_1 : Cond.fieldLink RX6 10 "JoinedLight" "bench" "LJoinedLight$Bench;" ∈ wsX6_count := List.mem_of_getElem? (i := 1) rfl
theorem k_X6_count_2 : Cond.fieldLink RX6 216 "JoinedLight$Bench" "lineCount" "I" ∈ wsX6_count := List.mem_of_getElem? (i := 2) rfl
theorem k_X6_count_3 : Cond.fieldLink RX6 219 "JoinedLight$Bench" "thingCount" "I" ∈ wsX6_count := List.mem_of_getElem? (i := 3) rfl
theorem k_X6_count_4 : Cond.fieldLink RX6 43 "JoinedLight" "history" "LJoinedLight$History;" ∈ wsX6_count := List.mem_of_getElem? (i := 4) rfl
theorem k_X6_count_5 : Cond.fieldLink RX6 222 "JoinedLight$History" "states" "I" ∈ wsX6_count := List.mem_of_getElem? (i := 5) rfl
theorem k_X6_count_6 : Cond.fieldLink RX6 50 "JoinedLight" "text" "LJoinedLight$Text;" ∈ wsX6_count := List.mem_of_getElem? (i := 6) rfl
theorem k_X6_count_7 : Cond.fieldLink RX6 225 "JoinedLight$Text" "length" "I" ∈ wsX6_count := List.mem_of_getElem? (i := 7) rfl
theorem k_X6_count_8 : Cond.fieldLink RX6 228 "JoinedLight$Bench" "cellWidth" "I" ∈ wsX6_count := List.mem_of_getElem? (i := 8) rfl
abbrev rm_X6_count : Room := { frames := 6, cells := 0, slots := 0, locals := 139 }
set_option maxHeartbeats 4000000 in
set_option maxRecDepth 100000 in
theorem c_X6_count (l : Launch) (dC : Nat → ClassId) (dI : Nat → Nat → Nat) (cI cC cO : ClassId) (qM : Nat) (bM : Nat → Nat) (gM : zG) (aB : Nat → Nat) (gB : zG) (aR : Nat → Nat) (gR : zG) (aC : Nat → Nat) (gC : zG) (aX : Nat → Nat) (gX : zG) (aY : Nat → Nat) (rmY : Nat → Option Nat) (gY : zG) (x1 : Int32) (R : Int32 × zG × zG) (hf : f_X6_count gM gB gR gC gX gY x1 = some R) : cM l (dC, dI) (zT cI cC cO) yX6_count wsX6_count rm_X6_count [.ref qM, .int x1] [(wX6 qM bM gM), (wX0 cI (bM 0) aB gB), (wX4 cI (bM 2) aR gR), (wX1 cI (bM 3) aC gC), (wX5 cI cC (bM 6) aX gX), (wX3 cO (bM 5) aY gY rmY)] [(wX6 qM bM gM), (wX0 cI (bM 0) aB gB), (wX4 cI (bM 2) aR R.2.1), (wX1 cI (bM 3) aC R.2.2), (wX5 cI cC (bM 6) aX gX), (wX3 cO (bM 5) aY gY rmY)] (some (.int R.1)) 0 0 := by
  refine zM_in (cc := cX6_count) (maxL := 2) (ret := (some .int)) (plainFor_of_name (by decide)) rfl (Nat.le_of_ble_eq_true rfl) ?_
  intro p e s m below meth c hx hb hml hr hlk hown hts hK hN A hA hP hD hS ls hl
  have hl : lv_has ls 2 [(0, .ref qM), (1, .int x1)] := hl
  unfold f_X6_count at hf
  obtain ⟨H, hH⟩ : ∃ H, H = s.heap := ⟨_, rfl⟩
  obtain ⟨locs, hlocs⟩ : ∃ locs : List Loc, locs = [] := ⟨_, rfl⟩
  have hS : va_S A s.heap H locs := by rw [hH, hlocs]; exact hS
  rw [← hH] at hP
  refine zheap hH hlocs ?_
  refine lv_iload_n hx hb dX6_count_0 rfl (lv_at hl 1 rfl) ?_
  by_cases c_1 : x1 = (0 : Int32)
  · have hf := zif_t hf c_1
    refine lv_lookup (tgt := 60) (off := 59) hx hb dX6_count_1 (by decide +kernel) (by rw [c_1]; first | done | rfl) (by decide) ?_
    refine lv_aload_n hx hb dX6_count_60 rfl (lv_at hl 0 rfl) ?_
    refine va_get (D := (dC, dI)) (ci := 6) (v := .ref (bM 0)) (C := RX6) (T := TX6) (N := 11) hx hb hts u_X6_count_X6 hown hK hP 0 rfl rfl 0 (by decide) (hts _ k_X6_count_1) (fun _ h9 => h9) rfl dX6_count_61 ?_
    refine va_get (D := (dC, dI)) (ci := 0) (v := .int (gB 2 0)) (C := RX0) (T := TX0) (N := 10) hx hb hts u_X6_count_X0 hown hK hP 1 rfl rfl 2 (by decide) (hts _ k_X6_count_2) (fun _ h9 => h9) rfl dX6_count_64 ?_
    exact zM_ret (gs := [(wX6 qM bM gM), (wX0 cI (bM 0) aB gB), (wX4 cI (bM 2) aR gR), (wX1 cI (bM 3) aC gC), (wX5 cI cC (bM 6) aX gX), (wX3 cO (bM 5) aY gY rmY)]) hx hb hr rfl hP hD hS (by rw [← Option.some.inj hf]; exact ⟨rfl, rfl⟩) hlk dX6_count_67
  · have hf := zif_f hf c_1
    by_cases c_2 : x1 = (1 : Int32)
    · have hf := zif_t hf c_2
      refine lv_lookup (tgt := 68) (off := 67) hx hb dX6_count_1 (by decide +kernel) (by rw [c_2]; first | done | rfl) (by decide) ?_
      refine lv_aload_n hx hb dX6_count_68 rfl (lv_at hl 0 rfl) ?_
      refine va_get (D := (dC, dI)) (ci := 6) (v := .ref (bM 0)) (C := RX6) (T := TX6) (N := 11) hx hb hts u_X6_count_X6 hown hK hP 0 rfl rfl 0 (by decide) (hts _ k_X6_count_1) (fun _ h9 => h9) rfl dX6_count_69 ?_
      refine va_get (D := (dC, dI)) (ci := 0) (v := .int (gB 8 0)) (C := RX0) (T := TX0) (N := 10) hx hb hts u_X6_count_X0 hown hK hP 1 rfl rfl 8 (by decide) (hts _ k_X6_count_3) (fun _ h9 => h9) rfl dX6_count_72 ?_
      exact zM_ret (gs := [(wX6 qM bM gM), (wX0 cI (bM 0) aB gB), (wX4 cI (bM 2) aR gR), (wX1 cI (bM 3) aC gC), (wX5 cI cC (bM 6) aX gX), (wX3 cO (bM 5) aY gY rmY)]) hx hb hr rfl hP hD hS (by rw [← Option.some.inj hf]; exact ⟨rfl, rfl⟩) hlk dX6_count_75
    · have hf := zif_f hf c_2
      by_cases c_3 : x1 = (6 : Int32)
      · have hf := zif_t hf c_3
        refine lv_lookup (tgt := 76) (off := 75) hx hb dX6_count_1 (by decide +kernel) (by rw [c_3]; first | done | rfl) (by decide) ?_
        refine lv_aload_n hx hb dX6_count_76 rfl (lv_at hl 0 rfl) ?_
        refine va_get (D := (dC, dI)) (ci := 6) (v := .ref (bM 0)) (C := RX6) (T := TX6) (N := 11) hx hb hts u_X6_count_X6 hown hK hP 0 rfl rfl 0 (by decide) (hts _ k_X6_count_1) (fun _ h9 => h9) rfl dX6_count_77 ?_
        obtain ⟨R4, e_4, hf⟩ := zbind_ex hf
        refine z_callRi (va_runV (As := []) (rest := []) ⟨hx, hb, hml, hown, hts⟩ (c_X0_lightOfAll l dC dI cI cC cO (bM 0) aB gB  R4 e_4) (cwV 0 hts gX6_count_X0_lightOfAll rfl rfl rfl (by decide +kernel) ⟨Nat.le_of_ble_eq_true rfl, Nat.le_of_ble_eq_true rfl⟩) ⟨zpR_blind, va_recv hK hP (ci := 0) (q0 := 1) rfl rfl, z_useR hK hN hP [1] rfl⟩ rfl rfl hl.1 rfl (lv_room (Nat.le_of_ble_eq_true rfl)) dX6_count_80 ⟨Nat.le_of_ble_eq_true rfl, Nat.le_of_ble_eq_true rfl⟩) ?_
        exact zM_ret (gs := [(wX6 qM bM gM), (wX0 cI (bM 0) aB gB), (wX4 cI (bM 2) aR gR), (wX1 cI (bM 3) aC gC), (wX5 cI cC (bM 6) aX gX), (wX3 cO (bM 5) aY gY rmY)]) hx hb hr rfl hP hD hS (by rw [← Option.some.inj hf]; exact ⟨rfl, rfl⟩) hlk dX6_count_83
      · have hf := zif_f hf c_3
        by_cases c_5 : x1 = (11 : Int32)
        · have hf := zif_t hf c_5
          refine lv_lookup (tgt := 84) (off := 83) hx hb dX6_count_1 (by decide +kernel) (by rw [c_5]; first | done | rfl) (by decide) ?_
          refine lv_aload_n hx hb dX6_count_84 rfl (lv_at hl 0 rfl) ?_
          refine va_get (D := (dC, dI)) (ci := 6) (v := .ref (bM 5)) (C := RX6) (T := TX6) (N := 11) hx hb hts u_X6_count_X6 hown hK hP 0 rfl rfl 5 (by decide) (hts _ k_X6_count_4) (fun _ h9 => h9) rfl dX6_count_85 ?_
          refine va_get (D := (dC, dI)) (ci := 3) (v := .int (gY 1 0)) (C := RX3) (T := TX3) (N := 2) hx hb hts u_X6_count_X3 hown hK hP 21 rfl rfl 1 (by decide) (hts _ k_X6_count_5) (fun _ h9 => h9) rfl dX6_count_88 ?_
          exact zM_ret (gs := [(wX6 qM bM gM), (wX0 cI (bM 0) aB gB), (wX4 cI (bM 2) aR gR), (wX1 cI (bM 3) aC gC), (wX5 cI cC (bM 6) aX gX), (wX3 cO (bM 5) aY gY rmY)]) hx hb hr rfl hP hD hS (by rw [← Option.some.inj hf]; exact ⟨rfl, rfl⟩) hlk dX6_count_91
        · have hf := zif_f hf c_5
          by_cases c_6 : x1 = (12 : Int32)
          · have hf := zif_t hf c_6
            refine lv_lookup (tgt := 92) (off := 91) hx hb dX6_count_1 (by decide +kernel) (by rw [c_6]; first | done | rfl) (by decide) ?_
            refine lv_aload_n hx hb dX6_count_92 rfl (lv_at hl 0 rfl) ?_
            refine va_get (D := (dC, dI)) (ci := 6) (v := .ref (bM 6)) (C := RX6) (T := TX6) (N := 11) hx hb hts u_X6_count_X6 hown hK hP 0 rfl rfl 6 (by decide) (hts _ k_X6_count_6) (fun _ h9 => h9) rfl dX6_count_93 ?_
            refine va_get (D := (dC, dI)) (ci := 5) (v := .int (gX 1 0)) (C := RX5) (T := TX5) (N := 5) hx hb hts u_X6_count_X5 hown hK hP 18 rfl rfl 1 (by decide) (hts _ k_X6_count_7) (fun _ h9 => h9) rfl dX6_count_96 ?_
            exact zM_ret (gs := [(wX6 qM bM gM), (wX0 cI (bM 0) aB gB), (wX4 cI (bM 2) aR gR), (wX1 cI (bM 3) aC gC), (wX5 cI cC (bM 6) aX gX), (wX3 cO (bM 5) aY gY rmY)]) hx hb hr rfl hP hD hS (by rw [← Option.some.inj hf]; exact ⟨rfl, rfl⟩) hlk dX6_count_99
          · have hf := zif_f hf c_6
            by_cases c_7 : x1 = (20 : Int32)
            · have hf := zif_t hf c_7
              refine lv_lookup (tgt := 100) (off := 99) hx hb dX6_count_1 (by decide +kernel) (by rw [c_7]; first | done | rfl) (by decide) ?_
              refine lv_aload_n hx hb dX6_count_100 rfl (lv_at hl 0 rfl) ?_
              refine va_get (D := (dC, dI)) (ci := 6) (v := .ref (bM 0)) (C := RX6) (T := TX6) (N := 11) hx hb hts u_X6_count_X6 hown hK hP 0 rfl rfl 0 (by decide) (hts _ k_X6_count_1) (fun _ h9 => h9) rfl dX6_count_101 ?_
              refine va_get (D := (dC, dI)) (ci := 0) (v := .int (gB 9 0)) (C := RX0) (T := TX0) (N := 10) hx hb hts u_X6_count_X0 hown hK hP 1 rfl rfl 9 (by decide) (hts _ k_X6_count_8) (fun _ h9 => h9) rfl dX6_count_104 ?_
              exact zM_ret (gs := [(wX6 qM bM gM), (wX0 cI (bM 0) aB gB), (wX4 cI (bM 2) aR gR), (wX1 cI (bM 3) aC gC), (wX5 cI cC (bM 6) aX gX), (wX3 cO (bM 5) aY gY rmY)]) hx hb hr rfl hP hD hS (by rw [← Option.some.inj hf]; exact ⟨rfl, rfl⟩) hlk dX6_count_107
            · have hf := zif_f hf c_7
              refine lv_lookup (tgt := 108) (off := 107) hx hb dX6_count_1 (by decide +kernel) (by show Op.lookupswitch.offset [((0 : Int), (59 : Int)), ((1 : Int), (67 : Int)), ((6 : Int), (75 : Int)), ((11 : Int), (83 : Int)), ((12 : Int), (91 : Int)), ((20 : Int), (99 : Int))] _ _ = _; rw [lv_osw (a := 0) c_1 (by decide)]; rw [lv_osw (a := 1) c_2 (by decide)]; rw [lv_osw (a := 6) c_3 (by decide)]; rw [lv_osw (a := 11) c_5 (by decide)]; rw [lv_osw (a := 12) c_6 (by decide)]; rw [lv_osw (a := 20) c_7 (by decide)]; first | done | rfl) (by decide) ?_
              refine lv_aload_n hx hb dX6_count_108 rfl (lv_at hl 0 rfl) ?_
              refine lv_iload_n hx hb dX6_count_109 rfl (lv_at hl 1 rfl) ?_
              obtain ⟨R8, e_8, hf⟩ := zbind_ex hf
              refine z_callM (gs2 := [(wX6 qM bM gM), (wX0 cI (bM 0) aB gB), (wX4 cI (bM 2) aR R8.2.1), (wX1 cI (bM 3) aC R8.2.2), (wX5 cI cC (bM 6) aX gX), (wX3 cO (bM 5) aY gY rmY)]) hP hD hS hA [0, 1, 2, 3] [4, 5] rfl rfl rfl (show List.Perm [0, 1, 2, 3, 4, 5] (List.range 6) from by decide) rfl (va_runV (As := [.int x1]) (rest := []) ⟨hx, hb, hml, hown, hts⟩ (c_X6_countOfRays l dC dI cI cC cO qM bM gM aB gB aR gR aC gC x1 R8 e_8 H.size) (cwV 1 hts gX6_count_X6_countOfRays rfl rfl rfl (by decide +kernel) ⟨Nat.le_of_ble_eq_true rfl, Nat.le_of_ble_eq_true rfl⟩) ⟨zpM_blind, va_recv hK hP (ci := 6) (q0 := 0) rfl rfl, z_useM hK hN hP hD [0, 1, 2, 3] [4, 5] rfl (show List.Perm [0, 1, 2, 3, 4, 5] (List.range 6) from by decide)⟩ rfl rfl hl.1 rfl (lv_room (Nat.le_of_ble_eq_true rfl)) dX6_count_110 ⟨Nat.le_of_ble_eq_true rfl, Nat.le_of_ble_eq_true rfl⟩) (fun H locs hP hD hS => ?_)
              refine W.eq (g2 := F0 m 113 ls [.int R8.1]) rfl ?_
              exact zM_ret (gs := [(wX6 qM bM gM), (wX0 cI (bM 0) aB gB), (wX4 cI (bM 2) aR R8.2.1), (wX1 cI (bM 3) aC R8.2.2), (wX5 cI cC (bM 6) aX gX), (wX3 cO (bM 5) aY gY rmY)]) hx hb hr rfl hP hD hS (by rw [← Option.some.inj hf]; exact ⟨rfl, rfl⟩) hlk dX6_count_113

def f_X6_type (gM : zG) (gX : zG) (x1 : Int32) : Option (Int32 × zG) := (zbind (f_X6_within x1 (32 : Int32) (126 : Int32)) (fun R1 => (if R1 = 0 then (some ((-1000000001 : Int32), gX)) else (zbind (f_X5_append gX (((x1).toUInt32 % 65536).toInt32)) (fun R3 => (if R3.1 = 0 then (some ((-1000000003 : Int32), R3.2)) else (some ((R3.2 1 0), R3.2))))))))
theorem u_X6_type_X6 : ∀ w ∈ u_ws RX6 TX6 11, w ∈ wsX6_type := fun w h => List.mem_cons_of_mem _ (List.mem_append_left _ (List.mem_append_right _ h))
theorem u_X6_type_X5 : ∀ w ∈ u_ws RX5 TX5 5, w ∈ wsX6_type := fun w h => List.mem_cons_of_mem _ (List.mem_append_right _ h)
theorem k_X6_type_2 : Cond.fieldLink RX6 50 "JoinedLight" "text" "LJoinedLight$Text;" ∈ wsX6_type := List.mem_of_getElem? (i := 2) rfl
theorem k_X6_type_4 : Cond.constant RX6 242 (-1000000003) ∈ wsX6_type := List.mem_of_getElem? (i := 4) rfl
theorem k_X6_type_3 : Cond.fieldLink RX6 225 "JoinedLight$Text" "length" "I" ∈ wsX6_type := List.mem_of_getElem? (i := 3) rfl
theorem k_X6_type_1 : Cond.constant RX6 94 (-1000000001) ∈ wsX6_type := List.mem_of_getElem? (i := 1) rfl
abbrev rm_X6_type : Room := { frames := 1, cells := 0, slots := 0, locals := 22 }
set_option maxHeartbeats 4000000 in
set_option maxRecDepth 100000 in
theorem c_X6_type (l : Launch) (dC : Nat → ClassId) (dI : Nat → Nat → Nat) (cI cC cO : ClassId) (qM : Nat) (bM : Nat → Nat) (gM : zG) (aX : Nat → Nat) (gX : zG) (x1 : Int32) (R : Int32 × zG) (hf : f_X6_type gM gX x1 = some R) : cM l (dC, dI) (zT cI cC cO) yX6_type wsX6_type rm_X6_type [.ref qM, .int x1] [(wX6 qM bM gM), (wX5 cI cC (bM 6) aX gX)] [(wX6 qM bM gM), (wX5 cI cC (bM 6) aX R.2)] (some (.int R.1)) 0 0 := by
  refine zM_in (cc := cX6_type) (maxL := 2) (ret := (some .int)) (plainFor_of_name (by decide)) rfl (Nat.le_of_ble_eq_true rfl) ?_
  intro p e s m below meth c hx hb hml hr hlk hown hts hK hN A hA hP hD hS ls hl
  have hl : lv_has ls 2 [(0, .ref qM), (1, .int x1)] := hl
  unfold f_X6_type at hf
  obtain ⟨H, hH⟩ : ∃ H, H = s.heap := ⟨_, rfl⟩
  obtain ⟨locs, hlocs⟩ : ∃ locs : List Loc, locs = [] := ⟨_, rfl⟩
  have hS : va_S A s.heap H locs := by rw [hH, hlocs]; exact hS
  rw [← hH] at hP
  refine zheap hH hlocs ?_
  refine lv_iload_n hx hb dX6_type_0 rfl (lv_at hl 1 rfl) ?_
  refine lv_bipush (v := (32 : Int32)) hx hb dX6_type_1 (by decide) ?_
  refine lv_bipush (v := (126 : Int32)) hx hb dX6_type_3 (by decide) ?_
  obtain ⟨R1, e_1, hf⟩ := zbind_ex hf
  refine z_callRi (va_runS (As := [.int x1, .int (32 : Int32), .int (126 : Int32)]) (rest := []) ⟨hx, hb, hml, hown, hts⟩ (c_X6_within l dC dI cI cC cO  x1 (32 : Int32) (126 : Int32) R1 e_1) (va_cwS 3 hts gX6_type_X6_within rfl rfl rfl (by decide +kernel) ⟨Nat.le_of_ble_eq_true rfl, Nat.le_of_ble_eq_true rfl⟩) ⟨zpR_blind, z_useR hK hN hP [] rfl⟩ rfl rfl hl.1 rfl (lv_room (Nat.le_of_ble_eq_true rfl)) dX6_type_5 ⟨Nat.le_of_ble_eq_true rfl, Nat.le_of_ble_eq_true rfl⟩) ?_
  refine lv_if_ne (tgt := 14) hx hb dX6_type_8 (by decide) (fun c_2 => ?_) (fun c_2 => ?_)
  · have hf := zif_f hf c_2
    refine lv_aload_n hx hb dX6_type_14 rfl (lv_at hl 0 rfl) ?_
    refine va_get (D := (dC, dI)) (ci := 6) (v := .ref (bM 6)) (C := RX6) (T := TX6) (N := 11) hx hb hts u_X6_type_X6 hown hK hP 0 rfl rfl 6 (by decide) (hts _ k_X6_type_2) (fun _ h9 => h9) rfl dX6_type_15 ?_
    refine lv_iload_n hx hb dX6_type_18 rfl (lv_at hl 1 rfl) ?_
    refine lv_i2c (v := ((x1).toUInt32 % 65536).toInt32) hx hb dX6_type_19 rfl ?_
    obtain ⟨R3, e_3, hf⟩ := zbind_ex hf
    refine z_callM (gs2 := [(wX6 qM bM gM), (wX5 cI cC (bM 6) aX R3.2)]) hP hD hS hA [1] [0] rfl rfl rfl (show List.Perm [1, 0] (List.range 2) from by decide) rfl (va_runV (As := [.int (((x1).toUInt32 % 65536).toInt32)]) (rest := []) ⟨hx, hb, hml, hown, hts⟩ (c_X5_append l dC dI cI cC cO (bM 6) aX gX (((x1).toUInt32 % 65536).toInt32) R3 e_3 H.size) (cwV 1 hts gX6_type_X5_append rfl rfl rfl (by decide +kernel) ⟨Nat.le_of_ble_eq_true rfl, Nat.le_of_ble_eq_true rfl⟩) ⟨zpM_blind, va_recv hK hP (ci := 5) (q0 := 1) rfl rfl, z_useM hK hN hP hD [1] [0] rfl (show List.Perm [1, 0] (List.range 2) from by decide)⟩ rfl rfl hl.1 rfl (lv_room (Nat.le_of_ble_eq_true rfl)) dX6_type_20 ⟨Nat.le_of_ble_eq_true rfl, Nat.le_of_ble_eq_true rfl⟩) (fun H locs hP hD hS => ?_)
    refine W.eq (g2 := F0 m 23 ls [.int R3.1]) rfl ?_
    refine lv_if_eq (tgt := 36) hx hb dX6_type_23 (by decide) (fun c_4 => ?_) (fun c_4 => ?_)
    · have hf := zif_t hf c_4
      refine lv_ldc (v := (-1000000003 : Int32)) hx hb hown (hts _ k_X6_type_4) dX6_type_36 ?_
      exact zM_ret (gs := [(wX6 qM bM gM), (wX5 cI cC (bM 6) aX R3.2)]) hx hb hr rfl hP hD hS (by rw [← Option.some.inj hf]; exact ⟨rfl, rfl⟩) hlk dX6_type_38
    · have hf := zif_f hf c_4
      refine lv_aload_n hx hb dX6_type_26 rfl (lv_at hl 0 rfl) ?_
      refine va_get (D := (dC, dI)) (ci := 6) (v := .ref (bM 6)) (C := RX6) (T := TX6) (N := 11) hx hb hts u_X6_type_X6 hown hK hP 0 rfl rfl 6 (by decide) (hts _ k_X6_type_2) (fun _ h9 => h9) rfl dX6_type_27 ?_
      refine va_get (D := (dC, dI)) (ci := 5) (v := .int (R3.2 1 0)) (C := RX5) (T := TX5) (N := 5) hx hb hts u_X6_type_X5 hown hK hP 1 rfl rfl 1 (by decide) (hts _ k_X6_type_3) (fun _ h9 => h9) rfl dX6_type_30 ?_
      refine lv_goto (tgt := 38) hx hb dX6_type_33 (by decide) ?_
      exact zM_ret (gs := [(wX6 qM bM gM), (wX5 cI cC (bM 6) aX R3.2)]) hx hb hr rfl hP hD hS (by rw [← Option.some.inj hf]; exact ⟨rfl, rfl⟩) hlk dX6_type_38
  · have hf := zif_t hf c_2
    refine lv_ldc (v := (-1000000001 : Int32)) hx hb hown (hts _ k_X6_type_1) dX6_type_11 ?_
    exact zM_ret (gs := [(wX6 qM bM gM), (wX5 cI cC (bM 6) aX gX)]) hx hb hr rfl hP hD hS (by rw [← Option.some.inj hf]; exact ⟨rfl, rfl⟩) hlk dX6_type_13

def f_X6_clearText (gM : zG) (gX : zG)  : Option (Int32 × zG) := (zlet (gup gX 1 0 (0 : Int32)) (fun gX_1 => (some ((gX 1 0), gX_1))))
theorem u_X6_clearText_X6 : ∀ w ∈ u_ws RX6 TX6 11, w ∈ wsX6_clearText := fun w h => List.mem_cons_of_mem _ (List.mem_append_left _ (List.mem_append_right _ h))
theorem u_X6_clearText_X5 : ∀ w ∈ u_ws RX5 TX5 5, w ∈ wsX6_clearText := fun w h => List.mem_cons_of_mem _ (List.mem_append_right _ h)
theorem k_X6_clearText_1 : Cond.fieldLink RX6 50 "JoinedLight" "text" "LJoinedLight$Text;" ∈ wsX6_clearText := List.mem_of_getElem? (i := 1) rfl
theorem k_X6_clearText_2 : Cond.fieldLink RX6 225 "JoinedLight$Text" "length" "I" ∈ wsX6_clearText := List.mem_of_getElem? (i := 2) rfl
abbrev rm_X6_clearText : Room := { frames := 0, cells := 0, slots := 0, locals := 0 }
set_option maxHeartbeats 4000000 in
set_option maxRecDepth 100000 in
theorem c_X6_clearText (l : Launch) (dC : Nat → ClassId) (dI : Nat → Nat → Nat) (cI cC cO : ClassId) (qM : Nat) (bM : Nat → Nat) (gM : zG) (aX : Nat → Nat) (gX : zG)  (R : Int32 × zG) (hf : f_X6_clearText gM gX = some R) : cM l (dC, dI) (zT cI cC cO) yX6_clearText wsX6_clearText rm_X6_clearText [.ref qM] [(wX6 qM bM gM), (wX5 cI cC (bM 6) aX gX)] [(wX6 qM bM gM), (wX5 cI cC (bM 6) aX R.2)] (some (.int R.1)) 0 0 := by
  refine zM_in (cc := cX6_clearText) (maxL := 2) (ret := (some .int)) (plainFor_of_name (by decide)) rfl (Nat.le_of_ble_eq_true rfl) ?_
  intro p e s m below meth c hx hb hml hr hlk hown hts hK hN A hA hP hD hS ls hl
  have hl : lv_has ls 2 [(0, .ref qM)] := hl
  unfold f_X6_clearText at hf
  obtain ⟨H, hH⟩ : ∃ H, H = s.heap := ⟨_, rfl⟩
  obtain ⟨locs, hlocs⟩ : ∃ locs : List Loc, locs = [] := ⟨_, rfl⟩
  have hS : va_S A s.heap H locs := by rw [hH, hlocs]; exact hS
  rw [← hH] at hP
  refine zheap hH hlocs ?_
  refine lv_aload_n hx hb dX6_clearText_0 rfl (lv_at hl 0 rfl) ?_
  refine va_get (D := (dC, dI)) (ci := 6) (v := .ref (bM 6)) (C := RX6) (T := TX6) (N := 11) hx hb hts u_X6_clearText_X6 hown hK hP 0 rfl rfl 6 (by decide) (hts _ k_X6_clearText_1) (fun _ h9 => h9) rfl dX6_clearText_1 ?_
  refine va_get (D := (dC, dI)) (ci := 5) (v := .int (gX 1 0)) (C := RX5) (T := TX5) (N := 5) hx hb hts u_X6_clearText_X5 hown hK hP 1 rfl rfl 1 (by decide) (hts _ k_X6_clearText_2) (fun _ h9 => h9) rfl dX6_clearText_4 ?_
  refine lv_istore_n (lv' := [(1, .int (gX 1 0)), (0, .ref qM)]) hx hb dX6_clearText_7 rfl hl (by decide) rfl (fun ls hl => ?_)
  refine lv_aload_n hx hb dX6_clearText_8 rfl (lv_at hl 1 rfl) ?_
  refine va_get (D := (dC, dI)) (ci := 6) (v := .ref (bM 6)) (C := RX6) (T := TX6) (N := 11) hx hb hts u_X6_clearText_X6 hown hK hP 0 rfl rfl 6 (by decide) (hts _ k_X6_clearText_1) (fun _ h9 => h9) rfl dX6_clearText_9 ?_
  refine lv_iconst (v := (0 : Int32)) hx hb dX6_clearText_12 (by decide) ?_
  obtain ⟨gX_1, e_1, hf⟩ := zlet_ex hf
  refine z_put (gs' := [(wX6 qM bM gM), (wX5 cI cC (bM 6) aX gX_1)]) (D := (dC, dI)) (ci := 5) (ty := .int) (C := RX5) (T := TX5) (N := 5) hx hb hts u_X6_clearText_X5 tyX5 tyX5_ok nmX5 hown hK hP hD hS 1 rfl rfl 1 (by decide) (hts _ k_X6_clearText_2) (fun _ h9 => h9) rfl (by decide +kernel) rfl rfl (Nat.le_of_ble_eq_true rfl) (by rw [e_1]; rfl) dX6_clearText_13 (fun H locs hP hD hS => ?_)
  refine lv_iload_n hx hb dX6_clearText_16 rfl (lv_at hl 0 rfl) ?_
  exact zM_ret (gs := [(wX6 qM bM gM), (wX5 cI cC (bM 6) aX gX_1)]) hx hb hr rfl hP hD hS (by rw [← Option.some.inj hf]; exact ⟨rfl, rfl⟩) hlk dX6_clearText_17

def f_X6_noteFault (gM : zG) (x1 : Int32) (x2 : Int32) (x3 : Int32) : Option (zG) := (zlet (gup gM 7 0 x1) (fun gM_1 => (zlet (gup gM_1 8 0 x2) (fun gM_2 => (zlet (gup gM_2 9 0 x3) (fun gM_3 => (some (gM_3))))))))
theorem u_X6_noteFault_X6 : ∀ w ∈ u_ws RX6 TX6 11, w ∈ wsX6_noteFault := fun w h => List.mem_cons_of_mem _ (List.mem_append_right _ h)
theorem k_X6_noteFault_1 : Cond.fieldLink RX6 249 "JoinedLight" "faultPosition" "I" ∈ wsX6_noteFault := List.mem_of_getElem? (i := 1) rfl
theorem k_X6_noteFault_2 : Cond.fieldLink RX6 246 "JoinedLight" "faultReason" "I" ∈ wsX6_noteFault := List.mem_of_getElem? (i := 2) rfl
theorem k_X6_noteFault_3 : Cond.fieldLink RX6 252 "JoinedLight" "faultCause" "I" ∈ wsX6_noteFault := List.mem_of_getElem? (i := 3) rfl
abbrev rm_X6_noteFault : Room := { frames := 0, cells := 0, slots := 0, locals := 0 }
set_option maxHeartbeats 4000000 in
set_option maxRecDepth 100000 in
theorem c_X6_noteFault (l : Launch) (dC : Nat → ClassId) (dI : Nat → Nat → Nat) (cI cC cO : ClassId) (qM : Nat) (bM : Nat → Nat) (gM : zG) (x1 : Int32) (x2 : Int32) (x3 : Int32) (R : zG) (hf : f_X6_noteFault gM x1 x2 x3 = some R) : cM l (dC, dI) (zT cI cC cO) yX6_noteFault wsX6_noteFault rm_X6_noteFault [.ref qM, .int x1, .int x2, .int x3] [(wX6 qM bM gM)] [(wX6 qM bM R)] none 0 0 := by
  refine zM_in (cc := cX6_noteFault) (maxL := 4) (ret := none) (plainFor_of_name (by decide)) rfl (Nat.le_of_ble_eq_true rfl) ?_
  intro p e s m below meth c hx hb hml hr hlk hown hts hK hN A hA hP hD hS ls hl
  have hl : lv_has ls 4 [(0, .ref qM), (1, .int x1), (2, .int x2), (3, .int x3)] := hl
  unfold f_X6_noteFault at hf
  obtain ⟨H, hH⟩ : ∃ H, H = s.heap := ⟨_, rfl⟩
  obtain ⟨locs, hlocs⟩ : ∃ locs : List Loc, locs = [] := ⟨_, rfl⟩
  have hS : va_S A s.heap H locs := by rw [hH, hlocs]; exact hS
  rw [← hH] at hP
  refine zheap hH hlocs ?_
  refine lv_aload_n hx hb dX6_noteFault_0 rfl (lv_at hl 0 rfl) ?_
  refine lv_iload_n hx hb dX6_noteFault_1 rfl (lv_at hl 1 rfl) ?_
  obtain ⟨gM_1, e_1, hf⟩ := zlet_ex hf
  refine z_put (gs' := [(wX6 qM bM gM_1)]) (D := (dC, dI)) (ci := 6) (ty := .int) (C := RX6) (T := TX6) (N := 11) hx hb hts u_X6_noteFault_X6 tyX6 tyX6_ok nmX6 hown hK hP hD hS 0 rfl rfl 7 (by decide) (hts _ k_X6_noteFault_1) (fun _ h9 => h9) rfl (by decide +kernel) rfl rfl (Nat.le_of_ble_eq_true rfl) (by rw [e_1]; rfl) dX6_noteFault_2 (fun H locs hP hD hS => ?_)
  refine lv_aload_n hx hb dX6_noteFault_5 rfl (lv_at hl 0 rfl) ?_
  refine lv_iload_n hx hb dX6_noteFault_6 rfl (lv_at hl 2 rfl) ?_
  obtain ⟨gM_2, e_2, hf⟩ := zlet_ex hf
  refine z_put (gs' := [(wX6 qM bM gM_2)]) (D := (dC, dI)) (ci := 6) (ty := .int) (C := RX6) (T := TX6) (N := 11) hx hb hts u_X6_noteFault_X6 tyX6 tyX6_ok nmX6 hown hK hP hD hS 0 rfl rfl 8 (by decide) (hts _ k_X6_noteFault_2) (fun _ h9 => h9) rfl (by decide +kernel) rfl rfl (Nat.le_of_ble_eq_true rfl) (by rw [e_2]; rfl) dX6_noteFault_7 (fun H locs hP hD hS => ?_)
  refine lv_aload_n hx hb dX6_noteFault_10 rfl (lv_at hl 0 rfl) ?_
  refine lv_iload_n hx hb dX6_noteFault_11 rfl (lv_at hl 3 rfl) ?_
  obtain ⟨gM_3, e_3, hf⟩ := zlet_ex hf
  refine z_put (gs' := [(wX6 qM bM gM_3)]) (D := (dC, dI)) (ci := 6) (ty := .int) (C := RX6) (T := TX6) (N := 11) hx hb hts u_X6_noteFault_X6 tyX6 tyX6_ok nmX6 hown hK hP hD hS 0 rfl rfl 9 (by decide) (hts _ k_X6_noteFault_3) (fun _ h9 => h9) rfl (by decide +kernel) rfl rfl (Nat.le_of_ble_eq_true rfl) (by rw [e_3]; rfl) dX6_noteFault_12 (fun H locs hP hD hS => ?_)
  exact zM_vret (gs := [(wX6 qM bM gM_3)]) hx hb hr hP hD hS (by rw [← Option.some.inj hf]; exact ⟨rfl, rfl⟩) hlk dX6_noteFault_15

def f_X6_doOrder (gM : zG) (gT : zG) (gX : zG)  : Option (Int32 × zG) := (zin (0 : Int32) 3 (zin (1 : Int32) 3 (zin (2 : Int32) 3 (if (gX 2 0) = (100 : Int32) then (zbind (f_X0_addPrism gT (gX 3 (0 : Int32).toNatClampNeg) (gX 3 (1 : Int32).toNatClampNeg) (gX 3 (2 : Int32).toNatClampNeg) (-1 : Int32)) (fun R5 => (some (R5.1, R5.2)))) else (if (gX 2 0) = (108 : Int32) then (zbind (f_X0_addLine gT (gX 3 (0 : Int32).toNatClampNeg) (gX 3 (1 : Int32).toNatClampNeg)) (fun R7 => (some (R7.1, R7.2)))) else (if (gX 2 0) = (115 : Int32) then (zbind (f_X0_addSlit gT (gX 3 (0 : Int32).toNatClampNeg) (-(gX 3 (1 : Int32).toNatClampNeg)) (gX 3 (1 : Int32).toNatClampNeg)) (fun R9 => (some (R9.1, R9.2)))) else (if (gX 2 0) = (117 : Int32) then (zbind (f_X0_addPrism gT (gX 3 (0 : Int32).toNatClampNeg) (gX 3 (1 : Int32).toNatClampNeg) (gX 3 (2 : Int32).toNatClampNeg) (1 : Int32)) (fun R11 => (some (R11.1, R11.2)))) else (zbind (f_X0_removeThing gT (gX 3 (0 : Int32).toNatClampNeg)) (fun R12 => (some (R12.1, R12.2)))))))))))
theorem u_X6_doOrder_X6 : ∀ w ∈ u_ws RX6 TX6 11, w ∈ wsX6_doOrder := fun w h => List.mem_cons_of_mem _ (List.mem_append_left _ (List.mem_append_left _ (List.mem_append_right _ h)))
theorem u_X6_doOrder_X5 : ∀ w ∈ u_ws RX5 TX5 5, w ∈ wsX6_doOrder := fun w h => List.mem_cons_of_mem _ (List.mem_append_left _ (List.mem_append_right _ h))
theorem k_X6_doOrder_1 : Cond.fieldLink RX6 50 "JoinedLight" "text" "LJoinedLight$Text;" ∈ wsX6_doOrder := List.mem_of_getElem? (i := 1) rfl
theorem k_X6_doOrder_2 : Cond.fieldLink RX6 310 "JoinedLight$Text" "numbers" "[I" ∈ wsX6_doOrder := List.mem_of_getElem? (i := 2) rfl
theorem k_X6_doOrder_3 : Cond.fieldLink RX6 311 "JoinedLight$Text" "letter" "C" ∈ wsX6_doOrder := List.mem_of_getElem? (i := 3) rfl
theorem k_X6_doOrder_4 : Cond.fieldLink RX6 16 "JoinedLight" "trial" "LJoinedLight$Bench;" ∈ wsX6_doOrder := List.mem_of_getElem? (i := 4) rfl
abbrev rm_X6_doOrder : Room := { frames := 4, cells := 0, slots := 0, locals := 96 }
set_option maxHeartbeats 4000000 in
set_option maxRecDepth 100000 in
theorem c_X6_doOrder (l : Launch) (dC : Nat → ClassId) (dI : Nat → Nat → Nat) (cI cC cO : ClassId) (qM : Nat) (bM : Nat → Nat) (gM : zG) (aT : Nat → Nat) (gT : zG) (aX : Nat → Nat) (gX : zG)  (R : Int32 × zG) (hf : f_X6_doOrder gM gT gX = some R) : cM l (dC, dI) (zT cI cC cO) yX6_doOrder wsX6_doOrder rm_X6_doOrder [.ref qM] [(wX6 qM bM gM), (wX0 cI (bM 1) aT gT), (wX5 cI cC (bM 6) aX gX)] [(wX6 qM bM gM), (wX0 cI (bM 1) aT R.2), (wX5 cI cC (bM 6) aX gX)] (some (.int R.1)) 0 0 := by
  refine zM_in (cc := cX6_doOrder) (maxL := 4) (ret := (some .int)) (plainFor_of_name (by decide)) rfl (Nat.le_of_ble_eq_true rfl) ?_
  intro p e s m below meth c hx hb hml hr hlk hown hts hK hN A hA hP hD hS ls hl
  have hl : lv_has ls 4 [(0, .ref qM)] := hl
  unfold f_X6_doOrder at hf
  obtain ⟨H, hH⟩ : ∃ H, H = s.heap := ⟨_, rfl⟩
  obtain ⟨locs, hlocs⟩ : ∃ locs : List Loc, locs = [] := ⟨_, rfl⟩
  have hS : va_S A s.heap H locs := by rw [hH, hlocs]; exact hS
  rw [← hH] at hP
  refine zheap hH hlocs ?_
  refine lv_aload_n hx hb dX6_doOrder_0 rfl (lv_at hl 0 rfl) ?_
  refine va_get (D := (dC, dI)) (ci := 6) (v := .ref (bM 6)) (C := RX6) (T := TX6) (N := 11) hx hb hts u_X6_doOrder_X6 hown hK hP 0 rfl rfl 6 (by decide) (hts _ k_X6_doOrder_1) (fun _ h9 => h9) rfl dX6_doOrder_1 ?_
  refine va_get (D := (dC, dI)) (ci := 5) (v := .ref (aX 3)) (C := RX5) (T := TX5) (N := 5) hx hb hts u_X6_doOrder_X5 hown hK hP 9 rfl rfl 3 (by decide) (hts _ k_X6_doOrder_2) (fun _ h9 => h9) rfl dX6_doOrder_4 ?_
  refine lv_iconst (v := (0 : Int32)) hx hb dX6_doOrder_7 (by decide) ?_
  obtain ⟨h_1, hf⟩ := zin_ex hf
  refine va_iald hx hb hK hP 11 0 rfl rfl h_1 dX6_doOrder_8 ?_
  refine lv_istore_n (lv' := [(1, .int (gX 3 (0 : Int32).toNatClampNeg)), (0, .ref qM)]) hx hb dX6_doOrder_9 rfl hl (by decide) rfl (fun ls hl => ?_)
  refine lv_aload_n hx hb dX6_doOrder_10 rfl (lv_at hl 1 rfl) ?_
  refine va_get (D := (dC, dI)) (ci := 6) (v := .ref (bM 6)) (C := RX6) (T := TX6) (N := 11) hx hb hts u_X6_doOrder_X6 hown hK hP 0 rfl rfl 6 (by decide) (hts _ k_X6_doOrder_1) (fun _ h9 => h9) rfl dX6_doOrder_11 ?_
  refine va_get (D := (dC, dI)) (ci := 5) (v := .ref (aX 3)) (C := RX5) (T := TX5) (N := 5) hx hb hts u_X6_doOrder_X5 hown hK hP 9 rfl rfl 3 (by decide) (hts _ k_X6_doOrder_2) (fun _ h9 => h9) rfl dX6_doOrder_14 ?_
  refine lv_iconst (v := (1 : Int32)) hx hb dX6_doOrder_17 (by decide) ?_
  obtain ⟨h_2, hf⟩ := zin_ex hf
  refine va_iald hx hb hK hP 11 0 rfl rfl h_2 dX6_doOrder_18 ?_
  refine lv_istore_n (lv' := [(2, .int (gX 3 (1 : Int32).toNatClampNeg)), (1, .int (gX 3 (0 : Int32).toNatClampNeg)), (0, .ref qM)]) hx hb dX6_doOrder_19 rfl hl (by decide) rfl (fun ls hl => ?_)
  refine lv_aload_n hx hb dX6_doOrder_20 rfl (lv_at hl 2 rfl) ?_
  refine va_get (D := (dC, dI)) (ci := 6) (v := .ref (bM 6)) (C := RX6) (T := TX6) (N := 11) hx hb hts u_X6_doOrder_X6 hown hK hP 0 rfl rfl 6 (by decide) (hts _ k_X6_doOrder_1) (fun _ h9 => h9) rfl dX6_doOrder_21 ?_
  refine va_get (D := (dC, dI)) (ci := 5) (v := .ref (aX 3)) (C := RX5) (T := TX5) (N := 5) hx hb hts u_X6_doOrder_X5 hown hK hP 9 rfl rfl 3 (by decide) (hts _ k_X6_doOrder_2) (fun _ h9 => h9) rfl dX6_doOrder_24 ?_
  refine lv_iconst (v := (2 : Int32)) hx hb dX6_doOrder_27 (by decide) ?_
  obtain ⟨h_3, hf⟩ := zin_ex hf
  refine va_iald hx hb hK hP 11 0 rfl rfl h_3 dX6_doOrder_28 ?_
  refine lv_istore_n (lv' := [(3, .int (gX 3 (2 : Int32).toNatClampNeg)), (2, .int (gX 3 (1 : Int32).toNatClampNeg)), (1, .int (gX 3 (0 : Int32).toNatClampNeg)), (0, .ref qM)]) hx hb dX6_doOrder_29 rfl hl (by decide) rfl (fun ls hl => ?_)
  refine lv_aload_n hx hb dX6_doOrder_30 rfl (lv_at hl 3 rfl) ?_
  refine va_get (D := (dC, dI)) (ci := 6) (v := .ref (bM 6)) (C := RX6) (T := TX6) (N := 11) hx hb hts u_X6_doOrder_X6 hown hK hP 0 rfl rfl 6 (by decide) (hts _ k_X6_doOrder_1) (fun _ h9 => h9) rfl dX6_doOrder_31 ?_
  refine va_get (D := (dC, dI)) (ci := 5) (v := .int (gX 2 0)) (C := RX5) (T := TX5) (N := 5) hx hb hts u_X6_doOrder_X5 hown hK hP 9 rfl rfl 2 (by decide) (hts _ k_X6_doOrder_3) (fun _ h9 => h9) rfl dX6_doOrder_34 ?_
  by_cases c_4 : (gX 2 0) = (100 : Int32)
  · have hf := zif_t hf c_4
    refine lv_lookup (tgt := 102) (off := 65) hx hb dX6_doOrder_37 (by decide +kernel) (by rw [c_4]; first | done | rfl) (by decide) ?_
    refine lv_aload_n hx hb dX6_doOrder_102 rfl (lv_at hl 3 rfl) ?_
    refine va_get (D := (dC, dI)) (ci := 6) (v := .ref (bM 1)) (C := RX6) (T := TX6) (N := 11) hx hb hts u_X6_doOrder_X6 hown hK hP 0 rfl rfl 1 (by decide) (hts _ k_X6_doOrder_4) (fun _ h9 => h9) rfl dX6_doOrder_103 ?_
    refine lv_iload_n hx hb dX6_doOrder_106 rfl (lv_at hl 2 rfl) ?_
    refine lv_iload_n hx hb dX6_doOrder_107 rfl (lv_at hl 1 rfl) ?_
    refine lv_iload_n hx hb dX6_doOrder_108 rfl (lv_at hl 0 rfl) ?_
    refine lv_iconst (v := (-1 : Int32)) hx hb dX6_doOrder_109 (by decide) ?_
    obtain ⟨R5, e_5, hf⟩ := zbind_ex hf
    refine z_callM (gs2 := [(wX6 qM bM gM), (wX0 cI (bM 1) aT R5.2), (wX5 cI cC (bM 6) aX gX)]) hP hD hS hA [1] [0, 2] rfl rfl rfl (show List.Perm [1, 0, 2] (List.range 3) from by decide) rfl (va_runV (As := [.int (gX 3 (0 : Int32).toNatClampNeg), .int (gX 3 (1 : Int32).toNatClampNeg), .int (gX 3 (2 : Int32).toNatClampNeg), .int (-1 : Int32)]) (rest := []) ⟨hx, hb, hml, hown, hts⟩ (c_X0_addPrism l dC dI cI cC cO (bM 1) aT gT (gX 3 (0 : Int32).toNatClampNeg) (gX 3 (1 : Int32).toNatClampNeg) (gX 3 (2 : Int32).toNatClampNeg) (-1 : Int32) R5 e_5 H.size) (cwV 4 hts gX6_doOrder_X0_addPrism rfl rfl rfl (by decide +kernel) ⟨Nat.le_of_ble_eq_true rfl, Nat.le_of_ble_eq_true rfl⟩) ⟨zpM_blind, va_recv hK hP (ci := 0) (q0 := 1) rfl rfl, z_useM hK hN hP hD [1] [0, 2] rfl (show List.Perm [1, 0, 2] (List.range 3) from by decide)⟩ rfl rfl hl.1 rfl (lv_room (Nat.le_of_ble_eq_true rfl)) dX6_doOrder_110 ⟨Nat.le_of_ble_eq_true rfl, Nat.le_of_ble_eq_true rfl⟩) (fun H locs hP hD hS => ?_)
    refine W.eq (g2 := F0 m 113 ls [.int R5.1]) rfl ?_
    exact zM_ret (gs := [(wX6 qM bM gM), (wX0 cI (bM 1) aT R5.2), (wX5 cI cC (bM 6) aX gX)]) hx hb hr rfl hP hD hS (by rw [← Option.some.inj hf]; exact ⟨rfl, rfl⟩) hlk dX6_doOrder_113
  · have hf := zif_f hf c_4
    by_cases c_6 : (gX 2 0) = (108 : Int32)
    · have hf := zif_t hf c_6
      refine lv_lookup (tgt := 80) (off := 43) hx hb dX6_doOrder_37 (by decide +kernel) (by rw [c_6]; first | done | rfl) (by decide) ?_
      refine lv_aload_n hx hb dX6_doOrder_80 rfl (lv_at hl 3 rfl) ?_
      refine va_get (D := (dC, dI)) (ci := 6) (v := .ref (bM 1)) (C := RX6) (T := TX6) (N := 11) hx hb hts u_X6_doOrder_X6 hown hK hP 0 rfl rfl 1 (by decide) (hts _ k_X6_doOrder_4) (fun _ h9 => h9) rfl dX6_doOrder_81 ?_
      refine lv_iload_n hx hb dX6_doOrder_84 rfl (lv_at hl 2 rfl) ?_
      refine lv_iload_n hx hb dX6_doOrder_85 rfl (lv_at hl 1 rfl) ?_
      obtain ⟨R7, e_7, hf⟩ := zbind_ex hf
      refine z_callM (gs2 := [(wX6 qM bM gM), (wX0 cI (bM 1) aT R7.2), (wX5 cI cC (bM 6) aX gX)]) hP hD hS hA [1] [0, 2] rfl rfl rfl (show List.Perm [1, 0, 2] (List.range 3) from by decide) rfl (va_runV (As := [.int (gX 3 (0 : Int32).toNatClampNeg), .int (gX 3 (1 : Int32).toNatClampNeg)]) (rest := []) ⟨hx, hb, hml, hown, hts⟩ (c_X0_addLine l dC dI cI cC cO (bM 1) aT gT (gX 3 (0 : Int32).toNatClampNeg) (gX 3 (1 : Int32).toNatClampNeg) R7 e_7 H.size) (cwV 2 hts gX6_doOrder_X0_addLine rfl rfl rfl (by decide +kernel) ⟨Nat.le_of_ble_eq_true rfl, Nat.le_of_ble_eq_true rfl⟩) ⟨zpM_blind, va_recv hK hP (ci := 0) (q0 := 1) rfl rfl, z_useM hK hN hP hD [1] [0, 2] rfl (show List.Perm [1, 0, 2] (List.range 3) from by decide)⟩ rfl rfl hl.1 rfl (lv_room (Nat.le_of_ble_eq_true rfl)) dX6_doOrder_86 ⟨Nat.le_of_ble_eq_true rfl, Nat.le_of_ble_eq_true rfl⟩) (fun H locs hP hD hS => ?_)
      refine W.eq (g2 := F0 m 89 ls [.int R7.1]) rfl ?_
      exact zM_ret (gs := [(wX6 qM bM gM), (wX0 cI (bM 1) aT R7.2), (wX5 cI cC (bM 6) aX gX)]) hx hb hr rfl hP hD hS (by rw [← Option.some.inj hf]; exact ⟨rfl, rfl⟩) hlk dX6_doOrder_89
    · have hf := zif_f hf c_6
      by_cases c_8 : (gX 2 0) = (115 : Int32)
      · have hf := zif_t hf c_8
        refine lv_lookup (tgt := 114) (off := 77) hx hb dX6_doOrder_37 (by decide +kernel) (by rw [c_8]; first | done | rfl) (by decide) ?_
        refine lv_aload_n hx hb dX6_doOrder_114 rfl (lv_at hl 3 rfl) ?_
        refine va_get (D := (dC, dI)) (ci := 6) (v := .ref (bM 1)) (C := RX6) (T := TX6) (N := 11) hx hb hts u_X6_doOrder_X6 hown hK hP 0 rfl rfl 1 (by decide) (hts _ k_X6_doOrder_4) (fun _ h9 => h9) rfl dX6_doOrder_115 ?_
        refine lv_iload_n hx hb dX6_doOrder_118 rfl (lv_at hl 2 rfl) ?_
        refine lv_iload_n hx hb dX6_doOrder_119 rfl (lv_at hl 1 rfl) ?_
        refine lv_ineg hx hb dX6_doOrder_120 ?_
        refine lv_iload_n hx hb dX6_doOrder_121 rfl (lv_at hl 1 rfl) ?_
        obtain ⟨R9, e_9, hf⟩ := zbind_ex hf
        refine z_callM (gs2 := [(wX6 qM bM gM), (wX0 cI (bM 1) aT R9.2), (wX5 cI cC (bM 6) aX gX)]) hP hD hS hA [1] [0, 2] rfl rfl rfl (show List.Perm [1, 0, 2] (List.range 3) from by decide) rfl (va_runV (As := [.int (gX 3 (0 : Int32).toNatClampNeg), .int (-(gX 3 (1 : Int32).toNatClampNeg)), .int (gX 3 (1 : Int32).toNatClampNeg)]) (rest := []) ⟨hx, hb, hml, hown, hts⟩ (c_X0_addSlit l dC dI cI cC cO (bM 1) aT gT (gX 3 (0 : Int32).toNatClampNeg) (-(gX 3 (1 : Int32).toNatClampNeg)) (gX 3 (1 : Int32).toNatClampNeg) R9 e_9 H.size) (cwV 3 hts gX6_doOrder_X0_addSlit rfl rfl rfl (by decide +kernel) ⟨Nat.le_of_ble_eq_true rfl, Nat.le_of_ble_eq_true rfl⟩) ⟨zpM_blind, va_recv hK hP (ci := 0) (q0 := 1) rfl rfl, z_useM hK hN hP hD [1] [0, 2] rfl (show List.Perm [1, 0, 2] (List.range 3) from by decide)⟩ rfl rfl hl.1 rfl (lv_room (Nat.le_of_ble_eq_true rfl)) dX6_doOrder_122 ⟨Nat.le_of_ble_eq_true rfl, Nat.le_of_ble_eq_true rfl⟩) (fun H locs hP hD hS => ?_)
        refine W.eq (g2 := F0 m 125 ls [.int R9.1]) rfl ?_
        exact zM_ret (gs := [(wX6 qM bM gM), (wX0 cI (bM 1) aT R9.2), (wX5 cI cC (bM 6) aX gX)]) hx hb hr rfl hP hD hS (by rw [← Option.some.inj hf]; exact ⟨rfl, rfl⟩) hlk dX6_doOrder_125
      · have hf := zif_f hf c_8
        by_cases c_10 : (gX 2 0) = (117 : Int32)
        · have hf := zif_t hf c_10
          refine lv_lookup (tgt := 90) (off := 53) hx hb dX6_doOrder_37 (by decide +kernel) (by rw [c_10]; first | done | rfl) (by decide) ?_
          refine lv_aload_n hx hb dX6_doOrder_90 rfl (lv_at hl 3 rfl) ?_
          refine va_get (D := (dC, dI)) (ci := 6) (v := .ref (bM 1)) (C := RX6) (T := TX6) (N := 11) hx hb hts u_X6_doOrder_X6 hown hK hP 0 rfl rfl 1 (by decide) (hts _ k_X6_doOrder_4) (fun _ h9 => h9) rfl dX6_doOrder_91 ?_
          refine lv_iload_n hx hb dX6_doOrder_94 rfl (lv_at hl 2 rfl) ?_
          refine lv_iload_n hx hb dX6_doOrder_95 rfl (lv_at hl 1 rfl) ?_
          refine lv_iload_n hx hb dX6_doOrder_96 rfl (lv_at hl 0 rfl) ?_
          refine lv_iconst (v := (1 : Int32)) hx hb dX6_doOrder_97 (by decide) ?_
          obtain ⟨R11, e_11, hf⟩ := zbind_ex hf
          refine z_callM (gs2 := [(wX6 qM bM gM), (wX0 cI (bM 1) aT R11.2), (wX5 cI cC (bM 6) aX gX)]) hP hD hS hA [1] [0, 2] rfl rfl rfl (show List.Perm [1, 0, 2] (List.range 3) from by decide) rfl (va_runV (As := [.int (gX 3 (0 : Int32).toNatClampNeg), .int (gX 3 (1 : Int32).toNatClampNeg), .int (gX 3 (2 : Int32).toNatClampNeg), .int (1 : Int32)]) (rest := []) ⟨hx, hb, hml, hown, hts⟩ (c_X0_addPrism l dC dI cI cC cO (bM 1) aT gT (gX 3 (0 : Int32).toNatClampNeg) (gX 3 (1 : Int32).toNatClampNeg) (gX 3 (2 : Int32).toNatClampNeg) (1 : Int32) R11 e_11 H.size) (cwV 4 hts gX6_doOrder_X0_addPrism rfl rfl rfl (by decide +kernel) ⟨Nat.le_of_ble_eq_true rfl, Nat.le_of_ble_eq_true rfl⟩) ⟨zpM_blind, va_recv hK hP (ci := 0) (q0 := 1) rfl rfl, z_useM hK hN hP hD [1] [0, 2] rfl (show List.Perm [1, 0, 2] (List.range 3) from by decide)⟩ rfl rfl hl.1 rfl (lv_room (Nat.le_of_ble_eq_true rfl)) dX6_doOrder_98 ⟨Nat.le_of_ble_eq_true rfl, Nat.le_of_ble_eq_true rfl⟩) (fun H locs hP hD hS => ?_)
          refine W.eq (g2 := F0 m 101 ls [.int R11.1]) rfl ?_
          exact zM_ret (gs := [(wX6 qM bM gM), (wX0 cI (bM 1) aT R11.2), (wX5 cI cC (bM 6) aX gX)]) hx hb hr rfl hP hD hS (by rw [← Option.some.inj hf]; exact ⟨rfl, rfl⟩) hlk dX6_doOrder_101
        · have hf := zif_f hf c_10
          refine lv_lookup (tgt := 126) (off := 89) hx hb dX6_doOrder_37 (by decide +kernel) (by show Op.lookupswitch.offset [((100 : Int), (65 : Int)), ((108 : Int), (43 : Int)), ((115 : Int), (77 : Int)), ((117 : Int), (53 : Int))] _ _ = _; rw [lv_osw (a := 100) c_4 (by decide)]; rw [lv_osw (a := 108) c_6 (by decide)]; rw [lv_osw (a := 115) c_8 (by decide)]; rw [lv_osw (a := 117) c_10 (by decide)]; first | done | rfl) (by decide) ?_
          refine lv_aload_n hx hb dX6_doOrder_126 rfl (lv_at hl 3 rfl) ?_
          refine va_get (D := (dC, dI)) (ci := 6) (v := .ref (bM 1)) (C := RX6) (T := TX6) (N := 11) hx hb hts u_X6_doOrder_X6 hown hK hP 0 rfl rfl 1 (by decide) (hts _ k_X6_doOrder_4) (fun _ h9 => h9) rfl dX6_doOrder_127 ?_
          refine lv_iload_n hx hb dX6_doOrder_130 rfl (lv_at hl 2 rfl) ?_
          obtain ⟨R12, e_12, hf⟩ := zbind_ex hf
          refine z_callM (gs2 := [(wX6 qM bM gM), (wX0 cI (bM 1) aT R12.2), (wX5 cI cC (bM 6) aX gX)]) hP hD hS hA [1] [0, 2] rfl rfl rfl (show List.Perm [1, 0, 2] (List.range 3) from by decide) rfl (va_runV (As := [.int (gX 3 (0 : Int32).toNatClampNeg)]) (rest := []) ⟨hx, hb, hml, hown, hts⟩ (c_X0_removeThing l dC dI cI cC cO (bM 1) aT gT (gX 3 (0 : Int32).toNatClampNeg) R12 e_12 H.size) (cwV 1 hts gX6_doOrder_X0_removeThing rfl rfl rfl (by decide +kernel) ⟨Nat.le_of_ble_eq_true rfl, Nat.le_of_ble_eq_true rfl⟩) ⟨zpM_blind, va_recv hK hP (ci := 0) (q0 := 1) rfl rfl, z_useM hK hN hP hD [1] [0, 2] rfl (show List.Perm [1, 0, 2] (List.range 3) from by decide)⟩ rfl rfl hl.1 rfl (lv_room (Nat.le_of_ble_eq_true rfl)) dX6_doOrder_131 ⟨Nat.le_of_ble_eq_true rfl, Nat.le_of_ble_eq_true rfl⟩) (fun H locs hP hD hS => ?_)
          refine W.eq (g2 := F0 m 134 ls [.int R12.1]) rfl ?_
          exact zM_ret (gs := [(wX6 qM bM gM), (wX0 cI (bM 1) aT R12.2), (wX5 cI cC (bM 6) aX gX)]) hx hb hr rfl hP hD hS (by rw [← Option.some.inj hf]; exact ⟨rfl, rfl⟩) hlk dX6_doOrder_134

def f_X6_tryText_23_b (gB : zG)  (k23 : Int32 → zG → zG → zG → Option (zG × zG × zG)) (y1 : Int32) (gM : zG) (gT : zG) (gX : zG) : Option (zG × zG × zG) := (if (60 : Int32) ≤ (gM 10 0) then (some (gM, gT, gX)) else (if (gX 1 0) ≤ y1 then (some (gM, gT, gX)) else (zbind (f_X5_readOrder gX y1) (fun R6 => (if R6.1 = 0 then (zbind (f_X6_noteFault gM y1 (1 : Int32) ((R6.2 4 0) - y1)) (fun R12 => (some (R12, gT, R6.2)))) else (zbind (f_X6_doOrder gM gT R6.2) (fun R8 => (if 0 ≤ R8.1 then (zlet (gup gM 10 0 ((gM 10 0) + (1 : Int32))) (fun gM_10 => (k23 (R6.2 4 0) gM_10 R8.2 R6.2))) else (zbind (f_X6_noteFault gM y1 (2 : Int32) R8.1) (fun R11 => (some (R11, R8.2, R6.2))))))))))))
def f_X6_tryText_23 (gB : zG)  : Nat → Int32 → zG → zG → zG → Option (zG × zG × zG)
  | 0 => fun _ _ _ _ => none
  | n + 1 => f_X6_tryText_23_b gB  (f_X6_tryText_23 gB  n)
def f_X6_tryText (gM : zG) (gB : zG) (gT : zG) (gX : zG)  : Option (zG × zG × zG) := (zbind (f_X0_copyFrom gT gB) (fun R1 => (zlet (gup gM 8 0 (0 : Int32)) (fun gM_2 => (zlet (gup gM_2 10 0 (0 : Int32)) (fun gM_3 => (f_X6_tryText_23 gB  zfuel (0 : Int32) gM_3 R1 gX)))))))
theorem u_X6_tryText_X6 : ∀ w ∈ u_ws RX6 TX6 11, w ∈ wsX6_tryText := fun w h => List.mem_cons_of_mem _ (List.mem_append_left _ (List.mem_append_left _ (List.mem_append_right _ h)))
theorem u_X6_tryText_X5 : ∀ w ∈ u_ws RX5 TX5 5, w ∈ wsX6_tryText := fun w h => List.mem_cons_of_mem _ (List.mem_append_left _ (List.mem_append_right _ h))
theorem k_X6_tryText_1 : Cond.fieldLink RX6 16 "JoinedLight" "trial" "LJoinedLight$Bench;" ∈ wsX6_tryText := List.mem_of_getElem? (i := 1) rfl
theorem k_X6_tryText_2 : Cond.fieldLink RX6 10 "JoinedLight" "bench" "LJoinedLight$Bench;" ∈ wsX6_tryText := List.mem_of_getElem? (i := 2) rfl
theorem k_X6_tryText_3 : Cond.fieldLink RX6 246 "JoinedLight" "faultReason" "I" ∈ wsX6_tryText := List.mem_of_getElem? (i := 3) rfl
theorem k_X6_tryText_4 : Cond.fieldLink RX6 255 "JoinedLight" "ordersDone" "I" ∈ wsX6_tryText := List.mem_of_getElem? (i := 4) rfl
theorem k_X6_tryText_5 : Cond.fieldLink RX6 50 "JoinedLight" "text" "LJoinedLight$Text;" ∈ wsX6_tryText := List.mem_of_getElem? (i := 5) rfl
theorem k_X6_tryText_6 : Cond.fieldLink RX6 225 "JoinedLight$Text" "length" "I" ∈ wsX6_tryText := List.mem_of_getElem? (i := 6) rfl
theorem k_X6_tryText_7 : Cond.fieldLink RX6 301 "JoinedLight$Text" "next" "I" ∈ wsX6_tryText := List.mem_of_getElem? (i := 7) rfl
abbrev rm_X6_tryText : Room := { frames := 5, cells := 0, slots := 0, locals := 119 }
set_option maxHeartbeats 4000000 in
set_option maxRecDepth 100000 in
theorem c_X6_tryText (l : Launch) (dC : Nat → ClassId) (dI : Nat → Nat → Nat) (cI cC cO : ClassId) (qM : Nat) (bM : Nat → Nat) (gM : zG) (aB : Nat → Nat) (gB : zG) (aT : Nat → Nat) (gT : zG) (aX : Nat → Nat) (gX : zG)  (R : zG × zG × zG) (hf : f_X6_tryText gM gB gT gX = some R) : cM l (dC, dI) (zT cI cC cO) yX6_tryText wsX6_tryText rm_X6_tryText [.ref qM] [(wX6 qM bM gM), (wX0 cI (bM 0) aB gB), (wX0 cI (bM 1) aT gT), (wX5 cI cC (bM 6) aX gX)] [(wX6 qM bM R.1), (wX0 cI (bM 0) aB gB), (wX0 cI (bM 1) aT R.2.1), (wX5 cI cC (bM 6) aX R.2.2)] none 0 0 := by
  refine zM_in (cc := cX6_tryText) (maxL := 3) (ret := none) (plainFor_of_name (by decide)) rfl (Nat.le_of_ble_eq_true rfl) ?_
  intro p e s m below meth c hx hb hml hr hlk hown hts hK hN A hA hP hD hS ls hl
  have hl : lv_has ls 3 [(0, .ref qM)] := hl
  have w23 : ∀ (n23 : Nat) (y1 : Int32) (gM : zG) (gT : zG) (gX : zG) (H : Heap) (locs : List Loc) (ls : Array Slot), f_X6_tryText_23 gB  n23 y1 gM gT gX = some R → va_P (dC, dI) vwCl [(wX6 qM bM gM), (wX0 cI (bM 0) aB gB), (wX0 cI (bM 1) aT gT), (wX5 cI cC (bM 6) aX gX)].flatten H → va_D A [(wX6 qM bM gM), (wX0 cI (bM 0) aB gB), (wX0 cI (bM 1) aT gT), (wX5 cI cC (bM 6) aX gX)].flatten → va_S A s.heap H locs → lv_has ls 3 [(0, .ref qM), (1, .int y1)] → W p l e (headSpec wsX6_tryText rm_X6_tryText).room s m [.ref qM].toArray below meth c H locs 0 0 (MQ below (zqM (dC, dI) none [(wX6 qM bM R.1), (wX0 cI (bM 0) aB gB), (wX0 cI (bM 1) aT R.2.1), (wX5 cI cC (bM 6) aX R.2.2)] A) [.ref qM].toArray s 0 0 A) (F0 m 23 ls []) := by
    intro n23
    induction n23 with
    | zero =>
      intro y1 gM gT gX H locs ls hf hP hD hS hl
      have hf : (none : Option (zG × zG × zG)) = some R := hf
      cases hf
    | succ n23 ih23 =>
      intro y1 gM gT gX H locs ls hf hP hD hS hl
      have hf : f_X6_tryText_23_b gB  (f_X6_tryText_23 gB  n23) y1 gM gT gX = some R := hf
      unfold f_X6_tryText_23_b at hf
      refine lv_aload_n hx hb dX6_tryText_23 rfl (lv_at hl 0 rfl) ?_
      refine va_get (D := (dC, dI)) (ci := 6) (v := .int (gM 10 0)) (C := RX6) (T := TX6) (N := 11) hx hb hts u_X6_tryText_X6 hown hK hP 0 rfl rfl 10 (by decide) (hts _ k_X6_tryText_4) (fun _ h9 => h9) rfl dX6_tryText_24 ?_
      refine lv_bipush (v := (60 : Int32)) hx hb dX6_tryText_27 (by decide) ?_
      refine lv_icmp_ge (tgt := 108) hx hb dX6_tryText_29 (by decide) (fun c_4 => ?_) (fun c_4 => ?_)
      · have hf := zif_t hf c_4
        exact zM_vret (gs := [(wX6 qM bM gM), (wX0 cI (bM 0) aB gB), (wX0 cI (bM 1) aT gT), (wX5 cI cC (bM 6) aX gX)]) hx hb hr hP hD hS (by rw [← Option.some.inj hf]; exact ⟨rfl, rfl⟩) hlk dX6_tryText_108
      · have hf := zif_f hf c_4
        refine lv_iload_n hx hb dX6_tryText_32 rfl (lv_at hl 1 rfl) ?_
        refine lv_aload_n hx hb dX6_tryText_33 rfl (lv_at hl 0 rfl) ?_
        refine va_get (D := (dC, dI)) (ci := 6) (v := .ref (bM 6)) (C := RX6) (T := TX6) (N := 11) hx hb hts u_X6_tryText_X6 hown hK hP 0 rfl rfl 6 (by decide) (hts _ k_X6_tryText_5) (fun _ h9 => h9) rfl dX6_tryText_34 ?_
        refine va_get (D := (dC, dI)) (ci := 5) (v := .int (gX 1 0)) (C := RX5) (T := TX5) (N := 5) hx hb hts u_X6_tryText_X5 hown hK hP 17 rfl rfl 1 (by decide) (hts _ k_X6_tryText_6) (fun _ h9 => h9) rfl dX6_tryText_37 ?_
        refine lv_icmp_ge (tgt := 108) hx hb dX6_tryText_40 (by decide) (fun c_5 => ?_) (fun c_5 => ?_)
        · have hf := zif_t hf c_5
          exact zM_vret (gs := [(wX6 qM bM gM), (wX0 cI (bM 0) aB gB), (wX0 cI (bM 1) aT gT), (wX5 cI cC (bM 6) aX gX)]) hx hb hr hP hD hS (by rw [← Option.some.inj hf]; exact ⟨rfl, rfl⟩) hlk dX6_tryText_108
        · have hf := zif_f hf c_5
          refine lv_aload_n hx hb dX6_tryText_43 rfl (lv_at hl 0 rfl) ?_
          refine va_get (D := (dC, dI)) (ci := 6) (v := .ref (bM 6)) (C := RX6) (T := TX6) (N := 11) hx hb hts u_X6_tryText_X6 hown hK hP 0 rfl rfl 6 (by decide) (hts _ k_X6_tryText_5) (fun _ h9 => h9) rfl dX6_tryText_44 ?_
          refine lv_iload_n hx hb dX6_tryText_47 rfl (lv_at hl 1 rfl) ?_
          obtain ⟨R6, e_6, hf⟩ := zbind_ex hf
          refine z_callM (gs2 := [(wX6 qM bM gM), (wX0 cI (bM 0) aB gB), (wX0 cI (bM 1) aT gT), (wX5 cI cC (bM 6) aX R6.2)]) hP hD hS hA [3] [0, 1, 2] rfl rfl rfl (show List.Perm [3, 0, 1, 2] (List.range 4) from by decide) rfl (va_runV (As := [.int y1]) (rest := []) ⟨hx, hb, hml, hown, hts⟩ (c_X5_readOrder l dC dI cI cC cO (bM 6) aX gX y1 R6 e_6 H.size) (cwV 1 hts gX6_tryText_X5_readOrder rfl rfl rfl (by decide +kernel) ⟨Nat.le_of_ble_eq_true rfl, Nat.le_of_ble_eq_true rfl⟩) ⟨zpM_blind, va_recv hK hP (ci := 5) (q0 := 17) rfl rfl, z_useM hK hN hP hD [3] [0, 1, 2] rfl (show List.Perm [3, 0, 1, 2] (List.range 4) from by decide)⟩ rfl rfl hl.1 rfl (lv_room (Nat.le_of_ble_eq_true rfl)) dX6_tryText_48 ⟨Nat.le_of_ble_eq_true rfl, Nat.le_of_ble_eq_true rfl⟩) (fun H locs hP hD hS => ?_)
          refine W.eq (g2 := F0 m 51 ls [.int R6.1]) rfl ?_
          refine lv_if_ne (tgt := 70) hx hb dX6_tryText_51 (by decide) (fun c_7 => ?_) (fun c_7 => ?_)
          · have hf := zif_f hf c_7
            refine lv_aload_n hx hb dX6_tryText_70 rfl (lv_at hl 0 rfl) ?_
            obtain ⟨R8, e_8, hf⟩ := zbind_ex hf
            refine z_callM (gs2 := [(wX6 qM bM gM), (wX0 cI (bM 0) aB gB), (wX0 cI (bM 1) aT R8.2), (wX5 cI cC (bM 6) aX R6.2)]) hP hD hS hA [0, 2, 3] [1] rfl rfl rfl (show List.Perm [0, 2, 3, 1] (List.range 4) from by decide) rfl (va_runV (As := []) (rest := []) ⟨hx, hb, hml, hown, hts⟩ (c_X6_doOrder l dC dI cI cC cO qM bM gM aT gT aX R6.2  R8 e_8 H.size) (cwV 0 hts gX6_tryText_X6_doOrder rfl rfl rfl (by decide +kernel) ⟨Nat.le_of_ble_eq_true rfl, Nat.le_of_ble_eq_true rfl⟩) ⟨zpM_blind, va_recv hK hP (ci := 6) (q0 := 0) rfl rfl, z_useM hK hN hP hD [0, 2, 3] [1] rfl (show List.Perm [0, 2, 3, 1] (List.range 4) from by decide)⟩ rfl rfl hl.1 rfl (lv_room (Nat.le_of_ble_eq_true rfl)) dX6_tryText_71 ⟨Nat.le_of_ble_eq_true rfl, Nat.le_of_ble_eq_true rfl⟩) (fun H locs hP hD hS => ?_)
            refine W.eq (g2 := F0 m 74 ls [.int R8.1]) rfl ?_
            refine lv_istore_n (lv' := [(2, .int R8.1), (0, .ref qM), (1, .int y1)]) hx hb dX6_tryText_74 rfl hl (by decide) rfl (fun ls hl => ?_)
            refine lv_iload_n hx hb dX6_tryText_75 rfl (lv_at hl 0 rfl) ?_
            refine lv_if_ge (tgt := 87) hx hb dX6_tryText_76 (by decide) (fun c_9 => ?_) (fun c_9 => ?_)
            · have hf := zif_t hf c_9
              refine lv_aload_n hx hb dX6_tryText_87 rfl (lv_at hl 1 rfl) ?_
              refine lv_dup hx hb dX6_tryText_88 rfl ?_
              refine va_get (D := (dC, dI)) (ci := 6) (v := .int (gM 10 0)) (C := RX6) (T := TX6) (N := 11) hx hb hts u_X6_tryText_X6 hown hK hP 0 rfl rfl 10 (by decide) (hts _ k_X6_tryText_4) (fun _ h9 => h9) rfl dX6_tryText_89 ?_
              refine lv_iconst (v := (1 : Int32)) hx hb dX6_tryText_92 (by decide) ?_
              refine lv_iadd hx hb dX6_tryText_93 ?_
              obtain ⟨gM_10, e_10, hf⟩ := zlet_ex hf
              refine z_put (gs' := [(wX6 qM bM gM_10), (wX0 cI (bM 0) aB gB), (wX0 cI (bM 1) aT R8.2), (wX5 cI cC (bM 6) aX R6.2)]) (D := (dC, dI)) (ci := 6) (ty := .int) (C := RX6) (T := TX6) (N := 11) hx hb hts u_X6_tryText_X6 tyX6 tyX6_ok nmX6 hown hK hP hD hS 0 rfl rfl 10 (by decide) (hts _ k_X6_tryText_4) (fun _ h9 => h9) rfl (by decide +kernel) rfl rfl (Nat.le_of_ble_eq_true rfl) (by rw [e_10]; rfl) dX6_tryText_94 (fun H locs hP hD hS => ?_)
              refine lv_aload_n hx hb dX6_tryText_97 rfl (lv_at hl 1 rfl) ?_
              refine va_get (D := (dC, dI)) (ci := 6) (v := .ref (bM 6)) (C := RX6) (T := TX6) (N := 11) hx hb hts u_X6_tryText_X6 hown hK hP 0 rfl rfl 6 (by decide) (hts _ k_X6_tryText_5) (fun _ h9 => h9) rfl dX6_tryText_98 ?_
              refine va_get (D := (dC, dI)) (ci := 5) (v := .int (R6.2 4 0)) (C := RX5) (T := TX5) (N := 5) hx hb hts u_X6_tryText_X5 hown hK hP 17 rfl rfl 4 (by decide) (hts _ k_X6_tryText_7) (fun _ h9 => h9) rfl dX6_tryText_101 ?_
              refine lv_istore_n (lv' := [(1, .int (R6.2 4 0)), (2, .int R8.1), (0, .ref qM)]) hx hb dX6_tryText_104 rfl hl (by decide) rfl (fun ls hl => ?_)
              refine lv_goto (tgt := 23) hx hb dX6_tryText_105 (by decide) ?_
              exact ih23 (R6.2 4 0) gM_10 R8.2 R6.2 H locs ls hf hP hD hS (lv_sub hl [2, 0] rfl)
            · have hf := zif_f hf c_9
              refine lv_aload_n hx hb dX6_tryText_79 rfl (lv_at hl 1 rfl) ?_
              refine lv_iload_n hx hb dX6_tryText_80 rfl (lv_at hl 2 rfl) ?_
              refine lv_iconst (v := (2 : Int32)) hx hb dX6_tryText_81 (by decide) ?_
              refine lv_iload_n hx hb dX6_tryText_82 rfl (lv_at hl 0 rfl) ?_
              obtain ⟨R11, e_11, hf⟩ := zbind_ex hf
              refine z_callM (gs2 := [(wX6 qM bM R11), (wX0 cI (bM 0) aB gB), (wX0 cI (bM 1) aT R8.2), (wX5 cI cC (bM 6) aX R6.2)]) hP hD hS hA [0] [1, 2, 3] rfl rfl rfl (show List.Perm [0, 1, 2, 3] (List.range 4) from by decide) rfl (va_runV (As := [.int y1, .int (2 : Int32), .int R8.1]) (rest := []) ⟨hx, hb, hml, hown, hts⟩ (c_X6_noteFault l dC dI cI cC cO qM bM gM y1 (2 : Int32) R8.1 R11 e_11 H.size) (cwV 3 hts gX6_tryText_X6_noteFault rfl rfl rfl (by decide +kernel) ⟨Nat.le_of_ble_eq_true rfl, Nat.le_of_ble_eq_true rfl⟩) ⟨zpM_blind, va_recv hK hP (ci := 6) (q0 := 0) rfl rfl, z_useM hK hN hP hD [0] [1, 2, 3] rfl (show List.Perm [0, 1, 2, 3] (List.range 4) from by decide)⟩ rfl rfl hl.1 rfl (lv_room (Nat.le_of_ble_eq_true rfl)) dX6_tryText_83 ⟨Nat.le_of_ble_eq_true rfl, Nat.le_of_ble_eq_true rfl⟩) (fun H locs hP hD hS => ?_)
              refine W.eq (g2 := F0 m 86 ls []) rfl ?_
              exact zM_vret (gs := [(wX6 qM bM R11), (wX0 cI (bM 0) aB gB), (wX0 cI (bM 1) aT R8.2), (wX5 cI cC (bM 6) aX R6.2)]) hx hb hr hP hD hS (by rw [← Option.some.inj hf]; exact ⟨rfl, rfl⟩) hlk dX6_tryText_86
          · have hf := zif_t hf c_7
            refine lv_aload_n hx hb dX6_tryText_54 rfl (lv_at hl 0 rfl) ?_
            refine lv_iload_n hx hb dX6_tryText_55 rfl (lv_at hl 1 rfl) ?_
            refine lv_iconst (v := (1 : Int32)) hx hb dX6_tryText_56 (by decide) ?_
            refine lv_aload_n hx hb dX6_tryText_57 rfl (lv_at hl 0 rfl) ?_
            refine va_get (D := (dC, dI)) (ci := 6) (v := .ref (bM 6)) (C := RX6) (T := TX6) (N := 11) hx hb hts u_X6_tryText_X6 hown hK hP 0 rfl rfl 6 (by decide) (hts _ k_X6_tryText_5) (fun _ h9 => h9) rfl dX6_tryText_58 ?_
            refine va_get (D := (dC, dI)) (ci := 5) (v := .int (R6.2 4 0)) (C := RX5) (T := TX5) (N := 5) hx hb hts u_X6_tryText_X5 hown hK hP 17 rfl rfl 4 (by decide) (hts _ k_X6_tryText_7) (fun _ h9 => h9) rfl dX6_tryText_61 ?_
            refine lv_iload_n hx hb dX6_tryText_64 rfl (lv_at hl 1 rfl) ?_
            refine lv_isub hx hb dX6_tryText_65 ?_
            obtain ⟨R12, e_12, hf⟩ := zbind_ex hf
            refine z_callM (gs2 := [(wX6 qM bM R12), (wX0 cI (bM 0) aB gB), (wX0 cI (bM 1) aT gT), (wX5 cI cC (bM 6) aX R6.2)]) hP hD hS hA [0] [1, 2, 3] rfl rfl rfl (show List.Perm [0, 1, 2, 3] (List.range 4) from by decide) rfl (va_runV (As := [.int y1, .int (1 : Int32), .int ((R6.2 4 0) - y1)]) (rest := []) ⟨hx, hb, hml, hown, hts⟩ (c_X6_noteFault l dC dI cI cC cO qM bM gM y1 (1 : Int32) ((R6.2 4 0) - y1) R12 e_12 H.size) (cwV 3 hts gX6_tryText_X6_noteFault rfl rfl rfl (by decide +kernel) ⟨Nat.le_of_ble_eq_true rfl, Nat.le_of_ble_eq_true rfl⟩) ⟨zpM_blind, va_recv hK hP (ci := 6) (q0 := 0) rfl rfl, z_useM hK hN hP hD [0] [1, 2, 3] rfl (show List.Perm [0, 1, 2, 3] (List.range 4) from by decide)⟩ rfl rfl hl.1 rfl (lv_room (Nat.le_of_ble_eq_true rfl)) dX6_tryText_66 ⟨Nat.le_of_ble_eq_true rfl, Nat.le_of_ble_eq_true rfl⟩) (fun H locs hP hD hS => ?_)
            refine W.eq (g2 := F0 m 69 ls []) rfl ?_
            exact zM_vret (gs := [(wX6 qM bM R12), (wX0 cI (bM 0) aB gB), (wX0 cI (bM 1) aT gT), (wX5 cI cC (bM 6) aX R6.2)]) hx hb hr hP hD hS (by rw [← Option.some.inj hf]; exact ⟨rfl, rfl⟩) hlk dX6_tryText_69
  unfold f_X6_tryText at hf
  obtain ⟨H, hH⟩ : ∃ H, H = s.heap := ⟨_, rfl⟩
  obtain ⟨locs, hlocs⟩ : ∃ locs : List Loc, locs = [] := ⟨_, rfl⟩
  have hS : va_S A s.heap H locs := by rw [hH, hlocs]; exact hS
  rw [← hH] at hP
  refine zheap hH hlocs ?_
  refine lv_aload_n hx hb dX6_tryText_0 rfl (lv_at hl 0 rfl) ?_
  refine va_get (D := (dC, dI)) (ci := 6) (v := .ref (bM 1)) (C := RX6) (T := TX6) (N := 11) hx hb hts u_X6_tryText_X6 hown hK hP 0 rfl rfl 1 (by decide) (hts _ k_X6_tryText_1) (fun _ h9 => h9) rfl dX6_tryText_1 ?_
  refine lv_aload_n hx hb dX6_tryText_4 rfl (lv_at hl 0 rfl) ?_
  refine va_get (D := (dC, dI)) (ci := 6) (v := .ref (bM 0)) (C := RX6) (T := TX6) (N := 11) hx hb hts u_X6_tryText_X6 hown hK hP 0 rfl rfl 0 (by decide) (hts _ k_X6_tryText_2) (fun _ h9 => h9) rfl dX6_tryText_5 ?_
  obtain ⟨R1, e_1, hf⟩ := zbind_ex hf
  refine z_callM (gs2 := [(wX6 qM bM gM), (wX0 cI (bM 0) aB gB), (wX0 cI (bM 1) aT R1), (wX5 cI cC (bM 6) aX gX)]) hP hD hS hA [2, 1] [0, 3] rfl rfl rfl (show List.Perm [2, 1, 0, 3] (List.range 4) from by decide) rfl (va_runV (As := [.ref (bM 0)]) (rest := []) ⟨hx, hb, hml, hown, hts⟩ (c_X0_copyFrom l dC dI cI cC cO (bM 1) aT gT (bM 0) aB gB  R1 e_1 H.size) (cwV 1 hts gX6_tryText_X0_copyFrom rfl rfl rfl (by decide +kernel) ⟨Nat.le_of_ble_eq_true rfl, Nat.le_of_ble_eq_true rfl⟩) ⟨zpM_blind, va_recv hK hP (ci := 0) (q0 := 9) rfl rfl, z_useM hK hN hP hD [2, 1] [0, 3] rfl (show List.Perm [2, 1, 0, 3] (List.range 4) from by decide)⟩ rfl rfl hl.1 rfl (lv_room (Nat.le_of_ble_eq_true rfl)) dX6_tryText_8 ⟨Nat.le_of_ble_eq_true rfl, Nat.le_of_ble_eq_true rfl⟩) (fun H locs hP hD hS => ?_)
  refine W.eq (g2 := F0 m 11 ls []) rfl ?_
  refine lv_aload_n hx hb dX6_tryText_11 rfl (lv_at hl 0 rfl) ?_
  refine lv_iconst (v := (0 : Int32)) hx hb dX6_tryText_12 (by decide) ?_
  obtain ⟨gM_2, e_2, hf⟩ := zlet_ex hf
  refine z_put (gs' := [(wX6 qM bM gM_2), (wX0 cI (bM 0) aB gB), (wX0 cI (bM 1) aT R1), (wX5 cI cC (bM 6) aX gX)]) (D := (dC, dI)) (ci := 6) (ty := .int) (C := RX6) (T := TX6) (N := 11) hx hb hts u_X6_tryText_X6 tyX6 tyX6_ok nmX6 hown hK hP hD hS 0 rfl rfl 8 (by decide) (hts _ k_X6_tryText_3) (fun _ h9 => h9) rfl (by decide +kernel) rfl rfl (Nat.le_of_ble_eq_true rfl) (by rw [e_2]; rfl) dX6_tryText_13 (fun H locs hP hD hS => ?_)
  refine lv_aload_n hx hb dX6_tryText_16 rfl (lv_at hl 0 rfl) ?_
  refine lv_iconst (v := (0 : Int32)) hx hb dX6_tryText_17 (by decide) ?_
  obtain ⟨gM_3, e_3, hf⟩ := zlet_ex hf
  refine z_put (gs' := [(wX6 qM bM gM_3), (wX0 cI (bM 0) aB gB), (wX0 cI (bM 1) aT R1), (wX5 cI cC (bM 6) aX gX)]) (D := (dC, dI)) (ci := 6) (ty := .int) (C := RX6) (T := TX6) (N := 11) hx hb hts u_X6_tryText_X6 tyX6 tyX6_ok nmX6 hown hK hP hD hS 0 rfl rfl 10 (by decide) (hts _ k_X6_tryText_4) (fun _ h9 => h9) rfl (by decide +kernel) rfl rfl (Nat.le_of_ble_eq_true rfl) (by rw [e_3]; rfl) dX6_tryText_18 (fun H locs hP hD hS => ?_)
  refine lv_iconst (v := (0 : Int32)) hx hb dX6_tryText_21 (by decide) ?_
  refine lv_istore_n (lv' := [(1, .int (0 : Int32)), (0, .ref qM)]) hx hb dX6_tryText_22 rfl hl (by decide) rfl (fun ls hl => ?_)
  exact w23 zfuel (0 : Int32) gM_3 R1 gX H locs ls hf hP hD hS (lv_sub hl [1, 0] rfl)

def f_X6_fault (gM : zG) (gB : zG) (gT : zG) (gX : zG) (x1 : Int32) : Option (Int32 × zG × zG × zG) := (zbind (f_X6_within x1 (0 : Int32) (2 : Int32)) (fun R1 => (if R1 = 0 then (some ((-1000000001 : Int32), gM, gT, gX)) else (zbind (f_X6_tryText gM gB gT gX) (fun R3 => (if (R3.1 8 0) = 0 then (some ((-1000000004 : Int32), R3.1, R3.2.1, R3.2.2)) else (if x1 = (0 : Int32) then (some ((R3.1 7 0), R3.1, R3.2.1, R3.2.2)) else (if x1 = (1 : Int32) then (some ((R3.1 8 0), R3.1, R3.2.1, R3.2.2)) else (some ((R3.1 9 0), R3.1, R3.2.1, R3.2.2))))))))))
theorem u_X6_fault_X6 : ∀ w ∈ u_ws RX6 TX6 11, w ∈ wsX6_fault := fun w h => List.mem_cons_of_mem _ (List.mem_append_left _ (List.mem_append_left _ (List.mem_append_right _ h)))
theorem k_X6_fault_2 : Cond.fieldLink RX6 246 "JoinedLight" "faultReason" "I" ∈ wsX6_fault := List.mem_of_getElem? (i := 2) rfl
theorem k_X6_fault_4 : Cond.fieldLink RX6 249 "JoinedLight" "faultPosition" "I" ∈ wsX6_fault := List.mem_of_getElem? (i := 4) rfl
theorem k_X6_fault_5 : Cond.fieldLink RX6 252 "JoinedLight" "faultCause" "I" ∈ wsX6_fault := List.mem_of_getElem? (i := 5) rfl
theorem k_X6_fault_3 : Cond.constant RX6 115 (-1000000004) ∈ wsX6_fault := List.mem_of_getElem? (i := 3) rfl
theorem k_X6_fault_1 : Cond.constant RX6 94 (-1000000001) ∈ wsX6_fault := List.mem_of_getElem? (i := 1) rfl
abbrev rm_X6_fault : Room := { frames := 6, cells := 0, slots := 0, locals := 141 }
set_option maxHeartbeats 4000000 in
set_option maxRecDepth 100000 in
theorem c_X6_fault (l : Launch) (dC : Nat → ClassId) (dI : Nat → Nat → Nat) (cI cC cO : ClassId) (qM : Nat) (bM : Nat → Nat) (gM : zG) (aB : Nat → Nat) (gB : zG) (aT : Nat → Nat) (gT : zG) (aX : Nat → Nat) (gX : zG) (x1 : Int32) (R : Int32 × zG × zG × zG) (hf : f_X6_fault gM gB gT gX x1 = some R) : cM l (dC, dI) (zT cI cC cO) yX6_fault wsX6_fault rm_X6_fault [.ref qM, .int x1] [(wX6 qM bM gM), (wX0 cI (bM 0) aB gB), (wX0 cI (bM 1) aT gT), (wX5 cI cC (bM 6) aX gX)] [(wX6 qM bM R.2.1), (wX0 cI (bM 0) aB gB), (wX0 cI (bM 1) aT R.2.2.1), (wX5 cI cC (bM 6) aX R.2.2.2)] (some (.int R.1)) 0 0 := by
  refine zM_in (cc := cX6_fault) (maxL := 2) (ret := (some .int)) (plainFor_of_name (by decide)) rfl (Nat.le_of_ble_eq_true rfl) ?_
  intro p e s m below meth c hx hb hml hr hlk hown hts hK hN A hA hP hD hS ls hl
  have hl : lv_has ls 2 [(0, .ref qM), (1, .int x1)] := hl
  unfold f_X6_fault at hf
  obtain ⟨H, hH⟩ : ∃ H, H = s.heap := ⟨_, rfl⟩
  obtain ⟨locs, hlocs⟩ : ∃ locs : List Loc, locs = [] := ⟨_, rfl⟩
  have hS : va_S A s.heap H locs := by rw [hH, hlocs]; exact hS
  rw [← hH] at hP
  refine zheap hH hlocs ?_
  refine lv_iload_n hx hb dX6_fault_0 rfl (lv_at hl 1 rfl) ?_
  refine lv_iconst (v := (0 : Int32)) hx hb dX6_fault_1 (by decide) ?_
  refine lv_iconst (v := (2 : Int32)) hx hb dX6_fault_2 (by decide) ?_
  obtain ⟨R1, e_1, hf⟩ := zbind_ex hf
  refine z_callRi (va_runS (As := [.int x1, .int (0 : Int32), .int (2 : Int32)]) (rest := []) ⟨hx, hb, hml, hown, hts⟩ (c_X6_within l dC dI cI cC cO  x1 (0 : Int32) (2 : Int32) R1 e_1) (va_cwS 3 hts gX6_fault_X6_within rfl rfl rfl (by decide +kernel) ⟨Nat.le_of_ble_eq_true rfl, Nat.le_of_ble_eq_true rfl⟩) ⟨zpR_blind, z_useR hK hN hP [] rfl⟩ rfl rfl hl.1 rfl (lv_room (Nat.le_of_ble_eq_true rfl)) dX6_fault_3 ⟨Nat.le_of_ble_eq_true rfl, Nat.le_of_ble_eq_true rfl⟩) ?_
  refine lv_if_ne (tgt := 12) hx hb dX6_fault_6 (by decide) (fun c_2 => ?_) (fun c_2 => ?_)
  · have hf := zif_f hf c_2
    refine lv_aload_n hx hb dX6_fault_12 rfl (lv_at hl 0 rfl) ?_
    obtain ⟨R3, e_3, hf⟩ := zbind_ex hf
    refine z_callM (gs2 := [(wX6 qM bM R3.1), (wX0 cI (bM 0) aB gB), (wX0 cI (bM 1) aT R3.2.1), (wX5 cI cC (bM 6) aX R3.2.2)]) hP hD hS hA [0, 1, 2, 3] [] rfl rfl rfl (show List.Perm [0, 1, 2, 3] (List.range 4) from by decide) rfl (va_runV (As := []) (rest := []) ⟨hx, hb, hml, hown, hts⟩ (c_X6_tryText l dC dI cI cC cO qM bM gM aB gB aT gT aX gX  R3 e_3 H.size) (cwV 0 hts gX6_fault_X6_tryText rfl rfl rfl (by decide +kernel) ⟨Nat.le_of_ble_eq_true rfl, Nat.le_of_ble_eq_true rfl⟩) ⟨zpM_blind, va_recv hK hP (ci := 6) (q0 := 0) rfl rfl, z_useM hK hN hP hD [0, 1, 2, 3] [] rfl (show List.Perm [0, 1, 2, 3] (List.range 4) from by decide)⟩ rfl rfl hl.1 rfl (lv_room (Nat.le_of_ble_eq_true rfl)) dX6_fault_13 ⟨Nat.le_of_ble_eq_true rfl, Nat.le_of_ble_eq_true rfl⟩) (fun H locs hP hD hS => ?_)
    refine W.eq (g2 := F0 m 16 ls []) rfl ?_
    refine lv_aload_n hx hb dX6_fault_16 rfl (lv_at hl 0 rfl) ?_
    refine va_get (D := (dC, dI)) (ci := 6) (v := .int (R3.1 8 0)) (C := RX6) (T := TX6) (N := 11) hx hb hts u_X6_fault_X6 hown hK hP 0 rfl rfl 8 (by decide) (hts _ k_X6_fault_2) (fun _ h9 => h9) rfl dX6_fault_17 ?_
    refine lv_if_ne (tgt := 26) hx hb dX6_fault_20 (by decide) (fun c_4 => ?_) (fun c_4 => ?_)
    · have hf := zif_f hf c_4
      refine lv_iload_n hx hb dX6_fault_26 rfl (lv_at hl 1 rfl) ?_
      by_cases c_5 : x1 = (0 : Int32)
      · have hf := zif_t hf c_5
        refine lv_lookup (tgt := 52) (off := 25) hx hb dX6_fault_27 (by decide +kernel) (by rw [c_5]; first | done | rfl) (by decide) ?_
        refine lv_aload_n hx hb dX6_fault_52 rfl (lv_at hl 0 rfl) ?_
        refine va_get (D := (dC, dI)) (ci := 6) (v := .int (R3.1 7 0)) (C := RX6) (T := TX6) (N := 11) hx hb hts u_X6_fault_X6 hown hK hP 0 rfl rfl 7 (by decide) (hts _ k_X6_fault_4) (fun _ h9 => h9) rfl dX6_fault_53 ?_
        exact zM_ret (gs := [(wX6 qM bM R3.1), (wX0 cI (bM 0) aB gB), (wX0 cI (bM 1) aT R3.2.1), (wX5 cI cC (bM 6) aX R3.2.2)]) hx hb hr rfl hP hD hS (by rw [← Option.some.inj hf]; exact ⟨rfl, rfl⟩) hlk dX6_fault_56
      · have hf := zif_f hf c_5
        by_cases c_6 : x1 = (1 : Int32)
        · have hf := zif_t hf c_6
          refine lv_lookup (tgt := 57) (off := 30) hx hb dX6_fault_27 (by decide +kernel) (by rw [c_6]; first | done | rfl) (by decide) ?_
          refine lv_aload_n hx hb dX6_fault_57 rfl (lv_at hl 0 rfl) ?_
          refine va_get (D := (dC, dI)) (ci := 6) (v := .int (R3.1 8 0)) (C := RX6) (T := TX6) (N := 11) hx hb hts u_X6_fault_X6 hown hK hP 0 rfl rfl 8 (by decide) (hts _ k_X6_fault_2) (fun _ h9 => h9) rfl dX6_fault_58 ?_
          exact zM_ret (gs := [(wX6 qM bM R3.1), (wX0 cI (bM 0) aB gB), (wX0 cI (bM 1) aT R3.2.1), (wX5 cI cC (bM 6) aX R3.2.2)]) hx hb hr rfl hP hD hS (by rw [← Option.some.inj hf]; exact ⟨rfl, rfl⟩) hlk dX6_fault_61
        · have hf := zif_f hf c_6
          refine lv_lookup (tgt := 62) (off := 35) hx hb dX6_fault_27 (by decide +kernel) (by show Op.lookupswitch.offset [((0 : Int), (25 : Int)), ((1 : Int), (30 : Int))] _ _ = _; rw [lv_osw (a := 0) c_5 (by decide)]; rw [lv_osw (a := 1) c_6 (by decide)]; first | done | rfl) (by decide) ?_
          refine lv_aload_n hx hb dX6_fault_62 rfl (lv_at hl 0 rfl) ?_
          refine va_get (D := (dC, dI)) (ci := 6) (v := .int (R3.1 9 0)) (C := RX6) (T := TX6) (N := 11) hx hb hts u_X6_fault_X6 hown hK hP 0 rfl rfl 9 (by decide) (hts _ k_X6_fault_5) (fun _ h9 => h9) rfl dX6_fault_63 ?_
          exact zM_ret (gs := [(wX6 qM bM R3.1), (wX0 cI (bM 0) aB gB), (wX0 cI (bM 1) aT R3.2.1), (wX5 cI cC (bM 6) aX R3.2.2)]) hx hb hr rfl hP hD hS (by rw [← Option.some.inj hf]; exact ⟨rfl, rfl⟩) hlk dX6_fault_66
    · have hf := zif_t hf c_4
      refine lv_ldc (v := (-1000000004 : Int32)) hx hb hown (hts _ k_X6_fault_3) dX6_fault_23 ?_
      exact zM_ret (gs := [(wX6 qM bM R3.1), (wX0 cI (bM 0) aB gB), (wX0 cI (bM 1) aT R3.2.1), (wX5 cI cC (bM 6) aX R3.2.2)]) hx hb hr rfl hP hD hS (by rw [← Option.some.inj hf]; exact ⟨rfl, rfl⟩) hlk dX6_fault_25
  · have hf := zif_t hf c_2
    refine lv_ldc (v := (-1000000001 : Int32)) hx hb hown (hts _ k_X6_fault_1) dX6_fault_9 ?_
    exact zM_ret (gs := [(wX6 qM bM gM), (wX0 cI (bM 0) aB gB), (wX0 cI (bM 1) aT gT), (wX5 cI cC (bM 6) aX gX)]) hx hb hr rfl hP hD hS (by rw [← Option.some.inj hf]; exact ⟨rfl, rfl⟩) hlk dX6_fault_11
