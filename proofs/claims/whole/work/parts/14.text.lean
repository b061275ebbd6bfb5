def f_X5_append (gS : zG) (x1 : Int32) : Option (Int32 × zG) := (if (gS 1 0) < 0 then (some ((0 : Int32), gS)) else (if (gS 1 0) < (60 : Int32) then (zin (gS 1 0) 60 (zch x1 (zlet (gup gS 0 (gS 1 0).toNatClampNeg x1) (fun gS_3 => (zlet (gup gS_3 1 0 ((gS_3 1 0) + (1 : Int32))) (fun gS_4 => (some ((1 : Int32), gS_4)))))))) else (some ((0 : Int32), gS))))
theorem u_X5_append_X5 : ∀ w ∈ u_ws RX5 TX5 5, w ∈ wsX5_append := fun w h => List.mem_cons_of_mem _ (List.mem_append_right _ h)
theorem k_X5_append_1 : Cond.fieldLink RX5 15 "JoinedLight$Text" "length" "I" ∈ wsX5_append := List.mem_of_getElem? (i := 1) rfl
theorem k_X5_append_2 : Cond.fieldLink RX5 9 "JoinedLight$Text" "signs" "[C" ∈ wsX5_append := List.mem_of_getElem? (i := 2) rfl
abbrev rm_X5_append : Room := { frames := 0, cells := 0, slots := 0, locals := 0 }
set_option maxHeartbeats 4000000 in
set_option maxRecDepth 100000 in
theorem c_X5_append (l : Launch) (dC : Nat → ClassId) (dI : Nat → Nat → Nat) (cI cC cO : ClassId) (qS : Nat) (aS : Nat → Nat) (gS : zG) (x1 : Int32) (R : Int32 × zG) (hf : f_X5_append gS x1 = some R) : cM l (dC, dI) (zT cI cC cO) yX5_append wsX5_append rm_X5_append [.ref qS, .int x1] [(wX5 cI cC qS aS gS)] [(wX5 cI cC qS aS R.2)] (some (.int R.1)) 0 0 := by
  refine zM_in (cc := cX5_append) (maxL := 2) (ret := (some .boolean)) (plainFor_of_name (by decide)) rfl (Nat.le_of_ble_eq_true rfl) ?_
  intro p e s m below meth c hx hb hml hr hlk hown hts hK hN A hA hP hD hS ls hl
  have hl : lv_has ls 2 [(0, .ref qS), (1, .int x1)] := hl
  unfold f_X5_append at hf
  obtain ⟨H, hH⟩ : ∃ H, H = s.heap := ⟨_, rfl⟩
  obtain ⟨locs, hlocs⟩ : ∃ locs : List Loc, locs = [] := ⟨_, rfl⟩
  have hS : va_S A s.heap H locs := by rw [hH, hlocs]; exact hS
  rw [← hH] at hP
  refine zheap hH hlocs ?_
  refine lv_aload_n hx hb dX5_append_0 rfl (lv_at hl 0 rfl) ?_
  refine va_get (D := (dC, dI)) (ci := 5) (v := .int (gS 1 0)) (C := RX5) (T := TX5) (N := 5) hx hb hts u_X5_append_X5 hown hK hP 0 rfl rfl 1 (by decide) (hts _ k_X5_append_1) (fun _ h9 => h9) rfl dX5_append_1 ?_
  refine lv_if_lt (tgt := 16) hx hb dX5_append_4 (by decide) (fun c_1 => ?_) (fun c_1 => ?_)
  · have hf := zif_t hf c_1
    refine lv_iconst (v := (0 : Int32)) hx hb dX5_append_16 (by decide) ?_
    exact zM_ret (gs := [(wX5 cI cC qS aS gS)]) hx hb hr rfl hP hD hS (by rw [← Option.some.inj hf]; exact ⟨rfl, rfl⟩) hlk dX5_append_17
  · have hf := zif_f hf c_1
    refine lv_aload_n hx hb dX5_append_7 rfl (lv_at hl 0 rfl) ?_
    refine va_get (D := (dC, dI)) (ci := 5) (v := .int (gS 1 0)) (C := RX5) (T := TX5) (N := 5) hx hb hts u_X5_append_X5 hown hK hP 0 rfl rfl 1 (by decide) (hts _ k_X5_append_1) (fun _ h9 => h9) rfl dX5_append_8 ?_
    refine lv_bipush (v := (60 : Int32)) hx hb dX5_append_11 (by decide) ?_
    refine lv_icmp_lt (tgt := 18) hx hb dX5_append_13 (by decide) (fun c_2 => ?_) (fun c_2 => ?_)
    · have hf := zif_t hf c_2
      refine lv_aload_n hx hb dX5_append_18 rfl (lv_at hl 0 rfl) ?_
      refine va_get (D := (dC, dI)) (ci := 5) (v := .ref (aS 0)) (C := RX5) (T := TX5) (N := 5) hx hb hts u_X5_append_X5 hown hK hP 0 rfl rfl 0 (by decide) (hts _ k_X5_append_2) (fun _ h9 => h9) rfl dX5_append_19 ?_
      refine lv_aload_n hx hb dX5_append_22 rfl (lv_at hl 0 rfl) ?_
      refine va_get (D := (dC, dI)) (ci := 5) (v := .int (gS 1 0)) (C := RX5) (T := TX5) (N := 5) hx hb hts u_X5_append_X5 hown hK hP 0 rfl rfl 1 (by decide) (hts _ k_X5_append_1) (fun _ h9 => h9) rfl dX5_append_23 ?_
      refine lv_iload_n hx hb dX5_append_26 rfl (lv_at hl 1 rfl) ?_
      obtain ⟨h_3, hf⟩ := zin_ex hf
      obtain ⟨j_3, hf⟩ := zch_ex hf
      obtain ⟨gS_3, e_3, hf⟩ := zlet_ex hf
      refine z_cast (gs' := [(wX5 cI cC qS aS gS_3)]) hx hb hK hP hD hS 1 1 rfl rfl h_3 j_3.2.2 (by rw [e_3]; rfl) dX5_append_27 (fun H locs hP hD hS => ?_)
      refine lv_aload_n hx hb dX5_append_28 rfl (lv_at hl 0 rfl) ?_
      refine lv_dup hx hb dX5_append_29 rfl ?_
      refine va_get (D := (dC, dI)) (ci := 5) (v := .int (gS_3 1 0)) (C := RX5) (T := TX5) (N := 5) hx hb hts u_X5_append_X5 hown hK hP 0 rfl rfl 1 (by decide) (hts _ k_X5_append_1) (fun _ h9 => h9) rfl dX5_append_30 ?_
      refine lv_iconst (v := (1 : Int32)) hx hb dX5_append_33 (by decide) ?_
      refine lv_iadd hx hb dX5_append_34 ?_
      obtain ⟨gS_4, e_4, hf⟩ := zlet_ex hf
      refine z_put (gs' := [(wX5 cI cC qS aS gS_4)]) (D := (dC, dI)) (ci := 5) (ty := .int) (C := RX5) (T := TX5) (N := 5) hx hb hts u_X5_append_X5 tyX5 tyX5_ok nmX5 hown hK hP hD hS 0 rfl rfl 1 (by decide) (hts _ k_X5_append_1) (fun _ h9 => h9) rfl (by decide +kernel) rfl rfl (Nat.le_of_ble_eq_true rfl) (by rw [e_4]; rfl) dX5_append_35 (fun H locs hP hD hS => ?_)
      refine lv_iconst (v := (1 : Int32)) hx hb dX5_append_38 (by decide) ?_
      exact zM_ret (gs := [(wX5 cI cC qS aS gS_4)]) hx hb hr rfl hP hD hS (by rw [← Option.some.inj hf]; exact ⟨rfl, rfl⟩) hlk dX5_append_39
    · have hf := zif_f hf c_2
      refine lv_iconst (v := (0 : Int32)) hx hb dX5_append_16 (by decide) ?_
      exact zM_ret (gs := [(wX5 cI cC qS aS gS)]) hx hb hr rfl hP hD hS (by rw [← Option.some.inj hf]; exact ⟨rfl, rfl⟩) hlk dX5_append_17

def f_X5_signAt (gS : zG) (x1 : Int32) : Option (Int32) := (if x1 < 0 then (some ((0 : Int32))) else (if (gS 1 0) ≤ x1 then (some ((0 : Int32))) else (if (60 : Int32) ≤ x1 then (some ((0 : Int32))) else (zin x1 60 (zch (gS 0 x1.toNatClampNeg) (some ((gS 0 x1.toNatClampNeg))))))))
theorem u_X5_signAt_X5 : ∀ w ∈ u_ws RX5 TX5 5, w ∈ wsX5_signAt := fun w h => List.mem_cons_of_mem _ (List.mem_append_right _ h)
theorem k_X5_signAt_1 : Cond.fieldLink RX5 15 "JoinedLight$Text" "length" "I" ∈ wsX5_signAt := List.mem_of_getElem? (i := 1) rfl
theorem k_X5_signAt_2 : Cond.fieldLink RX5 9 "JoinedLight$Text" "signs" "[C" ∈ wsX5_signAt := List.mem_of_getElem? (i := 2) rfl
abbrev rm_X5_signAt : Room := { frames := 0, cells := 0, slots := 0, locals := 0 }
set_option maxHeartbeats 4000000 in
set_option maxRecDepth 100000 in
theorem c_X5_signAt (l : Launch) (dC : Nat → ClassId) (dI : Nat → Nat → Nat) (cI cC cO : ClassId) (qS : Nat) (aS : Nat → Nat) (gS : zG) (x1 : Int32) (R : Int32) (hf : f_X5_signAt gS x1 = some R) : cR l (dC, dI) (zT cI cC cO) yX5_signAt wsX5_signAt rm_X5_signAt [.ref qS, .int x1] [(wX5 cI cC qS aS gS)] (some (.int R)) := by
  refine zR_in (cc := cX5_signAt) (maxL := 2) (ret := (some .char)) (plainFor_of_name (by decide)) rfl (Nat.le_of_ble_eq_true rfl) ?_
  intro p e s m below meth c hx hb hml hr hlk hown hts hK hN hP ls hl
  have hl : lv_has ls 2 [(0, .ref qS), (1, .int x1)] := hl
  unfold f_X5_signAt at hf
  refine lv_iload_n hx hb dX5_signAt_0 rfl (lv_at hl 1 rfl) ?_
  refine lv_if_lt (tgt := 27) hx hb dX5_signAt_1 (by decide) (fun c_1 => ?_) (fun c_1 => ?_)
  · have hf := zif_t hf c_1
    refine lv_iconst (v := (0 : Int32)) hx hb dX5_signAt_27 (by decide) ?_
    exact zR_ret hx hb hr rfl hf hlk dX5_signAt_28
  · have hf := zif_f hf c_1
    refine lv_iload_n hx hb dX5_signAt_4 rfl (lv_at hl 1 rfl) ?_
    refine lv_aload_n hx hb dX5_signAt_5 rfl (lv_at hl 0 rfl) ?_
    refine va_get (D := (dC, dI)) (ci := 5) (v := .int (gS 1 0)) (C := RX5) (T := TX5) (N := 5) hx hb hts u_X5_signAt_X5 hown hK hP 0 rfl rfl 1 (by decide) (hts _ k_X5_signAt_1) (fun _ h9 => h9) rfl dX5_signAt_6 ?_
    refine lv_icmp_ge (tgt := 27) hx hb dX5_signAt_9 (by decide) (fun c_2 => ?_) (fun c_2 => ?_)
    · have hf := zif_t hf c_2
      refine lv_iconst (v := (0 : Int32)) hx hb dX5_signAt_27 (by decide) ?_
      exact zR_ret hx hb hr rfl hf hlk dX5_signAt_28
    · have hf := zif_f hf c_2
      refine lv_iload_n hx hb dX5_signAt_12 rfl (lv_at hl 1 rfl) ?_
      refine lv_bipush (v := (60 : Int32)) hx hb dX5_signAt_13 (by decide) ?_
      refine lv_icmp_ge (tgt := 27) hx hb dX5_signAt_15 (by decide) (fun c_3 => ?_) (fun c_3 => ?_)
      · have hf := zif_t hf c_3
        refine lv_iconst (v := (0 : Int32)) hx hb dX5_signAt_27 (by decide) ?_
        exact zR_ret hx hb hr rfl hf hlk dX5_signAt_28
      · have hf := zif_f hf c_3
        refine lv_aload_n hx hb dX5_signAt_18 rfl (lv_at hl 0 rfl) ?_
        refine va_get (D := (dC, dI)) (ci := 5) (v := .ref (aS 0)) (C := RX5) (T := TX5) (N := 5) hx hb hts u_X5_signAt_X5 hown hK hP 0 rfl rfl 0 (by decide) (hts _ k_X5_signAt_2) (fun _ h9 => h9) rfl dX5_signAt_19 ?_
        refine lv_iload_n hx hb dX5_signAt_22 rfl (lv_at hl 1 rfl) ?_
        obtain ⟨h_4, hf⟩ := zin_ex hf
        refine va_cald hx hb hK hP 1 1 rfl rfl h_4 dX5_signAt_23 ?_
        refine lv_goto (tgt := 28) hx hb dX5_signAt_24 (by decide) ?_
        obtain ⟨h_5, hf⟩ := zch_ex hf
        exact zR_ret hx hb hr h_5.1 hf hlk dX5_signAt_28

def f_X5_numbersOf  (x0 : Int32) : Option (Int32) := (if x0 = (100 : Int32) then (some ((3 : Int32))) else (if x0 = (108 : Int32) then (some ((2 : Int32))) else (if x0 = (115 : Int32) then (some ((2 : Int32))) else (if x0 = (117 : Int32) then (some ((3 : Int32))) else (if x0 = (120 : Int32) then (some ((1 : Int32))) else (some ((0 : Int32))))))))
abbrev rm_X5_numbersOf : Room := { frames := 0, cells := 0, slots := 0, locals := 0 }
set_option maxHeartbeats 4000000 in
set_option maxRecDepth 100000 in
theorem c_X5_numbersOf (l : Launch) (dC : Nat → ClassId) (dI : Nat → Nat → Nat) (cI cC cO : ClassId)  (x0 : Int32) (R : Int32) (hf : f_X5_numbersOf x0 = some R) : cR l (dC, dI) (zT cI cC cO) yX5_numbersOf wsX5_numbersOf rm_X5_numbersOf [.int x0] [] (some (.int R)) := by
  refine zR_in (cc := cX5_numbersOf) (maxL := 1) (ret := (some .int)) (plainFor_of_name (by decide)) rfl (Nat.le_of_ble_eq_true rfl) ?_
  intro p e s m below meth c hx hb hml hr hlk hown hts hK hN hP ls hl
  have hl : lv_has ls 1 [(0, .int x0)] := hl
  unfold f_X5_numbersOf at hf
  refine lv_iload_n hx hb dX5_numbersOf_0 rfl (lv_at hl 0 rfl) ?_
  by_cases c_1 : x0 = (100 : Int32)
  · have hf := zif_t hf c_1
    refine lv_lookup (tgt := 56) (off := 55) hx hb dX5_numbersOf_1 (by decide +kernel) (by rw [c_1]; first | done | rfl) (by decide) ?_
    refine lv_iconst (v := (3 : Int32)) hx hb dX5_numbersOf_56 (by decide) ?_
    exact zR_ret hx hb hr rfl hf hlk dX5_numbersOf_57
  · have hf := zif_f hf c_1
    by_cases c_2 : x0 = (108 : Int32)
    · have hf := zif_t hf c_2
      refine lv_lookup (tgt := 54) (off := 53) hx hb dX5_numbersOf_1 (by decide +kernel) (by rw [c_2]; first | done | rfl) (by decide) ?_
      refine lv_iconst (v := (2 : Int32)) hx hb dX5_numbersOf_54 (by decide) ?_
      exact zR_ret hx hb hr rfl hf hlk dX5_numbersOf_55
    · have hf := zif_f hf c_2
      by_cases c_3 : x0 = (115 : Int32)
      · have hf := zif_t hf c_3
        refine lv_lookup (tgt := 54) (off := 53) hx hb dX5_numbersOf_1 (by decide +kernel) (by rw [c_3]; first | done | rfl) (by decide) ?_
        refine lv_iconst (v := (2 : Int32)) hx hb dX5_numbersOf_54 (by decide) ?_
        exact zR_ret hx hb hr rfl hf hlk dX5_numbersOf_55
      · have hf := zif_f hf c_3
        by_cases c_4 : x0 = (117 : Int32)
        · have hf := zif_t hf c_4
          refine lv_lookup (tgt := 56) (off := 55) hx hb dX5_numbersOf_1 (by decide +kernel) (by rw [c_4]; first | done | rfl) (by decide) ?_
          refine lv_iconst (v := (3 : Int32)) hx hb dX5_numbersOf_56 (by decide) ?_
          exact zR_ret hx hb hr rfl hf hlk dX5_numbersOf_57
        · have hf := zif_f hf c_4
          by_cases c_5 : x0 = (120 : Int32)
          · have hf := zif_t hf c_5
            refine lv_lookup (tgt := 52) (off := 51) hx hb dX5_numbersOf_1 (by decide +kernel) (by rw [c_5]; first | done | rfl) (by decide) ?_
            refine lv_iconst (v := (1 : Int32)) hx hb dX5_numbersOf_52 (by decide) ?_
            exact zR_ret hx hb hr rfl hf hlk dX5_numbersOf_53
          · have hf := zif_f hf c_5
            refine lv_lookup (tgt := 58) (off := 57) hx hb dX5_numbersOf_1 (by decide +kernel) (by show Op.lookupswitch.offset [((100 : Int), (55 : Int)), ((108 : Int), (53 : Int)), ((115 : Int), (53 : Int)), ((117 : Int), (55 : Int)), ((120 : Int), (51 : Int))] _ _ = _; rw [lv_osw (a := 100) c_1 (by decide)]; rw [lv_osw (a := 108) c_2 (by decide)]; rw [lv_osw (a := 115) c_3 (by decide)]; rw [lv_osw (a := 117) c_4 (by decide)]; rw [lv_osw (a := 120) c_5 (by decide)]; first | done | rfl) (by decide) ?_
            refine lv_iconst (v := (0 : Int32)) hx hb dX5_numbersOf_58 (by decide) ?_
            exact zR_ret hx hb hr rfl hf hlk dX5_numbersOf_59

def f_X5_readNumber_71   (y1 : Int32) (y2 : Int32) (y3 : Int32) (gS : zG) : Option (Int32 × zG) := (zin y1 3 (zlet (gup gS 3 y1.toNatClampNeg y3) (fun gS_9 => (if y2 ≤ 0 then (some ((0 : Int32), gS_9)) else (some ((1 : Int32), gS_9))))))
def f_X5_readNumber_15_b   (k15 : Int32 → Int32 → Int32 → zG → Option (Int32 × zG)) (y1 : Int32) (y2 : Int32) (y3 : Int32) (gS : zG) : Option (Int32 × zG) := (if (4 : Int32) ≤ y2 then (f_X5_readNumber_71    y1 y2 y3 gS) else (zbind (f_X5_signAt gS (gS 4 0)) (fun R4 => (zbind (f_X6_within R4 (48 : Int32) (57 : Int32)) (fun R5 => (if R5 = 0 then (f_X5_readNumber_71    y1 y2 y3 gS) else (zbind (f_X5_signAt gS (gS 4 0)) (fun R7 => (zlet (gup gS 4 0 ((gS 4 0) + (1 : Int32))) (fun gS_8 => (k15 y1 (y2 + (1 : Int32)) (((y3 * (10 : Int32)) + R7) - (48 : Int32)) gS_8)))))))))))
def f_X5_readNumber_15   : Nat → Int32 → Int32 → Int32 → zG → Option (Int32 × zG)
  | 0 => fun _ _ _ _ => none
  | n + 1 => f_X5_readNumber_15_b   (f_X5_readNumber_15   n)
def f_X5_readNumber (gS : zG) (x1 : Int32) : Option (Int32 × zG) := (if x1 < 0 then (some ((0 : Int32), gS)) else (if x1 < (3 : Int32) then (f_X5_readNumber_15   zfuel x1 (0 : Int32) (0 : Int32) gS) else (some ((0 : Int32), gS))))
theorem u_X5_readNumber_X5 : ∀ w ∈ u_ws RX5 TX5 5, w ∈ wsX5_readNumber := fun w h => List.mem_cons_of_mem _ (List.mem_append_right _ h)
theorem k_X5_readNumber_1 : Cond.fieldLink RX5 27 "JoinedLight$Text" "next" "I" ∈ wsX5_readNumber := List.mem_of_getElem? (i := 1) rfl
theorem k_X5_readNumber_11 : Cond.initialized RX6 ∈ wsX5_readNumber := List.mem_of_getElem? (i := 11) rfl
theorem k_X5_readNumber_10 : Cond.static yX6_within ∈ wsX5_readNumber := List.mem_of_getElem? (i := 10) rfl
theorem k_X5_readNumber_2 : Cond.fieldLink RX5 23 "JoinedLight$Text" "numbers" "[I" ∈ wsX5_readNumber := List.mem_of_getElem? (i := 2) rfl
abbrev rm_X5_readNumber : Room := { frames := 1, cells := 0, slots := 0, locals := 22 }
set_option maxHeartbeats 4000000 in
set_option maxRecDepth 100000 in
theorem c_X5_readNumber (l : Launch) (dC : Nat → ClassId) (dI : Nat → Nat → Nat) (cI cC cO : ClassId) (qS : Nat) (aS : Nat → Nat) (gS : zG) (x1 : Int32) (R : Int32 × zG) (hf : f_X5_readNumber gS x1 = some R) : cM l (dC, dI) (zT cI cC cO) yX5_readNumber wsX5_readNumber rm_X5_readNumber [.ref qS, .int x1] [(wX5 cI cC qS aS gS)] [(wX5 cI cC qS aS R.2)] (some (.int R.1)) 0 0 := by
  refine zM_in (cc := cX5_readNumber) (maxL := 4) (ret := (some .boolean)) (plainFor_of_name (by decide)) rfl (Nat.le_of_ble_eq_true rfl) ?_
  intro p e s m below meth c hx hb hml hr hlk hown hts hK hN A hA hP hD hS ls hl
  have hl : lv_has ls 4 [(0, .ref qS), (1, .int x1)] := hl
  have w71 : ∀ (y1 : Int32) (y2 : Int32) (y3 : Int32) (gS : zG) (H : Heap) (locs : List Loc) (ls : Array Slot), f_X5_readNumber_71    y1 y2 y3 gS = some R → va_P (dC, dI) vwCl [(wX5 cI cC qS aS gS)].flatten H → va_D A [(wX5 cI cC qS aS gS)].flatten → va_S A s.heap H locs → lv_has ls 4 [(0, .ref qS), (1, .int y1), (2, .int y2), (3, .int y3)] → W p l e (headSpec wsX5_readNumber rm_X5_readNumber).room s m [.ref qS, .int x1].toArray below meth c H locs 0 0 (MQ below (zqM (dC, dI) (some (.int R.1)) [(wX5 cI cC qS aS R.2)] A) [.ref qS, .int x1].toArray s 0 0 A) (F0 m 71 ls []) := by
    intro y1 y2 y3 gS H locs ls hf hP hD hS hl
    unfold f_X5_readNumber_71 at hf
    refine lv_aload_n hx hb dX5_readNumber_71 rfl (lv_at hl 0 rfl) ?_
    refine va_get (D := (dC, dI)) (ci := 5) (v := .ref (aS 3)) (C := RX5) (T := TX5) (N := 5) hx hb hts u_X5_readNumber_X5 hown hK hP 0 rfl rfl 3 (by decide) (hts _ k_X5_readNumber_2) (fun _ h9 => h9) rfl dX5_readNumber_72 ?_
    refine lv_iload_n hx hb dX5_readNumber_75 rfl (lv_at hl 1 rfl) ?_
    refine lv_iload_n hx hb dX5_readNumber_76 rfl (lv_at hl 3 rfl) ?_
    obtain ⟨h_9, hf⟩ := zin_ex hf
    obtain ⟨gS_9, e_9, hf⟩ := zlet_ex hf
    refine z_iast (gs' := [(wX5 cI cC qS aS gS_9)]) hx hb hK hP hD hS 2 0 rfl rfl h_9 (by rw [e_9]; rfl) dX5_readNumber_77 (fun H locs hP hD hS => ?_)
    refine lv_iload_n hx hb dX5_readNumber_78 rfl (lv_at hl 2 rfl) ?_
    refine lv_if_le (tgt := 86) hx hb dX5_readNumber_79 (by decide) (fun c_10 => ?_) (fun c_10 => ?_)
    · have hf := zif_t hf c_10
      refine lv_iconst (v := (0 : Int32)) hx hb dX5_readNumber_86 (by decide) ?_
      exact zM_ret (gs := [(wX5 cI cC qS aS gS_9)]) hx hb hr rfl hP hD hS (by rw [← Option.some.inj hf]; exact ⟨rfl, rfl⟩) hlk dX5_readNumber_87
    · have hf := zif_f hf c_10
      refine lv_iconst (v := (1 : Int32)) hx hb dX5_readNumber_82 (by decide) ?_
      refine lv_goto (tgt := 87) hx hb dX5_readNumber_83 (by decide) ?_
      exact zM_ret (gs := [(wX5 cI cC qS aS gS_9)]) hx hb hr rfl hP hD hS (by rw [← Option.some.inj hf]; exact ⟨rfl, rfl⟩) hlk dX5_readNumber_87
  have w15 : ∀ (n15 : Nat) (y1 : Int32) (y2 : Int32) (y3 : Int32) (gS : zG) (H : Heap) (locs : List Loc) (ls : Array Slot), f_X5_readNumber_15   n15 y1 y2 y3 gS = some R → va_P (dC, dI) vwCl [(wX5 cI cC qS aS gS)].flatten H → va_D A [(wX5 cI cC qS aS gS)].flatten → va_S A s.heap H locs → lv_has ls 4 [(0, .ref qS), (1, .int y1), (2, .int y2), (3, .int y3)] → W p l e (headSpec wsX5_readNumber rm_X5_readNumber).room s m [.ref qS, .int x1].toArray below meth c H locs 0 0 (MQ below (zqM (dC, dI) (some (.int R.1)) [(wX5 cI cC qS aS R.2)] A) [.ref qS, .int x1].toArray s 0 0 A) (F0 m 15 ls []) := by
    intro n15
    induction n15 with
    | zero =>
      intro y1 y2 y3 gS H locs ls hf hP hD hS hl
      have hf : (none : Option (Int32 × zG)) = some R := hf
      cases hf
    | succ n15 ih15 =>
      intro y1 y2 y3 gS H locs ls hf hP hD hS hl
      have hf : f_X5_readNumber_15_b   (f_X5_readNumber_15   n15) y1 y2 y3 gS = some R := hf
      unfold f_X5_readNumber_15_b at hf
      refine lv_iload_n hx hb dX5_readNumber_15 rfl (lv_at hl 2 rfl) ?_
      refine lv_iconst (v := (4 : Int32)) hx hb dX5_readNumber_16 (by decide) ?_
      refine lv_icmp_ge (tgt := 71) hx hb dX5_readNumber_17 (by decide) (fun c_3 => ?_) (fun c_3 => ?_)
      · have hf := zif_t hf c_3
        exact w71  y1 y2 y3 gS H locs ls hf hP hD hS (lv_sub hl [0, 1, 2, 3] rfl)
      · have hf := zif_f hf c_3
        refine lv_aload_n hx hb dX5_readNumber_20 rfl (lv_at hl 0 rfl) ?_
        refine lv_aload_n hx hb dX5_readNumber_21 rfl (lv_at hl 0 rfl) ?_
        refine va_get (D := (dC, dI)) (ci := 5) (v := .int (gS 4 0)) (C := RX5) (T := TX5) (N := 5) hx hb hts u_X5_readNumber_X5 hown hK hP 0 rfl rfl 4 (by decide) (hts _ k_X5_readNumber_1) (fun _ h9 => h9) rfl dX5_readNumber_22 ?_
        obtain ⟨R4, e_4, hf⟩ := zbind_ex hf
        refine z_callRi (va_runV (As := [.int (gS 4 0)]) (rest := []) ⟨hx, hb, hml, hown, hts⟩ (c_X5_signAt l dC dI cI cC cO qS aS gS (gS 4 0) R4 e_4) (cwV 1 hts gX5_readNumber_X5_signAt rfl rfl rfl (by decide +kernel) ⟨Nat.le_of_ble_eq_true rfl, Nat.le_of_ble_eq_true rfl⟩) ⟨zpR_blind, va_recv hK hP (ci := 5) (q0 := 0) rfl rfl, z_useR hK hN hP [0] rfl⟩ rfl rfl hl.1 rfl (lv_room (Nat.le_of_ble_eq_true rfl)) dX5_readNumber_25 ⟨Nat.le_of_ble_eq_true rfl, Nat.le_of_ble_eq_true rfl⟩) ?_
        refine lv_bipush (v := (48 : Int32)) hx hb dX5_readNumber_28 (by decide) ?_
        refine lv_bipush (v := (57 : Int32)) hx hb dX5_readNumber_30 (by decide) ?_
        obtain ⟨R5, e_5, hf⟩ := zbind_ex hf
        refine z_callRi (va_runSN (As := [.int R4, .int (48 : Int32), .int (57 : Int32)]) (rest := []) ⟨hx, hb, hml, hown, hts⟩ (c_X6_within l dC dI cI cC cO  R4 (48 : Int32) (57 : Int32) R5 e_5) ⟨va_cnB 3 hts gX5_readNumber_X6_within_n46 rfl rfl rfl hN.2.2.2.2.1 (hts _ k_X5_readNumber_11) (by decide +kernel) ⟨Nat.le_of_ble_eq_true rfl, Nat.le_of_ble_eq_true rfl⟩, (hts _ k_X5_readNumber_10), trivial⟩ ⟨zpR_blind, z_useR hK hN hP [] rfl⟩ rfl rfl hl.1 rfl (lv_room (Nat.le_of_ble_eq_true rfl)) dX5_readNumber_32 ⟨Nat.le_of_ble_eq_true rfl, Nat.le_of_ble_eq_true rfl⟩) ?_
        refine lv_if_eq (tgt := 71) hx hb dX5_readNumber_35 (by decide) (fun c_6 => ?_) (fun c_6 => ?_)
        · have hf := zif_t hf c_6
          exact w71  y1 y2 y3 gS H locs ls hf hP hD hS (lv_sub hl [0, 1, 2, 3] rfl)
        · have hf := zif_f hf c_6
          refine lv_iload_n hx hb dX5_readNumber_38 rfl (lv_at hl 3 rfl) ?_
          refine lv_bipush (v := (10 : Int32)) hx hb dX5_readNumber_39 (by decide) ?_
          refine lv_imul hx hb dX5_readNumber_41 ?_
          refine lv_aload_n hx hb dX5_readNumber_42 rfl (lv_at hl 0 rfl) ?_
          refine lv_aload_n hx hb dX5_readNumber_43 rfl (lv_at hl 0 rfl) ?_
          refine va_get (D := (dC, dI)) (ci := 5) (v := .int (gS 4 0)) (C := RX5) (T := TX5) (N := 5) hx hb hts u_X5_readNumber_X5 hown hK hP 0 rfl rfl 4 (by decide) (hts _ k_X5_readNumber_1) (fun _ h9 => h9) rfl dX5_readNumber_44 ?_
          obtain ⟨R7, e_7, hf⟩ := zbind_ex hf
          refine z_callRi (va_runV (As := [.int (gS 4 0)]) (rest := [.int (y3 * (10 : Int32))]) ⟨hx, hb, hml, hown, hts⟩ (c_X5_signAt l dC dI cI cC cO qS aS gS (gS 4 0) R7 e_7) (cwV 1 hts gX5_readNumber_X5_signAt rfl rfl rfl (by decide +kernel) ⟨Nat.le_of_ble_eq_true rfl, Nat.le_of_ble_eq_true rfl⟩) ⟨zpR_blind, va_recv hK hP (ci := 5) (q0 := 0) rfl rfl, z_useR hK hN hP [0] rfl⟩ rfl rfl hl.1 rfl (lv_room (Nat.le_of_ble_eq_true rfl)) dX5_readNumber_47 ⟨Nat.le_of_ble_eq_true rfl, Nat.le_of_ble_eq_true rfl⟩) ?_
          refine lv_iadd hx hb dX5_readNumber_50 ?_
          refine lv_bipush (v := (48 : Int32)) hx hb dX5_readNumber_51 (by decide) ?_
          refine lv_isub hx hb dX5_readNumber_53 ?_
          refine lv_istore_n (lv' := [(3, .int (((y3 * (10 : Int32)) + R7) - (48 : Int32))), (0, .ref qS), (1, .int y1), (2, .int y2)]) hx hb dX5_readNumber_54 rfl hl (by decide) rfl (fun ls hl => ?_)
          refine lv_iinc (v := (y2 + (1 : Int32))) (lv' := [(2, .int (y2 + (1 : Int32))), (3, .int (((y3 * (10 : Int32)) + R7) - (48 : Int32))), (0, .ref qS), (1, .int y1)]) hx hb dX5_readNumber_55 hl (k := 3) rfl rfl (by decide) rfl (fun ls hl => ?_)
          refine lv_aload_n hx hb dX5_readNumber_58 rfl (lv_at hl 2 rfl) ?_
          refine lv_dup hx hb dX5_readNumber_59 rfl ?_
          refine va_get (D := (dC, dI)) (ci := 5) (v := .int (gS 4 0)) (C := RX5) (T := TX5) (N := 5) hx hb hts u_X5_readNumber_X5 hown hK hP 0 rfl rfl 4 (by decide) (hts _ k_X5_readNumber_1) (fun _ h9 => h9) rfl dX5_readNumber_60 ?_
          refine lv_iconst (v := (1 : Int32)) hx hb dX5_readNumber_63 (by decide) ?_
          refine lv_iadd hx hb dX5_readNumber_64 ?_
          obtain ⟨gS_8, e_8, hf⟩ := zlet_ex hf
          refine z_put (gs' := [(wX5 cI cC qS aS gS_8)]) (D := (dC, dI)) (ci := 5) (ty := .int) (C := RX5) (T := TX5) (N := 5) hx hb hts u_X5_readNumber_X5 tyX5 tyX5_ok nmX5 hown hK hP hD hS 0 rfl rfl 4 (by decide) (hts _ k_X5_readNumber_1) (fun _ h9 => h9) rfl (by decide +kernel) rfl rfl (Nat.le_of_ble_eq_true rfl) (by rw [e_8]; rfl) dX5_readNumber_65 (fun H locs hP hD hS => ?_)
          refine lv_goto (tgt := 15) hx hb dX5_readNumber_68 (by decide) ?_
          exact ih15 y1 (y2 + (1 : Int32)) (((y3 * (10 : Int32)) + R7) - (48 : Int32)) gS_8 H locs ls hf hP hD hS (lv_sub hl [2, 3, 0, 1] rfl)
  unfold f_X5_readNumber at hf
  obtain ⟨H, hH⟩ : ∃ H, H = s.heap := ⟨_, rfl⟩
  obtain ⟨locs, hlocs⟩ : ∃ locs : List Loc, locs = [] := ⟨_, rfl⟩
  have hS : va_S A s.heap H locs := by rw [hH, hlocs]; exact hS
  rw [← hH] at hP
  refine zheap hH hlocs ?_
  refine lv_iload_n hx hb dX5_readNumber_0 rfl (lv_at hl 1 rfl) ?_
  refine lv_if_lt (tgt := 9) hx hb dX5_readNumber_1 (by decide) (fun c_1 => ?_) (fun c_1 => ?_)
  · have hf := zif_t hf c_1
    refine lv_iconst (v := (0 : Int32)) hx hb dX5_readNumber_9 (by decide) ?_
    exact zM_ret (gs := [(wX5 cI cC qS aS gS)]) hx hb hr rfl hP hD hS (by rw [← Option.some.inj hf]; exact ⟨rfl, rfl⟩) hlk dX5_readNumber_10
  · have hf := zif_f hf c_1
    refine lv_iload_n hx hb dX5_readNumber_4 rfl (lv_at hl 1 rfl) ?_
    refine lv_iconst (v := (3 : Int32)) hx hb dX5_readNumber_5 (by decide) ?_
    refine lv_icmp_lt (tgt := 11) hx hb dX5_readNumber_6 (by decide) (fun c_2 => ?_) (fun c_2 => ?_)
    · have hf := zif_t hf c_2
      refine lv_iconst (v := (0 : Int32)) hx hb dX5_readNumber_11 (by decide) ?_
      refine lv_istore_n (lv' := [(2, .int (0 : Int32)), (0, .ref qS), (1, .int x1)]) hx hb dX5_readNumber_12 rfl hl (by decide) rfl (fun ls hl => ?_)
      refine lv_iconst (v := (0 : Int32)) hx hb dX5_readNumber_13 (by decide) ?_
      refine lv_istore_n (lv' := [(3, .int (0 : Int32)), (2, .int (0 : Int32)), (0, .ref qS), (1, .int x1)]) hx hb dX5_readNumber_14 rfl hl (by decide) rfl (fun ls hl => ?_)
      exact w15 zfuel x1 (0 : Int32) (0 : Int32) gS H locs ls hf hP hD hS (lv_sub hl [2, 3, 1, 0] rfl)
    · have hf := zif_f hf c_2
      refine lv_iconst (v := (0 : Int32)) hx hb dX5_readNumber_9 (by decide) ?_
      exact zM_ret (gs := [(wX5 cI cC qS aS gS)]) hx hb hr rfl hP hD hS (by rw [← Option.some.inj hf]; exact ⟨rfl, rfl⟩) hlk dX5_readNumber_10

def f_X5_readSign (gS : zG) (x1 : Int32) : Option (Int32 × zG) := (zbind (f_X5_signAt gS (gS 4 0)) (fun R1 => (if R1 = x1 then (zlet (gup gS 4 0 ((gS 4 0) + (1 : Int32))) (fun gS_3 => (some ((1 : Int32), gS_3)))) else (some ((0 : Int32), gS)))))
theorem u_X5_readSign_X5 : ∀ w ∈ u_ws RX5 TX5 5, w ∈ wsX5_readSign := fun w h => List.mem_cons_of_mem _ (List.mem_append_right _ h)
theorem k_X5_readSign_1 : Cond.fieldLink RX5 27 "JoinedLight$Text" "next" "I" ∈ wsX5_readSign := List.mem_of_getElem? (i := 1) rfl
abbrev rm_X5_readSign : Room := { frames := 1, cells := 0, slots := 0, locals := 21 }
set_option maxHeartbeats 4000000 in
set_option maxRecDepth 100000 in
theorem c_X5_readSign (l : Launch) (dC : Nat → ClassId) (dI : Nat → Nat → Nat) (cI cC cO : ClassId) (qS : Nat) (aS : Nat → Nat) (gS : zG) (x1 : Int32) (R : Int32 × zG) (hf : f_X5_readSign gS x1 = some R) : cM l (dC, dI) (zT cI cC cO) yX5_readSign wsX5_readSign rm_X5_readSign [.ref qS, .int x1] [(wX5 cI cC qS aS gS)] [(wX5 cI cC qS aS R.2)] (some (.int R.1)) 0 0 := by
  refine zM_in (cc := cX5_readSign) (maxL := 2) (ret := (some .boolean)) (plainFor_of_name (by decide)) rfl (Nat.le_of_ble_eq_true rfl) ?_
  intro p e s m below meth c hx hb hml hr hlk hown hts hK hN A hA hP hD hS ls hl
  have hl : lv_has ls 2 [(0, .ref qS), (1, .int x1)] := hl
  unfold f_X5_readSign at hf
  obtain ⟨H, hH⟩ : ∃ H, H = s.heap := ⟨_, rfl⟩
  obtain ⟨locs, hlocs⟩ : ∃ locs : List Loc, locs = [] := ⟨_, rfl⟩
  have hS : va_S A s.heap H locs := by rw [hH, hlocs]; exact hS
  rw [← hH] at hP
  refine zheap hH hlocs ?_
  refine lv_aload_n hx hb dX5_readSign_0 rfl (lv_at hl 0 rfl) ?_
  refine lv_aload_n hx hb dX5_readSign_1 rfl (lv_at hl 0 rfl) ?_
  refine va_get (D := (dC, dI)) (ci := 5) (v := .int (gS 4 0)) (C := RX5) (T := TX5) (N := 5) hx hb hts u_X5_readSign_X5 hown hK hP 0 rfl rfl 4 (by decide) (hts _ k_X5_readSign_1) (fun _ h9 => h9) rfl dX5_readSign_2 ?_
  obtain ⟨R1, e_1, hf⟩ := zbind_ex hf
  refine z_callRi (va_runV (As := [.int (gS 4 0)]) (rest := []) ⟨hx, hb, hml, hown, hts⟩ (c_X5_signAt l dC dI cI cC cO qS aS gS (gS 4 0) R1 e_1) (cwV 1 hts gX5_readSign_X5_signAt rfl rfl rfl (by decide +kernel) ⟨Nat.le_of_ble_eq_true rfl, Nat.le_of_ble_eq_true rfl⟩) ⟨zpR_blind, va_recv hK hP (ci := 5) (q0 := 0) rfl rfl, z_useR hK hN hP [0] rfl⟩ rfl rfl hl.1 rfl (lv_room (Nat.le_of_ble_eq_true rfl)) dX5_readSign_5 ⟨Nat.le_of_ble_eq_true rfl, Nat.le_of_ble_eq_true rfl⟩) ?_
  refine lv_iload_n hx hb dX5_readSign_8 rfl (lv_at hl 1 rfl) ?_
  refine lv_icmp_eq (tgt := 14) hx hb dX5_readSign_9 (by decide) (fun c_2 => ?_) (fun c_2 => ?_)
  · have hf := zif_t hf c_2
    refine lv_aload_n hx hb dX5_readSign_14 rfl (lv_at hl 0 rfl) ?_
    refine lv_dup hx hb dX5_readSign_15 rfl ?_
    refine va_get (D := (dC, dI)) (ci := 5) (v := .int (gS 4 0)) (C := RX5) (T := TX5) (N := 5) hx hb hts u_X5_readSign_X5 hown hK hP 0 rfl rfl 4 (by decide) (hts _ k_X5_readSign_1) (fun _ h9 => h9) rfl dX5_readSign_16 ?_
    refine lv_iconst (v := (1 : Int32)) hx hb dX5_readSign_19 (by decide) ?_
    refine lv_iadd hx hb dX5_readSign_20 ?_
    obtain ⟨gS_3, e_3, hf⟩ := zlet_ex hf
    refine z_put (gs' := [(wX5 cI cC qS aS gS_3)]) (D := (dC, dI)) (ci := 5) (ty := .int) (C := RX5) (T := TX5) (N := 5) hx hb hts u_X5_readSign_X5 tyX5 tyX5_ok nmX5 hown hK hP hD hS 0 rfl rfl 4 (by decide) (hts _ k_X5_readSign_1) (fun _ h9 => h9) rfl (by decide +kernel) rfl rfl (Nat.le_of_ble_eq_true rfl) (by rw [e_3]; rfl) dX5_readSign_21 (fun H locs hP hD hS => ?_)
    refine lv_iconst (v := (1 : Int32)) hx hb dX5_readSign_24 (by decide) ?_
    exact zM_ret (gs := [(wX5 cI cC qS aS gS_3)]) hx hb hr rfl hP hD hS (by rw [← Option.some.inj hf]; exact ⟨rfl, rfl⟩) hlk dX5_readSign_25
  · have hf := zif_f hf c_2
    refine lv_iconst (v := (0 : Int32)) hx hb dX5_readSign_12 (by decide) ?_
    exact zM_ret (gs := [(wX5 cI cC qS aS gS)]) hx hb hr rfl hP hD hS (by rw [← Option.some.inj hf]; exact ⟨rfl, rfl⟩) hlk dX5_readSign_13

def f_X5_readOrder_73  (k40 : Int32 → Int32 → zG → Option (Int32 × zG)) (y2 : Int32) (y3 : Int32) (s0 : Int32) (gS : zG) : Option (Int32 × zG) := (zbind (f_X5_readSign gS s0) (fun R12 => (if R12.1 = 0 then (some ((0 : Int32), R12.2)) else (k40 y2 (y3 + (1 : Int32)) R12.2))))
def f_X5_readOrder_40_b   (k40 : Int32 → Int32 → zG → Option (Int32 × zG)) (y2 : Int32) (y3 : Int32) (gS : zG) : Option (Int32 × zG) := (if y2 ≤ y3 then (some ((1 : Int32), gS)) else (if (3 : Int32) ≤ y3 then (some ((1 : Int32), gS)) else (zbind (f_X5_readNumber gS y3) (fun R9 => (if R9.1 = 0 then (some ((0 : Int32), R9.2)) else (if y3 = (y2 - (1 : Int32)) then (f_X5_readOrder_73  k40  y2 y3 (59 : Int32) R9.2) else (f_X5_readOrder_73  k40  y2 y3 (44 : Int32) R9.2)))))))
def f_X5_readOrder_40   : Nat → Int32 → Int32 → zG → Option (Int32 × zG)
  | 0 => fun _ _ _ => none
  | n + 1 => f_X5_readOrder_40_b   (f_X5_readOrder_40   n)
def f_X5_readOrder (gS : zG) (x1 : Int32) : Option (Int32 × zG) := (zlet (gup gS 4 0 x1) (fun gS_1 => (zbind (f_X5_signAt gS_1 x1) (fun R2 => (zch R2 (zlet (gup gS_1 2 0 R2) (fun gS_3 => (zbind (f_X5_numbersOf (gS_3 2 0)) (fun R4 => (if R4 = 0 then (some ((0 : Int32), gS_3)) else (zlet (gup gS_3 4 0 ((gS_3 4 0) + (1 : Int32))) (fun gS_6 => (f_X5_readOrder_40   zfuel R4 (0 : Int32) gS_6)))))))))))))
theorem u_X5_readOrder_X5 : ∀ w ∈ u_ws RX5 TX5 5, w ∈ wsX5_readOrder := fun w h => List.mem_cons_of_mem _ (List.mem_append_right _ h)
theorem k_X5_readOrder_1 : Cond.fieldLink RX5 27 "JoinedLight$Text" "next" "I" ∈ wsX5_readOrder := List.mem_of_getElem? (i := 1) rfl
theorem k_X5_readOrder_2 : Cond.fieldLink RX5 19 "JoinedLight$Text" "letter" "C" ∈ wsX5_readOrder := List.mem_of_getElem? (i := 2) rfl
abbrev rm_X5_readOrder : Room := { frames := 2, cells := 0, slots := 0, locals := 45 }
set_option maxHeartbeats 4000000 in
set_option maxRecDepth 100000 in
theorem c_X5_readOrder (l : Launch) (dC : Nat → ClassId) (dI : Nat → Nat → Nat) (cI cC cO : ClassId) (qS : Nat) (aS : Nat → Nat) (gS : zG) (x1 : Int32) (R : Int32 × zG) (hf : f_X5_readOrder gS x1 = some R) : cM l (dC, dI) (zT cI cC cO) yX5_readOrder wsX5_readOrder rm_X5_readOrder [.ref qS, .int x1] [(wX5 cI cC qS aS gS)] [(wX5 cI cC qS aS R.2)] (some (.int R.1)) 0 0 := by
  refine zM_in (cc := cX5_readOrder) (maxL := 4) (ret := (some .boolean)) (plainFor_of_name (by decide)) rfl (Nat.le_of_ble_eq_true rfl) ?_
  intro p e s m below meth c hx hb hml hr hlk hown hts hK hN A hA hP hD hS ls hl
  have hl : lv_has ls 4 [(0, .ref qS), (1, .int x1)] := hl
  have w40 : ∀ (n40 : Nat) (y2 : Int32) (y3 : Int32) (gS : zG) (H : Heap) (locs : List Loc) (ls : Array Slot), f_X5_readOrder_40   n40 y2 y3 gS = some R → va_P (dC, dI) vwCl [(wX5 cI cC qS aS gS)].flatten H → va_D A [(wX5 cI cC qS aS gS)].flatten → va_S A s.heap H locs → lv_has ls 4 [(0, .ref qS), (2, .int y2), (3, .int y3)] → W p l e (headSpec wsX5_readOrder rm_X5_readOrder).room s m [.ref qS, .int x1].toArray below meth c H locs 0 0 (MQ below (zqM (dC, dI) (some (.int R.1)) [(wX5 cI cC qS aS R.2)] A) [.ref qS, .int x1].toArray s 0 0 A) (F0 m 40 ls []) := by
    intro n40
    induction n40 with
    | zero =>
      intro y2 y3 gS H locs ls hf hP hD hS hl
      have hf : (none : Option (Int32 × zG)) = some R := hf
      cases hf
    | succ n40 ih40 =>
      have w73 : ∀ (y2 : Int32) (y3 : Int32) (s0 : Int32) (gS : zG) (H : Heap) (locs : List Loc) (ls : Array Slot), f_X5_readOrder_73  (f_X5_readOrder_40   n40)  y2 y3 s0 gS = some R → va_P (dC, dI) vwCl [(wX5 cI cC qS aS gS)].flatten H → va_D A [(wX5 cI cC qS aS gS)].flatten → va_S A s.heap H locs → lv_has ls 4 [(0, .ref qS), (2, .int y2), (3, .int y3)] → W p l e (headSpec wsX5_readOrder rm_X5_readOrder).room s m [.ref qS, .int x1].toArray below meth c H locs 0 0 (MQ below (zqM (dC, dI) (some (.int R.1)) [(wX5 cI cC qS aS R.2)] A) [.ref qS, .int x1].toArray s 0 0 A) (F0 m 73 ls [.int s0, .ref qS]) := by
        intro y2 y3 s0 gS H locs ls hf hP hD hS hl
        unfold f_X5_readOrder_73 at hf
        obtain ⟨R12, e_12, hf⟩ := zbind_ex hf
        refine z_callM (gs2 := [(wX5 cI cC qS aS R12.2)]) hP hD hS hA [0] [] rfl rfl rfl (show List.Perm [0] (List.range 1) from by decide) rfl (va_runV (As := [.int s0]) (rest := []) ⟨hx, hb, hml, hown, hts⟩ (c_X5_readSign l dC dI cI cC cO qS aS gS s0 R12 e_12 H.size) (cwV 1 hts gX5_readOrder_X5_readSign rfl rfl rfl (by decide +kernel) ⟨Nat.le_of_ble_eq_true rfl, Nat.le_of_ble_eq_true rfl⟩) ⟨zpM_blind, va_recv hK hP (ci := 5) (q0 := 0) rfl rfl, z_useM hK hN hP hD [0] [] rfl (show List.Perm [0] (List.range 1) from by decide)⟩ rfl rfl hl.1 rfl (lv_room (Nat.le_of_ble_eq_true rfl)) dX5_readOrder_73 ⟨Nat.le_of_ble_eq_true rfl, Nat.le_of_ble_eq_true rfl⟩) (fun H locs hP hD hS => ?_)
        refine W.eq (g2 := F0 m 76 ls [.int R12.1]) rfl ?_
        refine lv_if_ne (tgt := 81) hx hb dX5_readOrder_76 (by decide) (fun c_13 => ?_) (fun c_13 => ?_)
        · have hf := zif_f hf c_13
          refine lv_iinc (v := (y3 + (1 : Int32))) (lv' := [(3, .int (y3 + (1 : Int32))), (0, .ref qS), (2, .int y2)]) hx hb dX5_readOrder_81 hl (k := 2) rfl rfl (by decide) rfl (fun ls hl => ?_)
          refine lv_goto (tgt := 40) hx hb dX5_readOrder_84 (by decide) ?_
          exact ih40 y2 (y3 + (1 : Int32)) R12.2 H locs ls hf hP hD hS (lv_sub hl [1, 2, 0] rfl)
        · have hf := zif_t hf c_13
          refine lv_iconst (v := (0 : Int32)) hx hb dX5_readOrder_79 (by decide) ?_
          exact zM_ret (gs := [(wX5 cI cC qS aS R12.2)]) hx hb hr rfl hP hD hS (by rw [← Option.some.inj hf]; exact ⟨rfl, rfl⟩) hlk dX5_readOrder_80
      intro y2 y3 gS H locs ls hf hP hD hS hl
      have hf : f_X5_readOrder_40_b   (f_X5_readOrder_40   n40) y2 y3 gS = some R := hf
      unfold f_X5_readOrder_40_b at hf
      refine lv_iload_n hx hb dX5_readOrder_40 rfl (lv_at hl 2 rfl) ?_
      refine lv_iload_n hx hb dX5_readOrder_41 rfl (lv_at hl 1 rfl) ?_
      refine lv_icmp_ge (tgt := 87) hx hb dX5_readOrder_42 (by decide) (fun c_7 => ?_) (fun c_7 => ?_)
      · have hf := zif_t hf c_7
        refine lv_iconst (v := (1 : Int32)) hx hb dX5_readOrder_87 (by decide) ?_
        exact zM_ret (gs := [(wX5 cI cC qS aS gS)]) hx hb hr rfl hP hD hS (by rw [← Option.some.inj hf]; exact ⟨rfl, rfl⟩) hlk dX5_readOrder_88
      · have hf := zif_f hf c_7
        refine lv_iload_n hx hb dX5_readOrder_45 rfl (lv_at hl 2 rfl) ?_
        refine lv_iconst (v := (3 : Int32)) hx hb dX5_readOrder_46 (by decide) ?_
        refine lv_icmp_ge (tgt := 87) hx hb dX5_readOrder_47 (by decide) (fun c_8 => ?_) (fun c_8 => ?_)
        · have hf := zif_t hf c_8
          refine lv_iconst (v := (1 : Int32)) hx hb dX5_readOrder_87 (by decide) ?_
          exact zM_ret (gs := [(wX5 cI cC qS aS gS)]) hx hb hr rfl hP hD hS (by rw [← Option.some.inj hf]; exact ⟨rfl, rfl⟩) hlk dX5_readOrder_88
        · have hf := zif_f hf c_8
          refine lv_aload_n hx hb dX5_readOrder_50 rfl (lv_at hl 0 rfl) ?_
          refine lv_iload_n hx hb dX5_readOrder_51 rfl (lv_at hl 2 rfl) ?_
          obtain ⟨R9, e_9, hf⟩ := zbind_ex hf
          refine z_callM (gs2 := [(wX5 cI cC qS aS R9.2)]) hP hD hS hA [0] [] rfl rfl rfl (show List.Perm [0] (List.range 1) from by decide) rfl (va_runV (As := [.int y3]) (rest := []) ⟨hx, hb, hml, hown, hts⟩ (c_X5_readNumber l dC dI cI cC cO qS aS gS y3 R9 e_9 H.size) (cwV 1 hts gX5_readOrder_X5_readNumber rfl rfl rfl (by decide +kernel) ⟨Nat.le_of_ble_eq_true rfl, Nat.le_of_ble_eq_true rfl⟩) ⟨zpM_blind, va_recv hK hP (ci := 5) (q0 := 0) rfl rfl, z_useM hK hN hP hD [0] [] rfl (show List.Perm [0] (List.range 1) from by decide)⟩ rfl rfl hl.1 rfl (lv_room (Nat.le_of_ble_eq_true rfl)) dX5_readOrder_52 ⟨Nat.le_of_ble_eq_true rfl, Nat.le_of_ble_eq_true rfl⟩) (fun H locs hP hD hS => ?_)
          refine W.eq (g2 := F0 m 55 ls [.int R9.1]) rfl ?_
          refine lv_if_eq (tgt := 79) hx hb dX5_readOrder_55 (by decide) (fun c_10 => ?_) (fun c_10 => ?_)
          · have hf := zif_t hf c_10
            refine lv_iconst (v := (0 : Int32)) hx hb dX5_readOrder_79 (by decide) ?_
            exact zM_ret (gs := [(wX5 cI cC qS aS R9.2)]) hx hb hr rfl hP hD hS (by rw [← Option.some.inj hf]; exact ⟨rfl, rfl⟩) hlk dX5_readOrder_80
          · have hf := zif_f hf c_10
            refine lv_aload_n hx hb dX5_readOrder_58 rfl (lv_at hl 0 rfl) ?_
            refine lv_iload_n hx hb dX5_readOrder_59 rfl (lv_at hl 2 rfl) ?_
            refine lv_iload_n hx hb dX5_readOrder_60 rfl (lv_at hl 1 rfl) ?_
            refine lv_iconst (v := (1 : Int32)) hx hb dX5_readOrder_61 (by decide) ?_
            refine lv_isub hx hb dX5_readOrder_62 ?_
            refine lv_icmp_ne (tgt := 71) hx hb dX5_readOrder_63 (by decide) (fun c_11 => ?_) (fun c_11 => ?_)
            · have hf := zif_f hf c_11
              refine lv_bipush (v := (44 : Int32)) hx hb dX5_readOrder_71 (by decide) ?_
              exact w73  y2 y3 (44 : Int32) R9.2 H locs ls hf hP hD hS (lv_sub hl [0, 1, 2] rfl)
            · have hf := zif_t hf c_11
              refine lv_bipush (v := (59 : Int32)) hx hb dX5_readOrder_66 (by decide) ?_
              refine lv_goto (tgt := 73) hx hb dX5_readOrder_68 (by decide) ?_
              exact w73  y2 y3 (59 : Int32) R9.2 H locs ls hf hP hD hS (lv_sub hl [0, 1, 2] rfl)
  unfold f_X5_readOrder at hf
  obtain ⟨H, hH⟩ : ∃ H, H = s.heap := ⟨_, rfl⟩
  obtain ⟨locs, hlocs⟩ : ∃ locs : List Loc, locs = [] := ⟨_, rfl⟩
  have hS : va_S A s.heap H locs := by rw [hH, hlocs]; exact hS
  rw [← hH] at hP
  refine zheap hH hlocs ?_
  refine lv_aload_n hx hb dX5_readOrder_0 rfl (lv_at hl 0 rfl) ?_
  refine lv_iload_n hx hb dX5_readOrder_1 rfl (lv_at hl 1 rfl) ?_
  obtain ⟨gS_1, e_1, hf⟩ := zlet_ex hf
  refine z_put (gs' := [(wX5 cI cC qS aS gS_1)]) (D := (dC, dI)) (ci := 5) (ty := .int) (C := RX5) (T := TX5) (N := 5) hx hb hts u_X5_readOrder_X5 tyX5 tyX5_ok nmX5 hown hK hP hD hS 0 rfl rfl 4 (by decide) (hts _ k_X5_readOrder_1) (fun _ h9 => h9) rfl (by decide +kernel) rfl rfl (Nat.le_of_ble_eq_true rfl) (by rw [e_1]; rfl) dX5_readOrder_2 (fun H locs hP hD hS => ?_)
  refine lv_aload_n hx hb dX5_readOrder_5 rfl (lv_at hl 0 rfl) ?_
  refine lv_aload_n hx hb dX5_readOrder_6 rfl (lv_at hl 0 rfl) ?_
  refine lv_iload_n hx hb dX5_readOrder_7 rfl (lv_at hl 1 rfl) ?_
  obtain ⟨R2, e_2, hf⟩ := zbind_ex hf
  refine z_callRi (va_runV (As := [.int x1]) (rest := [.ref qS]) ⟨hx, hb, hml, hown, hts⟩ (c_X5_signAt l dC dI cI cC cO qS aS gS_1 x1 R2 e_2) (cwV 1 hts gX5_readOrder_X5_signAt rfl rfl rfl (by decide +kernel) ⟨Nat.le_of_ble_eq_true rfl, Nat.le_of_ble_eq_true rfl⟩) ⟨zpR_blind, va_recv hK hP (ci := 5) (q0 := 0) rfl rfl, z_useR hK hN hP [0] rfl⟩ rfl rfl hl.1 rfl (lv_room (Nat.le_of_ble_eq_true rfl)) dX5_readOrder_8 ⟨Nat.le_of_ble_eq_true rfl, Nat.le_of_ble_eq_true rfl⟩) ?_
  obtain ⟨h_3, hf⟩ := zch_ex hf
  obtain ⟨gS_3, e_3, hf⟩ := zlet_ex hf
  refine z_put (gs' := [(wX5 cI cC qS aS gS_3)]) (D := (dC, dI)) (ci := 5) (ty := .char) (C := RX5) (T := TX5) (N := 5) hx hb hts u_X5_readOrder_X5 tyX5 tyX5_ok nmX5 hown hK hP hD hS 0 rfl rfl 2 (by decide) (hts _ k_X5_readOrder_2) (fun _ h9 => h9) rfl (by decide +kernel) h_3.1 h_3.2.1 (Nat.le_of_ble_eq_true rfl) (by rw [e_3]; rfl) dX5_readOrder_11 (fun H locs hP hD hS => ?_)
  refine lv_aload_n hx hb dX5_readOrder_14 rfl (lv_at hl 0 rfl) ?_
  refine va_get (D := (dC, dI)) (ci := 5) (v := .int (gS_3 2 0)) (C := RX5) (T := TX5) (N := 5) hx hb hts u_X5_readOrder_X5 hown hK hP 0 rfl rfl 2 (by decide) (hts _ k_X5_readOrder_2) (fun _ h9 => h9) rfl dX5_readOrder_15 ?_
  obtain ⟨R4, e_4, hf⟩ := zbind_ex hf
  refine z_callRi (va_runS (As := [.int (gS_3 2 0)]) (rest := []) ⟨hx, hb, hml, hown, hts⟩ (c_X5_numbersOf l dC dI cI cC cO  (gS_3 2 0) R4 e_4) (va_cwS 1 hts gX5_readOrder_X5_numbersOf rfl rfl rfl (by decide +kernel) ⟨Nat.le_of_ble_eq_true rfl, Nat.le_of_ble_eq_true rfl⟩) ⟨zpR_blind, z_useR hK hN hP [] rfl⟩ rfl rfl hl.1 rfl (lv_room (Nat.le_of_ble_eq_true rfl)) dX5_readOrder_18 ⟨Nat.le_of_ble_eq_true rfl, Nat.le_of_ble_eq_true rfl⟩) ?_
  refine lv_istore_n (lv' := [(2, .int R4), (0, .ref qS), (1, .int x1)]) hx hb dX5_readOrder_21 rfl hl (by decide) rfl (fun ls hl => ?_)
  refine lv_iload_n hx hb dX5_readOrder_22 rfl (lv_at hl 0 rfl) ?_
  refine lv_if_ne (tgt := 28) hx hb dX5_readOrder_23 (by decide) (fun c_5 => ?_) (fun c_5 => ?_)
  · have hf := zif_f hf c_5
    refine lv_aload_n hx hb dX5_readOrder_28 rfl (lv_at hl 1 rfl) ?_
    refine lv_dup hx hb dX5_readOrder_29 rfl ?_
    refine va_get (D := (dC, dI)) (ci := 5) (v := .int (gS_3 4 0)) (C := RX5) (T := TX5) (N := 5) hx hb hts u_X5_readOrder_X5 hown hK hP 0 rfl rfl 4 (by decide) (hts _ k_X5_readOrder_1) (fun _ h9 => h9) rfl dX5_readOrder_30 ?_
    refine lv_iconst (v := (1 : Int32)) hx hb dX5_readOrder_33 (by decide) ?_
    refine lv_iadd hx hb dX5_readOrder_34 ?_
    obtain ⟨gS_6, e_6, hf⟩ := zlet_ex hf
    refine z_put (gs' := [(wX5 cI cC qS aS gS_6)]) (D := (dC, dI)) (ci := 5) (ty := .int) (C := RX5) (T := TX5) (N := 5) hx hb hts u_X5_readOrder_X5 tyX5 tyX5_ok nmX5 hown hK hP hD hS 0 rfl rfl 4 (by decide) (hts _ k_X5_readOrder_1) (fun _ h9 => h9) rfl (by decide +kernel) rfl rfl (Nat.le_of_ble_eq_true rfl) (by rw [e_6]; rfl) dX5_readOrder_35 (fun H locs hP hD hS => ?_)
    refine lv_iconst (v := (0 : Int32)) hx hb dX5_readOrder_38 (by decide) ?_
    refine lv_istore_n (lv' := [(3, .int (0 : Int32)), (2, .int R4), (0, .ref qS), (1, .int x1)]) hx hb dX5_readOrder_39 rfl hl (by decide) rfl (fun ls hl => ?_)
    exact w40 zfuel R4 (0 : Int32) gS_6 H locs ls hf hP hD hS (lv_sub hl [2, 1, 0] rfl)
  · have hf := zif_t hf c_5
    refine lv_iconst (v := (0 : Int32)) hx hb dX5_readOrder_26 (by decide) ?_
    exact zM_ret (gs := [(wX5 cI cC qS aS gS_3)]) hx hb hr rfl hP hD hS (by rw [← Option.some.inj hf]; exact ⟨rfl, rfl⟩) hlk dX5_readOrder_27
