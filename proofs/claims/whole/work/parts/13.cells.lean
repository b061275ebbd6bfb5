def f_X1_hasSlot (gS : zG) (x1 : Int32) : Option (Int32) := (if x1 < 0 then (some ((0 : Int32))) else (if (gS 3 0) ≤ x1 then (some ((0 : Int32))) else (if (8 : Int32) ≤ x1 then (some ((0 : Int32))) else (some ((1 : Int32))))))
theorem u_X1_hasSlot_X1 : ∀ w ∈ u_ws RX1 TX1 4, w ∈ wsX1_hasSlot := fun w h => List.mem_cons_of_mem _ (List.mem_append_right _ h)
theorem k_X1_hasSlot_1 : Cond.fieldLink RX1 21 "JoinedLight$Cells" "used" "I" ∈ wsX1_hasSlot := List.mem_of_getElem? (i := 1) rfl
abbrev rm_X1_hasSlot : Room := { frames := 0, cells := 0, slots := 0, locals := 0 }
set_option maxHeartbeats 4000000 in
set_option maxRecDepth 100000 in
theorem c_X1_hasSlot (l : Launch) (dC : Nat → ClassId) (dI : Nat → Nat → Nat) (cI cC cO : ClassId) (qS : Nat) (aS : Nat → Nat) (gS : zG) (x1 : Int32) (R : Int32) (hf : f_X1_hasSlot gS x1 = some R) : cR l (dC, dI) (zT cI cC cO) yX1_hasSlot wsX1_hasSlot rm_X1_hasSlot [.ref qS, .int x1] [(wX1 cI qS aS gS)] (some (.int R)) := by
  refine zR_in (cc := cX1_hasSlot) (maxL := 2) (ret := (some .boolean)) (plainFor_of_name (by decide)) rfl (Nat.le_of_ble_eq_true rfl) ?_
  intro p e s m below meth c hx hb hml hr hlk hown hts hK hN hP ls hl
  have hl : lv_has ls 2 [(0, .ref qS), (1, .int x1)] := hl
  unfold f_X1_hasSlot at hf
  refine lv_iload_n hx hb dX1_hasSlot_0 rfl (lv_at hl 1 rfl) ?_
  refine lv_if_lt (tgt := 22) hx hb dX1_hasSlot_1 (by decide) (fun c_1 => ?_) (fun c_1 => ?_)
  · have hf := zif_t hf c_1
    refine lv_iconst (v := (0 : Int32)) hx hb dX1_hasSlot_22 (by decide) ?_
    exact zR_ret hx hb hr rfl hf hlk dX1_hasSlot_23
  · have hf := zif_f hf c_1
    refine lv_iload_n hx hb dX1_hasSlot_4 rfl (lv_at hl 1 rfl) ?_
    refine lv_aload_n hx hb dX1_hasSlot_5 rfl (lv_at hl 0 rfl) ?_
    refine va_get (D := (dC, dI)) (ci := 1) (v := .int (gS 3 0)) (C := RX1) (T := TX1) (N := 4) hx hb hts u_X1_hasSlot_X1 hown hK hP 0 rfl rfl 3 (by decide) (hts _ k_X1_hasSlot_1) (fun _ h9 => h9) rfl dX1_hasSlot_6 ?_
    refine lv_icmp_ge (tgt := 22) hx hb dX1_hasSlot_9 (by decide) (fun c_2 => ?_) (fun c_2 => ?_)
    · have hf := zif_t hf c_2
      refine lv_iconst (v := (0 : Int32)) hx hb dX1_hasSlot_22 (by decide) ?_
      exact zR_ret hx hb hr rfl hf hlk dX1_hasSlot_23
    · have hf := zif_f hf c_2
      refine lv_iload_n hx hb dX1_hasSlot_12 rfl (lv_at hl 1 rfl) ?_
      refine lv_bipush (v := (8 : Int32)) hx hb dX1_hasSlot_13 (by decide) ?_
      refine lv_icmp_ge (tgt := 22) hx hb dX1_hasSlot_15 (by decide) (fun c_3 => ?_) (fun c_3 => ?_)
      · have hf := zif_t hf c_3
        refine lv_iconst (v := (0 : Int32)) hx hb dX1_hasSlot_22 (by decide) ?_
        exact zR_ret hx hb hr rfl hf hlk dX1_hasSlot_23
      · have hf := zif_f hf c_3
        refine lv_iconst (v := (1 : Int32)) hx hb dX1_hasSlot_18 (by decide) ?_
        refine lv_goto (tgt := 23) hx hb dX1_hasSlot_19 (by decide) ?_
        exact zR_ret hx hb hr rfl hf hlk dX1_hasSlot_23

def f_X1_slotOf_2_b (gS : zG)  (k2 : Int32 → Int32 → Option (Int32)) (y1 : Int32) (y2 : Int32) : Option (Int32) := (if (8 : Int32) ≤ y2 then (some (y2)) else (zbind (f_X1_hasSlot gS y2) (fun R2 => (if R2 = 0 then (some (y2)) else (zin y2 8 (if (gS 0 y2.toNatClampNeg) = y1 then (some (y2)) else (k2 y1 (y2 + (1 : Int32)))))))))
def f_X1_slotOf_2 (gS : zG)  : Nat → Int32 → Int32 → Option (Int32)
  | 0 => fun _ _ => none
  | n + 1 => f_X1_slotOf_2_b gS  (f_X1_slotOf_2 gS  n)
def f_X1_slotOf (gS : zG) (x1 : Int32) : Option (Int32) := (f_X1_slotOf_2 gS  zfuel x1 (0 : Int32))
theorem u_X1_slotOf_X1 : ∀ w ∈ u_ws RX1 TX1 4, w ∈ wsX1_slotOf := fun w h => List.mem_cons_of_mem _ (List.mem_append_right _ h)
theorem k_X1_slotOf_1 : Cond.fieldLink RX1 9 "JoinedLight$Cells" "numbers" "[I" ∈ wsX1_slotOf := List.mem_of_getElem? (i := 1) rfl
abbrev rm_X1_slotOf : Room := { frames := 1, cells := 0, slots := 0, locals := 21 }
set_option maxHeartbeats 4000000 in
set_option maxRecDepth 100000 in
theorem c_X1_slotOf (l : Launch) (dC : Nat → ClassId) (dI : Nat → Nat → Nat) (cI cC cO : ClassId) (qS : Nat) (aS : Nat → Nat) (gS : zG) (x1 : Int32) (R : Int32) (hf : f_X1_slotOf gS x1 = some R) : cR l (dC, dI) (zT cI cC cO) yX1_slotOf wsX1_slotOf rm_X1_slotOf [.ref qS, .int x1] [(wX1 cI qS aS gS)] (some (.int R)) := by
  refine zR_in (cc := cX1_slotOf) (maxL := 3) (ret := (some .int)) (plainFor_of_name (by decide)) rfl (Nat.le_of_ble_eq_true rfl) ?_
  intro p e s m below meth c hx hb hml hr hlk hown hts hK hN hP ls hl
  have hl : lv_has ls 3 [(0, .ref qS), (1, .int x1)] := hl
  have w2 : ∀ (n2 : Nat) (y1 : Int32) (y2 : Int32) (ls : Array Slot), f_X1_slotOf_2 gS  n2 y1 y2 = some R → lv_has ls 3 [(0, .ref qS), (1, .int y1), (2, .int y2)] → W p l e (headSpec wsX1_slotOf rm_X1_slotOf).room s m [.ref qS, .int x1].toArray below meth c s.heap [] 0 0 (MQ below (zqR (some (.int R))) [.ref qS, .int x1].toArray s 0 0 (fun _ => False)) (F0 m 2 ls []) := by
    intro n2
    induction n2 with
    | zero =>
      intro y1 y2 ls hf hl
      have hf : (none : Option (Int32)) = some R := hf
      cases hf
    | succ n2 ih2 =>
      intro y1 y2 ls hf hl
      have hf : f_X1_slotOf_2_b gS  (f_X1_slotOf_2 gS  n2) y1 y2 = some R := hf
      unfold f_X1_slotOf_2_b at hf
      refine lv_iload_n hx hb dX1_slotOf_2 rfl (lv_at hl 2 rfl) ?_
      refine lv_bipush (v := (8 : Int32)) hx hb dX1_slotOf_3 (by decide) ?_
      refine lv_icmp_ge (tgt := 32) hx hb dX1_slotOf_5 (by decide) (fun c_1 => ?_) (fun c_1 => ?_)
      · have hf := zif_t hf c_1
        refine lv_iload_n hx hb dX1_slotOf_32 rfl (lv_at hl 2 rfl) ?_
        exact zR_ret hx hb hr rfl hf hlk dX1_slotOf_33
      · have hf := zif_f hf c_1
        refine lv_aload_n hx hb dX1_slotOf_8 rfl (lv_at hl 0 rfl) ?_
        refine lv_iload_n hx hb dX1_slotOf_9 rfl (lv_at hl 2 rfl) ?_
        obtain ⟨R2, e_2, hf⟩ := zbind_ex hf
        refine z_callRi (va_runV (As := [.int y2]) (rest := []) ⟨hx, hb, hml, hown, hts⟩ (c_X1_hasSlot l dC dI cI cC cO qS aS gS y2 R2 e_2) (cwV 1 hts gX1_slotOf_X1_hasSlot rfl rfl rfl (by decide +kernel) ⟨Nat.le_of_ble_eq_true rfl, Nat.le_of_ble_eq_true rfl⟩) ⟨zpR_blind, va_recv hK hP (ci := 1) (q0 := 0) rfl rfl, z_useR hK hN hP [0] rfl⟩ rfl rfl hl.1 rfl (lv_room (Nat.le_of_ble_eq_true rfl)) dX1_slotOf_10 ⟨Nat.le_of_ble_eq_true rfl, Nat.le_of_ble_eq_true rfl⟩) ?_
        refine lv_if_eq (tgt := 32) hx hb dX1_slotOf_13 (by decide) (fun c_3 => ?_) (fun c_3 => ?_)
        · have hf := zif_t hf c_3
          refine lv_iload_n hx hb dX1_slotOf_32 rfl (lv_at hl 2 rfl) ?_
          exact zR_ret hx hb hr rfl hf hlk dX1_slotOf_33
        · have hf := zif_f hf c_3
          refine lv_aload_n hx hb dX1_slotOf_16 rfl (lv_at hl 0 rfl) ?_
          refine va_get (D := (dC, dI)) (ci := 1) (v := .ref (aS 0)) (C := RX1) (T := TX1) (N := 4) hx hb hts u_X1_slotOf_X1 hown hK hP 0 rfl rfl 0 (by decide) (hts _ k_X1_slotOf_1) (fun _ h9 => h9) rfl dX1_slotOf_17 ?_
          refine lv_iload_n hx hb dX1_slotOf_20 rfl (lv_at hl 2 rfl) ?_
          obtain ⟨h_4, hf⟩ := zin_ex hf
          refine va_iald hx hb hK hP 1 0 rfl rfl h_4 dX1_slotOf_21 ?_
          refine lv_iload_n hx hb dX1_slotOf_22 rfl (lv_at hl 1 rfl) ?_
          refine lv_icmp_eq (tgt := 32) hx hb dX1_slotOf_23 (by decide) (fun c_5 => ?_) (fun c_5 => ?_)
          · have hf := zif_t hf c_5
            refine lv_iload_n hx hb dX1_slotOf_32 rfl (lv_at hl 2 rfl) ?_
            exact zR_ret hx hb hr rfl hf hlk dX1_slotOf_33
          · have hf := zif_f hf c_5
            refine lv_iinc (v := (y2 + (1 : Int32))) (lv' := [(2, .int (y2 + (1 : Int32))), (0, .ref qS), (1, .int y1)]) hx hb dX1_slotOf_26 hl (k := 2) rfl rfl (by decide) rfl (fun ls hl => ?_)
            refine lv_goto (tgt := 2) hx hb dX1_slotOf_29 (by decide) ?_
            exact ih2 y1 (y2 + (1 : Int32)) ls hf (lv_sub hl [1, 2, 0] rfl)
  unfold f_X1_slotOf at hf
  refine lv_iconst (v := (0 : Int32)) hx hb dX1_slotOf_0 (by decide) ?_
  refine lv_istore_n (lv' := [(2, .int (0 : Int32)), (0, .ref qS), (1, .int x1)]) hx hb dX1_slotOf_1 rfl hl (by decide) rfl (fun ls hl => ?_)
  exact w2 zfuel x1 (0 : Int32) ls hf (lv_sub hl [1, 2, 0] rfl)

def f_X1_addTo_63   (y2 : Int32) (y3 : Int32) (y4 : Int32) (gS : zG) : Option (zG) := (zin y4 8 (zin y4 8 (zlet (gup gS 1 y4.toNatClampNeg ((gS 1 y4.toNatClampNeg) + y2)) (fun gS_10 => (zin y4 8 (zin y4 8 (zlet (gup gS_10 2 y4.toNatClampNeg ((gS_10 2 y4.toNatClampNeg) ||| y3)) (fun gS_12 => (some (gS_12))))))))))
def f_X1_addTo (gS : zG) (x1 : Int32) (x2 : Int32) (x3 : Int32) : Option (zG) := (zbind (f_X1_slotOf gS x1) (fun R1 => (if R1 < 0 then (some (gS)) else (if R1 < (8 : Int32) then (if R1 = (gS 3 0) then (zin R1 8 (zlet (gup gS 0 R1.toNatClampNeg x1) (fun gS_5 => (zin R1 8 (zlet (gup gS_5 1 R1.toNatClampNeg (0 : Int32)) (fun gS_6 => (zin R1 8 (zlet (gup gS_6 2 R1.toNatClampNeg (0 : Int32)) (fun gS_7 => (zlet (gup gS_7 3 0 ((gS_7 3 0) + (1 : Int32))) (fun gS_8 => (f_X1_addTo_63    x2 x3 R1 gS_8)))))))))))) else (f_X1_addTo_63    x2 x3 R1 gS)) else (some (gS))))))
theorem u_X1_addTo_X1 : ∀ w ∈ u_ws RX1 TX1 4, w ∈ wsX1_addTo := fun w h => List.mem_cons_of_mem _ (List.mem_append_right _ h)
theorem k_X1_addTo_1 : Cond.fieldLink RX1 21 "JoinedLight$Cells" "used" "I" ∈ wsX1_addTo := List.mem_of_getElem? (i := 1) rfl
theorem k_X1_addTo_2 : Cond.fieldLink RX1 9 "JoinedLight$Cells" "numbers" "[I" ∈ wsX1_addTo := List.mem_of_getElem? (i := 2) rfl
theorem k_X1_addTo_3 : Cond.fieldLink RX1 15 "JoinedLight$Cells" "lights" "[I" ∈ wsX1_addTo := List.mem_of_getElem? (i := 3) rfl
theorem k_X1_addTo_4 : Cond.fieldLink RX1 18 "JoinedLight$Cells" "lines" "[I" ∈ wsX1_addTo := List.mem_of_getElem? (i := 4) rfl
abbrev rm_X1_addTo : Room := { frames := 2, cells := 0, slots := 0, locals := 43 }
set_option maxHeartbeats 4000000 in
set_option maxRecDepth 100000 in
theorem c_X1_addTo (l : Launch) (dC : Nat → ClassId) (dI : Nat → Nat → Nat) (cI cC cO : ClassId) (qS : Nat) (aS : Nat → Nat) (gS : zG) (x1 : Int32) (x2 : Int32) (x3 : Int32) (R : zG) (hf : f_X1_addTo gS x1 x2 x3 = some R) : cM l (dC, dI) (zT cI cC cO) yX1_addTo wsX1_addTo rm_X1_addTo [.ref qS, .int x1, .int x2, .int x3] [(wX1 cI qS aS gS)] [(wX1 cI qS aS R)] none 0 0 := by
  refine zM_in (cc := cX1_addTo) (maxL := 5) (ret := none) (plainFor_of_name (by decide)) rfl (Nat.le_of_ble_eq_true rfl) ?_
  intro p e s m below meth c hx hb hml hr hlk hown hts hK hN A hA hP hD hS ls hl
  have hl : lv_has ls 5 [(0, .ref qS), (1, .int x1), (2, .int x2), (3, .int x3)] := hl
  have w63 : ∀ (y2 : Int32) (y3 : Int32) (y4 : Int32) (gS : zG) (H : Heap) (locs : List Loc) (ls : Array Slot), f_X1_addTo_63    y2 y3 y4 gS = some R → va_P (dC, dI) vwCl [(wX1 cI qS aS gS)].flatten H → va_D A [(wX1 cI qS aS gS)].flatten → va_S A s.heap H locs → lv_has ls 5 [(0, .ref qS), (2, .int y2), (3, .int y3), (4, .int y4)] → W p l e (headSpec wsX1_addTo rm_X1_addTo).room s m [.ref qS, .int x1, .int x2, .int x3].toArray below meth c H locs 0 0 (MQ below (zqM (dC, dI) none [(wX1 cI qS aS R)] A) [.ref qS, .int x1, .int x2, .int x3].toArray s 0 0 A) (F0 m 63 ls []) := by
    intro y2 y3 y4 gS H locs ls hf hP hD hS hl
    unfold f_X1_addTo_63 at hf
    refine lv_aload_n hx hb dX1_addTo_63 rfl (lv_at hl 0 rfl) ?_
    refine va_get (D := (dC, dI)) (ci := 1) (v := .ref (aS 1)) (C := RX1) (T := TX1) (N := 4) hx hb hts u_X1_addTo_X1 hown hK hP 0 rfl rfl 1 (by decide) (hts _ k_X1_addTo_3) (fun _ h9 => h9) rfl dX1_addTo_64 ?_
    refine lv_iload hx hb dX1_addTo_67 (lv_at hl 3 rfl) ?_
    refine lv_dup2_11 hx hb dX1_addTo_69 rfl rfl ?_
    obtain ⟨h_9, hf⟩ := zin_ex hf
    refine va_iald hx hb hK hP 2 0 rfl rfl h_9 dX1_addTo_70 ?_
    refine lv_iload_n hx hb dX1_addTo_71 rfl (lv_at hl 1 rfl) ?_
    refine lv_iadd hx hb dX1_addTo_72 ?_
    obtain ⟨h_10, hf⟩ := zin_ex hf
    obtain ⟨gS_10, e_10, hf⟩ := zlet_ex hf
    refine z_iast (gs' := [(wX1 cI qS aS gS_10)]) hx hb hK hP hD hS 2 0 rfl rfl h_10 (by rw [e_10]; rfl) dX1_addTo_73 (fun H locs hP hD hS => ?_)
    refine lv_aload_n hx hb dX1_addTo_74 rfl (lv_at hl 0 rfl) ?_
    refine va_get (D := (dC, dI)) (ci := 1) (v := .ref (aS 2)) (C := RX1) (T := TX1) (N := 4) hx hb hts u_X1_addTo_X1 hown hK hP 0 rfl rfl 2 (by decide) (hts _ k_X1_addTo_4) (fun _ h9 => h9) rfl dX1_addTo_75 ?_
    refine lv_iload hx hb dX1_addTo_78 (lv_at hl 3 rfl) ?_
    refine lv_dup2_11 hx hb dX1_addTo_80 rfl rfl ?_
    obtain ⟨h_11, hf⟩ := zin_ex hf
    refine va_iald hx hb hK hP 3 0 rfl rfl h_11 dX1_addTo_81 ?_
    refine lv_iload_n hx hb dX1_addTo_82 rfl (lv_at hl 2 rfl) ?_
    refine lv_ior hx hb dX1_addTo_83 ?_
    obtain ⟨h_12, hf⟩ := zin_ex hf
    obtain ⟨gS_12, e_12, hf⟩ := zlet_ex hf
    refine z_iast (gs' := [(wX1 cI qS aS gS_12)]) hx hb hK hP hD hS 3 0 rfl rfl h_12 (by rw [e_12]; rfl) dX1_addTo_84 (fun H locs hP hD hS => ?_)
    exact zM_vret (gs := [(wX1 cI qS aS gS_12)]) hx hb hr hP hD hS (by rw [← Option.some.inj hf]; exact ⟨rfl, rfl⟩) hlk dX1_addTo_85
  unfold f_X1_addTo at hf
  obtain ⟨H, hH⟩ : ∃ H, H = s.heap := ⟨_, rfl⟩
  obtain ⟨locs, hlocs⟩ : ∃ locs : List Loc, locs = [] := ⟨_, rfl⟩
  have hS : va_S A s.heap H locs := by rw [hH, hlocs]; exact hS
  rw [← hH] at hP
  refine zheap hH hlocs ?_
  refine lv_aload_n hx hb dX1_addTo_0 rfl (lv_at hl 0 rfl) ?_
  refine lv_iload_n hx hb dX1_addTo_1 rfl (lv_at hl 1 rfl) ?_
  obtain ⟨R1, e_1, hf⟩ := zbind_ex hf
  refine z_callRi (va_runV (As := [.int x1]) (rest := []) ⟨hx, hb, hml, hown, hts⟩ (c_X1_slotOf l dC dI cI cC cO qS aS gS x1 R1 e_1) (cwV 1 hts gX1_addTo_X1_slotOf rfl rfl rfl (by decide +kernel) ⟨Nat.le_of_ble_eq_true rfl, Nat.le_of_ble_eq_true rfl⟩) ⟨zpR_blind, va_recv hK hP (ci := 1) (q0 := 0) rfl rfl, z_useR hK hN hP [0] rfl⟩ rfl rfl hl.1 rfl (lv_room (Nat.le_of_ble_eq_true rfl)) dX1_addTo_2 ⟨Nat.le_of_ble_eq_true rfl, Nat.le_of_ble_eq_true rfl⟩) ?_
  refine lv_istore (lv' := [(4, .int R1), (0, .ref qS), (1, .int x1), (2, .int x2), (3, .int x3)]) hx hb dX1_addTo_5 hl (by decide) rfl (fun ls hl => ?_)
  refine lv_iload hx hb dX1_addTo_7 (lv_at hl 0 rfl) ?_
  refine lv_if_lt (tgt := 19) hx hb dX1_addTo_9 (by decide) (fun c_2 => ?_) (fun c_2 => ?_)
  · have hf := zif_t hf c_2
    exact zM_vret (gs := [(wX1 cI qS aS gS)]) hx hb hr hP hD hS (by rw [← Option.some.inj hf]; exact ⟨rfl, rfl⟩) hlk dX1_addTo_19
  · have hf := zif_f hf c_2
    refine lv_iload hx hb dX1_addTo_12 (lv_at hl 0 rfl) ?_
    refine lv_bipush (v := (8 : Int32)) hx hb dX1_addTo_14 (by decide) ?_
    refine lv_icmp_lt (tgt := 20) hx hb dX1_addTo_16 (by decide) (fun c_3 => ?_) (fun c_3 => ?_)
    · have hf := zif_t hf c_3
      refine lv_iload hx hb dX1_addTo_20 (lv_at hl 0 rfl) ?_
      refine lv_aload_n hx hb dX1_addTo_22 rfl (lv_at hl 1 rfl) ?_
      refine va_get (D := (dC, dI)) (ci := 1) (v := .int (gS 3 0)) (C := RX1) (T := TX1) (N := 4) hx hb hts u_X1_addTo_X1 hown hK hP 0 rfl rfl 3 (by decide) (hts _ k_X1_addTo_1) (fun _ h9 => h9) rfl dX1_addTo_23 ?_
      refine lv_icmp_ne (tgt := 63) hx hb dX1_addTo_26 (by decide) (fun c_4 => ?_) (fun c_4 => ?_)
      · have hf := zif_f hf c_4
        exact w63  x2 x3 R1 gS H locs ls hf hP hD hS (lv_sub hl [1, 3, 4, 0] rfl)
      · have hf := zif_t hf c_4
        refine lv_aload_n hx hb dX1_addTo_29 rfl (lv_at hl 1 rfl) ?_
        refine va_get (D := (dC, dI)) (ci := 1) (v := .ref (aS 0)) (C := RX1) (T := TX1) (N := 4) hx hb hts u_X1_addTo_X1 hown hK hP 0 rfl rfl 0 (by decide) (hts _ k_X1_addTo_2) (fun _ h9 => h9) rfl dX1_addTo_30 ?_
        refine lv_iload hx hb dX1_addTo_33 (lv_at hl 0 rfl) ?_
        refine lv_iload_n hx hb dX1_addTo_35 rfl (lv_at hl 2 rfl) ?_
        obtain ⟨h_5, hf⟩ := zin_ex hf
        obtain ⟨gS_5, e_5, hf⟩ := zlet_ex hf
        refine z_iast (gs' := [(wX1 cI qS aS gS_5)]) hx hb hK hP hD hS 1 0 rfl rfl h_5 (by rw [e_5]; rfl) dX1_addTo_36 (fun H locs hP hD hS => ?_)
        refine lv_aload_n hx hb dX1_addTo_37 rfl (lv_at hl 1 rfl) ?_
        refine va_get (D := (dC, dI)) (ci := 1) (v := .ref (aS 1)) (C := RX1) (T := TX1) (N := 4) hx hb hts u_X1_addTo_X1 hown hK hP 0 rfl rfl 1 (by decide) (hts _ k_X1_addTo_3) (fun _ h9 => h9) rfl dX1_addTo_38 ?_
        refine lv_iload hx hb dX1_addTo_41 (lv_at hl 0 rfl) ?_
        refine lv_iconst (v := (0 : Int32)) hx hb dX1_addTo_43 (by decide) ?_
        obtain ⟨h_6, hf⟩ := zin_ex hf
        obtain ⟨gS_6, e_6, hf⟩ := zlet_ex hf
        refine z_iast (gs' := [(wX1 cI qS aS gS_6)]) hx hb hK hP hD hS 2 0 rfl rfl h_6 (by rw [e_6]; rfl) dX1_addTo_44 (fun H locs hP hD hS => ?_)
        refine lv_aload_n hx hb dX1_addTo_45 rfl (lv_at hl 1 rfl) ?_
        refine va_get (D := (dC, dI)) (ci := 1) (v := .ref (aS 2)) (C := RX1) (T := TX1) (N := 4) hx hb hts u_X1_addTo_X1 hown hK hP 0 rfl rfl 2 (by decide) (hts _ k_X1_addTo_4) (fun _ h9 => h9) rfl dX1_addTo_46 ?_
        refine lv_iload hx hb dX1_addTo_49 (lv_at hl 0 rfl) ?_
        refine lv_iconst (v := (0 : Int32)) hx hb dX1_addTo_51 (by decide) ?_
        obtain ⟨h_7, hf⟩ := zin_ex hf
        obtain ⟨gS_7, e_7, hf⟩ := zlet_ex hf
        refine z_iast (gs' := [(wX1 cI qS aS gS_7)]) hx hb hK hP hD hS 3 0 rfl rfl h_7 (by rw [e_7]; rfl) dX1_addTo_52 (fun H locs hP hD hS => ?_)
        refine lv_aload_n hx hb dX1_addTo_53 rfl (lv_at hl 1 rfl) ?_
        refine lv_dup hx hb dX1_addTo_54 rfl ?_
        refine va_get (D := (dC, dI)) (ci := 1) (v := .int (gS_7 3 0)) (C := RX1) (T := TX1) (N := 4) hx hb hts u_X1_addTo_X1 hown hK hP 0 rfl rfl 3 (by decide) (hts _ k_X1_addTo_1) (fun _ h9 => h9) rfl dX1_addTo_55 ?_
        refine lv_iconst (v := (1 : Int32)) hx hb dX1_addTo_58 (by decide) ?_
        refine lv_iadd hx hb dX1_addTo_59 ?_
        obtain ⟨gS_8, e_8, hf⟩ := zlet_ex hf
        refine z_put (gs' := [(wX1 cI qS aS gS_8)]) (D := (dC, dI)) (ci := 1) (ty := .int) (C := RX1) (T := TX1) (N := 4) hx hb hts u_X1_addTo_X1 tyX1 tyX1_ok nmX1 hown hK hP hD hS 0 rfl rfl 3 (by decide) (hts _ k_X1_addTo_1) (fun _ h9 => h9) rfl (by decide +kernel) rfl rfl (Nat.le_of_ble_eq_true rfl) (by rw [e_8]; rfl) dX1_addTo_60 (fun H locs hP hD hS => ?_)
        exact w63  x2 x3 R1 gS_8 H locs ls hf hP hD hS (lv_sub hl [1, 3, 4, 0] rfl)
    · have hf := zif_f hf c_3
      exact zM_vret (gs := [(wX1 cI qS aS gS)]) hx hb hr hP hD hS (by rw [← Option.some.inj hf]; exact ⟨rfl, rfl⟩) hlk dX1_addTo_19

def f_X1_gather_7_b (gP1 : zG) (gP2 : zG)  (k7 : Int32 → zG → Option (zG)) (y3 : Int32) (gS : zG) : Option (zG) := (if (8 : Int32) ≤ y3 then (some (gS)) else (zbind (f_X0_hasLine gP1 y3) (fun R3 => (if R3 = 0 then (some (gS)) else (zbind (f_X4_comes gP2 y3) (fun R5 => (if R5 = 0 then (k7 (y3 + (1 : Int32)) gS) else (zin y3 8 (zbind (f_X0_cellOf gP1 (gP2 0 y3.toNatClampNeg)) (fun R8 => (zin y3 8 (zbind (f_X1_addTo gS R8 (gP1 1 y3.toNatClampNeg) ((1 : Int32) <<< (y3 &&& 31))) (fun R10 => (k7 (y3 + (1 : Int32)) R10))))))))))))))
def f_X1_gather_7 (gP1 : zG) (gP2 : zG)  : Nat → Int32 → zG → Option (zG)
  | 0 => fun _ _ => none
  | n + 1 => f_X1_gather_7_b gP1 gP2  (f_X1_gather_7 gP1 gP2  n)
def f_X1_gather (gS : zG) (gP1 : zG) (gP2 : zG)  : Option (zG) := (zlet (gup gS 3 0 (0 : Int32)) (fun gS_1 => (f_X1_gather_7 gP1 gP2  zfuel (0 : Int32) gS_1)))
theorem u_X1_gather_X1 : ∀ w ∈ u_ws RX1 TX1 4, w ∈ wsX1_gather := fun w h => List.mem_cons_of_mem _ (List.mem_append_left _ (List.mem_append_left _ (List.mem_append_right _ h)))
theorem u_X1_gather_X4 : ∀ w ∈ u_ws RX4 TX4 5, w ∈ wsX1_gather := fun w h => List.mem_cons_of_mem _ (List.mem_append_left _ (List.mem_append_right _ h))
theorem u_X1_gather_X0 : ∀ w ∈ u_ws RX0 TX0 10, w ∈ wsX1_gather := fun w h => List.mem_cons_of_mem _ (List.mem_append_right _ h)
theorem k_X1_gather_1 : Cond.fieldLink RX1 21 "JoinedLight$Cells" "used" "I" ∈ wsX1_gather := List.mem_of_getElem? (i := 1) rfl
theorem k_X1_gather_2 : Cond.fieldLink RX1 36 "JoinedLight$Rays" "heights" "[I" ∈ wsX1_gather := List.mem_of_getElem? (i := 2) rfl
theorem k_X1_gather_3 : Cond.fieldLink RX1 43 "JoinedLight$Bench" "lights" "[I" ∈ wsX1_gather := List.mem_of_getElem? (i := 3) rfl
abbrev rm_X1_gather : Room := { frames := 3, cells := 0, slots := 0, locals := 67 }
set_option maxHeartbeats 4000000 in
set_option maxRecDepth 100000 in
theorem c_X1_gather (l : Launch) (dC : Nat → ClassId) (dI : Nat → Nat → Nat) (cI cC cO : ClassId) (qS : Nat) (aS : Nat → Nat) (gS : zG) (qP1 : Nat) (aP1 : Nat → Nat) (gP1 : zG) (qP2 : Nat) (aP2 : Nat → Nat) (gP2 : zG)  (R : zG) (hf : f_X1_gather gS gP1 gP2 = some R) : cM l (dC, dI) (zT cI cC cO) yX1_gather wsX1_gather rm_X1_gather [.ref qS, .ref qP1, .ref qP2] [(wX1 cI qS aS gS), (wX0 cI qP1 aP1 gP1), (wX4 cI qP2 aP2 gP2)] [(wX1 cI qS aS R), (wX0 cI qP1 aP1 gP1), (wX4 cI qP2 aP2 gP2)] none 0 0 := by
  refine zM_in (cc := cX1_gather) (maxL := 4) (ret := none) (plainFor_of_name (by decide)) rfl (Nat.le_of_ble_eq_true rfl) ?_
  intro p e s m below meth c hx hb hml hr hlk hown hts hK hN A hA hP hD hS ls hl
  have hl : lv_has ls 4 [(0, .ref qS), (1, .ref qP1), (2, .ref qP2)] := hl
  have w7 : ∀ (n7 : Nat) (y3 : Int32) (gS : zG) (H : Heap) (locs : List Loc) (ls : Array Slot), f_X1_gather_7 gP1 gP2  n7 y3 gS = some R → va_P (dC, dI) vwCl [(wX1 cI qS aS gS), (wX0 cI qP1 aP1 gP1), (wX4 cI qP2 aP2 gP2)].flatten H → va_D A [(wX1 cI qS aS gS), (wX0 cI qP1 aP1 gP1), (wX4 cI qP2 aP2 gP2)].flatten → va_S A s.heap H locs → lv_has ls 4 [(0, .ref qS), (1, .ref qP1), (2, .ref qP2), (3, .int y3)] → W p l e (headSpec wsX1_gather rm_X1_gather).room s m [.ref qS, .ref qP1, .ref qP2].toArray below meth c H locs 0 0 (MQ below (zqM (dC, dI) none [(wX1 cI qS aS R), (wX0 cI qP1 aP1 gP1), (wX4 cI qP2 aP2 gP2)] A) [.ref qS, .ref qP1, .ref qP2].toArray s 0 0 A) (F0 m 7 ls []) := by
    intro n7
    induction n7 with
    | zero =>
      intro y3 gS H locs ls hf hP hD hS hl
      have hf : (none : Option (zG)) = some R := hf
      cases hf
    | succ n7 ih7 =>
      intro y3 gS H locs ls hf hP hD hS hl
      have hf : f_X1_gather_7_b gP1 gP2  (f_X1_gather_7 gP1 gP2  n7) y3 gS = some R := hf
      unfold f_X1_gather_7_b at hf
      refine lv_iload_n hx hb dX1_gather_7 rfl (lv_at hl 3 rfl) ?_
      refine lv_bipush (v := (8 : Int32)) hx hb dX1_gather_8 (by decide) ?_
      refine lv_icmp_ge (tgt := 58) hx hb dX1_gather_10 (by decide) (fun c_2 => ?_) (fun c_2 => ?_)
      · have hf := zif_t hf c_2
        exact zM_vret (gs := [(wX1 cI qS aS gS), (wX0 cI qP1 aP1 gP1), (wX4 cI qP2 aP2 gP2)]) hx hb hr hP hD hS (by rw [← Option.some.inj hf]; exact ⟨rfl, rfl⟩) hlk dX1_gather_58
      · have hf := zif_f hf c_2
        refine lv_aload_n hx hb dX1_gather_13 rfl (lv_at hl 1 rfl) ?_
        refine lv_iload_n hx hb dX1_gather_14 rfl (lv_at hl 3 rfl) ?_
        obtain ⟨R3, e_3, hf⟩ := zbind_ex hf
        refine z_callRi (va_runV (As := [.int y3]) (rest := []) ⟨hx, hb, hml, hown, hts⟩ (c_X0_hasLine l dC dI cI cC cO qP1 aP1 gP1 y3 R3 e_3) (cwV 1 hts gX1_gather_X0_hasLine rfl rfl rfl (by decide +kernel) ⟨Nat.le_of_ble_eq_true rfl, Nat.le_of_ble_eq_true rfl⟩) ⟨zpR_blind, va_recv hK hP (ci := 0) (q0 := 4) rfl rfl, z_useR hK hN hP [1] rfl⟩ rfl rfl hl.1 rfl (lv_room (Nat.le_of_ble_eq_true rfl)) dX1_gather_15 ⟨Nat.le_of_ble_eq_true rfl, Nat.le_of_ble_eq_true rfl⟩) ?_
        refine lv_if_eq (tgt := 58) hx hb dX1_gather_18 (by decide) (fun c_4 => ?_) (fun c_4 => ?_)
        · have hf := zif_t hf c_4
          exact zM_vret (gs := [(wX1 cI qS aS gS), (wX0 cI qP1 aP1 gP1), (wX4 cI qP2 aP2 gP2)]) hx hb hr hP hD hS (by rw [← Option.some.inj hf]; exact ⟨rfl, rfl⟩) hlk dX1_gather_58
        · have hf := zif_f hf c_4
          refine lv_aload_n hx hb dX1_gather_21 rfl (lv_at hl 2 rfl) ?_
          refine lv_iload_n hx hb dX1_gather_22 rfl (lv_at hl 3 rfl) ?_
          obtain ⟨R5, e_5, hf⟩ := zbind_ex hf
          refine z_callRi (va_runV (As := [.int y3]) (rest := []) ⟨hx, hb, hml, hown, hts⟩ (c_X4_comes l dC dI cI cC cO qP2 aP2 gP2 y3 R5 e_5) (cwV 1 hts gX1_gather_X4_comes rfl rfl rfl (by decide +kernel) ⟨Nat.le_of_ble_eq_true rfl, Nat.le_of_ble_eq_true rfl⟩) ⟨zpR_blind, va_recv hK hP (ci := 4) (q0 := 12) rfl rfl, z_useR hK hN hP [2] rfl⟩ rfl rfl hl.1 rfl (lv_room (Nat.le_of_ble_eq_true rfl)) dX1_gather_23 ⟨Nat.le_of_ble_eq_true rfl, Nat.le_of_ble_eq_true rfl⟩) ?_
          refine lv_if_eq (tgt := 52) hx hb dX1_gather_26 (by decide) (fun c_6 => ?_) (fun c_6 => ?_)
          · have hf := zif_t hf c_6
            refine lv_iinc (v := (y3 + (1 : Int32))) (lv' := [(3, .int (y3 + (1 : Int32))), (0, .ref qS), (1, .ref qP1), (2, .ref qP2)]) hx hb dX1_gather_52 hl (k := 3) rfl rfl (by decide) rfl (fun ls hl => ?_)
            refine lv_goto (tgt := 7) hx hb dX1_gather_55 (by decide) ?_
            exact ih7 (y3 + (1 : Int32)) gS H locs ls hf hP hD hS (lv_sub hl [1, 2, 3, 0] rfl)
          · have hf := zif_f hf c_6
            refine lv_aload_n hx hb dX1_gather_29 rfl (lv_at hl 0 rfl) ?_
            refine lv_aload_n hx hb dX1_gather_30 rfl (lv_at hl 1 rfl) ?_
            refine lv_aload_n hx hb dX1_gather_31 rfl (lv_at hl 2 rfl) ?_
            refine va_get (D := (dC, dI)) (ci := 4) (v := .ref (aP2 0)) (C := RX4) (T := TX4) (N := 5) hx hb hts u_X1_gather_X4 hown hK hP 12 rfl rfl 0 (by decide) (hts _ k_X1_gather_2) (fun _ h9 => h9) rfl dX1_gather_32 ?_
            refine lv_iload_n hx hb dX1_gather_35 rfl (lv_at hl 3 rfl) ?_
            obtain ⟨h_7, hf⟩ := zin_ex hf
            refine va_iald hx hb hK hP 13 0 rfl rfl h_7 dX1_gather_36 ?_
            obtain ⟨R8, e_8, hf⟩ := zbind_ex hf
            refine z_callRi (va_runV (As := [.int (gP2 0 y3.toNatClampNeg)]) (rest := [.ref qS]) ⟨hx, hb, hml, hown, hts⟩ (c_X0_cellOf l dC dI cI cC cO qP1 aP1 gP1 (gP2 0 y3.toNatClampNeg) R8 e_8) (cwV 1 hts gX1_gather_X0_cellOf rfl rfl rfl (by decide +kernel) ⟨Nat.le_of_ble_eq_true rfl, Nat.le_of_ble_eq_true rfl⟩) ⟨zpR_blind, va_recv hK hP (ci := 0) (q0 := 4) rfl rfl, z_useR hK hN hP [1] rfl⟩ rfl rfl hl.1 rfl (lv_room (Nat.le_of_ble_eq_true rfl)) dX1_gather_37 ⟨Nat.le_of_ble_eq_true rfl, Nat.le_of_ble_eq_true rfl⟩) ?_
            refine lv_aload_n hx hb dX1_gather_40 rfl (lv_at hl 1 rfl) ?_
            refine va_get (D := (dC, dI)) (ci := 0) (v := .ref (aP1 1)) (C := RX0) (T := TX0) (N := 10) hx hb hts u_X1_gather_X0 hown hK hP 4 rfl rfl 1 (by decide) (hts _ k_X1_gather_3) (fun _ h9 => h9) rfl dX1_gather_41 ?_
            refine lv_iload_n hx hb dX1_gather_44 rfl (lv_at hl 3 rfl) ?_
            obtain ⟨h_9, hf⟩ := zin_ex hf
            refine va_iald hx hb hK hP 6 0 rfl rfl h_9 dX1_gather_45 ?_
            refine lv_iconst (v := (1 : Int32)) hx hb dX1_gather_46 (by decide) ?_
            refine lv_iload_n hx hb dX1_gather_47 rfl (lv_at hl 3 rfl) ?_
            refine lv_ishl hx hb dX1_gather_48 ?_
            obtain ⟨R10, e_10, hf⟩ := zbind_ex hf
            refine z_callM (gs2 := [(wX1 cI qS aS R10), (wX0 cI qP1 aP1 gP1), (wX4 cI qP2 aP2 gP2)]) hP hD hS hA [0] [1, 2] rfl rfl rfl (show List.Perm [0, 1, 2] (List.range 3) from by decide) rfl (va_runV (As := [.int R8, .int (gP1 1 y3.toNatClampNeg), .int ((1 : Int32) <<< (y3 &&& 31))]) (rest := []) ⟨hx, hb, hml, hown, hts⟩ (c_X1_addTo l dC dI cI cC cO qS aS gS R8 (gP1 1 y3.toNatClampNeg) ((1 : Int32) <<< (y3 &&& 31)) R10 e_10 H.size) (cwV 3 hts gX1_gather_X1_addTo rfl rfl rfl (by decide +kernel) ⟨Nat.le_of_ble_eq_true rfl, Nat.le_of_ble_eq_true rfl⟩) ⟨zpM_blind, va_recv hK hP (ci := 1) (q0 := 0) rfl rfl, z_useM hK hN hP hD [0] [1, 2] rfl (show List.Perm [0, 1, 2] (List.range 3) from by decide)⟩ rfl rfl hl.1 rfl (lv_room (Nat.le_of_ble_eq_true rfl)) dX1_gather_49 ⟨Nat.le_of_ble_eq_true rfl, Nat.le_of_ble_eq_true rfl⟩) (fun H locs hP hD hS => ?_)
            refine W.eq (g2 := F0 m 52 ls []) rfl ?_
            refine lv_iinc (v := (y3 + (1 : Int32))) (lv' := [(3, .int (y3 + (1 : Int32))), (0, .ref qS), (1, .ref qP1), (2, .ref qP2)]) hx hb dX1_gather_52 hl (k := 3) rfl rfl (by decide) rfl (fun ls hl => ?_)
            refine lv_goto (tgt := 7) hx hb dX1_gather_55 (by decide) ?_
            exact ih7 (y3 + (1 : Int32)) R10 H locs ls hf hP hD hS (lv_sub hl [1, 2, 3, 0] rfl)
  unfold f_X1_gather at hf
  obtain ⟨H, hH⟩ : ∃ H, H = s.heap := ⟨_, rfl⟩
  obtain ⟨locs, hlocs⟩ : ∃ locs : List Loc, locs = [] := ⟨_, rfl⟩
  have hS : va_S A s.heap H locs := by rw [hH, hlocs]; exact hS
  rw [← hH] at hP
  refine zheap hH hlocs ?_
  refine lv_aload_n hx hb dX1_gather_0 rfl (lv_at hl 0 rfl) ?_
  refine lv_iconst (v := (0 : Int32)) hx hb dX1_gather_1 (by decide) ?_
  obtain ⟨gS_1, e_1, hf⟩ := zlet_ex hf
  refine z_put (gs' := [(wX1 cI qS aS gS_1), (wX0 cI qP1 aP1 gP1), (wX4 cI qP2 aP2 gP2)]) (D := (dC, dI)) (ci := 1) (ty := .int) (C := RX1) (T := TX1) (N := 4) hx hb hts u_X1_gather_X1 tyX1 tyX1_ok nmX1 hown hK hP hD hS 0 rfl rfl 3 (by decide) (hts _ k_X1_gather_1) (fun _ h9 => h9) rfl (by decide +kernel) rfl rfl (Nat.le_of_ble_eq_true rfl) (by rw [e_1]; rfl) dX1_gather_2 (fun H locs hP hD hS => ?_)
  refine lv_iconst (v := (0 : Int32)) hx hb dX1_gather_5 (by decide) ?_
  refine lv_istore_n (lv' := [(3, .int (0 : Int32)), (0, .ref qS), (1, .ref qP1), (2, .ref qP2)]) hx hb dX1_gather_6 rfl hl (by decide) rfl (fun ls hl => ?_)
  exact w7 zfuel (0 : Int32) gS_1 H locs ls hf hP hD hS (lv_sub hl [1, 2, 3, 0] rfl)

def f_X1_lightOf (gS : zG) (x1 : Int32) : Option (Int32) := (zbind (f_X1_slotOf gS x1) (fun R1 => (zbind (f_X1_hasSlot gS R1) (fun R2 => (if R2 = 0 then (some ((0 : Int32))) else (zin R1 8 (some ((gS 1 R1.toNatClampNeg)))))))))
theorem u_X1_lightOf_X1 : ∀ w ∈ u_ws RX1 TX1 4, w ∈ wsX1_lightOf := fun w h => List.mem_cons_of_mem _ (List.mem_append_right _ h)
theorem k_X1_lightOf_1 : Cond.fieldLink RX1 15 "JoinedLight$Cells" "lights" "[I" ∈ wsX1_lightOf := List.mem_of_getElem? (i := 1) rfl
abbrev rm_X1_lightOf : Room := { frames := 2, cells := 0, slots := 0, locals := 43 }
set_option maxHeartbeats 4000000 in
set_option maxRecDepth 100000 in
theorem c_X1_lightOf (l : Launch) (dC : Nat → ClassId) (dI : Nat → Nat → Nat) (cI cC cO : ClassId) (qS : Nat) (aS : Nat → Nat) (gS : zG) (x1 : Int32) (R : Int32) (hf : f_X1_lightOf gS x1 = some R) : cR l (dC, dI) (zT cI cC cO) yX1_lightOf wsX1_lightOf rm_X1_lightOf [.ref qS, .int x1] [(wX1 cI qS aS gS)] (some (.int R)) := by
  refine zR_in (cc := cX1_lightOf) (maxL := 3) (ret := (some .int)) (plainFor_of_name (by decide)) rfl (Nat.le_of_ble_eq_true rfl) ?_
  intro p e s m below meth c hx hb hml hr hlk hown hts hK hN hP ls hl
  have hl : lv_has ls 3 [(0, .ref qS), (1, .int x1)] := hl
  unfold f_X1_lightOf at hf
  refine lv_aload_n hx hb dX1_lightOf_0 rfl (lv_at hl 0 rfl) ?_
  refine lv_iload_n hx hb dX1_lightOf_1 rfl (lv_at hl 1 rfl) ?_
  obtain ⟨R1, e_1, hf⟩ := zbind_ex hf
  refine z_callRi (va_runV (As := [.int x1]) (rest := []) ⟨hx, hb, hml, hown, hts⟩ (c_X1_slotOf l dC dI cI cC cO qS aS gS x1 R1 e_1) (cwV 1 hts gX1_lightOf_X1_slotOf rfl rfl rfl (by decide +kernel) ⟨Nat.le_of_ble_eq_true rfl, Nat.le_of_ble_eq_true rfl⟩) ⟨zpR_blind, va_recv hK hP (ci := 1) (q0 := 0) rfl rfl, z_useR hK hN hP [0] rfl⟩ rfl rfl hl.1 rfl (lv_room (Nat.le_of_ble_eq_true rfl)) dX1_lightOf_2 ⟨Nat.le_of_ble_eq_true rfl, Nat.le_of_ble_eq_true rfl⟩) ?_
  refine lv_istore_n (lv' := [(2, .int R1), (0, .ref qS), (1, .int x1)]) hx hb dX1_lightOf_5 rfl hl (by decide) rfl (fun ls hl => ?_)
  refine lv_aload_n hx hb dX1_lightOf_6 rfl (lv_at hl 1 rfl) ?_
  refine lv_iload_n hx hb dX1_lightOf_7 rfl (lv_at hl 0 rfl) ?_
  obtain ⟨R2, e_2, hf⟩ := zbind_ex hf
  refine z_callRi (va_runV (As := [.int R1]) (rest := []) ⟨hx, hb, hml, hown, hts⟩ (c_X1_hasSlot l dC dI cI cC cO qS aS gS R1 R2 e_2) (cwV 1 hts gX1_lightOf_X1_hasSlot rfl rfl rfl (by decide +kernel) ⟨Nat.le_of_ble_eq_true rfl, Nat.le_of_ble_eq_true rfl⟩) ⟨zpR_blind, va_recv hK hP (ci := 1) (q0 := 0) rfl rfl, z_useR hK hN hP [0] rfl⟩ rfl rfl hl.1 rfl (lv_room (Nat.le_of_ble_eq_true rfl)) dX1_lightOf_8 ⟨Nat.le_of_ble_eq_true rfl, Nat.le_of_ble_eq_true rfl⟩) ?_
  refine lv_if_eq (tgt := 23) hx hb dX1_lightOf_11 (by decide) (fun c_3 => ?_) (fun c_3 => ?_)
  · have hf := zif_t hf c_3
    refine lv_iconst (v := (0 : Int32)) hx hb dX1_lightOf_23 (by decide) ?_
    exact zR_ret hx hb hr rfl hf hlk dX1_lightOf_24
  · have hf := zif_f hf c_3
    refine lv_aload_n hx hb dX1_lightOf_14 rfl (lv_at hl 1 rfl) ?_
    refine va_get (D := (dC, dI)) (ci := 1) (v := .ref (aS 1)) (C := RX1) (T := TX1) (N := 4) hx hb hts u_X1_lightOf_X1 hown hK hP 0 rfl rfl 1 (by decide) (hts _ k_X1_lightOf_1) (fun _ h9 => h9) rfl dX1_lightOf_15 ?_
    refine lv_iload_n hx hb dX1_lightOf_18 rfl (lv_at hl 0 rfl) ?_
    obtain ⟨h_4, hf⟩ := zin_ex hf
    refine va_iald hx hb hK hP 2 0 rfl rfl h_4 dX1_lightOf_19 ?_
    refine lv_goto (tgt := 24) hx hb dX1_lightOf_20 (by decide) ?_
    exact zR_ret hx hb hr rfl hf hlk dX1_lightOf_24

def f_X1_rankOf_91 (gS : zG) (k30 : Int32 → Int32 → Int32 → Int32 → Option (Int32)) (y2 : Int32) (y3 : Int32) (y4 : Int32) (y5 : Int32) (y6 : Int32) (s0 : Int32) : Option (Int32) := (if y6 = 0 then (if s0 = 0 then (k30 y2 y3 y4 (y5 + (1 : Int32))) else (k30 y2 y3 (y4 + (1 : Int32)) (y5 + (1 : Int32)))) else (k30 y2 y3 (y4 + (1 : Int32)) (y5 + (1 : Int32))))
def f_X1_rankOf_90 (gS : zG) (k30 : Int32 → Int32 → Int32 → Int32 → Option (Int32)) (y2 : Int32) (y3 : Int32) (y4 : Int32) (y5 : Int32) (y6 : Int32) : Option (Int32) := (f_X1_rankOf_91 gS k30  y2 y3 y4 y5 y6 (0 : Int32))
def f_X1_rankOf_62 (gS : zG) (k30 : Int32 → Int32 → Int32 → Int32 → Option (Int32)) (y2 : Int32) (y3 : Int32) (y4 : Int32) (y5 : Int32) (s0 : Int32) : Option (Int32) := (zin y5 8 (if (gS 1 y5.toNatClampNeg) = y2 then (zin y5 8 (if y3 ≤ (gS 0 y5.toNatClampNeg) then (f_X1_rankOf_90 gS k30  y2 y3 y4 y5 s0) else (f_X1_rankOf_91 gS k30  y2 y3 y4 y5 s0 (1 : Int32)))) else (f_X1_rankOf_90 gS k30  y2 y3 y4 y5 s0)))
def f_X1_rankOf_30_b (gS : zG)  (k30 : Int32 → Int32 → Int32 → Int32 → Option (Int32)) (y2 : Int32) (y3 : Int32) (y4 : Int32) (y5 : Int32) : Option (Int32) := (if (8 : Int32) ≤ y5 then (some (y4)) else (zbind (f_X1_hasSlot gS y5) (fun R6 => (if R6 = 0 then (some (y4)) else (zin y5 8 (if (gS 1 y5.toNatClampNeg) ≤ y2 then (f_X1_rankOf_62 gS k30  y2 y3 y4 y5 (0 : Int32)) else (f_X1_rankOf_62 gS k30  y2 y3 y4 y5 (1 : Int32))))))))
def f_X1_rankOf_30 (gS : zG)  : Nat → Int32 → Int32 → Int32 → Int32 → Option (Int32)
  | 0 => fun _ _ _ _ => none
  | n + 1 => f_X1_rankOf_30_b gS  (f_X1_rankOf_30 gS  n)
def f_X1_rankOf (gS : zG) (x1 : Int32) : Option (Int32) := (zbind (f_X1_hasSlot gS x1) (fun R1 => (if R1 = 0 then (some ((-1 : Int32))) else (zin x1 8 (zin x1 8 (f_X1_rankOf_30 gS  zfuel (gS 1 x1.toNatClampNeg) (gS 0 x1.toNatClampNeg) (0 : Int32) (0 : Int32)))))))
theorem u_X1_rankOf_X1 : ∀ w ∈ u_ws RX1 TX1 4, w ∈ wsX1_rankOf := fun w h => List.mem_cons_of_mem _ (List.mem_append_right _ h)
theorem k_X1_rankOf_1 : Cond.fieldLink RX1 15 "JoinedLight$Cells" "lights" "[I" ∈ wsX1_rankOf := List.mem_of_getElem? (i := 1) rfl
theorem k_X1_rankOf_2 : Cond.fieldLink RX1 9 "JoinedLight$Cells" "numbers" "[I" ∈ wsX1_rankOf := List.mem_of_getElem? (i := 2) rfl
abbrev rm_X1_rankOf : Room := { frames := 1, cells := 0, slots := 0, locals := 21 }
set_option maxHeartbeats 4000000 in
set_option maxRecDepth 100000 in
theorem c_X1_rankOf (l : Launch) (dC : Nat → ClassId) (dI : Nat → Nat → Nat) (cI cC cO : ClassId) (qS : Nat) (aS : Nat → Nat) (gS : zG) (x1 : Int32) (R : Int32) (hf : f_X1_rankOf gS x1 = some R) : cR l (dC, dI) (zT cI cC cO) yX1_rankOf wsX1_rankOf rm_X1_rankOf [.ref qS, .int x1] [(wX1 cI qS aS gS)] (some (.int R)) := by
  refine zR_in (cc := cX1_rankOf) (maxL := 8) (ret := (some .int)) (plainFor_of_name (by decide)) rfl (Nat.le_of_ble_eq_true rfl) ?_
  intro p e s m below meth c hx hb hml hr hlk hown hts hK hN hP ls hl
  have hl : lv_has ls 8 [(0, .ref qS), (1, .int x1)] := hl
  have w30 : ∀ (n30 : Nat) (y2 : Int32) (y3 : Int32) (y4 : Int32) (y5 : Int32) (ls : Array Slot), f_X1_rankOf_30 gS  n30 y2 y3 y4 y5 = some R → lv_has ls 8 [(0, .ref qS), (2, .int y2), (3, .int y3), (4, .int y4), (5, .int y5)] → W p l e (headSpec wsX1_rankOf rm_X1_rankOf).room s m [.ref qS, .int x1].toArray below meth c s.heap [] 0 0 (MQ below (zqR (some (.int R))) [.ref qS, .int x1].toArray s 0 0 (fun _ => False)) (F0 m 30 ls []) := by
    intro n30
    induction n30 with
    | zero =>
      intro y2 y3 y4 y5 ls hf hl
      have hf : (none : Option (Int32)) = some R := hf
      cases hf
    | succ n30 ih30 =>
      have w91 : ∀ (y2 : Int32) (y3 : Int32) (y4 : Int32) (y5 : Int32) (y6 : Int32) (s0 : Int32) (ls : Array Slot), f_X1_rankOf_91 gS (f_X1_rankOf_30 gS  n30)  y2 y3 y4 y5 y6 s0 = some R → lv_has ls 8 [(0, .ref qS), (2, .int y2), (3, .int y3), (4, .int y4), (5, .int y5), (6, .int y6)] → W p l e (headSpec wsX1_rankOf rm_X1_rankOf).room s m [.ref qS, .int x1].toArray below meth c s.heap [] 0 0 (MQ below (zqR (some (.int R))) [.ref qS, .int x1].toArray s 0 0 (fun _ => False)) (F0 m 91 ls [.int s0]) := by
        intro y2 y3 y4 y5 y6 s0 ls hf hl
        unfold f_X1_rankOf_91 at hf
        refine lv_istore (lv' := [(7, .int s0), (0, .ref qS), (2, .int y2), (3, .int y3), (4, .int y4), (5, .int y5), (6, .int y6)]) hx hb dX1_rankOf_91 hl (by decide) rfl (fun ls hl => ?_)
        refine lv_iload hx hb dX1_rankOf_93 (lv_at hl 6 rfl) ?_
        refine lv_if_ne (tgt := 103) hx hb dX1_rankOf_95 (by decide) (fun c_14 => ?_) (fun c_14 => ?_)
        · have hf := zif_f hf c_14
          refine lv_iinc (v := (y4 + (1 : Int32))) (lv' := [(4, .int (y4 + (1 : Int32))), (7, .int s0), (0, .ref qS), (2, .int y2), (3, .int y3), (5, .int y5), (6, .int y6)]) hx hb dX1_rankOf_103 hl (k := 4) rfl rfl (by decide) rfl (fun ls hl => ?_)
          refine lv_iinc (v := (y5 + (1 : Int32))) (lv' := [(5, .int (y5 + (1 : Int32))), (4, .int (y4 + (1 : Int32))), (7, .int s0), (0, .ref qS), (2, .int y2), (3, .int y3), (6, .int y6)]) hx hb dX1_rankOf_106 hl (k := 5) rfl rfl (by decide) rfl (fun ls hl => ?_)
          refine lv_goto (tgt := 30) hx hb dX1_rankOf_109 (by decide) ?_
          exact ih30 y2 y3 (y4 + (1 : Int32)) (y5 + (1 : Int32)) ls hf (lv_sub hl [3, 4, 5, 1, 0] rfl)
        · have hf := zif_t hf c_14
          refine lv_iload hx hb dX1_rankOf_98 (lv_at hl 0 rfl) ?_
          refine lv_if_eq (tgt := 106) hx hb dX1_rankOf_100 (by decide) (fun c_15 => ?_) (fun c_15 => ?_)
          · have hf := zif_t hf c_15
            refine lv_iinc (v := (y5 + (1 : Int32))) (lv' := [(5, .int (y5 + (1 : Int32))), (7, .int s0), (0, .ref qS), (2, .int y2), (3, .int y3), (4, .int y4), (6, .int y6)]) hx hb dX1_rankOf_106 hl (k := 5) rfl rfl (by decide) rfl (fun ls hl => ?_)
            refine lv_goto (tgt := 30) hx hb dX1_rankOf_109 (by decide) ?_
            exact ih30 y2 y3 y4 (y5 + (1 : Int32)) ls hf (lv_sub hl [2, 3, 4, 5, 0] rfl)
          · have hf := zif_f hf c_15
            refine lv_iinc (v := (y4 + (1 : Int32))) (lv' := [(4, .int (y4 + (1 : Int32))), (7, .int s0), (0, .ref qS), (2, .int y2), (3, .int y3), (5, .int y5), (6, .int y6)]) hx hb dX1_rankOf_103 hl (k := 4) rfl rfl (by decide) rfl (fun ls hl => ?_)
            refine lv_iinc (v := (y5 + (1 : Int32))) (lv' := [(5, .int (y5 + (1 : Int32))), (4, .int (y4 + (1 : Int32))), (7, .int s0), (0, .ref qS), (2, .int y2), (3, .int y3), (6, .int y6)]) hx hb dX1_rankOf_106 hl (k := 5) rfl rfl (by decide) rfl (fun ls hl => ?_)
            refine lv_goto (tgt := 30) hx hb dX1_rankOf_109 (by decide) ?_
            exact ih30 y2 y3 (y4 + (1 : Int32)) (y5 + (1 : Int32)) ls hf (lv_sub hl [3, 4, 5, 1, 0] rfl)
      have w90 : ∀ (y2 : Int32) (y3 : Int32) (y4 : Int32) (y5 : Int32) (y6 : Int32) (ls : Array Slot), f_X1_rankOf_90 gS (f_X1_rankOf_30 gS  n30)  y2 y3 y4 y5 y6 = some R → lv_has ls 8 [(0, .ref qS), (2, .int y2), (3, .int y3), (4, .int y4), (5, .int y5), (6, .int y6)] → W p l e (headSpec wsX1_rankOf rm_X1_rankOf).room s m [.ref qS, .int x1].toArray below meth c s.heap [] 0 0 (MQ below (zqR (some (.int R))) [.ref qS, .int x1].toArray s 0 0 (fun _ => False)) (F0 m 90 ls []) := by
        intro y2 y3 y4 y5 y6 ls hf hl
        unfold f_X1_rankOf_90 at hf
        refine lv_iconst (v := (0 : Int32)) hx hb dX1_rankOf_90 (by decide) ?_
        exact w91  y2 y3 y4 y5 y6 (0 : Int32) ls hf (lv_sub hl [0, 1, 2, 3, 4, 5] rfl)
      have w62 : ∀ (y2 : Int32) (y3 : Int32) (y4 : Int32) (y5 : Int32) (s0 : Int32) (ls : Array Slot), f_X1_rankOf_62 gS (f_X1_rankOf_30 gS  n30)  y2 y3 y4 y5 s0 = some R → lv_has ls 8 [(0, .ref qS), (2, .int y2), (3, .int y3), (4, .int y4), (5, .int y5)] → W p l e (headSpec wsX1_rankOf rm_X1_rankOf).room s m [.ref qS, .int x1].toArray below meth c s.heap [] 0 0 (MQ below (zqR (some (.int R))) [.ref qS, .int x1].toArray s 0 0 (fun _ => False)) (F0 m 62 ls [.int s0]) := by
        intro y2 y3 y4 y5 s0 ls hf hl
        unfold f_X1_rankOf_62 at hf
        refine lv_istore (lv' := [(6, .int s0), (0, .ref qS), (2, .int y2), (3, .int y3), (4, .int y4), (5, .int y5)]) hx hb dX1_rankOf_62 hl (by decide) rfl (fun ls hl => ?_)
        refine lv_aload_n hx hb dX1_rankOf_64 rfl (lv_at hl 1 rfl) ?_
        refine va_get (D := (dC, dI)) (ci := 1) (v := .ref (aS 1)) (C := RX1) (T := TX1) (N := 4) hx hb hts u_X1_rankOf_X1 hown hK hP 0 rfl rfl 1 (by decide) (hts _ k_X1_rankOf_1) (fun _ h9 => h9) rfl dX1_rankOf_65 ?_
        refine lv_iload hx hb dX1_rankOf_68 (lv_at hl 5 rfl) ?_
        obtain ⟨h_10, hf⟩ := zin_ex hf
        refine va_iald hx hb hK hP 2 0 rfl rfl h_10 dX1_rankOf_70 ?_
        refine lv_iload_n hx hb dX1_rankOf_71 rfl (lv_at hl 2 rfl) ?_
        refine lv_icmp_ne (tgt := 90) hx hb dX1_rankOf_72 (by decide) (fun c_11 => ?_) (fun c_11 => ?_)
        · have hf := zif_f hf c_11
          exact w90  y2 y3 y4 y5 s0 ls hf (lv_sub hl [1, 2, 3, 4, 5, 0] rfl)
        · have hf := zif_t hf c_11
          refine lv_aload_n hx hb dX1_rankOf_75 rfl (lv_at hl 1 rfl) ?_
          refine va_get (D := (dC, dI)) (ci := 1) (v := .ref (aS 0)) (C := RX1) (T := TX1) (N := 4) hx hb hts u_X1_rankOf_X1 hown hK hP 0 rfl rfl 0 (by decide) (hts _ k_X1_rankOf_2) (fun _ h9 => h9) rfl dX1_rankOf_76 ?_
          refine lv_iload hx hb dX1_rankOf_79 (lv_at hl 5 rfl) ?_
          obtain ⟨h_12, hf⟩ := zin_ex hf
          refine va_iald hx hb hK hP 1 0 rfl rfl h_12 dX1_rankOf_81 ?_
          refine lv_iload_n hx hb dX1_rankOf_82 rfl (lv_at hl 3 rfl) ?_
          refine lv_icmp_ge (tgt := 90) hx hb dX1_rankOf_83 (by decide) (fun c_13 => ?_) (fun c_13 => ?_)
          · have hf := zif_t hf c_13
            exact w90  y2 y3 y4 y5 s0 ls hf (lv_sub hl [1, 2, 3, 4, 5, 0] rfl)
          · have hf := zif_f hf c_13
            refine lv_iconst (v := (1 : Int32)) hx hb dX1_rankOf_86 (by decide) ?_
            refine lv_goto (tgt := 91) hx hb dX1_rankOf_87 (by decide) ?_
            exact w91  y2 y3 y4 y5 s0 (1 : Int32) ls hf (lv_sub hl [1, 2, 3, 4, 5, 0] rfl)
      intro y2 y3 y4 y5 ls hf hl
      have hf : f_X1_rankOf_30_b gS  (f_X1_rankOf_30 gS  n30) y2 y3 y4 y5 = some R := hf
      unfold f_X1_rankOf_30_b at hf
      refine lv_iload hx hb dX1_rankOf_30 (lv_at hl 4 rfl) ?_
      refine lv_bipush (v := (8 : Int32)) hx hb dX1_rankOf_32 (by decide) ?_
      refine lv_icmp_ge (tgt := 112) hx hb dX1_rankOf_34 (by decide) (fun c_5 => ?_) (fun c_5 => ?_)
      · have hf := zif_t hf c_5
        refine lv_iload hx hb dX1_rankOf_112 (lv_at hl 3 rfl) ?_
        exact zR_ret hx hb hr rfl hf hlk dX1_rankOf_114
      · have hf := zif_f hf c_5
        refine lv_aload_n hx hb dX1_rankOf_37 rfl (lv_at hl 0 rfl) ?_
        refine lv_iload hx hb dX1_rankOf_38 (lv_at hl 4 rfl) ?_
        obtain ⟨R6, e_6, hf⟩ := zbind_ex hf
        refine z_callRi (va_runV (As := [.int y5]) (rest := []) ⟨hx, hb, hml, hown, hts⟩ (c_X1_hasSlot l dC dI cI cC cO qS aS gS y5 R6 e_6) (cwV 1 hts gX1_rankOf_X1_hasSlot rfl rfl rfl (by decide +kernel) ⟨Nat.le_of_ble_eq_true rfl, Nat.le_of_ble_eq_true rfl⟩) ⟨zpR_blind, va_recv hK hP (ci := 1) (q0 := 0) rfl rfl, z_useR hK hN hP [0] rfl⟩ rfl rfl hl.1 rfl (lv_room (Nat.le_of_ble_eq_true rfl)) dX1_rankOf_40 ⟨Nat.le_of_ble_eq_true rfl, Nat.le_of_ble_eq_true rfl⟩) ?_
        refine lv_if_eq (tgt := 112) hx hb dX1_rankOf_43 (by decide) (fun c_7 => ?_) (fun c_7 => ?_)
        · have hf := zif_t hf c_7
          refine lv_iload hx hb dX1_rankOf_112 (lv_at hl 3 rfl) ?_
          exact zR_ret hx hb hr rfl hf hlk dX1_rankOf_114
        · have hf := zif_f hf c_7
          refine lv_aload_n hx hb dX1_rankOf_46 rfl (lv_at hl 0 rfl) ?_
          refine va_get (D := (dC, dI)) (ci := 1) (v := .ref (aS 1)) (C := RX1) (T := TX1) (N := 4) hx hb hts u_X1_rankOf_X1 hown hK hP 0 rfl rfl 1 (by decide) (hts _ k_X1_rankOf_1) (fun _ h9 => h9) rfl dX1_rankOf_47 ?_
          refine lv_iload hx hb dX1_rankOf_50 (lv_at hl 4 rfl) ?_
          obtain ⟨h_8, hf⟩ := zin_ex hf
          refine va_iald hx hb hK hP 2 0 rfl rfl h_8 dX1_rankOf_52 ?_
          refine lv_iload_n hx hb dX1_rankOf_53 rfl (lv_at hl 1 rfl) ?_
          refine lv_icmp_le (tgt := 61) hx hb dX1_rankOf_54 (by decide) (fun c_9 => ?_) (fun c_9 => ?_)
          · have hf := zif_t hf c_9
            refine lv_iconst (v := (0 : Int32)) hx hb dX1_rankOf_61 (by decide) ?_
            exact w62  y2 y3 y4 y5 (0 : Int32) ls hf (lv_sub hl [0, 1, 2, 3, 4] rfl)
          · have hf := zif_f hf c_9
            refine lv_iconst (v := (1 : Int32)) hx hb dX1_rankOf_57 (by decide) ?_
            refine lv_goto (tgt := 62) hx hb dX1_rankOf_58 (by decide) ?_
            exact w62  y2 y3 y4 y5 (1 : Int32) ls hf (lv_sub hl [0, 1, 2, 3, 4] rfl)
  unfold f_X1_rankOf at hf
  refine lv_aload_n hx hb dX1_rankOf_0 rfl (lv_at hl 0 rfl) ?_
  refine lv_iload_n hx hb dX1_rankOf_1 rfl (lv_at hl 1 rfl) ?_
  obtain ⟨R1, e_1, hf⟩ := zbind_ex hf
  refine z_callRi (va_runV (As := [.int x1]) (rest := []) ⟨hx, hb, hml, hown, hts⟩ (c_X1_hasSlot l dC dI cI cC cO qS aS gS x1 R1 e_1) (cwV 1 hts gX1_rankOf_X1_hasSlot rfl rfl rfl (by decide +kernel) ⟨Nat.le_of_ble_eq_true rfl, Nat.le_of_ble_eq_true rfl⟩) ⟨zpR_blind, va_recv hK hP (ci := 1) (q0 := 0) rfl rfl, z_useR hK hN hP [0] rfl⟩ rfl rfl hl.1 rfl (lv_room (Nat.le_of_ble_eq_true rfl)) dX1_rankOf_2 ⟨Nat.le_of_ble_eq_true rfl, Nat.le_of_ble_eq_true rfl⟩) ?_
  refine lv_if_ne (tgt := 10) hx hb dX1_rankOf_5 (by decide) (fun c_2 => ?_) (fun c_2 => ?_)
  · have hf := zif_f hf c_2
    refine lv_aload_n hx hb dX1_rankOf_10 rfl (lv_at hl 0 rfl) ?_
    refine va_get (D := (dC, dI)) (ci := 1) (v := .ref (aS 1)) (C := RX1) (T := TX1) (N := 4) hx hb hts u_X1_rankOf_X1 hown hK hP 0 rfl rfl 1 (by decide) (hts _ k_X1_rankOf_1) (fun _ h9 => h9) rfl dX1_rankOf_11 ?_
    refine lv_iload_n hx hb dX1_rankOf_14 rfl (lv_at hl 1 rfl) ?_
    obtain ⟨h_3, hf⟩ := zin_ex hf
    refine va_iald hx hb hK hP 2 0 rfl rfl h_3 dX1_rankOf_15 ?_
    refine lv_istore_n (lv' := [(2, .int (gS 1 x1.toNatClampNeg)), (0, .ref qS), (1, .int x1)]) hx hb dX1_rankOf_16 rfl hl (by decide) rfl (fun ls hl => ?_)
    refine lv_aload_n hx hb dX1_rankOf_17 rfl (lv_at hl 1 rfl) ?_
    refine va_get (D := (dC, dI)) (ci := 1) (v := .ref (aS 0)) (C := RX1) (T := TX1) (N := 4) hx hb hts u_X1_rankOf_X1 hown hK hP 0 rfl rfl 0 (by decide) (hts _ k_X1_rankOf_2) (fun _ h9 => h9) rfl dX1_rankOf_18 ?_
    refine lv_iload_n hx hb dX1_rankOf_21 rfl (lv_at hl 2 rfl) ?_
    obtain ⟨h_4, hf⟩ := zin_ex hf
    refine va_iald hx hb hK hP 1 0 rfl rfl h_4 dX1_rankOf_22 ?_
    refine lv_istore_n (lv' := [(3, .int (gS 0 x1.toNatClampNeg)), (2, .int (gS 1 x1.toNatClampNeg)), (0, .ref qS), (1, .int x1)]) hx hb dX1_rankOf_23 rfl hl (by decide) rfl (fun ls hl => ?_)
    refine lv_iconst (v := (0 : Int32)) hx hb dX1_rankOf_24 (by decide) ?_
    refine lv_istore (lv' := [(4, .int (0 : Int32)), (3, .int (gS 0 x1.toNatClampNeg)), (2, .int (gS 1 x1.toNatClampNeg)), (0, .ref qS), (1, .int x1)]) hx hb dX1_rankOf_25 hl (by decide) rfl (fun ls hl => ?_)
    refine lv_iconst (v := (0 : Int32)) hx hb dX1_rankOf_27 (by decide) ?_
    refine lv_istore (lv' := [(5, .int (0 : Int32)), (4, .int (0 : Int32)), (3, .int (gS 0 x1.toNatClampNeg)), (2, .int (gS 1 x1.toNatClampNeg)), (0, .ref qS), (1, .int x1)]) hx hb dX1_rankOf_28 hl (by decide) rfl (fun ls hl => ?_)
    exact w30 zfuel (gS 1 x1.toNatClampNeg) (gS 0 x1.toNatClampNeg) (0 : Int32) (0 : Int32) ls hf (lv_sub hl [4, 3, 2, 1, 0] rfl)
  · have hf := zif_t hf c_2
    refine lv_iconst (v := (-1 : Int32)) hx hb dX1_rankOf_8 (by decide) ?_
    exact zR_ret hx hb hr rfl hf hlk dX1_rankOf_9

def f_X1_slotOfRank_2_b (gS : zG)  (k2 : Int32 → Int32 → Option (Int32)) (y1 : Int32) (y2 : Int32) : Option (Int32) := (if (8 : Int32) ≤ y2 then (some ((-1 : Int32))) else (zbind (f_X1_hasSlot gS y2) (fun R2 => (if R2 = 0 then (some ((-1 : Int32))) else (zbind (f_X1_rankOf gS y2) (fun R4 => (if R4 = y1 then (some (y2)) else (k2 y1 (y2 + (1 : Int32))))))))))
def f_X1_slotOfRank_2 (gS : zG)  : Nat → Int32 → Int32 → Option (Int32)
  | 0 => fun _ _ => none
  | n + 1 => f_X1_slotOfRank_2_b gS  (f_X1_slotOfRank_2 gS  n)
def f_X1_slotOfRank (gS : zG) (x1 : Int32) : Option (Int32) := (f_X1_slotOfRank_2 gS  zfuel x1 (0 : Int32))
abbrev rm_X1_slotOfRank : Room := { frames := 2, cells := 0, slots := 0, locals := 48 }
set_option maxHeartbeats 4000000 in
set_option maxRecDepth 100000 in
theorem c_X1_slotOfRank (l : Launch) (dC : Nat → ClassId) (dI : Nat → Nat → Nat) (cI cC cO : ClassId) (qS : Nat) (aS : Nat → Nat) (gS : zG) (x1 : Int32) (R : Int32) (hf : f_X1_slotOfRank gS x1 = some R) : cR l (dC, dI) (zT cI cC cO) yX1_slotOfRank wsX1_slotOfRank rm_X1_slotOfRank [.ref qS, .int x1] [(wX1 cI qS aS gS)] (some (.int R)) := by
  refine zR_in (cc := cX1_slotOfRank) (maxL := 3) (ret := (some .int)) (plainFor_of_name (by decide)) rfl (Nat.le_of_ble_eq_true rfl) ?_
  intro p e s m below meth c hx hb hml hr hlk hown hts hK hN hP ls hl
  have hl : lv_has ls 3 [(0, .ref qS), (1, .int x1)] := hl
  have w2 : ∀ (n2 : Nat) (y1 : Int32) (y2 : Int32) (ls : Array Slot), f_X1_slotOfRank_2 gS  n2 y1 y2 = some R → lv_has ls 3 [(0, .ref qS), (1, .int y1), (2, .int y2)] → W p l e (headSpec wsX1_slotOfRank rm_X1_slotOfRank).room s m [.ref qS, .int x1].toArray below meth c s.heap [] 0 0 (MQ below (zqR (some (.int R))) [.ref qS, .int x1].toArray s 0 0 (fun _ => False)) (F0 m 2 ls []) := by
    intro n2
    induction n2 with
    | zero =>
      intro y1 y2 ls hf hl
      have hf : (none : Option (Int32)) = some R := hf
      cases hf
    | succ n2 ih2 =>
      intro y1 y2 ls hf hl
      have hf : f_X1_slotOfRank_2_b gS  (f_X1_slotOfRank_2 gS  n2) y1 y2 = some R := hf
      unfold f_X1_slotOfRank_2_b at hf
      refine lv_iload_n hx hb dX1_slotOfRank_2 rfl (lv_at hl 2 rfl) ?_
      refine lv_bipush (v := (8 : Int32)) hx hb dX1_slotOfRank_3 (by decide) ?_
      refine lv_icmp_ge (tgt := 33) hx hb dX1_slotOfRank_5 (by decide) (fun c_1 => ?_) (fun c_1 => ?_)
      · have hf := zif_t hf c_1
        refine lv_iconst (v := (-1 : Int32)) hx hb dX1_slotOfRank_33 (by decide) ?_
        exact zR_ret hx hb hr rfl hf hlk dX1_slotOfRank_34
      · have hf := zif_f hf c_1
        refine lv_aload_n hx hb dX1_slotOfRank_8 rfl (lv_at hl 0 rfl) ?_
        refine lv_iload_n hx hb dX1_slotOfRank_9 rfl (lv_at hl 2 rfl) ?_
        obtain ⟨R2, e_2, hf⟩ := zbind_ex hf
        refine z_callRi (va_runV (As := [.int y2]) (rest := []) ⟨hx, hb, hml, hown, hts⟩ (c_X1_hasSlot l dC dI cI cC cO qS aS gS y2 R2 e_2) (cwV 1 hts gX1_slotOfRank_X1_hasSlot rfl rfl rfl (by decide +kernel) ⟨Nat.le_of_ble_eq_true rfl, Nat.le_of_ble_eq_true rfl⟩) ⟨zpR_blind, va_recv hK hP (ci := 1) (q0 := 0) rfl rfl, z_useR hK hN hP [0] rfl⟩ rfl rfl hl.1 rfl (lv_room (Nat.le_of_ble_eq_true rfl)) dX1_slotOfRank_10 ⟨Nat.le_of_ble_eq_true rfl, Nat.le_of_ble_eq_true rfl⟩) ?_
        refine lv_if_eq (tgt := 33) hx hb dX1_slotOfRank_13 (by decide) (fun c_3 => ?_) (fun c_3 => ?_)
        · have hf := zif_t hf c_3
          refine lv_iconst (v := (-1 : Int32)) hx hb dX1_slotOfRank_33 (by decide) ?_
          exact zR_ret hx hb hr rfl hf hlk dX1_slotOfRank_34
        · have hf := zif_f hf c_3
          refine lv_aload_n hx hb dX1_slotOfRank_16 rfl (lv_at hl 0 rfl) ?_
          refine lv_iload_n hx hb dX1_slotOfRank_17 rfl (lv_at hl 2 rfl) ?_
          obtain ⟨R4, e_4, hf⟩ := zbind_ex hf
          refine z_callRi (va_runV (As := [.int y2]) (rest := []) ⟨hx, hb, hml, hown, hts⟩ (c_X1_rankOf l dC dI cI cC cO qS aS gS y2 R4 e_4) (cwV 1 hts gX1_slotOfRank_X1_rankOf rfl rfl rfl (by decide +kernel) ⟨Nat.le_of_ble_eq_true rfl, Nat.le_of_ble_eq_true rfl⟩) ⟨zpR_blind, va_recv hK hP (ci := 1) (q0 := 0) rfl rfl, z_useR hK hN hP [0] rfl⟩ rfl rfl hl.1 rfl (lv_room (Nat.le_of_ble_eq_true rfl)) dX1_slotOfRank_18 ⟨Nat.le_of_ble_eq_true rfl, Nat.le_of_ble_eq_true rfl⟩) ?_
          refine lv_iload_n hx hb dX1_slotOfRank_21 rfl (lv_at hl 1 rfl) ?_
          refine lv_icmp_ne (tgt := 27) hx hb dX1_slotOfRank_22 (by decide) (fun c_5 => ?_) (fun c_5 => ?_)
          · have hf := zif_f hf c_5
            refine lv_iinc (v := (y2 + (1 : Int32))) (lv' := [(2, .int (y2 + (1 : Int32))), (0, .ref qS), (1, .int y1)]) hx hb dX1_slotOfRank_27 hl (k := 2) rfl rfl (by decide) rfl (fun ls hl => ?_)
            refine lv_goto (tgt := 2) hx hb dX1_slotOfRank_30 (by decide) ?_
            exact ih2 y1 (y2 + (1 : Int32)) ls hf (lv_sub hl [1, 2, 0] rfl)
          · have hf := zif_t hf c_5
            refine lv_iload_n hx hb dX1_slotOfRank_25 rfl (lv_at hl 2 rfl) ?_
            exact zR_ret hx hb hr rfl hf hlk dX1_slotOfRank_26
  unfold f_X1_slotOfRank at hf
  refine lv_iconst (v := (0 : Int32)) hx hb dX1_slotOfRank_0 (by decide) ?_
  refine lv_istore_n (lv' := [(2, .int (0 : Int32)), (0, .ref qS), (1, .int x1)]) hx hb dX1_slotOfRank_1 rfl hl (by decide) rfl (fun ls hl => ?_)
  exact w2 zfuel x1 (0 : Int32) ls hf (lv_sub hl [1, 2, 0] rfl)

def f_X2_clear (gS : zG)  : Option (zG) := (zlet (gup gS 1 0 (-1 : Int32)) (fun gS_1 => (some (gS_1))))
theorem u_X2_clear_X2 : ∀ w ∈ u_ws RX2 TX2 3, w ∈ wsX2_clear := fun w h => List.mem_cons_of_mem _ (List.mem_append_right _ h)
theorem k_X2_clear_1 : Cond.fieldLink RX2 13 "JoinedLight$Choice" "arrivals" "I" ∈ wsX2_clear := List.mem_of_getElem? (i := 1) rfl
abbrev rm_X2_clear : Room := { frames := 0, cells := 0, slots := 0, locals := 0 }
set_option maxHeartbeats 4000000 in
set_option maxRecDepth 100000 in
theorem c_X2_clear (l : Launch) (dC : Nat → ClassId) (dI : Nat → Nat → Nat) (cI cC cO : ClassId) (qS : Nat) (gS : zG)  (R : zG) (hf : f_X2_clear gS = some R) : cM l (dC, dI) (zT cI cC cO) yX2_clear wsX2_clear rm_X2_clear [.ref qS] [(wX2 qS gS)] [(wX2 qS R)] none 0 0 := by
  refine zM_in (cc := cX2_clear) (maxL := 1) (ret := none) (plainFor_of_name (by decide)) rfl (Nat.le_of_ble_eq_true rfl) ?_
  intro p e s m below meth c hx hb hml hr hlk hown hts hK hN A hA hP hD hS ls hl
  have hl : lv_has ls 1 [(0, .ref qS)] := hl
  unfold f_X2_clear at hf
  obtain ⟨H, hH⟩ : ∃ H, H = s.heap := ⟨_, rfl⟩
  obtain ⟨locs, hlocs⟩ : ∃ locs : List Loc, locs = [] := ⟨_, rfl⟩
  have hS : va_S A s.heap H locs := by rw [hH, hlocs]; exact hS
  rw [← hH] at hP
  refine zheap hH hlocs ?_
  refine lv_aload_n hx hb dX2_clear_0 rfl (lv_at hl 0 rfl) ?_
  refine lv_iconst (v := (-1 : Int32)) hx hb dX2_clear_1 (by decide) ?_
  obtain ⟨gS_1, e_1, hf⟩ := zlet_ex hf
  refine z_put (gs' := [(wX2 qS gS_1)]) (D := (dC, dI)) (ci := 2) (ty := .int) (C := RX2) (T := TX2) (N := 3) hx hb hts u_X2_clear_X2 tyX2 tyX2_ok nmX2 hown hK hP hD hS 0 rfl rfl 1 (by decide) (hts _ k_X2_clear_1) (fun _ h9 => h9) rfl (by decide +kernel) rfl rfl (Nat.le_of_ble_eq_true rfl) (by rw [e_1]; rfl) dX2_clear_2 (fun H locs hP hD hS => ?_)
  exact zM_vret (gs := [(wX2 qS gS_1)]) hx hb hr hP hD hS (by rw [← Option.some.inj hf]; exact ⟨rfl, rfl⟩) hlk dX2_clear_5

def f_X2_offer_24   (y1 : Int32) (y2 : Int32) (y3 : Int32) (gS : zG) : Option (zG) := (zlet (gup gS 0 0 y1) (fun gS_4 => (zlet (gup gS_4 1 0 y2) (fun gS_5 => (zlet (gup gS_5 2 0 y3) (fun gS_6 => (some (gS_6))))))))
def f_X2_offer (gS : zG) (x1 : Int32) (x2 : Int32) (x3 : Int32) : Option (zG) := (if (gS 1 0) < x2 then (f_X2_offer_24    x1 x2 x3 gS) else (if x2 = (gS 1 0) then (if (gS 2 0) ≤ x3 then (some (gS)) else (f_X2_offer_24    x1 x2 x3 gS)) else (some (gS))))
theorem u_X2_offer_X2 : ∀ w ∈ u_ws RX2 TX2 3, w ∈ wsX2_offer := fun w h => List.mem_cons_of_mem _ (List.mem_append_right _ h)
theorem k_X2_offer_1 : Cond.fieldLink RX2 13 "JoinedLight$Choice" "arrivals" "I" ∈ wsX2_offer := List.mem_of_getElem? (i := 1) rfl
theorem k_X2_offer_2 : Cond.fieldLink RX2 16 "JoinedLight$Choice" "spread" "I" ∈ wsX2_offer := List.mem_of_getElem? (i := 2) rfl
theorem k_X2_offer_3 : Cond.fieldLink RX2 7 "JoinedLight$Choice" "value" "I" ∈ wsX2_offer := List.mem_of_getElem? (i := 3) rfl
abbrev rm_X2_offer : Room := { frames := 0, cells := 0, slots := 0, locals := 0 }
set_option maxHeartbeats 4000000 in
set_option maxRecDepth 100000 in
theorem c_X2_offer (l : Launch) (dC : Nat → ClassId) (dI : Nat → Nat → Nat) (cI cC cO : ClassId) (qS : Nat) (gS : zG) (x1 : Int32) (x2 : Int32) (x3 : Int32) (R : zG) (hf : f_X2_offer gS x1 x2 x3 = some R) : cM l (dC, dI) (zT cI cC cO) yX2_offer wsX2_offer rm_X2_offer [.ref qS, .int x1, .int x2, .int x3] [(wX2 qS gS)] [(wX2 qS R)] none 0 0 := by
  refine zM_in (cc := cX2_offer) (maxL := 4) (ret := none) (plainFor_of_name (by decide)) rfl (Nat.le_of_ble_eq_true rfl) ?_
  intro p e s m below meth c hx hb hml hr hlk hown hts hK hN A hA hP hD hS ls hl
  have hl : lv_has ls 4 [(0, .ref qS), (1, .int x1), (2, .int x2), (3, .int x3)] := hl
  have w24 : ∀ (y1 : Int32) (y2 : Int32) (y3 : Int32) (gS : zG) (H : Heap) (locs : List Loc) (ls : Array Slot), f_X2_offer_24    y1 y2 y3 gS = some R → va_P (dC, dI) vwCl [(wX2 qS gS)].flatten H → va_D A [(wX2 qS gS)].flatten → va_S A s.heap H locs → lv_has ls 4 [(0, .ref qS), (1, .int y1), (2, .int y2), (3, .int y3)] → W p l e (headSpec wsX2_offer rm_X2_offer).room s m [.ref qS, .int x1, .int x2, .int x3].toArray below meth c H locs 0 0 (MQ below (zqM (dC, dI) none [(wX2 qS R)] A) [.ref qS, .int x1, .int x2, .int x3].toArray s 0 0 A) (F0 m 24 ls []) := by
    intro y1 y2 y3 gS H locs ls hf hP hD hS hl
    unfold f_X2_offer_24 at hf
    refine lv_aload_n hx hb dX2_offer_24 rfl (lv_at hl 0 rfl) ?_
    refine lv_iload_n hx hb dX2_offer_25 rfl (lv_at hl 1 rfl) ?_
    obtain ⟨gS_4, e_4, hf⟩ := zlet_ex hf
    refine z_put (gs' := [(wX2 qS gS_4)]) (D := (dC, dI)) (ci := 2) (ty := .int) (C := RX2) (T := TX2) (N := 3) hx hb hts u_X2_offer_X2 tyX2 tyX2_ok nmX2 hown hK hP hD hS 0 rfl rfl 0 (by decide) (hts _ k_X2_offer_3) (fun _ h9 => h9) rfl (by decide +kernel) rfl rfl (Nat.le_of_ble_eq_true rfl) (by rw [e_4]; rfl) dX2_offer_26 (fun H locs hP hD hS => ?_)
    refine lv_aload_n hx hb dX2_offer_29 rfl (lv_at hl 0 rfl) ?_
    refine lv_iload_n hx hb dX2_offer_30 rfl (lv_at hl 2 rfl) ?_
    obtain ⟨gS_5, e_5, hf⟩ := zlet_ex hf
    refine z_put (gs' := [(wX2 qS gS_5)]) (D := (dC, dI)) (ci := 2) (ty := .int) (C := RX2) (T := TX2) (N := 3) hx hb hts u_X2_offer_X2 tyX2 tyX2_ok nmX2 hown hK hP hD hS 0 rfl rfl 1 (by decide) (hts _ k_X2_offer_1) (fun _ h9 => h9) rfl (by decide +kernel) rfl rfl (Nat.le_of_ble_eq_true rfl) (by rw [e_5]; rfl) dX2_offer_31 (fun H locs hP hD hS => ?_)
    refine lv_aload_n hx hb dX2_offer_34 rfl (lv_at hl 0 rfl) ?_
    refine lv_iload_n hx hb dX2_offer_35 rfl (lv_at hl 3 rfl) ?_
    obtain ⟨gS_6, e_6, hf⟩ := zlet_ex hf
    refine z_put (gs' := [(wX2 qS gS_6)]) (D := (dC, dI)) (ci := 2) (ty := .int) (C := RX2) (T := TX2) (N := 3) hx hb hts u_X2_offer_X2 tyX2 tyX2_ok nmX2 hown hK hP hD hS 0 rfl rfl 2 (by decide) (hts _ k_X2_offer_2) (fun _ h9 => h9) rfl (by decide +kernel) rfl rfl (Nat.le_of_ble_eq_true rfl) (by rw [e_6]; rfl) dX2_offer_36 (fun H locs hP hD hS => ?_)
    exact zM_vret (gs := [(wX2 qS gS_6)]) hx hb hr hP hD hS (by rw [← Option.some.inj hf]; exact ⟨rfl, rfl⟩) hlk dX2_offer_39
  unfold f_X2_offer at hf
  obtain ⟨H, hH⟩ : ∃ H, H = s.heap := ⟨_, rfl⟩
  obtain ⟨locs, hlocs⟩ : ∃ locs : List Loc, locs = [] := ⟨_, rfl⟩
  have hS : va_S A s.heap H locs := by rw [hH, hlocs]; exact hS
  rw [← hH] at hP
  refine zheap hH hlocs ?_
  refine lv_iload_n hx hb dX2_offer_0 rfl (lv_at hl 2 rfl) ?_
  refine lv_aload_n hx hb dX2_offer_1 rfl (lv_at hl 0 rfl) ?_
  refine va_get (D := (dC, dI)) (ci := 2) (v := .int (gS 1 0)) (C := RX2) (T := TX2) (N := 3) hx hb hts u_X2_offer_X2 hown hK hP 0 rfl rfl 1 (by decide) (hts _ k_X2_offer_1) (fun _ h9 => h9) rfl dX2_offer_2 ?_
  refine lv_icmp_gt (tgt := 24) hx hb dX2_offer_5 (by decide) (fun c_1 => ?_) (fun c_1 => ?_)
  · have hf := zif_t hf c_1
    exact w24  x1 x2 x3 gS H locs ls hf hP hD hS (lv_sub hl [0, 1, 2, 3] rfl)
  · have hf := zif_f hf c_1
    refine lv_iload_n hx hb dX2_offer_8 rfl (lv_at hl 2 rfl) ?_
    refine lv_aload_n hx hb dX2_offer_9 rfl (lv_at hl 0 rfl) ?_
    refine va_get (D := (dC, dI)) (ci := 2) (v := .int (gS 1 0)) (C := RX2) (T := TX2) (N := 3) hx hb hts u_X2_offer_X2 hown hK hP 0 rfl rfl 1 (by decide) (hts _ k_X2_offer_1) (fun _ h9 => h9) rfl dX2_offer_10 ?_
    refine lv_icmp_ne (tgt := 39) hx hb dX2_offer_13 (by decide) (fun c_2 => ?_) (fun c_2 => ?_)
    · have hf := zif_f hf c_2
      exact zM_vret (gs := [(wX2 qS gS)]) hx hb hr hP hD hS (by rw [← Option.some.inj hf]; exact ⟨rfl, rfl⟩) hlk dX2_offer_39
    · have hf := zif_t hf c_2
      refine lv_iload_n hx hb dX2_offer_16 rfl (lv_at hl 3 rfl) ?_
      refine lv_aload_n hx hb dX2_offer_17 rfl (lv_at hl 0 rfl) ?_
      refine va_get (D := (dC, dI)) (ci := 2) (v := .int (gS 2 0)) (C := RX2) (T := TX2) (N := 3) hx hb hts u_X2_offer_X2 hown hK hP 0 rfl rfl 2 (by decide) (hts _ k_X2_offer_2) (fun _ h9 => h9) rfl dX2_offer_18 ?_
      refine lv_icmp_ge (tgt := 39) hx hb dX2_offer_21 (by decide) (fun c_3 => ?_) (fun c_3 => ?_)
      · have hf := zif_t hf c_3
        exact zM_vret (gs := [(wX2 qS gS)]) hx hb hr hP hD hS (by rw [← Option.some.inj hf]; exact ⟨rfl, rfl⟩) hlk dX2_offer_39
      · have hf := zif_f hf c_3
        exact w24  x1 x2 x3 gS H locs ls hf hP hD hS (lv_sub hl [0, 1, 2, 3] rfl)
