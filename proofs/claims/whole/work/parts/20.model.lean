def f_X7_in  (x0 : Int32) (x1 : Int32) (x2 : Int32) : Option (Int32) := (if x0 < x1 then (some ((0 : Int32))) else (if x2 < x0 then (some ((0 : Int32))) else (some ((1 : Int32)))))
abbrev rm_X7_in : Room := { frames := 0, cells := 0, slots := 0, locals := 0 }
set_option maxHeartbeats 4000000 in
set_option maxRecDepth 100000 in
theorem c_X7_in (l : Launch) (dC : Nat → ClassId) (dI : Nat → Nat → Nat) (cI cC cO : ClassId)  (x0 : Int32) (x1 : Int32) (x2 : Int32) (R : Int32) (hf : f_X7_in x0 x1 x2 = some R) : cR l (dC, dI) (zT cI cC cO) yX7_in wsX7_in rm_X7_in [.int x0, .int x1, .int x2] [] (some (.int R)) := by
  refine zR_in (cc := cX7_in) (maxL := 3) (ret := (some .boolean)) (plainFor_of_name (by decide)) rfl (Nat.le_of_ble_eq_true rfl) ?_
  intro p e s m below meth c hx hb hml hr hlk hown hts hK hN hP ls hl
  have hl : lv_has ls 3 [(0, .int x0), (1, .int x1), (2, .int x2)] := hl
  unfold f_X7_in at hf
  refine lv_iload_n hx hb dX7_in_0 rfl (lv_at hl 0 rfl) ?_
  refine lv_iload_n hx hb dX7_in_1 rfl (lv_at hl 1 rfl) ?_
  refine lv_icmp_lt (tgt := 14) hx hb dX7_in_2 (by decide) (fun c_1 => ?_) (fun c_1 => ?_)
  · have hf := zif_t hf c_1
    refine lv_iconst (v := (0 : Int32)) hx hb dX7_in_14 (by decide) ?_
    exact zR_ret hx hb hr rfl hf hlk dX7_in_15
  · have hf := zif_f hf c_1
    refine lv_iload_n hx hb dX7_in_5 rfl (lv_at hl 0 rfl) ?_
    refine lv_iload_n hx hb dX7_in_6 rfl (lv_at hl 2 rfl) ?_
    refine lv_icmp_gt (tgt := 14) hx hb dX7_in_7 (by decide) (fun c_2 => ?_) (fun c_2 => ?_)
    · have hf := zif_t hf c_2
      refine lv_iconst (v := (0 : Int32)) hx hb dX7_in_14 (by decide) ?_
      exact zR_ret hx hb hr rfl hf hlk dX7_in_15
    · have hf := zif_f hf c_2
      refine lv_iconst (v := (1 : Int32)) hx hb dX7_in_10 (by decide) ?_
      refine lv_goto (tgt := 15) hx hb dX7_in_11 (by decide) ?_
      exact zR_ret hx hb hr rfl hf hlk dX7_in_15

def f_X7_floor  (x0 : Int32) (x1 : Int32) : Option (Int32) := (if x0 < 0 then (zne x1 (some ((-(((x1 - (1 : Int32)) - x0) / x1))))) else (zne x1 (some ((x0 / x1)))))
abbrev rm_X7_floor : Room := { frames := 0, cells := 0, slots := 0, locals := 0 }
set_option maxHeartbeats 4000000 in
set_option maxRecDepth 100000 in
theorem c_X7_floor (l : Launch) (dC : Nat → ClassId) (dI : Nat → Nat → Nat) (cI cC cO : ClassId)  (x0 : Int32) (x1 : Int32) (R : Int32) (hf : f_X7_floor x0 x1 = some R) : cR l (dC, dI) (zT cI cC cO) yX7_floor wsX7_floor rm_X7_floor [.int x0, .int x1] [] (some (.int R)) := by
  refine zR_in (cc := cX7_floor) (maxL := 2) (ret := (some .int)) (plainFor_of_name (by decide)) rfl (Nat.le_of_ble_eq_true rfl) ?_
  intro p e s m below meth c hx hb hml hr hlk hown hts hK hN hP ls hl
  have hl : lv_has ls 2 [(0, .int x0), (1, .int x1)] := hl
  unfold f_X7_floor at hf
  refine lv_iload_n hx hb dX7_floor_0 rfl (lv_at hl 0 rfl) ?_
  refine lv_if_lt (tgt := 10) hx hb dX7_floor_1 (by decide) (fun c_1 => ?_) (fun c_1 => ?_)
  · have hf := zif_t hf c_1
    refine lv_iload_n hx hb dX7_floor_10 rfl (lv_at hl 1 rfl) ?_
    refine lv_iconst (v := (1 : Int32)) hx hb dX7_floor_11 (by decide) ?_
    refine lv_isub hx hb dX7_floor_12 ?_
    refine lv_iload_n hx hb dX7_floor_13 rfl (lv_at hl 0 rfl) ?_
    refine lv_isub hx hb dX7_floor_14 ?_
    refine lv_iload_n hx hb dX7_floor_15 rfl (lv_at hl 1 rfl) ?_
    obtain ⟨h_2, hf⟩ := zne_ex hf
    refine lv_idiv hx hb dX7_floor_16 h_2 ?_
    refine lv_ineg hx hb dX7_floor_17 ?_
    exact zR_ret hx hb hr rfl hf hlk dX7_floor_18
  · have hf := zif_f hf c_1
    refine lv_iload_n hx hb dX7_floor_4 rfl (lv_at hl 0 rfl) ?_
    refine lv_iload_n hx hb dX7_floor_5 rfl (lv_at hl 1 rfl) ?_
    obtain ⟨h_3, hf⟩ := zne_ex hf
    refine lv_idiv hx hb dX7_floor_6 h_3 ?_
    refine lv_goto (tgt := 18) hx hb dX7_floor_7 (by decide) ?_
    exact zR_ret hx hb hr rfl hf hlk dX7_floor_18

def f_X7_copies_0_3_2_b   (k2 : Int32 → zG → Option (zG)) (y2 : Int32) (gS : zG) : Option (zG) := (if (59 : Int32) ≤ y2 then (some (gS)) else (zin y2 59 (zin y2 59 (zlet (gup gS 3 y2.toNatClampNeg (gS 0 y2.toNatClampNeg)) (fun gS_3 => (k2 (y2 + (1 : Int32)) gS_3))))))
def f_X7_copies_0_3_2   : Nat → Int32 → zG → Option (zG)
  | 0 => fun _ _ => none
  | n + 1 => f_X7_copies_0_3_2_b   (f_X7_copies_0_3_2   n)
def f_X7_copies_0_3 (gS : zG)  : Option (zG) := (f_X7_copies_0_3_2   zfuel (0 : Int32) gS)
abbrev rm_X7_copies : Room := { frames := 0, cells := 0, slots := 0, locals := 0 }
set_option maxHeartbeats 4000000 in
set_option maxRecDepth 100000 in
theorem c_X7_copies_0_3 (l : Launch) (dC : Nat → ClassId) (dI : Nat → Nat → Nat) (cI cC cO : ClassId) (qS : Nat) (aS : Nat → Nat) (gS : zG)  (R : zG) (hf : f_X7_copies_0_3 gS = some R) : cM l (dC, dI) (zT cI cC cO) yX7_copies wsX7_copies rm_X7_copies [.ref (aS 0), .ref (aS 3)] [(wX7 cI qS aS gS)] [(wX7 cI qS aS R)] none 0 0 := by
  refine zM_in (cc := cX7_copies) (maxL := 3) (ret := none) (plainFor_of_name (by decide)) rfl (Nat.le_of_ble_eq_true rfl) ?_
  intro p e s m below meth c hx hb hml hr hlk hown hts hK hN A hA hP hD hS ls hl
  have hl : lv_has ls 3 [(0, .ref (aS 0)), (1, .ref (aS 3))] := hl
  have w2 : ∀ (n2 : Nat) (y2 : Int32) (gS : zG) (H : Heap) (locs : List Loc) (ls : Array Slot), f_X7_copies_0_3_2   n2 y2 gS = some R → va_P (dC, dI) vwCl [(wX7 cI qS aS gS)].flatten H → va_D A [(wX7 cI qS aS gS)].flatten → va_S A s.heap H locs → lv_has ls 3 [(0, .ref (aS 0)), (1, .ref (aS 3)), (2, .int y2)] → W p l e (headSpec wsX7_copies rm_X7_copies).room s m [.ref (aS 0), .ref (aS 3)].toArray below meth c H locs 0 0 (MQ below (zqM (dC, dI) none [(wX7 cI qS aS R)] A) [.ref (aS 0), .ref (aS 3)].toArray s 0 0 A) (F0 m 2 ls []) := by
    intro n2
    induction n2 with
    | zero =>
      intro y2 gS H locs ls hf hP hD hS hl
      have hf : (none : Option (zG)) = some R := hf
      cases hf
    | succ n2 ih2 =>
      intro y2 gS H locs ls hf hP hD hS hl
      have hf : f_X7_copies_0_3_2_b   (f_X7_copies_0_3_2   n2) y2 gS = some R := hf
      unfold f_X7_copies_0_3_2_b at hf
      refine lv_iload_n hx hb dX7_copies_2 rfl (lv_at hl 2 rfl) ?_
      refine lv_bipush (v := (59 : Int32)) hx hb dX7_copies_3 (by decide) ?_
      refine lv_icmp_ge (tgt := 20) hx hb dX7_copies_5 (by decide) (fun c_1 => ?_) (fun c_1 => ?_)
      · have hf := zif_t hf c_1
        exact zM_vret (gs := [(wX7 cI qS aS gS)]) hx hb hr hP hD hS (by rw [← Option.some.inj hf]; exact ⟨rfl, rfl⟩) hlk dX7_copies_20
      · have hf := zif_f hf c_1
        refine lv_aload_n hx hb dX7_copies_8 rfl (lv_at hl 1 rfl) ?_
        refine lv_iload_n hx hb dX7_copies_9 rfl (lv_at hl 2 rfl) ?_
        refine lv_aload_n hx hb dX7_copies_10 rfl (lv_at hl 0 rfl) ?_
        refine lv_iload_n hx hb dX7_copies_11 rfl (lv_at hl 2 rfl) ?_
        obtain ⟨h_2, hf⟩ := zin_ex hf
        refine va_iald hx hb hK hP 1 0 rfl rfl h_2 dX7_copies_12 ?_
        obtain ⟨h_3, hf⟩ := zin_ex hf
        obtain ⟨gS_3, e_3, hf⟩ := zlet_ex hf
        refine z_iast (gs' := [(wX7 cI qS aS gS_3)]) hx hb hK hP hD hS 4 0 rfl rfl h_3 (by rw [e_3]; rfl) dX7_copies_13 (fun H locs hP hD hS => ?_)
        refine lv_iinc (v := (y2 + (1 : Int32))) (lv' := [(2, .int (y2 + (1 : Int32))), (0, .ref (aS 0)), (1, .ref (aS 3))]) hx hb dX7_copies_14 hl (k := 2) rfl rfl (by decide) rfl (fun ls hl => ?_)
        refine lv_goto (tgt := 2) hx hb dX7_copies_17 (by decide) ?_
        exact ih2 (y2 + (1 : Int32)) gS_3 H locs ls hf hP hD hS (lv_sub hl [1, 2, 0] rfl)
  unfold f_X7_copies_0_3 at hf
  obtain ⟨H, hH⟩ : ∃ H, H = s.heap := ⟨_, rfl⟩
  obtain ⟨locs, hlocs⟩ : ∃ locs : List Loc, locs = [] := ⟨_, rfl⟩
  have hS : va_S A s.heap H locs := by rw [hH, hlocs]; exact hS
  rw [← hH] at hP
  refine zheap hH hlocs ?_
  refine lv_iconst (v := (0 : Int32)) hx hb dX7_copies_0 (by decide) ?_
  refine lv_istore_n (lv' := [(2, .int (0 : Int32)), (0, .ref (aS 0)), (1, .ref (aS 3))]) hx hb dX7_copies_1 rfl hl (by decide) rfl (fun ls hl => ?_)
  exact w2 zfuel (0 : Int32) gS H locs ls hf hP hD hS (lv_sub hl [1, 2, 0] rfl)

def f_X7_copies_3_0_2_b   (k2 : Int32 → zG → Option (zG)) (y2 : Int32) (gS : zG) : Option (zG) := (if (59 : Int32) ≤ y2 then (some (gS)) else (zin y2 59 (zin y2 59 (zlet (gup gS 0 y2.toNatClampNeg (gS 3 y2.toNatClampNeg)) (fun gS_3 => (k2 (y2 + (1 : Int32)) gS_3))))))
def f_X7_copies_3_0_2   : Nat → Int32 → zG → Option (zG)
  | 0 => fun _ _ => none
  | n + 1 => f_X7_copies_3_0_2_b   (f_X7_copies_3_0_2   n)
def f_X7_copies_3_0 (gS : zG)  : Option (zG) := (f_X7_copies_3_0_2   zfuel (0 : Int32) gS)
set_option maxHeartbeats 4000000 in
set_option maxRecDepth 100000 in
theorem c_X7_copies_3_0 (l : Launch) (dC : Nat → ClassId) (dI : Nat → Nat → Nat) (cI cC cO : ClassId) (qS : Nat) (aS : Nat → Nat) (gS : zG)  (R : zG) (hf : f_X7_copies_3_0 gS = some R) : cM l (dC, dI) (zT cI cC cO) yX7_copies wsX7_copies rm_X7_copies [.ref (aS 3), .ref (aS 0)] [(wX7 cI qS aS gS)] [(wX7 cI qS aS R)] none 0 0 := by
  refine zM_in (cc := cX7_copies) (maxL := 3) (ret := none) (plainFor_of_name (by decide)) rfl (Nat.le_of_ble_eq_true rfl) ?_
  intro p e s m below meth c hx hb hml hr hlk hown hts hK hN A hA hP hD hS ls hl
  have hl : lv_has ls 3 [(0, .ref (aS 3)), (1, .ref (aS 0))] := hl
  have w2 : ∀ (n2 : Nat) (y2 : Int32) (gS : zG) (H : Heap) (locs : List Loc) (ls : Array Slot), f_X7_copies_3_0_2   n2 y2 gS = some R → va_P (dC, dI) vwCl [(wX7 cI qS aS gS)].flatten H → va_D A [(wX7 cI qS aS gS)].flatten → va_S A s.heap H locs → lv_has ls 3 [(0, .ref (aS 3)), (1, .ref (aS 0)), (2, .int y2)] → W p l e (headSpec wsX7_copies rm_X7_copies).room s m [.ref (aS 3), .ref (aS 0)].toArray below meth c H locs 0 0 (MQ below (zqM (dC, dI) none [(wX7 cI qS aS R)] A) [.ref (aS 3), .ref (aS 0)].toArray s 0 0 A) (F0 m 2 ls []) := by
    intro n2
    induction n2 with
    | zero =>
      intro y2 gS H locs ls hf hP hD hS hl
      have hf : (none : Option (zG)) = some R := hf
      cases hf
    | succ n2 ih2 =>
      intro y2 gS H locs ls hf hP hD hS hl
      have hf : f_X7_copies_3_0_2_b   (f_X7_copies_3_0_2   n2) y2 gS = some R := hf
      unfold f_X7_copies_3_0_2_b at hf
      refine lv_iload_n hx hb dX7_copies_2 rfl (lv_at hl 2 rfl) ?_
      refine lv_bipush (v := (59 : Int32)) hx hb dX7_copies_3 (by decide) ?_
      refine lv_icmp_ge (tgt := 20) hx hb dX7_copies_5 (by decide) (fun c_1 => ?_) (fun c_1 => ?_)
      · have hf := zif_t hf c_1
        exact zM_vret (gs := [(wX7 cI qS aS gS)]) hx hb hr hP hD hS (by rw [← Option.some.inj hf]; exact ⟨rfl, rfl⟩) hlk dX7_copies_20
      · have hf := zif_f hf c_1
        refine lv_aload_n hx hb dX7_copies_8 rfl (lv_at hl 1 rfl) ?_
        refine lv_iload_n hx hb dX7_copies_9 rfl (lv_at hl 2 rfl) ?_
        refine lv_aload_n hx hb dX7_copies_10 rfl (lv_at hl 0 rfl) ?_
        refine lv_iload_n hx hb dX7_copies_11 rfl (lv_at hl 2 rfl) ?_
        obtain ⟨h_2, hf⟩ := zin_ex hf
        refine va_iald hx hb hK hP 4 0 rfl rfl h_2 dX7_copies_12 ?_
        obtain ⟨h_3, hf⟩ := zin_ex hf
        obtain ⟨gS_3, e_3, hf⟩ := zlet_ex hf
        refine z_iast (gs' := [(wX7 cI qS aS gS_3)]) hx hb hK hP hD hS 1 0 rfl rfl h_3 (by rw [e_3]; rfl) dX7_copies_13 (fun H locs hP hD hS => ?_)
        refine lv_iinc (v := (y2 + (1 : Int32))) (lv' := [(2, .int (y2 + (1 : Int32))), (0, .ref (aS 3)), (1, .ref (aS 0))]) hx hb dX7_copies_14 hl (k := 2) rfl rfl (by decide) rfl (fun ls hl => ?_)
        refine lv_goto (tgt := 2) hx hb dX7_copies_17 (by decide) ?_
        exact ih2 (y2 + (1 : Int32)) gS_3 H locs ls hf hP hD hS (lv_sub hl [1, 2, 0] rfl)
  unfold f_X7_copies_3_0 at hf
  obtain ⟨H, hH⟩ : ∃ H, H = s.heap := ⟨_, rfl⟩
  obtain ⟨locs, hlocs⟩ : ∃ locs : List Loc, locs = [] := ⟨_, rfl⟩
  have hS : va_S A s.heap H locs := by rw [hH, hlocs]; exact hS
  rw [← hH] at hP
  refine zheap hH hlocs ?_
  refine lv_iconst (v := (0 : Int32)) hx hb dX7_copies_0 (by decide) ?_
  refine lv_istore_n (lv' := [(2, .int (0 : Int32)), (0, .ref (aS 3)), (1, .ref (aS 0))]) hx hb dX7_copies_1 rfl hl (by decide) rfl (fun ls hl => ?_)
  exact w2 zfuel (0 : Int32) gS H locs ls hf hP hD hS (lv_sub hl [1, 2, 0] rfl)

def f_X7_copies_0_2_2_b   (k2 : Int32 → zG → Option (zG)) (y2 : Int32) (gS : zG) : Option (zG) := (if (59 : Int32) ≤ y2 then (some (gS)) else (zin y2 59 (zin y2 59 (zlet (gup gS 2 y2.toNatClampNeg (gS 0 y2.toNatClampNeg)) (fun gS_3 => (k2 (y2 + (1 : Int32)) gS_3))))))
def f_X7_copies_0_2_2   : Nat → Int32 → zG → Option (zG)
  | 0 => fun _ _ => none
  | n + 1 => f_X7_copies_0_2_2_b   (f_X7_copies_0_2_2   n)
def f_X7_copies_0_2 (gS : zG)  : Option (zG) := (f_X7_copies_0_2_2   zfuel (0 : Int32) gS)
set_option maxHeartbeats 4000000 in
set_option maxRecDepth 100000 in
theorem c_X7_copies_0_2 (l : Launch) (dC : Nat → ClassId) (dI : Nat → Nat → Nat) (cI cC cO : ClassId) (qS : Nat) (aS : Nat → Nat) (gS : zG)  (R : zG) (hf : f_X7_copies_0_2 gS = some R) : cM l (dC, dI) (zT cI cC cO) yX7_copies wsX7_copies rm_X7_copies [.ref (aS 0), .ref (aS 2)] [(wX7 cI qS aS gS)] [(wX7 cI qS aS R)] none 0 0 := by
  refine zM_in (cc := cX7_copies) (maxL := 3) (ret := none) (plainFor_of_name (by decide)) rfl (Nat.le_of_ble_eq_true rfl) ?_
  intro p e s m below meth c hx hb hml hr hlk hown hts hK hN A hA hP hD hS ls hl
  have hl : lv_has ls 3 [(0, .ref (aS 0)), (1, .ref (aS 2))] := hl
  have w2 : ∀ (n2 : Nat) (y2 : Int32) (gS : zG) (H : Heap) (locs : List Loc) (ls : Array Slot), f_X7_copies_0_2_2   n2 y2 gS = some R → va_P (dC, dI) vwCl [(wX7 cI qS aS gS)].flatten H → va_D A [(wX7 cI qS aS gS)].flatten → va_S A s.heap H locs → lv_has ls 3 [(0, .ref (aS 0)), (1, .ref (aS 2)), (2, .int y2)] → W p l e (headSpec wsX7_copies rm_X7_copies).room s m [.ref (aS 0), .ref (aS 2)].toArray below meth c H locs 0 0 (MQ below (zqM (dC, dI) none [(wX7 cI qS aS R)] A) [.ref (aS 0), .ref (aS 2)].toArray s 0 0 A) (F0 m 2 ls []) := by
    intro n2
    induction n2 with
    | zero =>
      intro y2 gS H locs ls hf hP hD hS hl
      have hf : (none : Option (zG)) = some R := hf
      cases hf
    | succ n2 ih2 =>
      intro y2 gS H locs ls hf hP hD hS hl
      have hf : f_X7_copies_0_2_2_b   (f_X7_copies_0_2_2   n2) y2 gS = some R := hf
      unfold f_X7_copies_0_2_2_b at hf
      refine lv_iload_n hx hb dX7_copies_2 rfl (lv_at hl 2 rfl) ?_
      refine lv_bipush (v := (59 : Int32)) hx hb dX7_copies_3 (by decide) ?_
      refine lv_icmp_ge (tgt := 20) hx hb dX7_copies_5 (by decide) (fun c_1 => ?_) (fun c_1 => ?_)
      · have hf := zif_t hf c_1
        exact zM_vret (gs := [(wX7 cI qS aS gS)]) hx hb hr hP hD hS (by rw [← Option.some.inj hf]; exact ⟨rfl, rfl⟩) hlk dX7_copies_20
      · have hf := zif_f hf c_1
        refine lv_aload_n hx hb dX7_copies_8 rfl (lv_at hl 1 rfl) ?_
        refine lv_iload_n hx hb dX7_copies_9 rfl (lv_at hl 2 rfl) ?_
        refine lv_aload_n hx hb dX7_copies_10 rfl (lv_at hl 0 rfl) ?_
        refine lv_iload_n hx hb dX7_copies_11 rfl (lv_at hl 2 rfl) ?_
        obtain ⟨h_2, hf⟩ := zin_ex hf
        refine va_iald hx hb hK hP 1 0 rfl rfl h_2 dX7_copies_12 ?_
        obtain ⟨h_3, hf⟩ := zin_ex hf
        obtain ⟨gS_3, e_3, hf⟩ := zlet_ex hf
        refine z_iast (gs' := [(wX7 cI qS aS gS_3)]) hx hb hK hP hD hS 3 0 rfl rfl h_3 (by rw [e_3]; rfl) dX7_copies_13 (fun H locs hP hD hS => ?_)
        refine lv_iinc (v := (y2 + (1 : Int32))) (lv' := [(2, .int (y2 + (1 : Int32))), (0, .ref (aS 0)), (1, .ref (aS 2))]) hx hb dX7_copies_14 hl (k := 2) rfl rfl (by decide) rfl (fun ls hl => ?_)
        refine lv_goto (tgt := 2) hx hb dX7_copies_17 (by decide) ?_
        exact ih2 (y2 + (1 : Int32)) gS_3 H locs ls hf hP hD hS (lv_sub hl [1, 2, 0] rfl)
  unfold f_X7_copies_0_2 at hf
  obtain ⟨H, hH⟩ : ∃ H, H = s.heap := ⟨_, rfl⟩
  obtain ⟨locs, hlocs⟩ : ∃ locs : List Loc, locs = [] := ⟨_, rfl⟩
  have hS : va_S A s.heap H locs := by rw [hH, hlocs]; exact hS
  rw [← hH] at hP
  refine zheap hH hlocs ?_
  refine lv_iconst (v := (0 : Int32)) hx hb dX7_copies_0 (by decide) ?_
  refine lv_istore_n (lv' := [(2, .int (0 : Int32)), (0, .ref (aS 0)), (1, .ref (aS 2))]) hx hb dX7_copies_1 rfl hl (by decide) rfl (fun ls hl => ?_)
  exact w2 zfuel (0 : Int32) gS H locs ls hf hP hD hS (lv_sub hl [1, 2, 0] rfl)

def f_X7_copies_2_0_2_b   (k2 : Int32 → zG → Option (zG)) (y2 : Int32) (gS : zG) : Option (zG) := (if (59 : Int32) ≤ y2 then (some (gS)) else (zin y2 59 (zin y2 59 (zlet (gup gS 0 y2.toNatClampNeg (gS 2 y2.toNatClampNeg)) (fun gS_3 => (k2 (y2 + (1 : Int32)) gS_3))))))
def f_X7_copies_2_0_2   : Nat → Int32 → zG → Option (zG)
  | 0 => fun _ _ => none
  | n + 1 => f_X7_copies_2_0_2_b   (f_X7_copies_2_0_2   n)
def f_X7_copies_2_0 (gS : zG)  : Option (zG) := (f_X7_copies_2_0_2   zfuel (0 : Int32) gS)
set_option maxHeartbeats 4000000 in
set_option maxRecDepth 100000 in
theorem c_X7_copies_2_0 (l : Launch) (dC : Nat → ClassId) (dI : Nat → Nat → Nat) (cI cC cO : ClassId) (qS : Nat) (aS : Nat → Nat) (gS : zG)  (R : zG) (hf : f_X7_copies_2_0 gS = some R) : cM l (dC, dI) (zT cI cC cO) yX7_copies wsX7_copies rm_X7_copies [.ref (aS 2), .ref (aS 0)] [(wX7 cI qS aS gS)] [(wX7 cI qS aS R)] none 0 0 := by
  refine zM_in (cc := cX7_copies) (maxL := 3) (ret := none) (plainFor_of_name (by decide)) rfl (Nat.le_of_ble_eq_true rfl) ?_
  intro p e s m below meth c hx hb hml hr hlk hown hts hK hN A hA hP hD hS ls hl
  have hl : lv_has ls 3 [(0, .ref (aS 2)), (1, .ref (aS 0))] := hl
  have w2 : ∀ (n2 : Nat) (y2 : Int32) (gS : zG) (H : Heap) (locs : List Loc) (ls : Array Slot), f_X7_copies_2_0_2   n2 y2 gS = some R → va_P (dC, dI) vwCl [(wX7 cI qS aS gS)].flatten H → va_D A [(wX7 cI qS aS gS)].flatten → va_S A s.heap H locs → lv_has ls 3 [(0, .ref (aS 2)), (1, .ref (aS 0)), (2, .int y2)] → W p l e (headSpec wsX7_copies rm_X7_copies).room s m [.ref (aS 2), .ref (aS 0)].toArray below meth c H locs 0 0 (MQ below (zqM (dC, dI) none [(wX7 cI qS aS R)] A) [.ref (aS 2), .ref (aS 0)].toArray s 0 0 A) (F0 m 2 ls []) := by
    intro n2
    induction n2 with
    | zero =>
      intro y2 gS H locs ls hf hP hD hS hl
      have hf : (none : Option (zG)) = some R := hf
      cases hf
    | succ n2 ih2 =>
      intro y2 gS H locs ls hf hP hD hS hl
      have hf : f_X7_copies_2_0_2_b   (f_X7_copies_2_0_2   n2) y2 gS = some R := hf
      unfold f_X7_copies_2_0_2_b at hf
      refine lv_iload_n hx hb dX7_copies_2 rfl (lv_at hl 2 rfl) ?_
      refine lv_bipush (v := (59 : Int32)) hx hb dX7_copies_3 (by decide) ?_
      refine lv_icmp_ge (tgt := 20) hx hb dX7_copies_5 (by decide) (fun c_1 => ?_) (fun c_1 => ?_)
      · have hf := zif_t hf c_1
        exact zM_vret (gs := [(wX7 cI qS aS gS)]) hx hb hr hP hD hS (by rw [← Option.some.inj hf]; exact ⟨rfl, rfl⟩) hlk dX7_copies_20
      · have hf := zif_f hf c_1
        refine lv_aload_n hx hb dX7_copies_8 rfl (lv_at hl 1 rfl) ?_
        refine lv_iload_n hx hb dX7_copies_9 rfl (lv_at hl 2 rfl) ?_
        refine lv_aload_n hx hb dX7_copies_10 rfl (lv_at hl 0 rfl) ?_
        refine lv_iload_n hx hb dX7_copies_11 rfl (lv_at hl 2 rfl) ?_
        obtain ⟨h_2, hf⟩ := zin_ex hf
        refine va_iald hx hb hK hP 3 0 rfl rfl h_2 dX7_copies_12 ?_
        obtain ⟨h_3, hf⟩ := zin_ex hf
        obtain ⟨gS_3, e_3, hf⟩ := zlet_ex hf
        refine z_iast (gs' := [(wX7 cI qS aS gS_3)]) hx hb hK hP hD hS 1 0 rfl rfl h_3 (by rw [e_3]; rfl) dX7_copies_13 (fun H locs hP hD hS => ?_)
        refine lv_iinc (v := (y2 + (1 : Int32))) (lv' := [(2, .int (y2 + (1 : Int32))), (0, .ref (aS 2)), (1, .ref (aS 0))]) hx hb dX7_copies_14 hl (k := 2) rfl rfl (by decide) rfl (fun ls hl => ?_)
        refine lv_goto (tgt := 2) hx hb dX7_copies_17 (by decide) ?_
        exact ih2 (y2 + (1 : Int32)) gS_3 H locs ls hf hP hD hS (lv_sub hl [1, 2, 0] rfl)
  unfold f_X7_copies_2_0 at hf
  obtain ⟨H, hH⟩ : ∃ H, H = s.heap := ⟨_, rfl⟩
  obtain ⟨locs, hlocs⟩ : ∃ locs : List Loc, locs = [] := ⟨_, rfl⟩
  have hS : va_S A s.heap H locs := by rw [hH, hlocs]; exact hS
  rw [← hH] at hP
  refine zheap hH hlocs ?_
  refine lv_iconst (v := (0 : Int32)) hx hb dX7_copies_0 (by decide) ?_
  refine lv_istore_n (lv' := [(2, .int (0 : Int32)), (0, .ref (aS 2)), (1, .ref (aS 0))]) hx hb dX7_copies_1 rfl hl (by decide) rfl (fun ls hl => ?_)
  exact w2 zfuel (0 : Int32) gS H locs ls hf hP hD hS (lv_sub hl [1, 2, 0] rfl)

def f_X7_changes_58_b   (k58 : Int32 → zG → Option (zG)) (y1 : Int32) (gS : zG) : Option (zG) := (if (59 : Int32) ≤ y1 then (zlet (gup gS 4 0 ((gS 4 0) + (1 : Int32))) (fun gS_4 => (some (gS_4)))) else (zin y1 59 (zin (((59 : Int32) * (gS 4 0)) + y1) 236 (zlet (gup gS 1 (((59 : Int32) * (gS 4 0)) + y1).toNatClampNeg (gS 0 y1.toNatClampNeg)) (fun gS_6 => (k58 (y1 + (1 : Int32)) gS_6))))))
def f_X7_changes_58   : Nat → Int32 → zG → Option (zG)
  | 0 => fun _ _ => none
  | n + 1 => f_X7_changes_58_b   (f_X7_changes_58   n)
def f_X7_changes_18_b   (k18 : Int32 → zG → Option (zG)) (y1 : Int32) (gS : zG) : Option (zG) := (if (177 : Int32) ≤ y1 then (zlet (gup gS 4 0 ((gS 4 0) - (1 : Int32))) (fun gS_8 => (f_X7_changes_58   zfuel (0 : Int32) gS_8))) else (zin (y1 + (59 : Int32)) 236 (zin y1 236 (zlet (gup gS 1 y1.toNatClampNeg (gS 1 (y1 + (59 : Int32)).toNatClampNeg)) (fun gS_10 => (k18 (y1 + (1 : Int32)) gS_10))))))
def f_X7_changes_18   : Nat → Int32 → zG → Option (zG)
  | 0 => fun _ _ => none
  | n + 1 => f_X7_changes_18_b   (f_X7_changes_18   n)
def f_X7_changes (gS : zG)  : Option (zG) := (if (gS 5 0) = 0 then (if (gS 4 0) = (4 : Int32) then (f_X7_changes_18   zfuel (0 : Int32) gS) else (f_X7_changes_58   zfuel (0 : Int32) gS)) else (some (gS)))
theorem u_X7_changes_X7 : ∀ w ∈ u_ws RX7 TX7 21, w ∈ wsX7_changes := fun w h => List.mem_cons_of_mem _ (List.mem_append_right _ h)
theorem k_X7_changes_1 : Cond.fieldLink RX7 34 "JoinedLightModel" "runs" "Z" ∈ wsX7_changes := List.mem_of_getElem? (i := 1) rfl
theorem k_X7_changes_2 : Cond.fieldLink RX7 38 "JoinedLightModel" "pasts" "I" ∈ wsX7_changes := List.mem_of_getElem? (i := 2) rfl
theorem k_X7_changes_3 : Cond.fieldLink RX7 13 "JoinedLightModel" "past" "[I" ∈ wsX7_changes := List.mem_of_getElem? (i := 3) rfl
theorem k_X7_changes_4 : Cond.fieldLink RX7 7 "JoinedLightModel" "s" "[I" ∈ wsX7_changes := List.mem_of_getElem? (i := 4) rfl
abbrev rm_X7_changes : Room := { frames := 0, cells := 0, slots := 0, locals := 0 }
set_option maxHeartbeats 4000000 in
set_option maxRecDepth 100000 in
theorem c_X7_changes (l : Launch) (dC : Nat → ClassId) (dI : Nat → Nat → Nat) (cI cC cO : ClassId) (qS : Nat) (aS : Nat → Nat) (gS : zG)  (R : zG) (hf : f_X7_changes gS = some R) : cM l (dC, dI) (zT cI cC cO) yX7_changes wsX7_changes rm_X7_changes [.ref qS] [(wX7 cI qS aS gS)] [(wX7 cI qS aS R)] none 0 0 := by
  refine zM_in (cc := cX7_changes) (maxL := 2) (ret := none) (plainFor_of_name (by decide)) rfl (Nat.le_of_ble_eq_true rfl) ?_
  intro p e s m below meth c hx hb hml hr hlk hown hts hK hN A hA hP hD hS ls hl
  have hl : lv_has ls 2 [(0, .ref qS)] := hl
  have w58 : ∀ (n58 : Nat) (y1 : Int32) (gS : zG) (H : Heap) (locs : List Loc) (ls : Array Slot), f_X7_changes_58   n58 y1 gS = some R → va_P (dC, dI) vwCl [(wX7 cI qS aS gS)].flatten H → va_D A [(wX7 cI qS aS gS)].flatten → va_S A s.heap H locs → lv_has ls 2 [(0, .ref qS), (1, .int y1)] → W p l e (headSpec wsX7_changes rm_X7_changes).room s m [.ref qS].toArray below meth c H locs 0 0 (MQ below (zqM (dC, dI) none [(wX7 cI qS aS R)] A) [.ref qS].toArray s 0 0 A) (F0 m 58 ls []) := by
    intro n58
    induction n58 with
    | zero =>
      intro y1 gS H locs ls hf hP hD hS hl
      have hf : (none : Option (zG)) = some R := hf
      cases hf
    | succ n58 ih58 =>
      intro y1 gS H locs ls hf hP hD hS hl
      have hf : f_X7_changes_58_b   (f_X7_changes_58   n58) y1 gS = some R := hf
      unfold f_X7_changes_58_b at hf
      refine lv_iload_n hx hb dX7_changes_58 rfl (lv_at hl 1 rfl) ?_
      refine lv_bipush (v := (59 : Int32)) hx hb dX7_changes_59 (by decide) ?_
      refine lv_icmp_ge (tgt := 90) hx hb dX7_changes_61 (by decide) (fun c_3 => ?_) (fun c_3 => ?_)
      · have hf := zif_t hf c_3
        refine lv_aload_n hx hb dX7_changes_90 rfl (lv_at hl 0 rfl) ?_
        refine lv_dup hx hb dX7_changes_91 rfl ?_
        refine va_get (D := (dC, dI)) (ci := 7) (v := .int (gS 4 0)) (C := RX7) (T := TX7) (N := 21) hx hb hts u_X7_changes_X7 hown hK hP 0 rfl rfl 4 (by decide) (hts _ k_X7_changes_2) (fun _ h9 => h9) rfl dX7_changes_92 ?_
        refine lv_iconst (v := (1 : Int32)) hx hb dX7_changes_95 (by decide) ?_
        refine lv_iadd hx hb dX7_changes_96 ?_
        obtain ⟨gS_4, e_4, hf⟩ := zlet_ex hf
        refine z_put (gs' := [(wX7 cI qS aS gS_4)]) (D := (dC, dI)) (ci := 7) (ty := .int) (C := RX7) (T := TX7) (N := 21) hx hb hts u_X7_changes_X7 tyX7 tyX7_ok nmX7 hown hK hP hD hS 0 rfl rfl 4 (by decide) (hts _ k_X7_changes_2) (fun _ h9 => h9) rfl (by decide +kernel) rfl rfl (Nat.le_of_ble_eq_true rfl) (by rw [e_4]; rfl) dX7_changes_97 (fun H locs hP hD hS => ?_)
        exact zM_vret (gs := [(wX7 cI qS aS gS_4)]) hx hb hr hP hD hS (by rw [← Option.some.inj hf]; exact ⟨rfl, rfl⟩) hlk dX7_changes_100
      · have hf := zif_f hf c_3
        refine lv_aload_n hx hb dX7_changes_64 rfl (lv_at hl 0 rfl) ?_
        refine va_get (D := (dC, dI)) (ci := 7) (v := .ref (aS 1)) (C := RX7) (T := TX7) (N := 21) hx hb hts u_X7_changes_X7 hown hK hP 0 rfl rfl 1 (by decide) (hts _ k_X7_changes_3) (fun _ h9 => h9) rfl dX7_changes_65 ?_
        refine lv_bipush (v := (59 : Int32)) hx hb dX7_changes_68 (by decide) ?_
        refine lv_aload_n hx hb dX7_changes_70 rfl (lv_at hl 0 rfl) ?_
        refine va_get (D := (dC, dI)) (ci := 7) (v := .int (gS 4 0)) (C := RX7) (T := TX7) (N := 21) hx hb hts u_X7_changes_X7 hown hK hP 0 rfl rfl 4 (by decide) (hts _ k_X7_changes_2) (fun _ h9 => h9) rfl dX7_changes_71 ?_
        refine lv_imul hx hb dX7_changes_74 ?_
        refine lv_iload_n hx hb dX7_changes_75 rfl (lv_at hl 1 rfl) ?_
        refine lv_iadd hx hb dX7_changes_76 ?_
        refine lv_aload_n hx hb dX7_changes_77 rfl (lv_at hl 0 rfl) ?_
        refine va_get (D := (dC, dI)) (ci := 7) (v := .ref (aS 0)) (C := RX7) (T := TX7) (N := 21) hx hb hts u_X7_changes_X7 hown hK hP 0 rfl rfl 0 (by decide) (hts _ k_X7_changes_4) (fun _ h9 => h9) rfl dX7_changes_78 ?_
        refine lv_iload_n hx hb dX7_changes_81 rfl (lv_at hl 1 rfl) ?_
        obtain ⟨h_5, hf⟩ := zin_ex hf
        refine va_iald hx hb hK hP 1 0 rfl rfl h_5 dX7_changes_82 ?_
        obtain ⟨h_6, hf⟩ := zin_ex hf
        obtain ⟨gS_6, e_6, hf⟩ := zlet_ex hf
        refine z_iast (gs' := [(wX7 cI qS aS gS_6)]) hx hb hK hP hD hS 2 0 rfl rfl h_6 (by rw [e_6]; rfl) dX7_changes_83 (fun H locs hP hD hS => ?_)
        refine lv_iinc (v := (y1 + (1 : Int32))) (lv' := [(1, .int (y1 + (1 : Int32))), (0, .ref qS)]) hx hb dX7_changes_84 hl (k := 1) rfl rfl (by decide) rfl (fun ls hl => ?_)
        refine lv_goto (tgt := 58) hx hb dX7_changes_87 (by decide) ?_
        exact ih58 (y1 + (1 : Int32)) gS_6 H locs ls hf hP hD hS (lv_sub hl [1, 0] rfl)
  have w18 : ∀ (n18 : Nat) (y1 : Int32) (gS : zG) (H : Heap) (locs : List Loc) (ls : Array Slot), f_X7_changes_18   n18 y1 gS = some R → va_P (dC, dI) vwCl [(wX7 cI qS aS gS)].flatten H → va_D A [(wX7 cI qS aS gS)].flatten → va_S A s.heap H locs → lv_has ls 2 [(0, .ref qS), (1, .int y1)] → W p l e (headSpec wsX7_changes rm_X7_changes).room s m [.ref qS].toArray below meth c H locs 0 0 (MQ below (zqM (dC, dI) none [(wX7 cI qS aS R)] A) [.ref qS].toArray s 0 0 A) (F0 m 18 ls []) := by
    intro n18
    induction n18 with
    | zero =>
      intro y1 gS H locs ls hf hP hD hS hl
      have hf : (none : Option (zG)) = some R := hf
      cases hf
    | succ n18 ih18 =>
      intro y1 gS H locs ls hf hP hD hS hl
      have hf : f_X7_changes_18_b   (f_X7_changes_18   n18) y1 gS = some R := hf
      unfold f_X7_changes_18_b at hf
      refine lv_iload_n hx hb dX7_changes_18 rfl (lv_at hl 1 rfl) ?_
      refine lv_sipush (v := (177 : Int32)) hx hb dX7_changes_19 (by decide) ?_
      refine lv_icmp_ge (tgt := 46) hx hb dX7_changes_22 (by decide) (fun c_7 => ?_) (fun c_7 => ?_)
      · have hf := zif_t hf c_7
        refine lv_aload_n hx hb dX7_changes_46 rfl (lv_at hl 0 rfl) ?_
        refine lv_dup hx hb dX7_changes_47 rfl ?_
        refine va_get (D := (dC, dI)) (ci := 7) (v := .int (gS 4 0)) (C := RX7) (T := TX7) (N := 21) hx hb hts u_X7_changes_X7 hown hK hP 0 rfl rfl 4 (by decide) (hts _ k_X7_changes_2) (fun _ h9 => h9) rfl dX7_changes_48 ?_
        refine lv_iconst (v := (1 : Int32)) hx hb dX7_changes_51 (by decide) ?_
        refine lv_isub hx hb dX7_changes_52 ?_
        obtain ⟨gS_8, e_8, hf⟩ := zlet_ex hf
        refine z_put (gs' := [(wX7 cI qS aS gS_8)]) (D := (dC, dI)) (ci := 7) (ty := .int) (C := RX7) (T := TX7) (N := 21) hx hb hts u_X7_changes_X7 tyX7 tyX7_ok nmX7 hown hK hP hD hS 0 rfl rfl 4 (by decide) (hts _ k_X7_changes_2) (fun _ h9 => h9) rfl (by decide +kernel) rfl rfl (Nat.le_of_ble_eq_true rfl) (by rw [e_8]; rfl) dX7_changes_53 (fun H locs hP hD hS => ?_)
        refine lv_iconst (v := (0 : Int32)) hx hb dX7_changes_56 (by decide) ?_
        refine lv_istore_n (lv' := [(1, .int (0 : Int32)), (0, .ref qS)]) hx hb dX7_changes_57 rfl hl (by decide) rfl (fun ls hl => ?_)
        exact w58 zfuel (0 : Int32) gS_8 H locs ls hf hP hD hS (lv_sub hl [1, 0] rfl)
      · have hf := zif_f hf c_7
        refine lv_aload_n hx hb dX7_changes_25 rfl (lv_at hl 0 rfl) ?_
        refine va_get (D := (dC, dI)) (ci := 7) (v := .ref (aS 1)) (C := RX7) (T := TX7) (N := 21) hx hb hts u_X7_changes_X7 hown hK hP 0 rfl rfl 1 (by decide) (hts _ k_X7_changes_3) (fun _ h9 => h9) rfl dX7_changes_26 ?_
        refine lv_iload_n hx hb dX7_changes_29 rfl (lv_at hl 1 rfl) ?_
        refine lv_aload_n hx hb dX7_changes_30 rfl (lv_at hl 0 rfl) ?_
        refine va_get (D := (dC, dI)) (ci := 7) (v := .ref (aS 1)) (C := RX7) (T := TX7) (N := 21) hx hb hts u_X7_changes_X7 hown hK hP 0 rfl rfl 1 (by decide) (hts _ k_X7_changes_3) (fun _ h9 => h9) rfl dX7_changes_31 ?_
        refine lv_iload_n hx hb dX7_changes_34 rfl (lv_at hl 1 rfl) ?_
        refine lv_bipush (v := (59 : Int32)) hx hb dX7_changes_35 (by decide) ?_
        refine lv_iadd hx hb dX7_changes_37 ?_
        obtain ⟨h_9, hf⟩ := zin_ex hf
        refine va_iald hx hb hK hP 2 0 rfl rfl h_9 dX7_changes_38 ?_
        obtain ⟨h_10, hf⟩ := zin_ex hf
        obtain ⟨gS_10, e_10, hf⟩ := zlet_ex hf
        refine z_iast (gs' := [(wX7 cI qS aS gS_10)]) hx hb hK hP hD hS 2 0 rfl rfl h_10 (by rw [e_10]; rfl) dX7_changes_39 (fun H locs hP hD hS => ?_)
        refine lv_iinc (v := (y1 + (1 : Int32))) (lv' := [(1, .int (y1 + (1 : Int32))), (0, .ref qS)]) hx hb dX7_changes_40 hl (k := 1) rfl rfl (by decide) rfl (fun ls hl => ?_)
        refine lv_goto (tgt := 18) hx hb dX7_changes_43 (by decide) ?_
        exact ih18 (y1 + (1 : Int32)) gS_10 H locs ls hf hP hD hS (lv_sub hl [1, 0] rfl)
  unfold f_X7_changes at hf
  obtain ⟨H, hH⟩ : ∃ H, H = s.heap := ⟨_, rfl⟩
  obtain ⟨locs, hlocs⟩ : ∃ locs : List Loc, locs = [] := ⟨_, rfl⟩
  have hS : va_S A s.heap H locs := by rw [hH, hlocs]; exact hS
  rw [← hH] at hP
  refine zheap hH hlocs ?_
  refine lv_aload_n hx hb dX7_changes_0 rfl (lv_at hl 0 rfl) ?_
  refine va_get (D := (dC, dI)) (ci := 7) (v := .int (gS 5 0)) (C := RX7) (T := TX7) (N := 21) hx hb hts u_X7_changes_X7 hown hK hP 0 rfl rfl 5 (by decide) (hts _ k_X7_changes_1) (fun _ h9 => h9) rfl dX7_changes_1 ?_
  refine lv_if_eq (tgt := 8) hx hb dX7_changes_4 (by decide) (fun c_1 => ?_) (fun c_1 => ?_)
  · have hf := zif_t hf c_1
    refine lv_aload_n hx hb dX7_changes_8 rfl (lv_at hl 0 rfl) ?_
    refine va_get (D := (dC, dI)) (ci := 7) (v := .int (gS 4 0)) (C := RX7) (T := TX7) (N := 21) hx hb hts u_X7_changes_X7 hown hK hP 0 rfl rfl 4 (by decide) (hts _ k_X7_changes_2) (fun _ h9 => h9) rfl dX7_changes_9 ?_
    refine lv_iconst (v := (4 : Int32)) hx hb dX7_changes_12 (by decide) ?_
    refine lv_icmp_ne (tgt := 56) hx hb dX7_changes_13 (by decide) (fun c_2 => ?_) (fun c_2 => ?_)
    · have hf := zif_f hf c_2
      refine lv_iconst (v := (0 : Int32)) hx hb dX7_changes_56 (by decide) ?_
      refine lv_istore_n (lv' := [(1, .int (0 : Int32)), (0, .ref qS)]) hx hb dX7_changes_57 rfl hl (by decide) rfl (fun ls hl => ?_)
      exact w58 zfuel (0 : Int32) gS H locs ls hf hP hD hS (lv_sub hl [1, 0] rfl)
    · have hf := zif_t hf c_2
      refine lv_iconst (v := (0 : Int32)) hx hb dX7_changes_16 (by decide) ?_
      refine lv_istore_n (lv' := [(1, .int (0 : Int32)), (0, .ref qS)]) hx hb dX7_changes_17 rfl hl (by decide) rfl (fun ls hl => ?_)
      exact w18 zfuel (0 : Int32) gS H locs ls hf hP hD hS (lv_sub hl [1, 0] rfl)
  · have hf := zif_f hf c_1
    exact zM_vret (gs := [(wX7 cI qS aS gS)]) hx hb hr hP hD hS (by rw [← Option.some.inj hf]; exact ⟨rfl, rfl⟩) hlk dX7_changes_7

def f_X7_ones_4_b   (k4 : Int32 → Int32 → Option (Int32)) (y1 : Int32) (y2 : Int32) : Option (Int32) := (if y2 = 0 then (some (y1)) else (k4 (y1 + (1 : Int32)) (y2 &&& (y2 - (1 : Int32)))))
def f_X7_ones_4   : Nat → Int32 → Int32 → Option (Int32)
  | 0 => fun _ _ => none
  | n + 1 => f_X7_ones_4_b   (f_X7_ones_4   n)
def f_X7_ones  (x0 : Int32) : Option (Int32) := (f_X7_ones_4   zfuel (0 : Int32) x0)
abbrev rm_X7_ones : Room := { frames := 0, cells := 0, slots := 0, locals := 0 }
set_option maxHeartbeats 4000000 in
set_option maxRecDepth 100000 in
theorem c_X7_ones (l : Launch) (dC : Nat → ClassId) (dI : Nat → Nat → Nat) (cI cC cO : ClassId)  (x0 : Int32) (R : Int32) (hf : f_X7_ones x0 = some R) : cR l (dC, dI) (zT cI cC cO) yX7_ones wsX7_ones rm_X7_ones [.int x0] [] (some (.int R)) := by
  refine zR_in (cc := cX7_ones) (maxL := 3) (ret := (some .int)) (plainFor_of_name (by decide)) rfl (Nat.le_of_ble_eq_true rfl) ?_
  intro p e s m below meth c hx hb hml hr hlk hown hts hK hN hP ls hl
  have hl : lv_has ls 3 [(0, .int x0)] := hl
  have w4 : ∀ (n4 : Nat) (y1 : Int32) (y2 : Int32) (ls : Array Slot), f_X7_ones_4   n4 y1 y2 = some R → lv_has ls 3 [(1, .int y1), (2, .int y2)] → W p l e (headSpec wsX7_ones rm_X7_ones).room s m [.int x0].toArray below meth c s.heap [] 0 0 (MQ below (zqR (some (.int R))) [.int x0].toArray s 0 0 (fun _ => False)) (F0 m 4 ls []) := by
    intro n4
    induction n4 with
    | zero =>
      intro y1 y2 ls hf hl
      have hf : (none : Option (Int32)) = some R := hf
      cases hf
    | succ n4 ih4 =>
      intro y1 y2 ls hf hl
      have hf : f_X7_ones_4_b   (f_X7_ones_4   n4) y1 y2 = some R := hf
      unfold f_X7_ones_4_b at hf
      refine lv_iload_n hx hb dX7_ones_4 rfl (lv_at hl 1 rfl) ?_
      refine lv_if_eq (tgt := 20) hx hb dX7_ones_5 (by decide) (fun c_1 => ?_) (fun c_1 => ?_)
      · have hf := zif_t hf c_1
        refine lv_iload_n hx hb dX7_ones_20 rfl (lv_at hl 0 rfl) ?_
        exact zR_ret hx hb hr rfl hf hlk dX7_ones_21
      · have hf := zif_f hf c_1
        refine lv_iinc (v := (y1 + (1 : Int32))) (lv' := [(1, .int (y1 + (1 : Int32))), (2, .int y2)]) hx hb dX7_ones_8 hl (k := 0) rfl rfl (by decide) rfl (fun ls hl => ?_)
        refine lv_iload_n hx hb dX7_ones_11 rfl (lv_at hl 1 rfl) ?_
        refine lv_iload_n hx hb dX7_ones_12 rfl (lv_at hl 1 rfl) ?_
        refine lv_iconst (v := (1 : Int32)) hx hb dX7_ones_13 (by decide) ?_
        refine lv_isub hx hb dX7_ones_14 ?_
        refine lv_iand hx hb dX7_ones_15 ?_
        refine lv_istore_n (lv' := [(2, .int (y2 &&& (y2 - (1 : Int32)))), (1, .int (y1 + (1 : Int32)))]) hx hb dX7_ones_16 rfl hl (by decide) rfl (fun ls hl => ?_)
        refine lv_goto (tgt := 4) hx hb dX7_ones_17 (by decide) ?_
        exact ih4 (y1 + (1 : Int32)) (y2 &&& (y2 - (1 : Int32))) ls hf (lv_sub hl [1, 0] rfl)
  unfold f_X7_ones at hf
  refine lv_iconst (v := (0 : Int32)) hx hb dX7_ones_0 (by decide) ?_
  refine lv_istore_n (lv' := [(1, .int (0 : Int32)), (0, .int x0)]) hx hb dX7_ones_1 rfl hl (by decide) rfl (fun ls hl => ?_)
  refine lv_iload_n hx hb dX7_ones_2 rfl (lv_at hl 1 rfl) ?_
  refine lv_istore_n (lv' := [(2, .int x0), (1, .int (0 : Int32)), (0, .int x0)]) hx hb dX7_ones_3 rfl hl (by decide) rfl (fun ls hl => ?_)
  exact w4 zfuel (0 : Int32) x0 ls hf (lv_sub hl [1, 0] rfl)

def f_X7_isLine (gS : zG) (x1 : Int32) : Option (Int32) := (if x1 < 0 then (some ((0 : Int32))) else (zin (0 : Int32) 59 (if (gS 0 (0 : Int32).toNatClampNeg) ≤ x1 then (some ((0 : Int32))) else (some ((1 : Int32))))))
theorem u_X7_isLine_X7 : ∀ w ∈ u_ws RX7 TX7 21, w ∈ wsX7_isLine := fun w h => List.mem_cons_of_mem _ (List.mem_append_right _ h)
theorem k_X7_isLine_1 : Cond.fieldLink RX7 7 "JoinedLightModel" "s" "[I" ∈ wsX7_isLine := List.mem_of_getElem? (i := 1) rfl
abbrev rm_X7_isLine : Room := { frames := 0, cells := 0, slots := 0, locals := 0 }
set_option maxHeartbeats 4000000 in
set_option maxRecDepth 100000 in
theorem c_X7_isLine (l : Launch) (dC : Nat → ClassId) (dI : Nat → Nat → Nat) (cI cC cO : ClassId) (qS : Nat) (aS : Nat → Nat) (gS : zG) (x1 : Int32) (R : Int32) (hf : f_X7_isLine gS x1 = some R) : cR l (dC, dI) (zT cI cC cO) yX7_isLine wsX7_isLine rm_X7_isLine [.ref qS, .int x1] [(wX7 cI qS aS gS)] (some (.int R)) := by
  refine zR_in (cc := cX7_isLine) (maxL := 2) (ret := (some .boolean)) (plainFor_of_name (by decide)) rfl (Nat.le_of_ble_eq_true rfl) ?_
  intro p e s m below meth c hx hb hml hr hlk hown hts hK hN hP ls hl
  have hl : lv_has ls 2 [(0, .ref qS), (1, .int x1)] := hl
  unfold f_X7_isLine at hf
  refine lv_iload_n hx hb dX7_isLine_0 rfl (lv_at hl 1 rfl) ?_
  refine lv_if_lt (tgt := 18) hx hb dX7_isLine_1 (by decide) (fun c_1 => ?_) (fun c_1 => ?_)
  · have hf := zif_t hf c_1
    refine lv_iconst (v := (0 : Int32)) hx hb dX7_isLine_18 (by decide) ?_
    exact zR_ret hx hb hr rfl hf hlk dX7_isLine_19
  · have hf := zif_f hf c_1
    refine lv_iload_n hx hb dX7_isLine_4 rfl (lv_at hl 1 rfl) ?_
    refine lv_aload_n hx hb dX7_isLine_5 rfl (lv_at hl 0 rfl) ?_
    refine va_get (D := (dC, dI)) (ci := 7) (v := .ref (aS 0)) (C := RX7) (T := TX7) (N := 21) hx hb hts u_X7_isLine_X7 hown hK hP 0 rfl rfl 0 (by decide) (hts _ k_X7_isLine_1) (fun _ h9 => h9) rfl dX7_isLine_6 ?_
    refine lv_iconst (v := (0 : Int32)) hx hb dX7_isLine_9 (by decide) ?_
    obtain ⟨h_2, hf⟩ := zin_ex hf
    refine va_iald hx hb hK hP 1 0 rfl rfl h_2 dX7_isLine_10 ?_
    refine lv_icmp_ge (tgt := 18) hx hb dX7_isLine_11 (by decide) (fun c_3 => ?_) (fun c_3 => ?_)
    · have hf := zif_t hf c_3
      refine lv_iconst (v := (0 : Int32)) hx hb dX7_isLine_18 (by decide) ?_
      exact zR_ret hx hb hr rfl hf hlk dX7_isLine_19
    · have hf := zif_f hf c_3
      refine lv_iconst (v := (1 : Int32)) hx hb dX7_isLine_14 (by decide) ?_
      refine lv_goto (tgt := 19) hx hb dX7_isLine_15 (by decide) ?_
      exact zR_ret hx hb hr rfl hf hlk dX7_isLine_19

def f_X7_colour (gS : zG) (x1 : Int32) : Option (Int32) := (zin ((3 : Int32) + ((2 : Int32) * x1)) 59 (some ((gS 0 ((3 : Int32) + ((2 : Int32) * x1)).toNatClampNeg))))
theorem u_X7_colour_X7 : ∀ w ∈ u_ws RX7 TX7 21, w ∈ wsX7_colour := fun w h => List.mem_cons_of_mem _ (List.mem_append_right _ h)
theorem k_X7_colour_1 : Cond.fieldLink RX7 7 "JoinedLightModel" "s" "[I" ∈ wsX7_colour := List.mem_of_getElem? (i := 1) rfl
abbrev rm_X7_colour : Room := { frames := 0, cells := 0, slots := 0, locals := 0 }
set_option maxHeartbeats 4000000 in
set_option maxRecDepth 100000 in
theorem c_X7_colour (l : Launch) (dC : Nat → ClassId) (dI : Nat → Nat → Nat) (cI cC cO : ClassId) (qS : Nat) (aS : Nat → Nat) (gS : zG) (x1 : Int32) (R : Int32) (hf : f_X7_colour gS x1 = some R) : cR l (dC, dI) (zT cI cC cO) yX7_colour wsX7_colour rm_X7_colour [.ref qS, .int x1] [(wX7 cI qS aS gS)] (some (.int R)) := by
  refine zR_in (cc := cX7_colour) (maxL := 2) (ret := (some .int)) (plainFor_of_name (by decide)) rfl (Nat.le_of_ble_eq_true rfl) ?_
  intro p e s m below meth c hx hb hml hr hlk hown hts hK hN hP ls hl
  have hl : lv_has ls 2 [(0, .ref qS), (1, .int x1)] := hl
  unfold f_X7_colour at hf
  refine lv_aload_n hx hb dX7_colour_0 rfl (lv_at hl 0 rfl) ?_
  refine va_get (D := (dC, dI)) (ci := 7) (v := .ref (aS 0)) (C := RX7) (T := TX7) (N := 21) hx hb hts u_X7_colour_X7 hown hK hP 0 rfl rfl 0 (by decide) (hts _ k_X7_colour_1) (fun _ h9 => h9) rfl dX7_colour_1 ?_
  refine lv_iconst (v := (3 : Int32)) hx hb dX7_colour_4 (by decide) ?_
  refine lv_iconst (v := (2 : Int32)) hx hb dX7_colour_5 (by decide) ?_
  refine lv_iload_n hx hb dX7_colour_6 rfl (lv_at hl 1 rfl) ?_
  refine lv_imul hx hb dX7_colour_7 ?_
  refine lv_iadd hx hb dX7_colour_8 ?_
  obtain ⟨h_1, hf⟩ := zin_ex hf
  refine va_iald hx hb hK hP 1 0 rfl rfl h_1 dX7_colour_9 ?_
  exact zR_ret hx hb hr rfl hf hlk dX7_colour_10

def f_X7_lightOf (gS : zG) (x1 : Int32) : Option (Int32) := (zin (((3 : Int32) + ((2 : Int32) * x1)) + (1 : Int32)) 59 (some ((gS 0 (((3 : Int32) + ((2 : Int32) * x1)) + (1 : Int32)).toNatClampNeg))))
theorem u_X7_lightOf_X7 : ∀ w ∈ u_ws RX7 TX7 21, w ∈ wsX7_lightOf := fun w h => List.mem_cons_of_mem _ (List.mem_append_right _ h)
theorem k_X7_lightOf_1 : Cond.fieldLink RX7 7 "JoinedLightModel" "s" "[I" ∈ wsX7_lightOf := List.mem_of_getElem? (i := 1) rfl
abbrev rm_X7_lightOf : Room := { frames := 0, cells := 0, slots := 0, locals := 0 }
set_option maxHeartbeats 4000000 in
set_option maxRecDepth 100000 in
theorem c_X7_lightOf (l : Launch) (dC : Nat → ClassId) (dI : Nat → Nat → Nat) (cI cC cO : ClassId) (qS : Nat) (aS : Nat → Nat) (gS : zG) (x1 : Int32) (R : Int32) (hf : f_X7_lightOf gS x1 = some R) : cR l (dC, dI) (zT cI cC cO) yX7_lightOf wsX7_lightOf rm_X7_lightOf [.ref qS, .int x1] [(wX7 cI qS aS gS)] (some (.int R)) := by
  refine zR_in (cc := cX7_lightOf) (maxL := 2) (ret := (some .int)) (plainFor_of_name (by decide)) rfl (Nat.le_of_ble_eq_true rfl) ?_
  intro p e s m below meth c hx hb hml hr hlk hown hts hK hN hP ls hl
  have hl : lv_has ls 2 [(0, .ref qS), (1, .int x1)] := hl
  unfold f_X7_lightOf at hf
  refine lv_aload_n hx hb dX7_lightOf_0 rfl (lv_at hl 0 rfl) ?_
  refine va_get (D := (dC, dI)) (ci := 7) (v := .ref (aS 0)) (C := RX7) (T := TX7) (N := 21) hx hb hts u_X7_lightOf_X7 hown hK hP 0 rfl rfl 0 (by decide) (hts _ k_X7_lightOf_1) (fun _ h9 => h9) rfl dX7_lightOf_1 ?_
  refine lv_iconst (v := (3 : Int32)) hx hb dX7_lightOf_4 (by decide) ?_
  refine lv_iconst (v := (2 : Int32)) hx hb dX7_lightOf_5 (by decide) ?_
  refine lv_iload_n hx hb dX7_lightOf_6 rfl (lv_at hl 1 rfl) ?_
  refine lv_imul hx hb dX7_lightOf_7 ?_
  refine lv_iadd hx hb dX7_lightOf_8 ?_
  refine lv_iconst (v := (1 : Int32)) hx hb dX7_lightOf_9 (by decide) ?_
  refine lv_iadd hx hb dX7_lightOf_10 ?_
  obtain ⟨h_1, hf⟩ := zin_ex hf
  refine va_iald hx hb hK hP 1 0 rfl rfl h_1 dX7_lightOf_11 ?_
  exact zR_ret hx hb hr rfl hf hlk dX7_lightOf_12

def f_X7_of (gS : zG) (x1 : Int32) (x2 : Int32) : Option (Int32) := (zin (((19 : Int32) + ((5 : Int32) * x1)) + x2) 59 (some ((gS 0 (((19 : Int32) + ((5 : Int32) * x1)) + x2).toNatClampNeg))))
theorem u_X7_of_X7 : ∀ w ∈ u_ws RX7 TX7 21, w ∈ wsX7_of := fun w h => List.mem_cons_of_mem _ (List.mem_append_right _ h)
theorem k_X7_of_1 : Cond.fieldLink RX7 7 "JoinedLightModel" "s" "[I" ∈ wsX7_of := List.mem_of_getElem? (i := 1) rfl
abbrev rm_X7_of : Room := { frames := 0, cells := 0, slots := 0, locals := 0 }
set_option maxHeartbeats 4000000 in
set_option maxRecDepth 100000 in
theorem c_X7_of (l : Launch) (dC : Nat → ClassId) (dI : Nat → Nat → Nat) (cI cC cO : ClassId) (qS : Nat) (aS : Nat → Nat) (gS : zG) (x1 : Int32) (x2 : Int32) (R : Int32) (hf : f_X7_of gS x1 x2 = some R) : cR l (dC, dI) (zT cI cC cO) yX7_of wsX7_of rm_X7_of [.ref qS, .int x1, .int x2] [(wX7 cI qS aS gS)] (some (.int R)) := by
  refine zR_in (cc := cX7_of) (maxL := 3) (ret := (some .int)) (plainFor_of_name (by decide)) rfl (Nat.le_of_ble_eq_true rfl) ?_
  intro p e s m below meth c hx hb hml hr hlk hown hts hK hN hP ls hl
  have hl : lv_has ls 3 [(0, .ref qS), (1, .int x1), (2, .int x2)] := hl
  unfold f_X7_of at hf
  refine lv_aload_n hx hb dX7_of_0 rfl (lv_at hl 0 rfl) ?_
  refine va_get (D := (dC, dI)) (ci := 7) (v := .ref (aS 0)) (C := RX7) (T := TX7) (N := 21) hx hb hts u_X7_of_X7 hown hK hP 0 rfl rfl 0 (by decide) (hts _ k_X7_of_1) (fun _ h9 => h9) rfl dX7_of_1 ?_
  refine lv_bipush (v := (19 : Int32)) hx hb dX7_of_4 (by decide) ?_
  refine lv_iconst (v := (5 : Int32)) hx hb dX7_of_6 (by decide) ?_
  refine lv_iload_n hx hb dX7_of_7 rfl (lv_at hl 1 rfl) ?_
  refine lv_imul hx hb dX7_of_8 ?_
  refine lv_iadd hx hb dX7_of_9 ?_
  refine lv_iload_n hx hb dX7_of_10 rfl (lv_at hl 2 rfl) ?_
  refine lv_iadd hx hb dX7_of_11 ?_
  obtain ⟨h_1, hf⟩ := zin_ex hf
  refine va_iald hx hb hK hP 1 0 rfl rfl h_1 dX7_of_12 ?_
  exact zR_ret hx hb hr rfl hf hlk dX7_of_13

def f_X7_at_2_b (gS : zG)  (k2 : Int32 → Int32 → Option (Int32)) (y1 : Int32) (y2 : Int32) : Option (Int32) := (zin (1 : Int32) 59 (if (gS 0 (1 : Int32).toNatClampNeg) ≤ y2 then (some ((-1000000004 : Int32))) else (zbind (f_X7_of gS y2 (0 : Int32)) (fun R3 => (if R3 = y1 then (some (y2)) else (k2 y1 (y2 + (1 : Int32))))))))
def f_X7_at_2 (gS : zG)  : Nat → Int32 → Int32 → Option (Int32)
  | 0 => fun _ _ => none
  | n + 1 => f_X7_at_2_b gS  (f_X7_at_2 gS  n)
def f_X7_at (gS : zG) (x1 : Int32) : Option (Int32) := (f_X7_at_2 gS  zfuel x1 (0 : Int32))
theorem u_X7_at_X7 : ∀ w ∈ u_ws RX7 TX7 21, w ∈ wsX7_at := fun w h => List.mem_cons_of_mem _ (List.mem_append_right _ h)
theorem k_X7_at_1 : Cond.fieldLink RX7 7 "JoinedLightModel" "s" "[I" ∈ wsX7_at := List.mem_of_getElem? (i := 1) rfl
theorem k_X7_at_2 : Cond.constant RX7 46 (-1000000004) ∈ wsX7_at := List.mem_of_getElem? (i := 2) rfl
abbrev rm_X7_at : Room := { frames := 1, cells := 0, slots := 0, locals := 22 }
set_option maxHeartbeats 4000000 in
set_option maxRecDepth 100000 in
theorem c_X7_at (l : Launch) (dC : Nat → ClassId) (dI : Nat → Nat → Nat) (cI cC cO : ClassId) (qS : Nat) (aS : Nat → Nat) (gS : zG) (x1 : Int32) (R : Int32) (hf : f_X7_at gS x1 = some R) : cR l (dC, dI) (zT cI cC cO) yX7_at wsX7_at rm_X7_at [.ref qS, .int x1] [(wX7 cI qS aS gS)] (some (.int R)) := by
  refine zR_in (cc := cX7_at) (maxL := 3) (ret := (some .int)) (plainFor_of_name (by decide)) rfl (Nat.le_of_ble_eq_true rfl) ?_
  intro p e s m below meth c hx hb hml hr hlk hown hts hK hN hP ls hl
  have hl : lv_has ls 3 [(0, .ref qS), (1, .int x1)] := hl
  have w2 : ∀ (n2 : Nat) (y1 : Int32) (y2 : Int32) (ls : Array Slot), f_X7_at_2 gS  n2 y1 y2 = some R → lv_has ls 3 [(0, .ref qS), (1, .int y1), (2, .int y2)] → W p l e (headSpec wsX7_at rm_X7_at).room s m [.ref qS, .int x1].toArray below meth c s.heap [] 0 0 (MQ below (zqR (some (.int R))) [.ref qS, .int x1].toArray s 0 0 (fun _ => False)) (F0 m 2 ls []) := by
    intro n2
    induction n2 with
    | zero =>
      intro y1 y2 ls hf hl
      have hf : (none : Option (Int32)) = some R := hf
      cases hf
    | succ n2 ih2 =>
      intro y1 y2 ls hf hl
      have hf : f_X7_at_2_b gS  (f_X7_at_2 gS  n2) y1 y2 = some R := hf
      unfold f_X7_at_2_b at hf
      refine lv_iload_n hx hb dX7_at_2 rfl (lv_at hl 2 rfl) ?_
      refine lv_aload_n hx hb dX7_at_3 rfl (lv_at hl 0 rfl) ?_
      refine va_get (D := (dC, dI)) (ci := 7) (v := .ref (aS 0)) (C := RX7) (T := TX7) (N := 21) hx hb hts u_X7_at_X7 hown hK hP 0 rfl rfl 0 (by decide) (hts _ k_X7_at_1) (fun _ h9 => h9) rfl dX7_at_4 ?_
      refine lv_iconst (v := (1 : Int32)) hx hb dX7_at_7 (by decide) ?_
      obtain ⟨h_1, hf⟩ := zin_ex hf
      refine va_iald hx hb hK hP 1 0 rfl rfl h_1 dX7_at_8 ?_
      refine lv_icmp_ge (tgt := 30) hx hb dX7_at_9 (by decide) (fun c_2 => ?_) (fun c_2 => ?_)
      · have hf := zif_t hf c_2
        refine lv_ldc (v := (-1000000004 : Int32)) hx hb hown (hts _ k_X7_at_2) dX7_at_30 ?_
        exact zR_ret hx hb hr rfl hf hlk dX7_at_32
      · have hf := zif_f hf c_2
        refine lv_aload_n hx hb dX7_at_12 rfl (lv_at hl 0 rfl) ?_
        refine lv_iload_n hx hb dX7_at_13 rfl (lv_at hl 2 rfl) ?_
        refine lv_iconst (v := (0 : Int32)) hx hb dX7_at_14 (by decide) ?_
        obtain ⟨R3, e_3, hf⟩ := zbind_ex hf
        refine z_callRi (va_runV (As := [.int y2, .int (0 : Int32)]) (rest := []) ⟨hx, hb, hml, hown, hts⟩ (c_X7_of l dC dI cI cC cO qS aS gS y2 (0 : Int32) R3 e_3) (cwV 2 hts gX7_at_X7_of rfl rfl rfl (by decide +kernel) ⟨Nat.le_of_ble_eq_true rfl, Nat.le_of_ble_eq_true rfl⟩) ⟨zpR_blind, va_recv hK hP (ci := 7) (q0 := 0) rfl rfl, z_useR hK hN hP [0] rfl⟩ rfl rfl hl.1 rfl (lv_room (Nat.le_of_ble_eq_true rfl)) dX7_at_15 ⟨Nat.le_of_ble_eq_true rfl, Nat.le_of_ble_eq_true rfl⟩) ?_
        refine lv_iload_n hx hb dX7_at_18 rfl (lv_at hl 1 rfl) ?_
        refine lv_icmp_ne (tgt := 24) hx hb dX7_at_19 (by decide) (fun c_4 => ?_) (fun c_4 => ?_)
        · have hf := zif_f hf c_4
          refine lv_iinc (v := (y2 + (1 : Int32))) (lv' := [(2, .int (y2 + (1 : Int32))), (0, .ref qS), (1, .int y1)]) hx hb dX7_at_24 hl (k := 2) rfl rfl (by decide) rfl (fun ls hl => ?_)
          refine lv_goto (tgt := 2) hx hb dX7_at_27 (by decide) ?_
          exact ih2 y1 (y2 + (1 : Int32)) ls hf (lv_sub hl [1, 2, 0] rfl)
        · have hf := zif_t hf c_4
          refine lv_iload_n hx hb dX7_at_22 rfl (lv_at hl 2 rfl) ?_
          exact zR_ret hx hb hr rfl hf hlk dX7_at_23
  unfold f_X7_at at hf
  refine lv_iconst (v := (0 : Int32)) hx hb dX7_at_0 (by decide) ?_
  refine lv_istore_n (lv' := [(2, .int (0 : Int32)), (0, .ref qS), (1, .int x1)]) hx hb dX7_at_1 rfl hl (by decide) rfl (fun ls hl => ?_)
  exact w2 zfuel x1 (0 : Int32) ls hf (lv_sub hl [1, 2, 0] rfl)

def f_X7_line (gS : zG) (x1 : Int32) (x2 : Int32) : Option (Int32 × zG) := (zbind (f_X7_in x1 (380 : Int32) (780 : Int32)) (fun R1 => (if R1 = 0 then (some ((-1000000001 : Int32), gS)) else (zbind (f_X7_in x2 (1 : Int32) (999 : Int32)) (fun R3 => (if R3 = 0 then (some ((-1000000001 : Int32), gS)) else (zin (0 : Int32) 59 (if (gS 0 (0 : Int32).toNatClampNeg) = (8 : Int32) then (some ((-1000000003 : Int32), gS)) else (zbind (f_X7_changes gS) (fun R7 => (zin ((3 : Int32) + ((2 : Int32) * (gS 0 (0 : Int32).toNatClampNeg))) 59 (zlet (gup R7 0 ((3 : Int32) + ((2 : Int32) * (gS 0 (0 : Int32).toNatClampNeg))).toNatClampNeg x1) (fun gS_8 => (zin (((3 : Int32) + ((2 : Int32) * (gS 0 (0 : Int32).toNatClampNeg))) + (1 : Int32)) 59 (zlet (gup gS_8 0 (((3 : Int32) + ((2 : Int32) * (gS 0 (0 : Int32).toNatClampNeg))) + (1 : Int32)).toNatClampNeg x2) (fun gS_9 => (zin (0 : Int32) 59 (zin (0 : Int32) 59 (zlet (gup gS_9 0 (0 : Int32).toNatClampNeg ((gS_9 0 (0 : Int32).toNatClampNeg) + (1 : Int32))) (fun gS_11 => (some ((gS 0 (0 : Int32).toNatClampNeg), gS_11))))))))))))))))))))))
theorem u_X7_line_X7 : ∀ w ∈ u_ws RX7 TX7 21, w ∈ wsX7_line := fun w h => List.mem_cons_of_mem _ (List.mem_append_right _ h)
theorem k_X7_line_1 : Cond.constant RX7 51 (-1000000001) ∈ wsX7_line := List.mem_of_getElem? (i := 1) rfl
theorem k_X7_line_2 : Cond.fieldLink RX7 7 "JoinedLightModel" "s" "[I" ∈ wsX7_line := List.mem_of_getElem? (i := 2) rfl
theorem k_X7_line_3 : Cond.constant RX7 52 (-1000000003) ∈ wsX7_line := List.mem_of_getElem? (i := 3) rfl
abbrev rm_X7_line : Room := { frames := 1, cells := 0, slots := 0, locals := 22 }
set_option maxHeartbeats 4000000 in
set_option maxRecDepth 100000 in
theorem c_X7_line (l : Launch) (dC : Nat → ClassId) (dI : Nat → Nat → Nat) (cI cC cO : ClassId) (qS : Nat) (aS : Nat → Nat) (gS : zG) (x1 : Int32) (x2 : Int32) (R : Int32 × zG) (hf : f_X7_line gS x1 x2 = some R) : cM l (dC, dI) (zT cI cC cO) yX7_line wsX7_line rm_X7_line [.ref qS, .int x1, .int x2] [(wX7 cI qS aS gS)] [(wX7 cI qS aS R.2)] (some (.int R.1)) 0 0 := by
  refine zM_in (cc := cX7_line) (maxL := 4) (ret := (some .int)) (plainFor_of_name (by decide)) rfl (Nat.le_of_ble_eq_true rfl) ?_
  intro p e s m below meth c hx hb hml hr hlk hown hts hK hN A hA hP hD hS ls hl
  have hl : lv_has ls 4 [(0, .ref qS), (1, .int x1), (2, .int x2)] := hl
  unfold f_X7_line at hf
  obtain ⟨H, hH⟩ : ∃ H, H = s.heap := ⟨_, rfl⟩
  obtain ⟨locs, hlocs⟩ : ∃ locs : List Loc, locs = [] := ⟨_, rfl⟩
  have hS : va_S A s.heap H locs := by rw [hH, hlocs]; exact hS
  rw [← hH] at hP
  refine zheap hH hlocs ?_
  refine lv_iload_n hx hb dX7_line_0 rfl (lv_at hl 1 rfl) ?_
  refine lv_sipush (v := (380 : Int32)) hx hb dX7_line_1 (by decide) ?_
  refine lv_sipush (v := (780 : Int32)) hx hb dX7_line_4 (by decide) ?_
  obtain ⟨R1, e_1, hf⟩ := zbind_ex hf
  refine z_callRi (va_runS (As := [.int x1, .int (380 : Int32), .int (780 : Int32)]) (rest := []) ⟨hx, hb, hml, hown, hts⟩ (c_X7_in l dC dI cI cC cO  x1 (380 : Int32) (780 : Int32) R1 e_1) (va_cwS 3 hts gX7_line_X7_in rfl rfl rfl (by decide +kernel) ⟨Nat.le_of_ble_eq_true rfl, Nat.le_of_ble_eq_true rfl⟩) ⟨zpR_blind, z_useR hK hN hP [] rfl⟩ rfl rfl hl.1 rfl (lv_room (Nat.le_of_ble_eq_true rfl)) dX7_line_7 ⟨Nat.le_of_ble_eq_true rfl, Nat.le_of_ble_eq_true rfl⟩) ?_
  refine lv_if_eq (tgt := 24) hx hb dX7_line_10 (by decide) (fun c_2 => ?_) (fun c_2 => ?_)
  · have hf := zif_t hf c_2
    refine lv_ldc (v := (-1000000001 : Int32)) hx hb hown (hts _ k_X7_line_1) dX7_line_24 ?_
    exact zM_ret (gs := [(wX7 cI qS aS gS)]) hx hb hr rfl hP hD hS (by rw [← Option.some.inj hf]; exact ⟨rfl, rfl⟩) hlk dX7_line_26
  · have hf := zif_f hf c_2
    refine lv_iload_n hx hb dX7_line_13 rfl (lv_at hl 2 rfl) ?_
    refine lv_iconst (v := (1 : Int32)) hx hb dX7_line_14 (by decide) ?_
    refine lv_sipush (v := (999 : Int32)) hx hb dX7_line_15 (by decide) ?_
    obtain ⟨R3, e_3, hf⟩ := zbind_ex hf
    refine z_callRi (va_runS (As := [.int x2, .int (1 : Int32), .int (999 : Int32)]) (rest := []) ⟨hx, hb, hml, hown, hts⟩ (c_X7_in l dC dI cI cC cO  x2 (1 : Int32) (999 : Int32) R3 e_3) (va_cwS 3 hts gX7_line_X7_in rfl rfl rfl (by decide +kernel) ⟨Nat.le_of_ble_eq_true rfl, Nat.le_of_ble_eq_true rfl⟩) ⟨zpR_blind, z_useR hK hN hP [] rfl⟩ rfl rfl hl.1 rfl (lv_room (Nat.le_of_ble_eq_true rfl)) dX7_line_18 ⟨Nat.le_of_ble_eq_true rfl, Nat.le_of_ble_eq_true rfl⟩) ?_
    refine lv_if_ne (tgt := 27) hx hb dX7_line_21 (by decide) (fun c_4 => ?_) (fun c_4 => ?_)
    · have hf := zif_f hf c_4
      refine lv_aload_n hx hb dX7_line_27 rfl (lv_at hl 0 rfl) ?_
      refine va_get (D := (dC, dI)) (ci := 7) (v := .ref (aS 0)) (C := RX7) (T := TX7) (N := 21) hx hb hts u_X7_line_X7 hown hK hP 0 rfl rfl 0 (by decide) (hts _ k_X7_line_2) (fun _ h9 => h9) rfl dX7_line_28 ?_
      refine lv_iconst (v := (0 : Int32)) hx hb dX7_line_31 (by decide) ?_
      obtain ⟨h_5, hf⟩ := zin_ex hf
      refine va_iald hx hb hK hP 1 0 rfl rfl h_5 dX7_line_32 ?_
      refine lv_istore_n (lv' := [(3, .int (gS 0 (0 : Int32).toNatClampNeg)), (0, .ref qS), (1, .int x1), (2, .int x2)]) hx hb dX7_line_33 rfl hl (by decide) rfl (fun ls hl => ?_)
      refine lv_iload_n hx hb dX7_line_34 rfl (lv_at hl 0 rfl) ?_
      refine lv_bipush (v := (8 : Int32)) hx hb dX7_line_35 (by decide) ?_
      refine lv_icmp_ne (tgt := 43) hx hb dX7_line_37 (by decide) (fun c_6 => ?_) (fun c_6 => ?_)
      · have hf := zif_f hf c_6
        refine lv_aload_n hx hb dX7_line_43 rfl (lv_at hl 1 rfl) ?_
        obtain ⟨R7, e_7, hf⟩ := zbind_ex hf
        refine z_callM (gs2 := [(wX7 cI qS aS R7)]) hP hD hS hA [0] [] rfl rfl rfl (show List.Perm [0] (List.range 1) from by decide) rfl (va_runV (As := []) (rest := []) ⟨hx, hb, hml, hown, hts⟩ (c_X7_changes l dC dI cI cC cO qS aS gS  R7 e_7 H.size) (cwV 0 hts gX7_line_X7_changes rfl rfl rfl (by decide +kernel) ⟨Nat.le_of_ble_eq_true rfl, Nat.le_of_ble_eq_true rfl⟩) ⟨zpM_blind, va_recv hK hP (ci := 7) (q0 := 0) rfl rfl, z_useM hK hN hP hD [0] [] rfl (show List.Perm [0] (List.range 1) from by decide)⟩ rfl rfl hl.1 rfl (lv_room (Nat.le_of_ble_eq_true rfl)) dX7_line_44 ⟨Nat.le_of_ble_eq_true rfl, Nat.le_of_ble_eq_true rfl⟩) (fun H locs hP hD hS => ?_)
        refine W.eq (g2 := F0 m 47 ls []) rfl ?_
        refine lv_aload_n hx hb dX7_line_47 rfl (lv_at hl 1 rfl) ?_
        refine va_get (D := (dC, dI)) (ci := 7) (v := .ref (aS 0)) (C := RX7) (T := TX7) (N := 21) hx hb hts u_X7_line_X7 hown hK hP 0 rfl rfl 0 (by decide) (hts _ k_X7_line_2) (fun _ h9 => h9) rfl dX7_line_48 ?_
        refine lv_iconst (v := (3 : Int32)) hx hb dX7_line_51 (by decide) ?_
        refine lv_iconst (v := (2 : Int32)) hx hb dX7_line_52 (by decide) ?_
        refine lv_iload_n hx hb dX7_line_53 rfl (lv_at hl 0 rfl) ?_
        refine lv_imul hx hb dX7_line_54 ?_
        refine lv_iadd hx hb dX7_line_55 ?_
        refine lv_iload_n hx hb dX7_line_56 rfl (lv_at hl 2 rfl) ?_
        obtain ⟨h_8, hf⟩ := zin_ex hf
        obtain ⟨gS_8, e_8, hf⟩ := zlet_ex hf
        refine z_iast (gs' := [(wX7 cI qS aS gS_8)]) hx hb hK hP hD hS 1 0 rfl rfl h_8 (by rw [e_8]; rfl) dX7_line_57 (fun H locs hP hD hS => ?_)
        refine lv_aload_n hx hb dX7_line_58 rfl (lv_at hl 1 rfl) ?_
        refine va_get (D := (dC, dI)) (ci := 7) (v := .ref (aS 0)) (C := RX7) (T := TX7) (N := 21) hx hb hts u_X7_line_X7 hown hK hP 0 rfl rfl 0 (by decide) (hts _ k_X7_line_2) (fun _ h9 => h9) rfl dX7_line_59 ?_
        refine lv_iconst (v := (3 : Int32)) hx hb dX7_line_62 (by decide) ?_
        refine lv_iconst (v := (2 : Int32)) hx hb dX7_line_63 (by decide) ?_
        refine lv_iload_n hx hb dX7_line_64 rfl (lv_at hl 0 rfl) ?_
        refine lv_imul hx hb dX7_line_65 ?_
        refine lv_iadd hx hb dX7_line_66 ?_
        refine lv_iconst (v := (1 : Int32)) hx hb dX7_line_67 (by decide) ?_
        refine lv_iadd hx hb dX7_line_68 ?_
        refine lv_iload_n hx hb dX7_line_69 rfl (lv_at hl 3 rfl) ?_
        obtain ⟨h_9, hf⟩ := zin_ex hf
        obtain ⟨gS_9, e_9, hf⟩ := zlet_ex hf
        refine z_iast (gs' := [(wX7 cI qS aS gS_9)]) hx hb hK hP hD hS 1 0 rfl rfl h_9 (by rw [e_9]; rfl) dX7_line_70 (fun H locs hP hD hS => ?_)
        refine lv_aload_n hx hb dX7_line_71 rfl (lv_at hl 1 rfl) ?_
        refine va_get (D := (dC, dI)) (ci := 7) (v := .ref (aS 0)) (C := RX7) (T := TX7) (N := 21) hx hb hts u_X7_line_X7 hown hK hP 0 rfl rfl 0 (by decide) (hts _ k_X7_line_2) (fun _ h9 => h9) rfl dX7_line_72 ?_
        refine lv_iconst (v := (0 : Int32)) hx hb dX7_line_75 (by decide) ?_
        refine lv_dup2_11 hx hb dX7_line_76 rfl rfl ?_
        obtain ⟨h_10, hf⟩ := zin_ex hf
        refine va_iald hx hb hK hP 1 0 rfl rfl h_10 dX7_line_77 ?_
        refine lv_iconst (v := (1 : Int32)) hx hb dX7_line_78 (by decide) ?_
        refine lv_iadd hx hb dX7_line_79 ?_
        obtain ⟨h_11, hf⟩ := zin_ex hf
        obtain ⟨gS_11, e_11, hf⟩ := zlet_ex hf
        refine z_iast (gs' := [(wX7 cI qS aS gS_11)]) hx hb hK hP hD hS 1 0 rfl rfl h_11 (by rw [e_11]; rfl) dX7_line_80 (fun H locs hP hD hS => ?_)
        refine lv_iload_n hx hb dX7_line_81 rfl (lv_at hl 0 rfl) ?_
        exact zM_ret (gs := [(wX7 cI qS aS gS_11)]) hx hb hr rfl hP hD hS (by rw [← Option.some.inj hf]; exact ⟨rfl, rfl⟩) hlk dX7_line_82
      · have hf := zif_t hf c_6
        refine lv_ldc (v := (-1000000003 : Int32)) hx hb hown (hts _ k_X7_line_3) dX7_line_40 ?_
        exact zM_ret (gs := [(wX7 cI qS aS gS)]) hx hb hr rfl hP hD hS (by rw [← Option.some.inj hf]; exact ⟨rfl, rfl⟩) hlk dX7_line_42
    · have hf := zif_t hf c_4
      refine lv_ldc (v := (-1000000001 : Int32)) hx hb hown (hts _ k_X7_line_1) dX7_line_24 ?_
      exact zM_ret (gs := [(wX7 cI qS aS gS)]) hx hb hr rfl hP hD hS (by rw [← Option.some.inj hf]; exact ⟨rfl, rfl⟩) hlk dX7_line_26

def f_X7_dim (gS : zG) (x1 : Int32) (x2 : Int32) : Option (Int32 × zG) := (zbind (f_X7_isLine gS x1) (fun R1 => (if R1 = 0 then (some ((-1000000001 : Int32), gS)) else (zbind (f_X7_in x2 (1 : Int32) (999 : Int32)) (fun R3 => (if R3 = 0 then (some ((-1000000001 : Int32), gS)) else (zbind (f_X7_changes gS) (fun R5 => (zbind (f_X7_lightOf R5 x1) (fun R6 => (zin (((3 : Int32) + ((2 : Int32) * x1)) + (1 : Int32)) 59 (zlet (gup R5 0 (((3 : Int32) + ((2 : Int32) * x1)) + (1 : Int32)).toNatClampNeg x2) (fun gS_7 => (some (R6, gS_7)))))))))))))))
theorem u_X7_dim_X7 : ∀ w ∈ u_ws RX7 TX7 21, w ∈ wsX7_dim := fun w h => List.mem_cons_of_mem _ (List.mem_append_right _ h)
theorem k_X7_dim_1 : Cond.constant RX7 51 (-1000000001) ∈ wsX7_dim := List.mem_of_getElem? (i := 1) rfl
theorem k_X7_dim_2 : Cond.fieldLink RX7 7 "JoinedLightModel" "s" "[I" ∈ wsX7_dim := List.mem_of_getElem? (i := 2) rfl
abbrev rm_X7_dim : Room := { frames := 1, cells := 0, slots := 0, locals := 22 }
set_option maxHeartbeats 4000000 in
set_option maxRecDepth 100000 in
theorem c_X7_dim (l : Launch) (dC : Nat → ClassId) (dI : Nat → Nat → Nat) (cI cC cO : ClassId) (qS : Nat) (aS : Nat → Nat) (gS : zG) (x1 : Int32) (x2 : Int32) (R : Int32 × zG) (hf : f_X7_dim gS x1 x2 = some R) : cM l (dC, dI) (zT cI cC cO) yX7_dim wsX7_dim rm_X7_dim [.ref qS, .int x1, .int x2] [(wX7 cI qS aS gS)] [(wX7 cI qS aS R.2)] (some (.int R.1)) 0 0 := by
  refine zM_in (cc := cX7_dim) (maxL := 4) (ret := (some .int)) (plainFor_of_name (by decide)) rfl (Nat.le_of_ble_eq_true rfl) ?_
  intro p e s m below meth c hx hb hml hr hlk hown hts hK hN A hA hP hD hS ls hl
  have hl : lv_has ls 4 [(0, .ref qS), (1, .int x1), (2, .int x2)] := hl
  unfold f_X7_dim at hf
  obtain ⟨H, hH⟩ : ∃ H, H = s.heap := ⟨_, rfl⟩
  obtain ⟨locs, hlocs⟩ : ∃ locs : List Loc, locs = [] := ⟨_, rfl⟩
  have hS : va_S A s.heap H locs := by rw [hH, hlocs]; exact hS
  rw [← hH] at hP
  refine zheap hH hlocs ?_
  refine lv_aload_n hx hb dX7_dim_0 rfl (lv_at hl 0 rfl) ?_
  refine lv_iload_n hx hb dX7_dim_1 rfl (lv_at hl 1 rfl) ?_
  obtain ⟨R1, e_1, hf⟩ := zbind_ex hf
  refine z_callRi (va_runV (As := [.int x1]) (rest := []) ⟨hx, hb, hml, hown, hts⟩ (c_X7_isLine l dC dI cI cC cO qS aS gS x1 R1 e_1) (cwV 1 hts gX7_dim_X7_isLine rfl rfl rfl (by decide +kernel) ⟨Nat.le_of_ble_eq_true rfl, Nat.le_of_ble_eq_true rfl⟩) ⟨zpR_blind, va_recv hK hP (ci := 7) (q0 := 0) rfl rfl, z_useR hK hN hP [0] rfl⟩ rfl rfl hl.1 rfl (lv_room (Nat.le_of_ble_eq_true rfl)) dX7_dim_2 ⟨Nat.le_of_ble_eq_true rfl, Nat.le_of_ble_eq_true rfl⟩) ?_
  refine lv_if_eq (tgt := 19) hx hb dX7_dim_5 (by decide) (fun c_2 => ?_) (fun c_2 => ?_)
  · have hf := zif_t hf c_2
    refine lv_ldc (v := (-1000000001 : Int32)) hx hb hown (hts _ k_X7_dim_1) dX7_dim_19 ?_
    exact zM_ret (gs := [(wX7 cI qS aS gS)]) hx hb hr rfl hP hD hS (by rw [← Option.some.inj hf]; exact ⟨rfl, rfl⟩) hlk dX7_dim_21
  · have hf := zif_f hf c_2
    refine lv_iload_n hx hb dX7_dim_8 rfl (lv_at hl 2 rfl) ?_
    refine lv_iconst (v := (1 : Int32)) hx hb dX7_dim_9 (by decide) ?_
    refine lv_sipush (v := (999 : Int32)) hx hb dX7_dim_10 (by decide) ?_
    obtain ⟨R3, e_3, hf⟩ := zbind_ex hf
    refine z_callRi (va_runS (As := [.int x2, .int (1 : Int32), .int (999 : Int32)]) (rest := []) ⟨hx, hb, hml, hown, hts⟩ (c_X7_in l dC dI cI cC cO  x2 (1 : Int32) (999 : Int32) R3 e_3) (va_cwS 3 hts gX7_dim_X7_in rfl rfl rfl (by decide +kernel) ⟨Nat.le_of_ble_eq_true rfl, Nat.le_of_ble_eq_true rfl⟩) ⟨zpR_blind, z_useR hK hN hP [] rfl⟩ rfl rfl hl.1 rfl (lv_room (Nat.le_of_ble_eq_true rfl)) dX7_dim_13 ⟨Nat.le_of_ble_eq_true rfl, Nat.le_of_ble_eq_true rfl⟩) ?_
    refine lv_if_ne (tgt := 22) hx hb dX7_dim_16 (by decide) (fun c_4 => ?_) (fun c_4 => ?_)
    · have hf := zif_f hf c_4
      refine lv_aload_n hx hb dX7_dim_22 rfl (lv_at hl 0 rfl) ?_
      obtain ⟨R5, e_5, hf⟩ := zbind_ex hf
      refine z_callM (gs2 := [(wX7 cI qS aS R5)]) hP hD hS hA [0] [] rfl rfl rfl (show List.Perm [0] (List.range 1) from by decide) rfl (va_runV (As := []) (rest := []) ⟨hx, hb, hml, hown, hts⟩ (c_X7_changes l dC dI cI cC cO qS aS gS  R5 e_5 H.size) (cwV 0 hts gX7_dim_X7_changes rfl rfl rfl (by decide +kernel) ⟨Nat.le_of_ble_eq_true rfl, Nat.le_of_ble_eq_true rfl⟩) ⟨zpM_blind, va_recv hK hP (ci := 7) (q0 := 0) rfl rfl, z_useM hK hN hP hD [0] [] rfl (show List.Perm [0] (List.range 1) from by decide)⟩ rfl rfl hl.1 rfl (lv_room (Nat.le_of_ble_eq_true rfl)) dX7_dim_23 ⟨Nat.le_of_ble_eq_true rfl, Nat.le_of_ble_eq_true rfl⟩) (fun H locs hP hD hS => ?_)
      refine W.eq (g2 := F0 m 26 ls []) rfl ?_
      refine lv_aload_n hx hb dX7_dim_26 rfl (lv_at hl 0 rfl) ?_
      refine lv_iload_n hx hb dX7_dim_27 rfl (lv_at hl 1 rfl) ?_
      obtain ⟨R6, e_6, hf⟩ := zbind_ex hf
      refine z_callRi (va_runV (As := [.int x1]) (rest := []) ⟨hx, hb, hml, hown, hts⟩ (c_X7_lightOf l dC dI cI cC cO qS aS R5 x1 R6 e_6) (cwV 1 hts gX7_dim_X7_lightOf rfl rfl rfl (by decide +kernel) ⟨Nat.le_of_ble_eq_true rfl, Nat.le_of_ble_eq_true rfl⟩) ⟨zpR_blind, va_recv hK hP (ci := 7) (q0 := 0) rfl rfl, z_useR hK hN hP [0] rfl⟩ rfl rfl hl.1 rfl (lv_room (Nat.le_of_ble_eq_true rfl)) dX7_dim_28 ⟨Nat.le_of_ble_eq_true rfl, Nat.le_of_ble_eq_true rfl⟩) ?_
      refine lv_istore_n (lv' := [(3, .int R6), (0, .ref qS), (1, .int x1), (2, .int x2)]) hx hb dX7_dim_31 rfl hl (by decide) rfl (fun ls hl => ?_)
      refine lv_aload_n hx hb dX7_dim_32 rfl (lv_at hl 1 rfl) ?_
      refine va_get (D := (dC, dI)) (ci := 7) (v := .ref (aS 0)) (C := RX7) (T := TX7) (N := 21) hx hb hts u_X7_dim_X7 hown hK hP 0 rfl rfl 0 (by decide) (hts _ k_X7_dim_2) (fun _ h9 => h9) rfl dX7_dim_33 ?_
      refine lv_iconst (v := (3 : Int32)) hx hb dX7_dim_36 (by decide) ?_
      refine lv_iconst (v := (2 : Int32)) hx hb dX7_dim_37 (by decide) ?_
      refine lv_iload_n hx hb dX7_dim_38 rfl (lv_at hl 2 rfl) ?_
      refine lv_imul hx hb dX7_dim_39 ?_
      refine lv_iadd hx hb dX7_dim_40 ?_
      refine lv_iconst (v := (1 : Int32)) hx hb dX7_dim_41 (by decide) ?_
      refine lv_iadd hx hb dX7_dim_42 ?_
      refine lv_iload_n hx hb dX7_dim_43 rfl (lv_at hl 3 rfl) ?_
      obtain ⟨h_7, hf⟩ := zin_ex hf
      obtain ⟨gS_7, e_7, hf⟩ := zlet_ex hf
      refine z_iast (gs' := [(wX7 cI qS aS gS_7)]) hx hb hK hP hD hS 1 0 rfl rfl h_7 (by rw [e_7]; rfl) dX7_dim_44 (fun H locs hP hD hS => ?_)
      refine lv_iload_n hx hb dX7_dim_45 rfl (lv_at hl 0 rfl) ?_
      exact zM_ret (gs := [(wX7 cI qS aS gS_7)]) hx hb hr rfl hP hD hS (by rw [← Option.some.inj hf]; exact ⟨rfl, rfl⟩) hlk dX7_dim_46
    · have hf := zif_t hf c_4
      refine lv_ldc (v := (-1000000001 : Int32)) hx hb hown (hts _ k_X7_dim_1) dX7_dim_19 ?_
      exact zM_ret (gs := [(wX7 cI qS aS gS)]) hx hb hr rfl hP hD hS (by rw [← Option.some.inj hf]; exact ⟨rfl, rfl⟩) hlk dX7_dim_21

def f_X7_opens_43_b   (k43 : Int32 → Int32 → zG → Option (Int32 × zG)) (y2 : Int32) (y3 : Int32) (gS : zG) : Option (Int32 × zG) := (if y3 < ((19 : Int32) + ((5 : Int32) * y2)) then (zin (1 : Int32) 59 (zin (1 : Int32) 59 (zlet (gup gS 0 (1 : Int32).toNatClampNeg ((gS 0 (1 : Int32).toNatClampNeg) + (1 : Int32))) (fun gS_8 => (some (y2, gS_8)))))) else (zin y3 59 (zin (y3 + (5 : Int32)) 59 (zlet (gup gS 0 (y3 + (5 : Int32)).toNatClampNeg (gS 0 y3.toNatClampNeg)) (fun gS_10 => (k43 y2 (y3 + (-1 : Int32)) gS_10))))))
def f_X7_opens_43   : Nat → Int32 → Int32 → zG → Option (Int32 × zG)
  | 0 => fun _ _ _ => none
  | n + 1 => f_X7_opens_43_b   (f_X7_opens_43   n)
def f_X7_opens_29   (y2 : Int32) (gS : zG) : Option (Int32 × zG) := (zin (1 : Int32) 59 (f_X7_opens_43   zfuel y2 (((19 : Int32) + ((5 : Int32) * (gS 0 (1 : Int32).toNatClampNeg))) - (1 : Int32)) gS))
def f_X7_opens_7_b   (k7 : Int32 → Int32 → zG → Option (Int32 × zG)) (y1 : Int32) (y2 : Int32) (gS : zG) : Option (Int32 × zG) := (if y2 ≤ 0 then (f_X7_opens_29    y2 gS) else (zbind (f_X7_of gS (y2 - (1 : Int32)) (0 : Int32)) (fun R3 => (if R3 ≤ y1 then (f_X7_opens_29    y2 gS) else (k7 y1 (y2 + (-1 : Int32)) gS)))))
def f_X7_opens_7   : Nat → Int32 → Int32 → zG → Option (Int32 × zG)
  | 0 => fun _ _ _ => none
  | n + 1 => f_X7_opens_7_b   (f_X7_opens_7   n)
def f_X7_opens (gS : zG) (x1 : Int32) : Option (Int32 × zG) := (zin (1 : Int32) 59 (f_X7_opens_7   zfuel x1 (gS 0 (1 : Int32).toNatClampNeg) gS))
theorem u_X7_opens_X7 : ∀ w ∈ u_ws RX7 TX7 21, w ∈ wsX7_opens := fun w h => List.mem_cons_of_mem _ (List.mem_append_right _ h)
theorem k_X7_opens_1 : Cond.fieldLink RX7 7 "JoinedLightModel" "s" "[I" ∈ wsX7_opens := List.mem_of_getElem? (i := 1) rfl
abbrev rm_X7_opens : Room := { frames := 1, cells := 0, slots := 0, locals := 22 }
set_option maxHeartbeats 4000000 in
set_option maxRecDepth 100000 in
theorem c_X7_opens (l : Launch) (dC : Nat → ClassId) (dI : Nat → Nat → Nat) (cI cC cO : ClassId) (qS : Nat) (aS : Nat → Nat) (gS : zG) (x1 : Int32) (R : Int32 × zG) (hf : f_X7_opens gS x1 = some R) : cM l (dC, dI) (zT cI cC cO) yX7_opens wsX7_opens rm_X7_opens [.ref qS, .int x1] [(wX7 cI qS aS gS)] [(wX7 cI qS aS R.2)] (some (.int R.1)) 0 0 := by
  refine zM_in (cc := cX7_opens) (maxL := 4) (ret := (some .int)) (plainFor_of_name (by decide)) rfl (Nat.le_of_ble_eq_true rfl) ?_
  intro p e s m below meth c hx hb hml hr hlk hown hts hK hN A hA hP hD hS ls hl
  have hl : lv_has ls 4 [(0, .ref qS), (1, .int x1)] := hl
  have w43 : ∀ (n43 : Nat) (y2 : Int32) (y3 : Int32) (gS : zG) (H : Heap) (locs : List Loc) (ls : Array Slot), f_X7_opens_43   n43 y2 y3 gS = some R → va_P (dC, dI) vwCl [(wX7 cI qS aS gS)].flatten H → va_D A [(wX7 cI qS aS gS)].flatten → va_S A s.heap H locs → lv_has ls 4 [(0, .ref qS), (2, .int y2), (3, .int y3)] → W p l e (headSpec wsX7_opens rm_X7_opens).room s m [.ref qS, .int x1].toArray below meth c H locs 0 0 (MQ below (zqM (dC, dI) (some (.int R.1)) [(wX7 cI qS aS R.2)] A) [.ref qS, .int x1].toArray s 0 0 A) (F0 m 43 ls []) := by
    intro n43
    induction n43 with
    | zero =>
      intro y2 y3 gS H locs ls hf hP hD hS hl
      have hf : (none : Option (Int32 × zG)) = some R := hf
      cases hf
    | succ n43 ih43 =>
      intro y2 y3 gS H locs ls hf hP hD hS hl
      have hf : f_X7_opens_43_b   (f_X7_opens_43   n43) y2 y3 gS = some R := hf
      unfold f_X7_opens_43_b at hf
      refine lv_iload_n hx hb dX7_opens_43 rfl (lv_at hl 2 rfl) ?_
      refine lv_bipush (v := (19 : Int32)) hx hb dX7_opens_44 (by decide) ?_
      refine lv_iconst (v := (5 : Int32)) hx hb dX7_opens_46 (by decide) ?_
      refine lv_iload_n hx hb dX7_opens_47 rfl (lv_at hl 1 rfl) ?_
      refine lv_imul hx hb dX7_opens_48 ?_
      refine lv_iadd hx hb dX7_opens_49 ?_
      refine lv_icmp_lt (tgt := 73) hx hb dX7_opens_50 (by decide) (fun c_6 => ?_) (fun c_6 => ?_)
      · have hf := zif_t hf c_6
        refine lv_aload_n hx hb dX7_opens_73 rfl (lv_at hl 0 rfl) ?_
        refine va_get (D := (dC, dI)) (ci := 7) (v := .ref (aS 0)) (C := RX7) (T := TX7) (N := 21) hx hb hts u_X7_opens_X7 hown hK hP 0 rfl rfl 0 (by decide) (hts _ k_X7_opens_1) (fun _ h9 => h9) rfl dX7_opens_74 ?_
        refine lv_iconst (v := (1 : Int32)) hx hb dX7_opens_77 (by decide) ?_
        refine lv_dup2_11 hx hb dX7_opens_78 rfl rfl ?_
        obtain ⟨h_7, hf⟩ := zin_ex hf
        refine va_iald hx hb hK hP 1 0 rfl rfl h_7 dX7_opens_79 ?_
        refine lv_iconst (v := (1 : Int32)) hx hb dX7_opens_80 (by decide) ?_
        refine lv_iadd hx hb dX7_opens_81 ?_
        obtain ⟨h_8, hf⟩ := zin_ex hf
        obtain ⟨gS_8, e_8, hf⟩ := zlet_ex hf
        refine z_iast (gs' := [(wX7 cI qS aS gS_8)]) hx hb hK hP hD hS 1 0 rfl rfl h_8 (by rw [e_8]; rfl) dX7_opens_82 (fun H locs hP hD hS => ?_)
        refine lv_iload_n hx hb dX7_opens_83 rfl (lv_at hl 1 rfl) ?_
        exact zM_ret (gs := [(wX7 cI qS aS gS_8)]) hx hb hr rfl hP hD hS (by rw [← Option.some.inj hf]; exact ⟨rfl, rfl⟩) hlk dX7_opens_84
      · have hf := zif_f hf c_6
        refine lv_aload_n hx hb dX7_opens_53 rfl (lv_at hl 0 rfl) ?_
        refine va_get (D := (dC, dI)) (ci := 7) (v := .ref (aS 0)) (C := RX7) (T := TX7) (N := 21) hx hb hts u_X7_opens_X7 hown hK hP 0 rfl rfl 0 (by decide) (hts _ k_X7_opens_1) (fun _ h9 => h9) rfl dX7_opens_54 ?_
        refine lv_iload_n hx hb dX7_opens_57 rfl (lv_at hl 2 rfl) ?_
        refine lv_iconst (v := (5 : Int32)) hx hb dX7_opens_58 (by decide) ?_
        refine lv_iadd hx hb dX7_opens_59 ?_
        refine lv_aload_n hx hb dX7_opens_60 rfl (lv_at hl 0 rfl) ?_
        refine va_get (D := (dC, dI)) (ci := 7) (v := .ref (aS 0)) (C := RX7) (T := TX7) (N := 21) hx hb hts u_X7_opens_X7 hown hK hP 0 rfl rfl 0 (by decide) (hts _ k_X7_opens_1) (fun _ h9 => h9) rfl dX7_opens_61 ?_
        refine lv_iload_n hx hb dX7_opens_64 rfl (lv_at hl 2 rfl) ?_
        obtain ⟨h_9, hf⟩ := zin_ex hf
        refine va_iald hx hb hK hP 1 0 rfl rfl h_9 dX7_opens_65 ?_
        obtain ⟨h_10, hf⟩ := zin_ex hf
        obtain ⟨gS_10, e_10, hf⟩ := zlet_ex hf
        refine z_iast (gs' := [(wX7 cI qS aS gS_10)]) hx hb hK hP hD hS 1 0 rfl rfl h_10 (by rw [e_10]; rfl) dX7_opens_66 (fun H locs hP hD hS => ?_)
        refine lv_iinc (v := (y3 + (-1 : Int32))) (lv' := [(3, .int (y3 + (-1 : Int32))), (0, .ref qS), (2, .int y2)]) hx hb dX7_opens_67 hl (k := 2) rfl rfl (by decide) rfl (fun ls hl => ?_)
        refine lv_goto (tgt := 43) hx hb dX7_opens_70 (by decide) ?_
        exact ih43 y2 (y3 + (-1 : Int32)) gS_10 H locs ls hf hP hD hS (lv_sub hl [1, 2, 0] rfl)
  have w29 : ∀ (y2 : Int32) (gS : zG) (H : Heap) (locs : List Loc) (ls : Array Slot), f_X7_opens_29    y2 gS = some R → va_P (dC, dI) vwCl [(wX7 cI qS aS gS)].flatten H → va_D A [(wX7 cI qS aS gS)].flatten → va_S A s.heap H locs → lv_has ls 4 [(0, .ref qS), (2, .int y2)] → W p l e (headSpec wsX7_opens rm_X7_opens).room s m [.ref qS, .int x1].toArray below meth c H locs 0 0 (MQ below (zqM (dC, dI) (some (.int R.1)) [(wX7 cI qS aS R.2)] A) [.ref qS, .int x1].toArray s 0 0 A) (F0 m 29 ls []) := by
    intro y2 gS H locs ls hf hP hD hS hl
    unfold f_X7_opens_29 at hf
    refine lv_bipush (v := (19 : Int32)) hx hb dX7_opens_29 (by decide) ?_
    refine lv_iconst (v := (5 : Int32)) hx hb dX7_opens_31 (by decide) ?_
    refine lv_aload_n hx hb dX7_opens_32 rfl (lv_at hl 0 rfl) ?_
    refine va_get (D := (dC, dI)) (ci := 7) (v := .ref (aS 0)) (C := RX7) (T := TX7) (N := 21) hx hb hts u_X7_opens_X7 hown hK hP 0 rfl rfl 0 (by decide) (hts _ k_X7_opens_1) (fun _ h9 => h9) rfl dX7_opens_33 ?_
    refine lv_iconst (v := (1 : Int32)) hx hb dX7_opens_36 (by decide) ?_
    obtain ⟨h_5, hf⟩ := zin_ex hf
    refine va_iald hx hb hK hP 1 0 rfl rfl h_5 dX7_opens_37 ?_
    refine lv_imul hx hb dX7_opens_38 ?_
    refine lv_iadd hx hb dX7_opens_39 ?_
    refine lv_iconst (v := (1 : Int32)) hx hb dX7_opens_40 (by decide) ?_
    refine lv_isub hx hb dX7_opens_41 ?_
    refine lv_istore_n (lv' := [(3, .int (((19 : Int32) + ((5 : Int32) * (gS 0 (1 : Int32).toNatClampNeg))) - (1 : Int32))), (0, .ref qS), (2, .int y2)]) hx hb dX7_opens_42 rfl hl (by decide) rfl (fun ls hl => ?_)
    exact w43 zfuel y2 (((19 : Int32) + ((5 : Int32) * (gS 0 (1 : Int32).toNatClampNeg))) - (1 : Int32)) gS H locs ls hf hP hD hS (lv_sub hl [1, 2, 0] rfl)
  have w7 : ∀ (n7 : Nat) (y1 : Int32) (y2 : Int32) (gS : zG) (H : Heap) (locs : List Loc) (ls : Array Slot), f_X7_opens_7   n7 y1 y2 gS = some R → va_P (dC, dI) vwCl [(wX7 cI qS aS gS)].flatten H → va_D A [(wX7 cI qS aS gS)].flatten → va_S A s.heap H locs → lv_has ls 4 [(0, .ref qS), (1, .int y1), (2, .int y2)] → W p l e (headSpec wsX7_opens rm_X7_opens).room s m [.ref qS, .int x1].toArray below meth c H locs 0 0 (MQ below (zqM (dC, dI) (some (.int R.1)) [(wX7 cI qS aS R.2)] A) [.ref qS, .int x1].toArray s 0 0 A) (F0 m 7 ls []) := by
    intro n7
    induction n7 with
    | zero =>
      intro y1 y2 gS H locs ls hf hP hD hS hl
      have hf : (none : Option (Int32 × zG)) = some R := hf
      cases hf
    | succ n7 ih7 =>
      intro y1 y2 gS H locs ls hf hP hD hS hl
      have hf : f_X7_opens_7_b   (f_X7_opens_7   n7) y1 y2 gS = some R := hf
      unfold f_X7_opens_7_b at hf
      refine lv_iload_n hx hb dX7_opens_7 rfl (lv_at hl 2 rfl) ?_
      refine lv_if_le (tgt := 29) hx hb dX7_opens_8 (by decide) (fun c_2 => ?_) (fun c_2 => ?_)
      · have hf := zif_t hf c_2
        exact w29  y2 gS H locs ls hf hP hD hS (lv_sub hl [0, 2] rfl)
      · have hf := zif_f hf c_2
        refine lv_aload_n hx hb dX7_opens_11 rfl (lv_at hl 0 rfl) ?_
        refine lv_iload_n hx hb dX7_opens_12 rfl (lv_at hl 2 rfl) ?_
        refine lv_iconst (v := (1 : Int32)) hx hb dX7_opens_13 (by decide) ?_
        refine lv_isub hx hb dX7_opens_14 ?_
        refine lv_iconst (v := (0 : Int32)) hx hb dX7_opens_15 (by decide) ?_
        obtain ⟨R3, e_3, hf⟩ := zbind_ex hf
        refine z_callRi (va_runV (As := [.int (y2 - (1 : Int32)), .int (0 : Int32)]) (rest := []) ⟨hx, hb, hml, hown, hts⟩ (c_X7_of l dC dI cI cC cO qS aS gS (y2 - (1 : Int32)) (0 : Int32) R3 e_3) (cwV 2 hts gX7_opens_X7_of rfl rfl rfl (by decide +kernel) ⟨Nat.le_of_ble_eq_true rfl, Nat.le_of_ble_eq_true rfl⟩) ⟨zpR_blind, va_recv hK hP (ci := 7) (q0 := 0) rfl rfl, z_useR hK hN hP [0] rfl⟩ rfl rfl hl.1 rfl (lv_room (Nat.le_of_ble_eq_true rfl)) dX7_opens_16 ⟨Nat.le_of_ble_eq_true rfl, Nat.le_of_ble_eq_true rfl⟩) ?_
        refine lv_iload_n hx hb dX7_opens_19 rfl (lv_at hl 1 rfl) ?_
        refine lv_icmp_le (tgt := 29) hx hb dX7_opens_20 (by decide) (fun c_4 => ?_) (fun c_4 => ?_)
        · have hf := zif_t hf c_4
          exact w29  y2 gS H locs ls hf hP hD hS (lv_sub hl [0, 2] rfl)
        · have hf := zif_f hf c_4
          refine lv_iinc (v := (y2 + (-1 : Int32))) (lv' := [(2, .int (y2 + (-1 : Int32))), (0, .ref qS), (1, .int y1)]) hx hb dX7_opens_23 hl (k := 2) rfl rfl (by decide) rfl (fun ls hl => ?_)
          refine lv_goto (tgt := 7) hx hb dX7_opens_26 (by decide) ?_
          exact ih7 y1 (y2 + (-1 : Int32)) gS H locs ls hf hP hD hS (lv_sub hl [1, 2, 0] rfl)
  unfold f_X7_opens at hf
  obtain ⟨H, hH⟩ : ∃ H, H = s.heap := ⟨_, rfl⟩
  obtain ⟨locs, hlocs⟩ : ∃ locs : List Loc, locs = [] := ⟨_, rfl⟩
  have hS : va_S A s.heap H locs := by rw [hH, hlocs]; exact hS
  rw [← hH] at hP
  refine zheap hH hlocs ?_
  refine lv_aload_n hx hb dX7_opens_0 rfl (lv_at hl 0 rfl) ?_
  refine va_get (D := (dC, dI)) (ci := 7) (v := .ref (aS 0)) (C := RX7) (T := TX7) (N := 21) hx hb hts u_X7_opens_X7 hown hK hP 0 rfl rfl 0 (by decide) (hts _ k_X7_opens_1) (fun _ h9 => h9) rfl dX7_opens_1 ?_
  refine lv_iconst (v := (1 : Int32)) hx hb dX7_opens_4 (by decide) ?_
  obtain ⟨h_1, hf⟩ := zin_ex hf
  refine va_iald hx hb hK hP 1 0 rfl rfl h_1 dX7_opens_5 ?_
  refine lv_istore_n (lv' := [(2, .int (gS 0 (1 : Int32).toNatClampNeg)), (0, .ref qS), (1, .int x1)]) hx hb dX7_opens_6 rfl hl (by decide) rfl (fun ls hl => ?_)
  exact w7 zfuel x1 (gS 0 (1 : Int32).toNatClampNeg) gS H locs ls hf hP hD hS (lv_sub hl [1, 2, 0] rfl)

def f_X7_takesOut_17_b   (k17 : Int32 → zG → Option (zG)) (y2 : Int32) (gS : zG) : Option (zG) := (zin (1 : Int32) 59 (if ((19 : Int32) + ((5 : Int32) * (gS 0 (1 : Int32).toNatClampNeg))) ≤ y2 then (some (gS)) else (zin (y2 + (5 : Int32)) 59 (zin y2 59 (zlet (gup gS 0 y2.toNatClampNeg (gS 0 (y2 + (5 : Int32)).toNatClampNeg)) (fun gS_6 => (k17 (y2 + (1 : Int32)) gS_6)))))))
def f_X7_takesOut_17   : Nat → Int32 → zG → Option (zG)
  | 0 => fun _ _ => none
  | n + 1 => f_X7_takesOut_17_b   (f_X7_takesOut_17   n)
def f_X7_takesOut (gS : zG) (x1 : Int32) : Option (zG) := (zin (1 : Int32) 59 (zin (1 : Int32) 59 (zlet (gup gS 0 (1 : Int32).toNatClampNeg ((gS 0 (1 : Int32).toNatClampNeg) - (1 : Int32))) (fun gS_2 => (f_X7_takesOut_17   zfuel ((19 : Int32) + ((5 : Int32) * x1)) gS_2)))))
theorem u_X7_takesOut_X7 : ∀ w ∈ u_ws RX7 TX7 21, w ∈ wsX7_takesOut := fun w h => List.mem_cons_of_mem _ (List.mem_append_right _ h)
theorem k_X7_takesOut_1 : Cond.fieldLink RX7 7 "JoinedLightModel" "s" "[I" ∈ wsX7_takesOut := List.mem_of_getElem? (i := 1) rfl
abbrev rm_X7_takesOut : Room := { frames := 0, cells := 0, slots := 0, locals := 0 }
set_option maxHeartbeats 4000000 in
set_option maxRecDepth 100000 in
theorem c_X7_takesOut (l : Launch) (dC : Nat → ClassId) (dI : Nat → Nat → Nat) (cI cC cO : ClassId) (qS : Nat) (aS : Nat → Nat) (gS : zG) (x1 : Int32) (R : zG) (hf : f_X7_takesOut gS x1 = some R) : cM l (dC, dI) (zT cI cC cO) yX7_takesOut wsX7_takesOut rm_X7_takesOut [.ref qS, .int x1] [(wX7 cI qS aS gS)] [(wX7 cI qS aS R)] none 0 0 := by
  refine zM_in (cc := cX7_takesOut) (maxL := 3) (ret := none) (plainFor_of_name (by decide)) rfl (Nat.le_of_ble_eq_true rfl) ?_
  intro p e s m below meth c hx hb hml hr hlk hown hts hK hN A hA hP hD hS ls hl
  have hl : lv_has ls 3 [(0, .ref qS), (1, .int x1)] := hl
  have w17 : ∀ (n17 : Nat) (y2 : Int32) (gS : zG) (H : Heap) (locs : List Loc) (ls : Array Slot), f_X7_takesOut_17   n17 y2 gS = some R → va_P (dC, dI) vwCl [(wX7 cI qS aS gS)].flatten H → va_D A [(wX7 cI qS aS gS)].flatten → va_S A s.heap H locs → lv_has ls 3 [(0, .ref qS), (2, .int y2)] → W p l e (headSpec wsX7_takesOut rm_X7_takesOut).room s m [.ref qS, .int x1].toArray below meth c H locs 0 0 (MQ below (zqM (dC, dI) none [(wX7 cI qS aS R)] A) [.ref qS, .int x1].toArray s 0 0 A) (F0 m 17 ls []) := by
    intro n17
    induction n17 with
    | zero =>
      intro y2 gS H locs ls hf hP hD hS hl
      have hf : (none : Option (zG)) = some R := hf
      cases hf
    | succ n17 ih17 =>
      intro y2 gS H locs ls hf hP hD hS hl
      have hf : f_X7_takesOut_17_b   (f_X7_takesOut_17   n17) y2 gS = some R := hf
      unfold f_X7_takesOut_17_b at hf
      refine lv_iload_n hx hb dX7_takesOut_17 rfl (lv_at hl 1 rfl) ?_
      refine lv_bipush (v := (19 : Int32)) hx hb dX7_takesOut_18 (by decide) ?_
      refine lv_iconst (v := (5 : Int32)) hx hb dX7_takesOut_20 (by decide) ?_
      refine lv_aload_n hx hb dX7_takesOut_21 rfl (lv_at hl 0 rfl) ?_
      refine va_get (D := (dC, dI)) (ci := 7) (v := .ref (aS 0)) (C := RX7) (T := TX7) (N := 21) hx hb hts u_X7_takesOut_X7 hown hK hP 0 rfl rfl 0 (by decide) (hts _ k_X7_takesOut_1) (fun _ h9 => h9) rfl dX7_takesOut_22 ?_
      refine lv_iconst (v := (1 : Int32)) hx hb dX7_takesOut_25 (by decide) ?_
      obtain ⟨h_3, hf⟩ := zin_ex hf
      refine va_iald hx hb hK hP 1 0 rfl rfl h_3 dX7_takesOut_26 ?_
      refine lv_imul hx hb dX7_takesOut_27 ?_
      refine lv_iadd hx hb dX7_takesOut_28 ?_
      refine lv_icmp_ge (tgt := 52) hx hb dX7_takesOut_29 (by decide) (fun c_4 => ?_) (fun c_4 => ?_)
      · have hf := zif_t hf c_4
        exact zM_vret (gs := [(wX7 cI qS aS gS)]) hx hb hr hP hD hS (by rw [← Option.some.inj hf]; exact ⟨rfl, rfl⟩) hlk dX7_takesOut_52
      · have hf := zif_f hf c_4
        refine lv_aload_n hx hb dX7_takesOut_32 rfl (lv_at hl 0 rfl) ?_
        refine va_get (D := (dC, dI)) (ci := 7) (v := .ref (aS 0)) (C := RX7) (T := TX7) (N := 21) hx hb hts u_X7_takesOut_X7 hown hK hP 0 rfl rfl 0 (by decide) (hts _ k_X7_takesOut_1) (fun _ h9 => h9) rfl dX7_takesOut_33 ?_
        refine lv_iload_n hx hb dX7_takesOut_36 rfl (lv_at hl 1 rfl) ?_
        refine lv_aload_n hx hb dX7_takesOut_37 rfl (lv_at hl 0 rfl) ?_
        refine va_get (D := (dC, dI)) (ci := 7) (v := .ref (aS 0)) (C := RX7) (T := TX7) (N := 21) hx hb hts u_X7_takesOut_X7 hown hK hP 0 rfl rfl 0 (by decide) (hts _ k_X7_takesOut_1) (fun _ h9 => h9) rfl dX7_takesOut_38 ?_
        refine lv_iload_n hx hb dX7_takesOut_41 rfl (lv_at hl 1 rfl) ?_
        refine lv_iconst (v := (5 : Int32)) hx hb dX7_takesOut_42 (by decide) ?_
        refine lv_iadd hx hb dX7_takesOut_43 ?_
        obtain ⟨h_5, hf⟩ := zin_ex hf
        refine va_iald hx hb hK hP 1 0 rfl rfl h_5 dX7_takesOut_44 ?_
        obtain ⟨h_6, hf⟩ := zin_ex hf
        obtain ⟨gS_6, e_6, hf⟩ := zlet_ex hf
        refine z_iast (gs' := [(wX7 cI qS aS gS_6)]) hx hb hK hP hD hS 1 0 rfl rfl h_6 (by rw [e_6]; rfl) dX7_takesOut_45 (fun H locs hP hD hS => ?_)
        refine lv_iinc (v := (y2 + (1 : Int32))) (lv' := [(2, .int (y2 + (1 : Int32))), (0, .ref qS)]) hx hb dX7_takesOut_46 hl (k := 1) rfl rfl (by decide) rfl (fun ls hl => ?_)
        refine lv_goto (tgt := 17) hx hb dX7_takesOut_49 (by decide) ?_
        exact ih17 (y2 + (1 : Int32)) gS_6 H locs ls hf hP hD hS (lv_sub hl [1, 0] rfl)
  unfold f_X7_takesOut at hf
  obtain ⟨H, hH⟩ : ∃ H, H = s.heap := ⟨_, rfl⟩
  obtain ⟨locs, hlocs⟩ : ∃ locs : List Loc, locs = [] := ⟨_, rfl⟩
  have hS : va_S A s.heap H locs := by rw [hH, hlocs]; exact hS
  rw [← hH] at hP
  refine zheap hH hlocs ?_
  refine lv_aload_n hx hb dX7_takesOut_0 rfl (lv_at hl 0 rfl) ?_
  refine va_get (D := (dC, dI)) (ci := 7) (v := .ref (aS 0)) (C := RX7) (T := TX7) (N := 21) hx hb hts u_X7_takesOut_X7 hown hK hP 0 rfl rfl 0 (by decide) (hts _ k_X7_takesOut_1) (fun _ h9 => h9) rfl dX7_takesOut_1 ?_
  refine lv_iconst (v := (1 : Int32)) hx hb dX7_takesOut_4 (by decide) ?_
  refine lv_dup2_11 hx hb dX7_takesOut_5 rfl rfl ?_
  obtain ⟨h_1, hf⟩ := zin_ex hf
  refine va_iald hx hb hK hP 1 0 rfl rfl h_1 dX7_takesOut_6 ?_
  refine lv_iconst (v := (1 : Int32)) hx hb dX7_takesOut_7 (by decide) ?_
  refine lv_isub hx hb dX7_takesOut_8 ?_
  obtain ⟨h_2, hf⟩ := zin_ex hf
  obtain ⟨gS_2, e_2, hf⟩ := zlet_ex hf
  refine z_iast (gs' := [(wX7 cI qS aS gS_2)]) hx hb hK hP hD hS 1 0 rfl rfl h_2 (by rw [e_2]; rfl) dX7_takesOut_9 (fun H locs hP hD hS => ?_)
  refine lv_bipush (v := (19 : Int32)) hx hb dX7_takesOut_10 (by decide) ?_
  refine lv_iconst (v := (5 : Int32)) hx hb dX7_takesOut_12 (by decide) ?_
  refine lv_iload_n hx hb dX7_takesOut_13 rfl (lv_at hl 1 rfl) ?_
  refine lv_imul hx hb dX7_takesOut_14 ?_
  refine lv_iadd hx hb dX7_takesOut_15 ?_
  refine lv_istore_n (lv' := [(2, .int ((19 : Int32) + ((5 : Int32) * x1))), (0, .ref qS), (1, .int x1)]) hx hb dX7_takesOut_16 rfl hl (by decide) rfl (fun ls hl => ?_)
  exact w17 zfuel ((19 : Int32) + ((5 : Int32) * x1)) gS_2 H locs ls hf hP hD hS (lv_sub hl [1, 0] rfl)

def f_X7_sets (gS : zG) (x1 : Int32) (x2 : Int32) (x3 : Int32) (x4 : Int32) (x5 : Int32) (x6 : Int32) : Option (zG) := (zin (((19 : Int32) + ((5 : Int32) * x1)) + (0 : Int32)) 59 (zlet (gup gS 0 (((19 : Int32) + ((5 : Int32) * x1)) + (0 : Int32)).toNatClampNeg x2) (fun gS_1 => (zin (((19 : Int32) + ((5 : Int32) * x1)) + (1 : Int32)) 59 (zlet (gup gS_1 0 (((19 : Int32) + ((5 : Int32) * x1)) + (1 : Int32)).toNatClampNeg x3) (fun gS_2 => (zin (((19 : Int32) + ((5 : Int32) * x1)) + (2 : Int32)) 59 (zlet (gup gS_2 0 (((19 : Int32) + ((5 : Int32) * x1)) + (2 : Int32)).toNatClampNeg x4) (fun gS_3 => (zin (((19 : Int32) + ((5 : Int32) * x1)) + (3 : Int32)) 59 (zlet (gup gS_3 0 (((19 : Int32) + ((5 : Int32) * x1)) + (3 : Int32)).toNatClampNeg x5) (fun gS_4 => (zin (((19 : Int32) + ((5 : Int32) * x1)) + (4 : Int32)) 59 (zlet (gup gS_4 0 (((19 : Int32) + ((5 : Int32) * x1)) + (4 : Int32)).toNatClampNeg x6) (fun gS_5 => (some (gS_5)))))))))))))))))
theorem u_X7_sets_X7 : ∀ w ∈ u_ws RX7 TX7 21, w ∈ wsX7_sets := fun w h => List.mem_cons_of_mem _ (List.mem_append_right _ h)
theorem k_X7_sets_1 : Cond.fieldLink RX7 7 "JoinedLightModel" "s" "[I" ∈ wsX7_sets := List.mem_of_getElem? (i := 1) rfl
abbrev rm_X7_sets : Room := { frames := 0, cells := 0, slots := 0, locals := 0 }
set_option maxHeartbeats 4000000 in
set_option maxRecDepth 100000 in
theorem c_X7_sets (l : Launch) (dC : Nat → ClassId) (dI : Nat → Nat → Nat) (cI cC cO : ClassId) (qS : Nat) (aS : Nat → Nat) (gS : zG) (x1 : Int32) (x2 : Int32) (x3 : Int32) (x4 : Int32) (x5 : Int32) (x6 : Int32) (R : zG) (hf : f_X7_sets gS x1 x2 x3 x4 x5 x6 = some R) : cM l (dC, dI) (zT cI cC cO) yX7_sets wsX7_sets rm_X7_sets [.ref qS, .int x1, .int x2, .int x3, .int x4, .int x5, .int x6] [(wX7 cI qS aS gS)] [(wX7 cI qS aS R)] none 0 0 := by
  refine zM_in (cc := cX7_sets) (maxL := 7) (ret := none) (plainFor_of_name (by decide)) rfl (Nat.le_of_ble_eq_true rfl) ?_
  intro p e s m below meth c hx hb hml hr hlk hown hts hK hN A hA hP hD hS ls hl
  have hl : lv_has ls 7 [(0, .ref qS), (1, .int x1), (2, .int x2), (3, .int x3), (4, .int x4), (5, .int x5), (6, .int x6)] := hl
  unfold f_X7_sets at hf
  obtain ⟨H, hH⟩ : ∃ H, H = s.heap := ⟨_, rfl⟩
  obtain ⟨locs, hlocs⟩ : ∃ locs : List Loc, locs = [] := ⟨_, rfl⟩
  have hS : va_S A s.heap H locs := by rw [hH, hlocs]; exact hS
  rw [← hH] at hP
  refine zheap hH hlocs ?_
  refine lv_aload_n hx hb dX7_sets_0 rfl (lv_at hl 0 rfl) ?_
  refine va_get (D := (dC, dI)) (ci := 7) (v := .ref (aS 0)) (C := RX7) (T := TX7) (N := 21) hx hb hts u_X7_sets_X7 hown hK hP 0 rfl rfl 0 (by decide) (hts _ k_X7_sets_1) (fun _ h9 => h9) rfl dX7_sets_1 ?_
  refine lv_bipush (v := (19 : Int32)) hx hb dX7_sets_4 (by decide) ?_
  refine lv_iconst (v := (5 : Int32)) hx hb dX7_sets_6 (by decide) ?_
  refine lv_iload_n hx hb dX7_sets_7 rfl (lv_at hl 1 rfl) ?_
  refine lv_imul hx hb dX7_sets_8 ?_
  refine lv_iadd hx hb dX7_sets_9 ?_
  refine lv_iconst (v := (0 : Int32)) hx hb dX7_sets_10 (by decide) ?_
  refine lv_iadd hx hb dX7_sets_11 ?_
  refine lv_iload_n hx hb dX7_sets_12 rfl (lv_at hl 2 rfl) ?_
  obtain ⟨h_1, hf⟩ := zin_ex hf
  obtain ⟨gS_1, e_1, hf⟩ := zlet_ex hf
  refine z_iast (gs' := [(wX7 cI qS aS gS_1)]) hx hb hK hP hD hS 1 0 rfl rfl h_1 (by rw [e_1]; rfl) dX7_sets_13 (fun H locs hP hD hS => ?_)
  refine lv_aload_n hx hb dX7_sets_14 rfl (lv_at hl 0 rfl) ?_
  refine va_get (D := (dC, dI)) (ci := 7) (v := .ref (aS 0)) (C := RX7) (T := TX7) (N := 21) hx hb hts u_X7_sets_X7 hown hK hP 0 rfl rfl 0 (by decide) (hts _ k_X7_sets_1) (fun _ h9 => h9) rfl dX7_sets_15 ?_
  refine lv_bipush (v := (19 : Int32)) hx hb dX7_sets_18 (by decide) ?_
  refine lv_iconst (v := (5 : Int32)) hx hb dX7_sets_20 (by decide) ?_
  refine lv_iload_n hx hb dX7_sets_21 rfl (lv_at hl 1 rfl) ?_
  refine lv_imul hx hb dX7_sets_22 ?_
  refine lv_iadd hx hb dX7_sets_23 ?_
  refine lv_iconst (v := (1 : Int32)) hx hb dX7_sets_24 (by decide) ?_
  refine lv_iadd hx hb dX7_sets_25 ?_
  refine lv_iload_n hx hb dX7_sets_26 rfl (lv_at hl 3 rfl) ?_
  obtain ⟨h_2, hf⟩ := zin_ex hf
  obtain ⟨gS_2, e_2, hf⟩ := zlet_ex hf
  refine z_iast (gs' := [(wX7 cI qS aS gS_2)]) hx hb hK hP hD hS 1 0 rfl rfl h_2 (by rw [e_2]; rfl) dX7_sets_27 (fun H locs hP hD hS => ?_)
  refine lv_aload_n hx hb dX7_sets_28 rfl (lv_at hl 0 rfl) ?_
  refine va_get (D := (dC, dI)) (ci := 7) (v := .ref (aS 0)) (C := RX7) (T := TX7) (N := 21) hx hb hts u_X7_sets_X7 hown hK hP 0 rfl rfl 0 (by decide) (hts _ k_X7_sets_1) (fun _ h9 => h9) rfl dX7_sets_29 ?_
  refine lv_bipush (v := (19 : Int32)) hx hb dX7_sets_32 (by decide) ?_
  refine lv_iconst (v := (5 : Int32)) hx hb dX7_sets_34 (by decide) ?_
  refine lv_iload_n hx hb dX7_sets_35 rfl (lv_at hl 1 rfl) ?_
  refine lv_imul hx hb dX7_sets_36 ?_
  refine lv_iadd hx hb dX7_sets_37 ?_
  refine lv_iconst (v := (2 : Int32)) hx hb dX7_sets_38 (by decide) ?_
  refine lv_iadd hx hb dX7_sets_39 ?_
  refine lv_iload hx hb dX7_sets_40 (lv_at hl 4 rfl) ?_
  obtain ⟨h_3, hf⟩ := zin_ex hf
  obtain ⟨gS_3, e_3, hf⟩ := zlet_ex hf
  refine z_iast (gs' := [(wX7 cI qS aS gS_3)]) hx hb hK hP hD hS 1 0 rfl rfl h_3 (by rw [e_3]; rfl) dX7_sets_42 (fun H locs hP hD hS => ?_)
  refine lv_aload_n hx hb dX7_sets_43 rfl (lv_at hl 0 rfl) ?_
  refine va_get (D := (dC, dI)) (ci := 7) (v := .ref (aS 0)) (C := RX7) (T := TX7) (N := 21) hx hb hts u_X7_sets_X7 hown hK hP 0 rfl rfl 0 (by decide) (hts _ k_X7_sets_1) (fun _ h9 => h9) rfl dX7_sets_44 ?_
  refine lv_bipush (v := (19 : Int32)) hx hb dX7_sets_47 (by decide) ?_
  refine lv_iconst (v := (5 : Int32)) hx hb dX7_sets_49 (by decide) ?_
  refine lv_iload_n hx hb dX7_sets_50 rfl (lv_at hl 1 rfl) ?_
  refine lv_imul hx hb dX7_sets_51 ?_
  refine lv_iadd hx hb dX7_sets_52 ?_
  refine lv_iconst (v := (3 : Int32)) hx hb dX7_sets_53 (by decide) ?_
  refine lv_iadd hx hb dX7_sets_54 ?_
  refine lv_iload hx hb dX7_sets_55 (lv_at hl 5 rfl) ?_
  obtain ⟨h_4, hf⟩ := zin_ex hf
  obtain ⟨gS_4, e_4, hf⟩ := zlet_ex hf
  refine z_iast (gs' := [(wX7 cI qS aS gS_4)]) hx hb hK hP hD hS 1 0 rfl rfl h_4 (by rw [e_4]; rfl) dX7_sets_57 (fun H locs hP hD hS => ?_)
  refine lv_aload_n hx hb dX7_sets_58 rfl (lv_at hl 0 rfl) ?_
  refine va_get (D := (dC, dI)) (ci := 7) (v := .ref (aS 0)) (C := RX7) (T := TX7) (N := 21) hx hb hts u_X7_sets_X7 hown hK hP 0 rfl rfl 0 (by decide) (hts _ k_X7_sets_1) (fun _ h9 => h9) rfl dX7_sets_59 ?_
  refine lv_bipush (v := (19 : Int32)) hx hb dX7_sets_62 (by decide) ?_
  refine lv_iconst (v := (5 : Int32)) hx hb dX7_sets_64 (by decide) ?_
  refine lv_iload_n hx hb dX7_sets_65 rfl (lv_at hl 1 rfl) ?_
  refine lv_imul hx hb dX7_sets_66 ?_
  refine lv_iadd hx hb dX7_sets_67 ?_
  refine lv_iconst (v := (4 : Int32)) hx hb dX7_sets_68 (by decide) ?_
  refine lv_iadd hx hb dX7_sets_69 ?_
  refine lv_iload hx hb dX7_sets_70 (lv_at hl 6 rfl) ?_
  obtain ⟨h_5, hf⟩ := zin_ex hf
  obtain ⟨gS_5, e_5, hf⟩ := zlet_ex hf
  refine z_iast (gs' := [(wX7 cI qS aS gS_5)]) hx hb hK hP hD hS 1 0 rfl rfl h_5 (by rw [e_5]; rfl) dX7_sets_72 (fun H locs hP hD hS => ?_)
  exact zM_vret (gs := [(wX7 cI qS aS gS_5)]) hx hb hr hP hD hS (by rw [← Option.some.inj hf]; exact ⟨rfl, rfl⟩) hlk dX7_sets_73

def f_X7_lays (gS : zG) (x1 : Int32) (x2 : Int32) (x3 : Int32) (x4 : Int32) (x5 : Int32) : Option (Int32 × zG) := (zbind (f_X7_at gS x1) (fun R1 => (if R1 < 0 then (zin (1 : Int32) 59 (if (gS 0 (1 : Int32).toNatClampNeg) = (8 : Int32) then (some ((-1000000003 : Int32), gS)) else (zbind (f_X7_changes gS) (fun R5 => (zbind (f_X7_opens R5 x1) (fun R6 => (zbind (f_X7_sets R6.2 R6.1 x1 x2 x3 x4 x5) (fun R7 => (zin (1 : Int32) 59 (some ((R7 0 (1 : Int32).toNatClampNeg), R7))))))))))) else (some ((-1000000002 : Int32), gS)))))
theorem u_X7_lays_X7 : ∀ w ∈ u_ws RX7 TX7 21, w ∈ wsX7_lays := fun w h => List.mem_cons_of_mem _ (List.mem_append_right _ h)
theorem k_X7_lays_2 : Cond.fieldLink RX7 7 "JoinedLightModel" "s" "[I" ∈ wsX7_lays := List.mem_of_getElem? (i := 2) rfl
theorem k_X7_lays_3 : Cond.constant RX7 52 (-1000000003) ∈ wsX7_lays := List.mem_of_getElem? (i := 3) rfl
theorem k_X7_lays_1 : Cond.constant RX7 67 (-1000000002) ∈ wsX7_lays := List.mem_of_getElem? (i := 1) rfl
abbrev rm_X7_lays : Room := { frames := 2, cells := 0, slots := 0, locals := 45 }
set_option maxHeartbeats 4000000 in
set_option maxRecDepth 100000 in
theorem c_X7_lays (l : Launch) (dC : Nat → ClassId) (dI : Nat → Nat → Nat) (cI cC cO : ClassId) (qS : Nat) (aS : Nat → Nat) (gS : zG) (x1 : Int32) (x2 : Int32) (x3 : Int32) (x4 : Int32) (x5 : Int32) (R : Int32 × zG) (hf : f_X7_lays gS x1 x2 x3 x4 x5 = some R) : cM l (dC, dI) (zT cI cC cO) yX7_lays wsX7_lays rm_X7_lays [.ref qS, .int x1, .int x2, .int x3, .int x4, .int x5] [(wX7 cI qS aS gS)] [(wX7 cI qS aS R.2)] (some (.int R.1)) 0 0 := by
  refine zM_in (cc := cX7_lays) (maxL := 6) (ret := (some .int)) (plainFor_of_name (by decide)) rfl (Nat.le_of_ble_eq_true rfl) ?_
  intro p e s m below meth c hx hb hml hr hlk hown hts hK hN A hA hP hD hS ls hl
  have hl : lv_has ls 6 [(0, .ref qS), (1, .int x1), (2, .int x2), (3, .int x3), (4, .int x4), (5, .int x5)] := hl
  unfold f_X7_lays at hf
  obtain ⟨H, hH⟩ : ∃ H, H = s.heap := ⟨_, rfl⟩
  obtain ⟨locs, hlocs⟩ : ∃ locs : List Loc, locs = [] := ⟨_, rfl⟩
  have hS : va_S A s.heap H locs := by rw [hH, hlocs]; exact hS
  rw [← hH] at hP
  refine zheap hH hlocs ?_
  refine lv_aload_n hx hb dX7_lays_0 rfl (lv_at hl 0 rfl) ?_
  refine lv_iload_n hx hb dX7_lays_1 rfl (lv_at hl 1 rfl) ?_
  obtain ⟨R1, e_1, hf⟩ := zbind_ex hf
  refine z_callRi (va_runV (As := [.int x1]) (rest := []) ⟨hx, hb, hml, hown, hts⟩ (c_X7_at l dC dI cI cC cO qS aS gS x1 R1 e_1) (cwV 1 hts gX7_lays_X7_at rfl rfl rfl (by decide +kernel) ⟨Nat.le_of_ble_eq_true rfl, Nat.le_of_ble_eq_true rfl⟩) ⟨zpR_blind, va_recv hK hP (ci := 7) (q0 := 0) rfl rfl, z_useR hK hN hP [0] rfl⟩ rfl rfl hl.1 rfl (lv_room (Nat.le_of_ble_eq_true rfl)) dX7_lays_2 ⟨Nat.le_of_ble_eq_true rfl, Nat.le_of_ble_eq_true rfl⟩) ?_
  refine lv_if_lt (tgt := 11) hx hb dX7_lays_5 (by decide) (fun c_2 => ?_) (fun c_2 => ?_)
  · have hf := zif_t hf c_2
    refine lv_aload_n hx hb dX7_lays_11 rfl (lv_at hl 0 rfl) ?_
    refine va_get (D := (dC, dI)) (ci := 7) (v := .ref (aS 0)) (C := RX7) (T := TX7) (N := 21) hx hb hts u_X7_lays_X7 hown hK hP 0 rfl rfl 0 (by decide) (hts _ k_X7_lays_2) (fun _ h9 => h9) rfl dX7_lays_12 ?_
    refine lv_iconst (v := (1 : Int32)) hx hb dX7_lays_15 (by decide) ?_
    obtain ⟨h_3, hf⟩ := zin_ex hf
    refine va_iald hx hb hK hP 1 0 rfl rfl h_3 dX7_lays_16 ?_
    refine lv_bipush (v := (8 : Int32)) hx hb dX7_lays_17 (by decide) ?_
    refine lv_icmp_ne (tgt := 25) hx hb dX7_lays_19 (by decide) (fun c_4 => ?_) (fun c_4 => ?_)
    · have hf := zif_f hf c_4
      refine lv_aload_n hx hb dX7_lays_25 rfl (lv_at hl 0 rfl) ?_
      obtain ⟨R5, e_5, hf⟩ := zbind_ex hf
      refine z_callM (gs2 := [(wX7 cI qS aS R5)]) hP hD hS hA [0] [] rfl rfl rfl (show List.Perm [0] (List.range 1) from by decide) rfl (va_runV (As := []) (rest := []) ⟨hx, hb, hml, hown, hts⟩ (c_X7_changes l dC dI cI cC cO qS aS gS  R5 e_5 H.size) (cwV 0 hts gX7_lays_X7_changes rfl rfl rfl (by decide +kernel) ⟨Nat.le_of_ble_eq_true rfl, Nat.le_of_ble_eq_true rfl⟩) ⟨zpM_blind, va_recv hK hP (ci := 7) (q0 := 0) rfl rfl, z_useM hK hN hP hD [0] [] rfl (show List.Perm [0] (List.range 1) from by decide)⟩ rfl rfl hl.1 rfl (lv_room (Nat.le_of_ble_eq_true rfl)) dX7_lays_26 ⟨Nat.le_of_ble_eq_true rfl, Nat.le_of_ble_eq_true rfl⟩) (fun H locs hP hD hS => ?_)
      refine W.eq (g2 := F0 m 29 ls []) rfl ?_
      refine lv_aload_n hx hb dX7_lays_29 rfl (lv_at hl 0 rfl) ?_
      refine lv_aload_n hx hb dX7_lays_30 rfl (lv_at hl 0 rfl) ?_
      refine lv_iload_n hx hb dX7_lays_31 rfl (lv_at hl 1 rfl) ?_
      obtain ⟨R6, e_6, hf⟩ := zbind_ex hf
      refine z_callM (gs2 := [(wX7 cI qS aS R6.2)]) hP hD hS hA [0] [] rfl rfl rfl (show List.Perm [0] (List.range 1) from by decide) rfl (va_runV (As := [.int x1]) (rest := [.ref qS]) ⟨hx, hb, hml, hown, hts⟩ (c_X7_opens l dC dI cI cC cO qS aS R5 x1 R6 e_6 H.size) (cwV 1 hts gX7_lays_X7_opens rfl rfl rfl (by decide +kernel) ⟨Nat.le_of_ble_eq_true rfl, Nat.le_of_ble_eq_true rfl⟩) ⟨zpM_blind, va_recv hK hP (ci := 7) (q0 := 0) rfl rfl, z_useM hK hN hP hD [0] [] rfl (show List.Perm [0] (List.range 1) from by decide)⟩ rfl rfl hl.1 rfl (lv_room (Nat.le_of_ble_eq_true rfl)) dX7_lays_32 ⟨Nat.le_of_ble_eq_true rfl, Nat.le_of_ble_eq_true rfl⟩) (fun H locs hP hD hS => ?_)
      refine W.eq (g2 := F0 m 35 ls [.int R6.1, .ref qS]) rfl ?_
      refine lv_iload_n hx hb dX7_lays_35 rfl (lv_at hl 1 rfl) ?_
      refine lv_iload_n hx hb dX7_lays_36 rfl (lv_at hl 2 rfl) ?_
      refine lv_iload_n hx hb dX7_lays_37 rfl (lv_at hl 3 rfl) ?_
      refine lv_iload hx hb dX7_lays_38 (lv_at hl 4 rfl) ?_
      refine lv_iload hx hb dX7_lays_40 (lv_at hl 5 rfl) ?_
      obtain ⟨R7, e_7, hf⟩ := zbind_ex hf
      refine z_callM (gs2 := [(wX7 cI qS aS R7)]) hP hD hS hA [0] [] rfl rfl rfl (show List.Perm [0] (List.range 1) from by decide) rfl (va_runV (As := [.int R6.1, .int x1, .int x2, .int x3, .int x4, .int x5]) (rest := []) ⟨hx, hb, hml, hown, hts⟩ (c_X7_sets l dC dI cI cC cO qS aS R6.2 R6.1 x1 x2 x3 x4 x5 R7 e_7 H.size) (cwV 6 hts gX7_lays_X7_sets rfl rfl rfl (by decide +kernel) ⟨Nat.le_of_ble_eq_true rfl, Nat.le_of_ble_eq_true rfl⟩) ⟨zpM_blind, va_recv hK hP (ci := 7) (q0 := 0) rfl rfl, z_useM hK hN hP hD [0] [] rfl (show List.Perm [0] (List.range 1) from by decide)⟩ rfl rfl hl.1 rfl (lv_room (Nat.le_of_ble_eq_true rfl)) dX7_lays_42 ⟨Nat.le_of_ble_eq_true rfl, Nat.le_of_ble_eq_true rfl⟩) (fun H locs hP hD hS => ?_)
      refine W.eq (g2 := F0 m 45 ls []) rfl ?_
      refine lv_aload_n hx hb dX7_lays_45 rfl (lv_at hl 0 rfl) ?_
      refine va_get (D := (dC, dI)) (ci := 7) (v := .ref (aS 0)) (C := RX7) (T := TX7) (N := 21) hx hb hts u_X7_lays_X7 hown hK hP 0 rfl rfl 0 (by decide) (hts _ k_X7_lays_2) (fun _ h9 => h9) rfl dX7_lays_46 ?_
      refine lv_iconst (v := (1 : Int32)) hx hb dX7_lays_49 (by decide) ?_
      obtain ⟨h_8, hf⟩ := zin_ex hf
      refine va_iald hx hb hK hP 1 0 rfl rfl h_8 dX7_lays_50 ?_
      exact zM_ret (gs := [(wX7 cI qS aS R7)]) hx hb hr rfl hP hD hS (by rw [← Option.some.inj hf]; exact ⟨rfl, rfl⟩) hlk dX7_lays_51
    · have hf := zif_t hf c_4
      refine lv_ldc (v := (-1000000003 : Int32)) hx hb hown (hts _ k_X7_lays_3) dX7_lays_22 ?_
      exact zM_ret (gs := [(wX7 cI qS aS gS)]) hx hb hr rfl hP hD hS (by rw [← Option.some.inj hf]; exact ⟨rfl, rfl⟩) hlk dX7_lays_24
  · have hf := zif_f hf c_2
    refine lv_ldc (v := (-1000000002 : Int32)) hx hb hown (hts _ k_X7_lays_1) dX7_lays_8 ?_
    exact zM_ret (gs := [(wX7 cI qS aS gS)]) hx hb hr rfl hP hD hS (by rw [← Option.some.inj hf]; exact ⟨rfl, rfl⟩) hlk dX7_lays_10

def f_X7_isPlace  (x0 : Int32) : Option (Int32) := (zbind (f_X7_in x0 (1 : Int32) (999 : Int32)) (fun R1 => (zbl R1 (some (R1)))))
abbrev rm_X7_isPlace : Room := { frames := 1, cells := 0, slots := 0, locals := 22 }
set_option maxHeartbeats 4000000 in
set_option maxRecDepth 100000 in
theorem c_X7_isPlace (l : Launch) (dC : Nat → ClassId) (dI : Nat → Nat → Nat) (cI cC cO : ClassId)  (x0 : Int32) (R : Int32) (hf : f_X7_isPlace x0 = some R) : cR l (dC, dI) (zT cI cC cO) yX7_isPlace wsX7_isPlace rm_X7_isPlace [.int x0] [] (some (.int R)) := by
  refine zR_in (cc := cX7_isPlace) (maxL := 1) (ret := (some .boolean)) (plainFor_of_name (by decide)) rfl (Nat.le_of_ble_eq_true rfl) ?_
  intro p e s m below meth c hx hb hml hr hlk hown hts hK hN hP ls hl
  have hl : lv_has ls 1 [(0, .int x0)] := hl
  unfold f_X7_isPlace at hf
  refine lv_iload_n hx hb dX7_isPlace_0 rfl (lv_at hl 0 rfl) ?_
  refine lv_iconst (v := (1 : Int32)) hx hb dX7_isPlace_1 (by decide) ?_
  refine lv_sipush (v := (999 : Int32)) hx hb dX7_isPlace_2 (by decide) ?_
  obtain ⟨R1, e_1, hf⟩ := zbind_ex hf
  refine z_callRi (va_runS (As := [.int x0, .int (1 : Int32), .int (999 : Int32)]) (rest := []) ⟨hx, hb, hml, hown, hts⟩ (c_X7_in l dC dI cI cC cO  x0 (1 : Int32) (999 : Int32) R1 e_1) (va_cwS 3 hts gX7_isPlace_X7_in rfl rfl rfl (by decide +kernel) ⟨Nat.le_of_ble_eq_true rfl, Nat.le_of_ble_eq_true rfl⟩) ⟨zpR_blind, z_useR hK hN hP [] rfl⟩ rfl rfl hl.1 rfl (lv_room (Nat.le_of_ble_eq_true rfl)) dX7_isPlace_5 ⟨Nat.le_of_ble_eq_true rfl, Nat.le_of_ble_eq_true rfl⟩) ?_
  obtain ⟨h_2, hf⟩ := zbl_ex hf
  exact zR_ret hx hb hr h_2 hf hlk dX7_isPlace_8

def f_X7_prism_41   (y1 : Int32) (y2 : Int32) (y3 : Int32) (y4 : Int32) (gS : zG) : Option (Int32 × zG) := (zbind (f_X7_lays gS y1 (0 : Int32) y2 y3 y4) (fun R9 => (some (R9.1, R9.2))))
def f_X7_prism (gS : zG) (x1 : Int32) (x2 : Int32) (x3 : Int32) (x4 : Int32) : Option (Int32 × zG) := (zbind (f_X7_isPlace x1) (fun R1 => (if R1 = 0 then (some ((-1000000001 : Int32), gS)) else (zbind (f_X7_in x2 (0 : Int32) (1 : Int32)) (fun R3 => (if R3 = 0 then (some ((-1000000001 : Int32), gS)) else (zbind (f_X7_in x3 (1 : Int32) (99 : Int32)) (fun R5 => (if R5 = 0 then (some ((-1000000001 : Int32), gS)) else (if x4 = (1 : Int32) then (f_X7_prism_41    x1 x2 x3 x4 gS) else (if x4 = (-1 : Int32) then (f_X7_prism_41    x1 x2 x3 x4 gS) else (some ((-1000000001 : Int32), gS)))))))))))))
theorem k_X7_prism_1 : Cond.constant RX7 51 (-1000000001) ∈ wsX7_prism := List.mem_of_getElem? (i := 1) rfl
abbrev rm_X7_prism : Room := { frames := 3, cells := 0, slots := 0, locals := 70 }
set_option maxHeartbeats 4000000 in
set_option maxRecDepth 100000 in
theorem c_X7_prism (l : Launch) (dC : Nat → ClassId) (dI : Nat → Nat → Nat) (cI cC cO : ClassId) (qS : Nat) (aS : Nat → Nat) (gS : zG) (x1 : Int32) (x2 : Int32) (x3 : Int32) (x4 : Int32) (R : Int32 × zG) (hf : f_X7_prism gS x1 x2 x3 x4 = some R) : cM l (dC, dI) (zT cI cC cO) yX7_prism wsX7_prism rm_X7_prism [.ref qS, .int x1, .int x2, .int x3, .int x4] [(wX7 cI qS aS gS)] [(wX7 cI qS aS R.2)] (some (.int R.1)) 0 0 := by
  refine zM_in (cc := cX7_prism) (maxL := 5) (ret := (some .int)) (plainFor_of_name (by decide)) rfl (Nat.le_of_ble_eq_true rfl) ?_
  intro p e s m below meth c hx hb hml hr hlk hown hts hK hN A hA hP hD hS ls hl
  have hl : lv_has ls 5 [(0, .ref qS), (1, .int x1), (2, .int x2), (3, .int x3), (4, .int x4)] := hl
  have w41 : ∀ (y1 : Int32) (y2 : Int32) (y3 : Int32) (y4 : Int32) (gS : zG) (H : Heap) (locs : List Loc) (ls : Array Slot), f_X7_prism_41    y1 y2 y3 y4 gS = some R → va_P (dC, dI) vwCl [(wX7 cI qS aS gS)].flatten H → va_D A [(wX7 cI qS aS gS)].flatten → va_S A s.heap H locs → lv_has ls 5 [(0, .ref qS), (1, .int y1), (2, .int y2), (3, .int y3), (4, .int y4)] → W p l e (headSpec wsX7_prism rm_X7_prism).room s m [.ref qS, .int x1, .int x2, .int x3, .int x4].toArray below meth c H locs 0 0 (MQ below (zqM (dC, dI) (some (.int R.1)) [(wX7 cI qS aS R.2)] A) [.ref qS, .int x1, .int x2, .int x3, .int x4].toArray s 0 0 A) (F0 m 41 ls []) := by
    intro y1 y2 y3 y4 gS H locs ls hf hP hD hS hl
    unfold f_X7_prism_41 at hf
    refine lv_aload_n hx hb dX7_prism_41 rfl (lv_at hl 0 rfl) ?_
    refine lv_iload_n hx hb dX7_prism_42 rfl (lv_at hl 1 rfl) ?_
    refine lv_iconst (v := (0 : Int32)) hx hb dX7_prism_43 (by decide) ?_
    refine lv_iload_n hx hb dX7_prism_44 rfl (lv_at hl 2 rfl) ?_
    refine lv_iload_n hx hb dX7_prism_45 rfl (lv_at hl 3 rfl) ?_
    refine lv_iload hx hb dX7_prism_46 (lv_at hl 4 rfl) ?_
    obtain ⟨R9, e_9, hf⟩ := zbind_ex hf
    refine z_callM (gs2 := [(wX7 cI qS aS R9.2)]) hP hD hS hA [0] [] rfl rfl rfl (show List.Perm [0] (List.range 1) from by decide) rfl (va_runV (As := [.int y1, .int (0 : Int32), .int y2, .int y3, .int y4]) (rest := []) ⟨hx, hb, hml, hown, hts⟩ (c_X7_lays l dC dI cI cC cO qS aS gS y1 (0 : Int32) y2 y3 y4 R9 e_9 H.size) (cwV 5 hts gX7_prism_X7_lays rfl rfl rfl (by decide +kernel) ⟨Nat.le_of_ble_eq_true rfl, Nat.le_of_ble_eq_true rfl⟩) ⟨zpM_blind, va_recv hK hP (ci := 7) (q0 := 0) rfl rfl, z_useM hK hN hP hD [0] [] rfl (show List.Perm [0] (List.range 1) from by decide)⟩ rfl rfl hl.1 rfl (lv_room (Nat.le_of_ble_eq_true rfl)) dX7_prism_48 ⟨Nat.le_of_ble_eq_true rfl, Nat.le_of_ble_eq_true rfl⟩) (fun H locs hP hD hS => ?_)
    refine W.eq (g2 := F0 m 51 ls [.int R9.1]) rfl ?_
    exact zM_ret (gs := [(wX7 cI qS aS R9.2)]) hx hb hr rfl hP hD hS (by rw [← Option.some.inj hf]; exact ⟨rfl, rfl⟩) hlk dX7_prism_51
  unfold f_X7_prism at hf
  obtain ⟨H, hH⟩ : ∃ H, H = s.heap := ⟨_, rfl⟩
  obtain ⟨locs, hlocs⟩ : ∃ locs : List Loc, locs = [] := ⟨_, rfl⟩
  have hS : va_S A s.heap H locs := by rw [hH, hlocs]; exact hS
  rw [← hH] at hP
  refine zheap hH hlocs ?_
  refine lv_iload_n hx hb dX7_prism_0 rfl (lv_at hl 1 rfl) ?_
  obtain ⟨R1, e_1, hf⟩ := zbind_ex hf
  refine z_callRi (va_runS (As := [.int x1]) (rest := []) ⟨hx, hb, hml, hown, hts⟩ (c_X7_isPlace l dC dI cI cC cO  x1 R1 e_1) (va_cwS 1 hts gX7_prism_X7_isPlace rfl rfl rfl (by decide +kernel) ⟨Nat.le_of_ble_eq_true rfl, Nat.le_of_ble_eq_true rfl⟩) ⟨zpR_blind, z_useR hK hN hP [] rfl⟩ rfl rfl hl.1 rfl (lv_room (Nat.le_of_ble_eq_true rfl)) dX7_prism_1 ⟨Nat.le_of_ble_eq_true rfl, Nat.le_of_ble_eq_true rfl⟩) ?_
  refine lv_if_eq (tgt := 38) hx hb dX7_prism_4 (by decide) (fun c_2 => ?_) (fun c_2 => ?_)
  · have hf := zif_t hf c_2
    refine lv_ldc (v := (-1000000001 : Int32)) hx hb hown (hts _ k_X7_prism_1) dX7_prism_38 ?_
    exact zM_ret (gs := [(wX7 cI qS aS gS)]) hx hb hr rfl hP hD hS (by rw [← Option.some.inj hf]; exact ⟨rfl, rfl⟩) hlk dX7_prism_40
  · have hf := zif_f hf c_2
    refine lv_iload_n hx hb dX7_prism_7 rfl (lv_at hl 2 rfl) ?_
    refine lv_iconst (v := (0 : Int32)) hx hb dX7_prism_8 (by decide) ?_
    refine lv_iconst (v := (1 : Int32)) hx hb dX7_prism_9 (by decide) ?_
    obtain ⟨R3, e_3, hf⟩ := zbind_ex hf
    refine z_callRi (va_runS (As := [.int x2, .int (0 : Int32), .int (1 : Int32)]) (rest := []) ⟨hx, hb, hml, hown, hts⟩ (c_X7_in l dC dI cI cC cO  x2 (0 : Int32) (1 : Int32) R3 e_3) (va_cwS 3 hts gX7_prism_X7_in rfl rfl rfl (by decide +kernel) ⟨Nat.le_of_ble_eq_true rfl, Nat.le_of_ble_eq_true rfl⟩) ⟨zpR_blind, z_useR hK hN hP [] rfl⟩ rfl rfl hl.1 rfl (lv_room (Nat.le_of_ble_eq_true rfl)) dX7_prism_10 ⟨Nat.le_of_ble_eq_true rfl, Nat.le_of_ble_eq_true rfl⟩) ?_
    refine lv_if_eq (tgt := 38) hx hb dX7_prism_13 (by decide) (fun c_4 => ?_) (fun c_4 => ?_)
    · have hf := zif_t hf c_4
      refine lv_ldc (v := (-1000000001 : Int32)) hx hb hown (hts _ k_X7_prism_1) dX7_prism_38 ?_
      exact zM_ret (gs := [(wX7 cI qS aS gS)]) hx hb hr rfl hP hD hS (by rw [← Option.some.inj hf]; exact ⟨rfl, rfl⟩) hlk dX7_prism_40
    · have hf := zif_f hf c_4
      refine lv_iload_n hx hb dX7_prism_16 rfl (lv_at hl 3 rfl) ?_
      refine lv_iconst (v := (1 : Int32)) hx hb dX7_prism_17 (by decide) ?_
      refine lv_bipush (v := (99 : Int32)) hx hb dX7_prism_18 (by decide) ?_
      obtain ⟨R5, e_5, hf⟩ := zbind_ex hf
      refine z_callRi (va_runS (As := [.int x3, .int (1 : Int32), .int (99 : Int32)]) (rest := []) ⟨hx, hb, hml, hown, hts⟩ (c_X7_in l dC dI cI cC cO  x3 (1 : Int32) (99 : Int32) R5 e_5) (va_cwS 3 hts gX7_prism_X7_in rfl rfl rfl (by decide +kernel) ⟨Nat.le_of_ble_eq_true rfl, Nat.le_of_ble_eq_true rfl⟩) ⟨zpR_blind, z_useR hK hN hP [] rfl⟩ rfl rfl hl.1 rfl (lv_room (Nat.le_of_ble_eq_true rfl)) dX7_prism_20 ⟨Nat.le_of_ble_eq_true rfl, Nat.le_of_ble_eq_true rfl⟩) ?_
      refine lv_if_eq (tgt := 38) hx hb dX7_prism_23 (by decide) (fun c_6 => ?_) (fun c_6 => ?_)
      · have hf := zif_t hf c_6
        refine lv_ldc (v := (-1000000001 : Int32)) hx hb hown (hts _ k_X7_prism_1) dX7_prism_38 ?_
        exact zM_ret (gs := [(wX7 cI qS aS gS)]) hx hb hr rfl hP hD hS (by rw [← Option.some.inj hf]; exact ⟨rfl, rfl⟩) hlk dX7_prism_40
      · have hf := zif_f hf c_6
        refine lv_iload hx hb dX7_prism_26 (lv_at hl 4 rfl) ?_
        refine lv_iconst (v := (1 : Int32)) hx hb dX7_prism_28 (by decide) ?_
        refine lv_icmp_eq (tgt := 41) hx hb dX7_prism_29 (by decide) (fun c_7 => ?_) (fun c_7 => ?_)
        · have hf := zif_t hf c_7
          exact w41  x1 x2 x3 x4 gS H locs ls hf hP hD hS (lv_sub hl [0, 1, 2, 3, 4] rfl)
        · have hf := zif_f hf c_7
          refine lv_iload hx hb dX7_prism_32 (lv_at hl 4 rfl) ?_
          refine lv_iconst (v := (-1 : Int32)) hx hb dX7_prism_34 (by decide) ?_
          refine lv_icmp_eq (tgt := 41) hx hb dX7_prism_35 (by decide) (fun c_8 => ?_) (fun c_8 => ?_)
          · have hf := zif_t hf c_8
            exact w41  x1 x2 x3 x4 gS H locs ls hf hP hD hS (lv_sub hl [0, 1, 2, 3, 4] rfl)
          · have hf := zif_f hf c_8
            refine lv_ldc (v := (-1000000001 : Int32)) hx hb hown (hts _ k_X7_prism_1) dX7_prism_38 ?_
            exact zM_ret (gs := [(wX7 cI qS aS gS)]) hx hb hr rfl hP hD hS (by rw [← Option.some.inj hf]; exact ⟨rfl, rfl⟩) hlk dX7_prism_40

def f_X7_slit (gS : zG) (x1 : Int32) (x2 : Int32) (x3 : Int32) : Option (Int32 × zG) := (zbind (f_X7_isPlace x1) (fun R1 => (if R1 = 0 then (some ((-1000000001 : Int32), gS)) else (zbind (f_X7_in x2 (-9999 : Int32) (9999 : Int32)) (fun R3 => (if R3 = 0 then (some ((-1000000001 : Int32), gS)) else (zbind (f_X7_in x3 x2 (9999 : Int32)) (fun R5 => (if R5 = 0 then (some ((-1000000001 : Int32), gS)) else (zbind (f_X7_lays gS x1 (1 : Int32) x2 x3 (0 : Int32)) (fun R7 => (some (R7.1, R7.2)))))))))))))
theorem k_X7_slit_1 : Cond.constant RX7 51 (-1000000001) ∈ wsX7_slit := List.mem_of_getElem? (i := 1) rfl
abbrev rm_X7_slit : Room := { frames := 3, cells := 0, slots := 0, locals := 70 }
set_option maxHeartbeats 4000000 in
set_option maxRecDepth 100000 in
theorem c_X7_slit (l : Launch) (dC : Nat → ClassId) (dI : Nat → Nat → Nat) (cI cC cO : ClassId) (qS : Nat) (aS : Nat → Nat) (gS : zG) (x1 : Int32) (x2 : Int32) (x3 : Int32) (R : Int32 × zG) (hf : f_X7_slit gS x1 x2 x3 = some R) : cM l (dC, dI) (zT cI cC cO) yX7_slit wsX7_slit rm_X7_slit [.ref qS, .int x1, .int x2, .int x3] [(wX7 cI qS aS gS)] [(wX7 cI qS aS R.2)] (some (.int R.1)) 0 0 := by
  refine zM_in (cc := cX7_slit) (maxL := 4) (ret := (some .int)) (plainFor_of_name (by decide)) rfl (Nat.le_of_ble_eq_true rfl) ?_
  intro p e s m below meth c hx hb hml hr hlk hown hts hK hN A hA hP hD hS ls hl
  have hl : lv_has ls 4 [(0, .ref qS), (1, .int x1), (2, .int x2), (3, .int x3)] := hl
  unfold f_X7_slit at hf
  obtain ⟨H, hH⟩ : ∃ H, H = s.heap := ⟨_, rfl⟩
  obtain ⟨locs, hlocs⟩ : ∃ locs : List Loc, locs = [] := ⟨_, rfl⟩
  have hS : va_S A s.heap H locs := by rw [hH, hlocs]; exact hS
  rw [← hH] at hP
  refine zheap hH hlocs ?_
  refine lv_iload_n hx hb dX7_slit_0 rfl (lv_at hl 1 rfl) ?_
  obtain ⟨R1, e_1, hf⟩ := zbind_ex hf
  refine z_callRi (va_runS (As := [.int x1]) (rest := []) ⟨hx, hb, hml, hown, hts⟩ (c_X7_isPlace l dC dI cI cC cO  x1 R1 e_1) (va_cwS 1 hts gX7_slit_X7_isPlace rfl rfl rfl (by decide +kernel) ⟨Nat.le_of_ble_eq_true rfl, Nat.le_of_ble_eq_true rfl⟩) ⟨zpR_blind, z_useR hK hN hP [] rfl⟩ rfl rfl hl.1 rfl (lv_room (Nat.le_of_ble_eq_true rfl)) dX7_slit_1 ⟨Nat.le_of_ble_eq_true rfl, Nat.le_of_ble_eq_true rfl⟩) ?_
  refine lv_if_eq (tgt := 31) hx hb dX7_slit_4 (by decide) (fun c_2 => ?_) (fun c_2 => ?_)
  · have hf := zif_t hf c_2
    refine lv_ldc (v := (-1000000001 : Int32)) hx hb hown (hts _ k_X7_slit_1) dX7_slit_31 ?_
    exact zM_ret (gs := [(wX7 cI qS aS gS)]) hx hb hr rfl hP hD hS (by rw [← Option.some.inj hf]; exact ⟨rfl, rfl⟩) hlk dX7_slit_33
  · have hf := zif_f hf c_2
    refine lv_iload_n hx hb dX7_slit_7 rfl (lv_at hl 2 rfl) ?_
    refine lv_sipush (v := (-9999 : Int32)) hx hb dX7_slit_8 (by decide) ?_
    refine lv_sipush (v := (9999 : Int32)) hx hb dX7_slit_11 (by decide) ?_
    obtain ⟨R3, e_3, hf⟩ := zbind_ex hf
    refine z_callRi (va_runS (As := [.int x2, .int (-9999 : Int32), .int (9999 : Int32)]) (rest := []) ⟨hx, hb, hml, hown, hts⟩ (c_X7_in l dC dI cI cC cO  x2 (-9999 : Int32) (9999 : Int32) R3 e_3) (va_cwS 3 hts gX7_slit_X7_in rfl rfl rfl (by decide +kernel) ⟨Nat.le_of_ble_eq_true rfl, Nat.le_of_ble_eq_true rfl⟩) ⟨zpR_blind, z_useR hK hN hP [] rfl⟩ rfl rfl hl.1 rfl (lv_room (Nat.le_of_ble_eq_true rfl)) dX7_slit_14 ⟨Nat.le_of_ble_eq_true rfl, Nat.le_of_ble_eq_true rfl⟩) ?_
    refine lv_if_eq (tgt := 31) hx hb dX7_slit_17 (by decide) (fun c_4 => ?_) (fun c_4 => ?_)
    · have hf := zif_t hf c_4
      refine lv_ldc (v := (-1000000001 : Int32)) hx hb hown (hts _ k_X7_slit_1) dX7_slit_31 ?_
      exact zM_ret (gs := [(wX7 cI qS aS gS)]) hx hb hr rfl hP hD hS (by rw [← Option.some.inj hf]; exact ⟨rfl, rfl⟩) hlk dX7_slit_33
    · have hf := zif_f hf c_4
      refine lv_iload_n hx hb dX7_slit_20 rfl (lv_at hl 3 rfl) ?_
      refine lv_iload_n hx hb dX7_slit_21 rfl (lv_at hl 2 rfl) ?_
      refine lv_sipush (v := (9999 : Int32)) hx hb dX7_slit_22 (by decide) ?_
      obtain ⟨R5, e_5, hf⟩ := zbind_ex hf
      refine z_callRi (va_runS (As := [.int x3, .int x2, .int (9999 : Int32)]) (rest := []) ⟨hx, hb, hml, hown, hts⟩ (c_X7_in l dC dI cI cC cO  x3 x2 (9999 : Int32) R5 e_5) (va_cwS 3 hts gX7_slit_X7_in rfl rfl rfl (by decide +kernel) ⟨Nat.le_of_ble_eq_true rfl, Nat.le_of_ble_eq_true rfl⟩) ⟨zpR_blind, z_useR hK hN hP [] rfl⟩ rfl rfl hl.1 rfl (lv_room (Nat.le_of_ble_eq_true rfl)) dX7_slit_25 ⟨Nat.le_of_ble_eq_true rfl, Nat.le_of_ble_eq_true rfl⟩) ?_
      refine lv_if_ne (tgt := 34) hx hb dX7_slit_28 (by decide) (fun c_6 => ?_) (fun c_6 => ?_)
      · have hf := zif_f hf c_6
        refine lv_aload_n hx hb dX7_slit_34 rfl (lv_at hl 0 rfl) ?_
        refine lv_iload_n hx hb dX7_slit_35 rfl (lv_at hl 1 rfl) ?_
        refine lv_iconst (v := (1 : Int32)) hx hb dX7_slit_36 (by decide) ?_
        refine lv_iload_n hx hb dX7_slit_37 rfl (lv_at hl 2 rfl) ?_
        refine lv_iload_n hx hb dX7_slit_38 rfl (lv_at hl 3 rfl) ?_
        refine lv_iconst (v := (0 : Int32)) hx hb dX7_slit_39 (by decide) ?_
        obtain ⟨R7, e_7, hf⟩ := zbind_ex hf
        refine z_callM (gs2 := [(wX7 cI qS aS R7.2)]) hP hD hS hA [0] [] rfl rfl rfl (show List.Perm [0] (List.range 1) from by decide) rfl (va_runV (As := [.int x1, .int (1 : Int32), .int x2, .int x3, .int (0 : Int32)]) (rest := []) ⟨hx, hb, hml, hown, hts⟩ (c_X7_lays l dC dI cI cC cO qS aS gS x1 (1 : Int32) x2 x3 (0 : Int32) R7 e_7 H.size) (cwV 5 hts gX7_slit_X7_lays rfl rfl rfl (by decide +kernel) ⟨Nat.le_of_ble_eq_true rfl, Nat.le_of_ble_eq_true rfl⟩) ⟨zpM_blind, va_recv hK hP (ci := 7) (q0 := 0) rfl rfl, z_useM hK hN hP hD [0] [] rfl (show List.Perm [0] (List.range 1) from by decide)⟩ rfl rfl hl.1 rfl (lv_room (Nat.le_of_ble_eq_true rfl)) dX7_slit_40 ⟨Nat.le_of_ble_eq_true rfl, Nat.le_of_ble_eq_true rfl⟩) (fun H locs hP hD hS => ?_)
        refine W.eq (g2 := F0 m 43 ls [.int R7.1]) rfl ?_
        exact zM_ret (gs := [(wX7 cI qS aS R7.2)]) hx hb hr rfl hP hD hS (by rw [← Option.some.inj hf]; exact ⟨rfl, rfl⟩) hlk dX7_slit_43
      · have hf := zif_t hf c_6
        refine lv_ldc (v := (-1000000001 : Int32)) hx hb hown (hts _ k_X7_slit_1) dX7_slit_31 ?_
        exact zM_ret (gs := [(wX7 cI qS aS gS)]) hx hb hr rfl hP hD hS (by rw [← Option.some.inj hf]; exact ⟨rfl, rfl⟩) hlk dX7_slit_33

def f_X7_take (gS : zG) (x1 : Int32) : Option (Int32 × zG) := (zbind (f_X7_at gS x1) (fun R1 => (if 0 ≤ R1 then (zbind (f_X7_changes gS) (fun R3 => (zbind (f_X7_takesOut R3 R1) (fun R4 => (zin (1 : Int32) 59 (some ((R4 0 (1 : Int32).toNatClampNeg), R4))))))) else (some ((-1000000001 : Int32), gS)))))
theorem u_X7_take_X7 : ∀ w ∈ u_ws RX7 TX7 21, w ∈ wsX7_take := fun w h => List.mem_cons_of_mem _ (List.mem_append_right _ h)
theorem k_X7_take_2 : Cond.fieldLink RX7 7 "JoinedLightModel" "s" "[I" ∈ wsX7_take := List.mem_of_getElem? (i := 2) rfl
theorem k_X7_take_1 : Cond.constant RX7 51 (-1000000001) ∈ wsX7_take := List.mem_of_getElem? (i := 1) rfl
abbrev rm_X7_take : Room := { frames := 2, cells := 0, slots := 0, locals := 44 }
set_option maxHeartbeats 4000000 in
set_option maxRecDepth 100000 in
theorem c_X7_take (l : Launch) (dC : Nat → ClassId) (dI : Nat → Nat → Nat) (cI cC cO : ClassId) (qS : Nat) (aS : Nat → Nat) (gS : zG) (x1 : Int32) (R : Int32 × zG) (hf : f_X7_take gS x1 = some R) : cM l (dC, dI) (zT cI cC cO) yX7_take wsX7_take rm_X7_take [.ref qS, .int x1] [(wX7 cI qS aS gS)] [(wX7 cI qS aS R.2)] (some (.int R.1)) 0 0 := by
  refine zM_in (cc := cX7_take) (maxL := 3) (ret := (some .int)) (plainFor_of_name (by decide)) rfl (Nat.le_of_ble_eq_true rfl) ?_
  intro p e s m below meth c hx hb hml hr hlk hown hts hK hN A hA hP hD hS ls hl
  have hl : lv_has ls 3 [(0, .ref qS), (1, .int x1)] := hl
  unfold f_X7_take at hf
  obtain ⟨H, hH⟩ : ∃ H, H = s.heap := ⟨_, rfl⟩
  obtain ⟨locs, hlocs⟩ : ∃ locs : List Loc, locs = [] := ⟨_, rfl⟩
  have hS : va_S A s.heap H locs := by rw [hH, hlocs]; exact hS
  rw [← hH] at hP
  refine zheap hH hlocs ?_
  refine lv_aload_n hx hb dX7_take_0 rfl (lv_at hl 0 rfl) ?_
  refine lv_iload_n hx hb dX7_take_1 rfl (lv_at hl 1 rfl) ?_
  obtain ⟨R1, e_1, hf⟩ := zbind_ex hf
  refine z_callRi (va_runV (As := [.int x1]) (rest := []) ⟨hx, hb, hml, hown, hts⟩ (c_X7_at l dC dI cI cC cO qS aS gS x1 R1 e_1) (cwV 1 hts gX7_take_X7_at rfl rfl rfl (by decide +kernel) ⟨Nat.le_of_ble_eq_true rfl, Nat.le_of_ble_eq_true rfl⟩) ⟨zpR_blind, va_recv hK hP (ci := 7) (q0 := 0) rfl rfl, z_useR hK hN hP [0] rfl⟩ rfl rfl hl.1 rfl (lv_room (Nat.le_of_ble_eq_true rfl)) dX7_take_2 ⟨Nat.le_of_ble_eq_true rfl, Nat.le_of_ble_eq_true rfl⟩) ?_
  refine lv_istore_n (lv' := [(2, .int R1), (0, .ref qS), (1, .int x1)]) hx hb dX7_take_5 rfl hl (by decide) rfl (fun ls hl => ?_)
  refine lv_iload_n hx hb dX7_take_6 rfl (lv_at hl 0 rfl) ?_
  refine lv_if_ge (tgt := 13) hx hb dX7_take_7 (by decide) (fun c_2 => ?_) (fun c_2 => ?_)
  · have hf := zif_t hf c_2
    refine lv_aload_n hx hb dX7_take_13 rfl (lv_at hl 1 rfl) ?_
    obtain ⟨R3, e_3, hf⟩ := zbind_ex hf
    refine z_callM (gs2 := [(wX7 cI qS aS R3)]) hP hD hS hA [0] [] rfl rfl rfl (show List.Perm [0] (List.range 1) from by decide) rfl (va_runV (As := []) (rest := []) ⟨hx, hb, hml, hown, hts⟩ (c_X7_changes l dC dI cI cC cO qS aS gS  R3 e_3 H.size) (cwV 0 hts gX7_take_X7_changes rfl rfl rfl (by decide +kernel) ⟨Nat.le_of_ble_eq_true rfl, Nat.le_of_ble_eq_true rfl⟩) ⟨zpM_blind, va_recv hK hP (ci := 7) (q0 := 0) rfl rfl, z_useM hK hN hP hD [0] [] rfl (show List.Perm [0] (List.range 1) from by decide)⟩ rfl rfl hl.1 rfl (lv_room (Nat.le_of_ble_eq_true rfl)) dX7_take_14 ⟨Nat.le_of_ble_eq_true rfl, Nat.le_of_ble_eq_true rfl⟩) (fun H locs hP hD hS => ?_)
    refine W.eq (g2 := F0 m 17 ls []) rfl ?_
    refine lv_aload_n hx hb dX7_take_17 rfl (lv_at hl 1 rfl) ?_
    refine lv_iload_n hx hb dX7_take_18 rfl (lv_at hl 0 rfl) ?_
    obtain ⟨R4, e_4, hf⟩ := zbind_ex hf
    refine z_callM (gs2 := [(wX7 cI qS aS R4)]) hP hD hS hA [0] [] rfl rfl rfl (show List.Perm [0] (List.range 1) from by decide) rfl (va_runV (As := [.int R1]) (rest := []) ⟨hx, hb, hml, hown, hts⟩ (c_X7_takesOut l dC dI cI cC cO qS aS R3 R1 R4 e_4 H.size) (cwV 1 hts gX7_take_X7_takesOut rfl rfl rfl (by decide +kernel) ⟨Nat.le_of_ble_eq_true rfl, Nat.le_of_ble_eq_true rfl⟩) ⟨zpM_blind, va_recv hK hP (ci := 7) (q0 := 0) rfl rfl, z_useM hK hN hP hD [0] [] rfl (show List.Perm [0] (List.range 1) from by decide)⟩ rfl rfl hl.1 rfl (lv_room (Nat.le_of_ble_eq_true rfl)) dX7_take_19 ⟨Nat.le_of_ble_eq_true rfl, Nat.le_of_ble_eq_true rfl⟩) (fun H locs hP hD hS => ?_)
    refine W.eq (g2 := F0 m 22 ls []) rfl ?_
    refine lv_aload_n hx hb dX7_take_22 rfl (lv_at hl 1 rfl) ?_
    refine va_get (D := (dC, dI)) (ci := 7) (v := .ref (aS 0)) (C := RX7) (T := TX7) (N := 21) hx hb hts u_X7_take_X7 hown hK hP 0 rfl rfl 0 (by decide) (hts _ k_X7_take_2) (fun _ h9 => h9) rfl dX7_take_23 ?_
    refine lv_iconst (v := (1 : Int32)) hx hb dX7_take_26 (by decide) ?_
    obtain ⟨h_5, hf⟩ := zin_ex hf
    refine va_iald hx hb hK hP 1 0 rfl rfl h_5 dX7_take_27 ?_
    exact zM_ret (gs := [(wX7 cI qS aS R4)]) hx hb hr rfl hP hD hS (by rw [← Option.some.inj hf]; exact ⟨rfl, rfl⟩) hlk dX7_take_28
  · have hf := zif_f hf c_2
    refine lv_ldc (v := (-1000000001 : Int32)) hx hb hown (hts _ k_X7_take_1) dX7_take_10 ?_
    exact zM_ret (gs := [(wX7 cI qS aS gS)]) hx hb hr rfl hP hD hS (by rw [← Option.some.inj hf]; exact ⟨rfl, rfl⟩) hlk dX7_take_12

def f_X7_moves (gS : zG) (x1 : Int32) (x2 : Int32) : Option (Int32 × zG) := (zbind (f_X7_of gS x1 (1 : Int32)) (fun R1 => (zbind (f_X7_of gS x1 (2 : Int32)) (fun R2 => (zbind (f_X7_of gS x1 (3 : Int32)) (fun R3 => (zbind (f_X7_of gS x1 (4 : Int32)) (fun R4 => (zbind (f_X7_takesOut gS x1) (fun R5 => (zbind (f_X7_opens R5 x2) (fun R6 => (zbind (f_X7_sets R6.2 R6.1 x2 R1 R2 R3 R4) (fun R7 => (some (R6.1, R7))))))))))))))))
abbrev rm_X7_moves : Room := { frames := 2, cells := 0, slots := 0, locals := 45 }
set_option maxHeartbeats 4000000 in
set_option maxRecDepth 100000 in
theorem c_X7_moves (l : Launch) (dC : Nat → ClassId) (dI : Nat → Nat → Nat) (cI cC cO : ClassId) (qS : Nat) (aS : Nat → Nat) (gS : zG) (x1 : Int32) (x2 : Int32) (R : Int32 × zG) (hf : f_X7_moves gS x1 x2 = some R) : cM l (dC, dI) (zT cI cC cO) yX7_moves wsX7_moves rm_X7_moves [.ref qS, .int x1, .int x2] [(wX7 cI qS aS gS)] [(wX7 cI qS aS R.2)] (some (.int R.1)) 0 0 := by
  refine zM_in (cc := cX7_moves) (maxL := 8) (ret := (some .int)) (plainFor_of_name (by decide)) rfl (Nat.le_of_ble_eq_true rfl) ?_
  intro p e s m below meth c hx hb hml hr hlk hown hts hK hN A hA hP hD hS ls hl
  have hl : lv_has ls 8 [(0, .ref qS), (1, .int x1), (2, .int x2)] := hl
  unfold f_X7_moves at hf
  obtain ⟨H, hH⟩ : ∃ H, H = s.heap := ⟨_, rfl⟩
  obtain ⟨locs, hlocs⟩ : ∃ locs : List Loc, locs = [] := ⟨_, rfl⟩
  have hS : va_S A s.heap H locs := by rw [hH, hlocs]; exact hS
  rw [← hH] at hP
  refine zheap hH hlocs ?_
  refine lv_aload_n hx hb dX7_moves_0 rfl (lv_at hl 0 rfl) ?_
  refine lv_iload_n hx hb dX7_moves_1 rfl (lv_at hl 1 rfl) ?_
  refine lv_iconst (v := (1 : Int32)) hx hb dX7_moves_2 (by decide) ?_
  obtain ⟨R1, e_1, hf⟩ := zbind_ex hf
  refine z_callRi (va_runV (As := [.int x1, .int (1 : Int32)]) (rest := []) ⟨hx, hb, hml, hown, hts⟩ (c_X7_of l dC dI cI cC cO qS aS gS x1 (1 : Int32) R1 e_1) (cwV 2 hts gX7_moves_X7_of rfl rfl rfl (by decide +kernel) ⟨Nat.le_of_ble_eq_true rfl, Nat.le_of_ble_eq_true rfl⟩) ⟨zpR_blind, va_recv hK hP (ci := 7) (q0 := 0) rfl rfl, z_useR hK hN hP [0] rfl⟩ rfl rfl hl.1 rfl (lv_room (Nat.le_of_ble_eq_true rfl)) dX7_moves_3 ⟨Nat.le_of_ble_eq_true rfl, Nat.le_of_ble_eq_true rfl⟩) ?_
  refine lv_istore_n (lv' := [(3, .int R1), (0, .ref qS), (1, .int x1), (2, .int x2)]) hx hb dX7_moves_6 rfl hl (by decide) rfl (fun ls hl => ?_)
  refine lv_aload_n hx hb dX7_moves_7 rfl (lv_at hl 1 rfl) ?_
  refine lv_iload_n hx hb dX7_moves_8 rfl (lv_at hl 2 rfl) ?_
  refine lv_iconst (v := (2 : Int32)) hx hb dX7_moves_9 (by decide) ?_
  obtain ⟨R2, e_2, hf⟩ := zbind_ex hf
  refine z_callRi (va_runV (As := [.int x1, .int (2 : Int32)]) (rest := []) ⟨hx, hb, hml, hown, hts⟩ (c_X7_of l dC dI cI cC cO qS aS gS x1 (2 : Int32) R2 e_2) (cwV 2 hts gX7_moves_X7_of rfl rfl rfl (by decide +kernel) ⟨Nat.le_of_ble_eq_true rfl, Nat.le_of_ble_eq_true rfl⟩) ⟨zpR_blind, va_recv hK hP (ci := 7) (q0 := 0) rfl rfl, z_useR hK hN hP [0] rfl⟩ rfl rfl hl.1 rfl (lv_room (Nat.le_of_ble_eq_true rfl)) dX7_moves_10 ⟨Nat.le_of_ble_eq_true rfl, Nat.le_of_ble_eq_true rfl⟩) ?_
  refine lv_istore (lv' := [(4, .int R2), (3, .int R1), (0, .ref qS), (1, .int x1), (2, .int x2)]) hx hb dX7_moves_13 hl (by decide) rfl (fun ls hl => ?_)
  refine lv_aload_n hx hb dX7_moves_15 rfl (lv_at hl 2 rfl) ?_
  refine lv_iload_n hx hb dX7_moves_16 rfl (lv_at hl 3 rfl) ?_
  refine lv_iconst (v := (3 : Int32)) hx hb dX7_moves_17 (by decide) ?_
  obtain ⟨R3, e_3, hf⟩ := zbind_ex hf
  refine z_callRi (va_runV (As := [.int x1, .int (3 : Int32)]) (rest := []) ⟨hx, hb, hml, hown, hts⟩ (c_X7_of l dC dI cI cC cO qS aS gS x1 (3 : Int32) R3 e_3) (cwV 2 hts gX7_moves_X7_of rfl rfl rfl (by decide +kernel) ⟨Nat.le_of_ble_eq_true rfl, Nat.le_of_ble_eq_true rfl⟩) ⟨zpR_blind, va_recv hK hP (ci := 7) (q0 := 0) rfl rfl, z_useR hK hN hP [0] rfl⟩ rfl rfl hl.1 rfl (lv_room (Nat.le_of_ble_eq_true rfl)) dX7_moves_18 ⟨Nat.le_of_ble_eq_true rfl, Nat.le_of_ble_eq_true rfl⟩) ?_
  refine lv_istore (lv' := [(5, .int R3), (4, .int R2), (3, .int R1), (0, .ref qS), (1, .int x1), (2, .int x2)]) hx hb dX7_moves_21 hl (by decide) rfl (fun ls hl => ?_)
  refine lv_aload_n hx hb dX7_moves_23 rfl (lv_at hl 3 rfl) ?_
  refine lv_iload_n hx hb dX7_moves_24 rfl (lv_at hl 4 rfl) ?_
  refine lv_iconst (v := (4 : Int32)) hx hb dX7_moves_25 (by decide) ?_
  obtain ⟨R4, e_4, hf⟩ := zbind_ex hf
  refine z_callRi (va_runV (As := [.int x1, .int (4 : Int32)]) (rest := []) ⟨hx, hb, hml, hown, hts⟩ (c_X7_of l dC dI cI cC cO qS aS gS x1 (4 : Int32) R4 e_4) (cwV 2 hts gX7_moves_X7_of rfl rfl rfl (by decide +kernel) ⟨Nat.le_of_ble_eq_true rfl, Nat.le_of_ble_eq_true rfl⟩) ⟨zpR_blind, va_recv hK hP (ci := 7) (q0 := 0) rfl rfl, z_useR hK hN hP [0] rfl⟩ rfl rfl hl.1 rfl (lv_room (Nat.le_of_ble_eq_true rfl)) dX7_moves_26 ⟨Nat.le_of_ble_eq_true rfl, Nat.le_of_ble_eq_true rfl⟩) ?_
  refine lv_istore (lv' := [(6, .int R4), (5, .int R3), (4, .int R2), (3, .int R1), (0, .ref qS), (1, .int x1), (2, .int x2)]) hx hb dX7_moves_29 hl (by decide) rfl (fun ls hl => ?_)
  refine lv_aload_n hx hb dX7_moves_31 rfl (lv_at hl 4 rfl) ?_
  refine lv_iload_n hx hb dX7_moves_32 rfl (lv_at hl 5 rfl) ?_
  obtain ⟨R5, e_5, hf⟩ := zbind_ex hf
  refine z_callM (gs2 := [(wX7 cI qS aS R5)]) hP hD hS hA [0] [] rfl rfl rfl (show List.Perm [0] (List.range 1) from by decide) rfl (va_runV (As := [.int x1]) (rest := []) ⟨hx, hb, hml, hown, hts⟩ (c_X7_takesOut l dC dI cI cC cO qS aS gS x1 R5 e_5 H.size) (cwV 1 hts gX7_moves_X7_takesOut rfl rfl rfl (by decide +kernel) ⟨Nat.le_of_ble_eq_true rfl, Nat.le_of_ble_eq_true rfl⟩) ⟨zpM_blind, va_recv hK hP (ci := 7) (q0 := 0) rfl rfl, z_useM hK hN hP hD [0] [] rfl (show List.Perm [0] (List.range 1) from by decide)⟩ rfl rfl hl.1 rfl (lv_room (Nat.le_of_ble_eq_true rfl)) dX7_moves_33 ⟨Nat.le_of_ble_eq_true rfl, Nat.le_of_ble_eq_true rfl⟩) (fun H locs hP hD hS => ?_)
  refine W.eq (g2 := F0 m 36 ls []) rfl ?_
  refine lv_aload_n hx hb dX7_moves_36 rfl (lv_at hl 4 rfl) ?_
  refine lv_iload_n hx hb dX7_moves_37 rfl (lv_at hl 6 rfl) ?_
  obtain ⟨R6, e_6, hf⟩ := zbind_ex hf
  refine z_callM (gs2 := [(wX7 cI qS aS R6.2)]) hP hD hS hA [0] [] rfl rfl rfl (show List.Perm [0] (List.range 1) from by decide) rfl (va_runV (As := [.int x2]) (rest := []) ⟨hx, hb, hml, hown, hts⟩ (c_X7_opens l dC dI cI cC cO qS aS R5 x2 R6 e_6 H.size) (cwV 1 hts gX7_moves_X7_opens rfl rfl rfl (by decide +kernel) ⟨Nat.le_of_ble_eq_true rfl, Nat.le_of_ble_eq_true rfl⟩) ⟨zpM_blind, va_recv hK hP (ci := 7) (q0 := 0) rfl rfl, z_useM hK hN hP hD [0] [] rfl (show List.Perm [0] (List.range 1) from by decide)⟩ rfl rfl hl.1 rfl (lv_room (Nat.le_of_ble_eq_true rfl)) dX7_moves_38 ⟨Nat.le_of_ble_eq_true rfl, Nat.le_of_ble_eq_true rfl⟩) (fun H locs hP hD hS => ?_)
  refine W.eq (g2 := F0 m 41 ls [.int R6.1]) rfl ?_
  refine lv_istore (lv' := [(7, .int R6.1), (6, .int R4), (5, .int R3), (4, .int R2), (3, .int R1), (0, .ref qS), (1, .int x1), (2, .int x2)]) hx hb dX7_moves_41 hl (by decide) rfl (fun ls hl => ?_)
  refine lv_aload_n hx hb dX7_moves_43 rfl (lv_at hl 5 rfl) ?_
  refine lv_iload hx hb dX7_moves_44 (lv_at hl 0 rfl) ?_
  refine lv_iload_n hx hb dX7_moves_46 rfl (lv_at hl 7 rfl) ?_
  refine lv_iload_n hx hb dX7_moves_47 rfl (lv_at hl 4 rfl) ?_
  refine lv_iload hx hb dX7_moves_48 (lv_at hl 3 rfl) ?_
  refine lv_iload hx hb dX7_moves_50 (lv_at hl 2 rfl) ?_
  refine lv_iload hx hb dX7_moves_52 (lv_at hl 1 rfl) ?_
  obtain ⟨R7, e_7, hf⟩ := zbind_ex hf
  refine z_callM (gs2 := [(wX7 cI qS aS R7)]) hP hD hS hA [0] [] rfl rfl rfl (show List.Perm [0] (List.range 1) from by decide) rfl (va_runV (As := [.int R6.1, .int x2, .int R1, .int R2, .int R3, .int R4]) (rest := []) ⟨hx, hb, hml, hown, hts⟩ (c_X7_sets l dC dI cI cC cO qS aS R6.2 R6.1 x2 R1 R2 R3 R4 R7 e_7 H.size) (cwV 6 hts gX7_moves_X7_sets rfl rfl rfl (by decide +kernel) ⟨Nat.le_of_ble_eq_true rfl, Nat.le_of_ble_eq_true rfl⟩) ⟨zpM_blind, va_recv hK hP (ci := 7) (q0 := 0) rfl rfl, z_useM hK hN hP hD [0] [] rfl (show List.Perm [0] (List.range 1) from by decide)⟩ rfl rfl hl.1 rfl (lv_room (Nat.le_of_ble_eq_true rfl)) dX7_moves_54 ⟨Nat.le_of_ble_eq_true rfl, Nat.le_of_ble_eq_true rfl⟩) (fun H locs hP hD hS => ?_)
  refine W.eq (g2 := F0 m 57 ls []) rfl ?_
  refine lv_iload hx hb dX7_moves_57 (lv_at hl 0 rfl) ?_
  exact zM_ret (gs := [(wX7 cI qS aS R7)]) hx hb hr rfl hP hD hS (by rw [← Option.some.inj hf]; exact ⟨rfl, rfl⟩) hlk dX7_moves_59

def f_X7_move (gS : zG) (x1 : Int32) (x2 : Int32) : Option (Int32 × zG) := (zbind (f_X7_at gS x1) (fun R1 => (if R1 < 0 then (some ((-1000000001 : Int32), gS)) else (zbind (f_X7_isPlace x2) (fun R3 => (if R3 = 0 then (some ((-1000000001 : Int32), gS)) else (zbind (f_X7_at gS x2) (fun R5 => (if R5 < 0 then (zbind (f_X7_changes gS) (fun R7 => (zbind (f_X7_moves R7 R1 x2) (fun R8 => (some (R8.1, R8.2)))))) else (some ((-1000000002 : Int32), gS)))))))))))
theorem k_X7_move_1 : Cond.constant RX7 51 (-1000000001) ∈ wsX7_move := List.mem_of_getElem? (i := 1) rfl
theorem k_X7_move_2 : Cond.constant RX7 67 (-1000000002) ∈ wsX7_move := List.mem_of_getElem? (i := 2) rfl
abbrev rm_X7_move : Room := { frames := 3, cells := 0, slots := 0, locals := 72 }
set_option maxHeartbeats 4000000 in
set_option maxRecDepth 100000 in
theorem c_X7_move (l : Launch) (dC : Nat → ClassId) (dI : Nat → Nat → Nat) (cI cC cO : ClassId) (qS : Nat) (aS : Nat → Nat) (gS : zG) (x1 : Int32) (x2 : Int32) (R : Int32 × zG) (hf : f_X7_move gS x1 x2 = some R) : cM l (dC, dI) (zT cI cC cO) yX7_move wsX7_move rm_X7_move [.ref qS, .int x1, .int x2] [(wX7 cI qS aS gS)] [(wX7 cI qS aS R.2)] (some (.int R.1)) 0 0 := by
  refine zM_in (cc := cX7_move) (maxL := 4) (ret := (some .int)) (plainFor_of_name (by decide)) rfl (Nat.le_of_ble_eq_true rfl) ?_
  intro p e s m below meth c hx hb hml hr hlk hown hts hK hN A hA hP hD hS ls hl
  have hl : lv_has ls 4 [(0, .ref qS), (1, .int x1), (2, .int x2)] := hl
  unfold f_X7_move at hf
  obtain ⟨H, hH⟩ : ∃ H, H = s.heap := ⟨_, rfl⟩
  obtain ⟨locs, hlocs⟩ : ∃ locs : List Loc, locs = [] := ⟨_, rfl⟩
  have hS : va_S A s.heap H locs := by rw [hH, hlocs]; exact hS
  rw [← hH] at hP
  refine zheap hH hlocs ?_
  refine lv_aload_n hx hb dX7_move_0 rfl (lv_at hl 0 rfl) ?_
  refine lv_iload_n hx hb dX7_move_1 rfl (lv_at hl 1 rfl) ?_
  obtain ⟨R1, e_1, hf⟩ := zbind_ex hf
  refine z_callRi (va_runV (As := [.int x1]) (rest := []) ⟨hx, hb, hml, hown, hts⟩ (c_X7_at l dC dI cI cC cO qS aS gS x1 R1 e_1) (cwV 1 hts gX7_move_X7_at rfl rfl rfl (by decide +kernel) ⟨Nat.le_of_ble_eq_true rfl, Nat.le_of_ble_eq_true rfl⟩) ⟨zpR_blind, va_recv hK hP (ci := 7) (q0 := 0) rfl rfl, z_useR hK hN hP [0] rfl⟩ rfl rfl hl.1 rfl (lv_room (Nat.le_of_ble_eq_true rfl)) dX7_move_2 ⟨Nat.le_of_ble_eq_true rfl, Nat.le_of_ble_eq_true rfl⟩) ?_
  refine lv_istore_n (lv' := [(3, .int R1), (0, .ref qS), (1, .int x1), (2, .int x2)]) hx hb dX7_move_5 rfl hl (by decide) rfl (fun ls hl => ?_)
  refine lv_iload_n hx hb dX7_move_6 rfl (lv_at hl 0 rfl) ?_
  refine lv_if_lt (tgt := 17) hx hb dX7_move_7 (by decide) (fun c_2 => ?_) (fun c_2 => ?_)
  · have hf := zif_t hf c_2
    refine lv_ldc (v := (-1000000001 : Int32)) hx hb hown (hts _ k_X7_move_1) dX7_move_17 ?_
    exact zM_ret (gs := [(wX7 cI qS aS gS)]) hx hb hr rfl hP hD hS (by rw [← Option.some.inj hf]; exact ⟨rfl, rfl⟩) hlk dX7_move_19
  · have hf := zif_f hf c_2
    refine lv_iload_n hx hb dX7_move_10 rfl (lv_at hl 3 rfl) ?_
    obtain ⟨R3, e_3, hf⟩ := zbind_ex hf
    refine z_callRi (va_runS (As := [.int x2]) (rest := []) ⟨hx, hb, hml, hown, hts⟩ (c_X7_isPlace l dC dI cI cC cO  x2 R3 e_3) (va_cwS 1 hts gX7_move_X7_isPlace rfl rfl rfl (by decide +kernel) ⟨Nat.le_of_ble_eq_true rfl, Nat.le_of_ble_eq_true rfl⟩) ⟨zpR_blind, z_useR hK hN hP [] rfl⟩ rfl rfl hl.1 rfl (lv_room (Nat.le_of_ble_eq_true rfl)) dX7_move_11 ⟨Nat.le_of_ble_eq_true rfl, Nat.le_of_ble_eq_true rfl⟩) ?_
    refine lv_if_ne (tgt := 20) hx hb dX7_move_14 (by decide) (fun c_4 => ?_) (fun c_4 => ?_)
    · have hf := zif_f hf c_4
      refine lv_aload_n hx hb dX7_move_20 rfl (lv_at hl 1 rfl) ?_
      refine lv_iload_n hx hb dX7_move_21 rfl (lv_at hl 3 rfl) ?_
      obtain ⟨R5, e_5, hf⟩ := zbind_ex hf
      refine z_callRi (va_runV (As := [.int x2]) (rest := []) ⟨hx, hb, hml, hown, hts⟩ (c_X7_at l dC dI cI cC cO qS aS gS x2 R5 e_5) (cwV 1 hts gX7_move_X7_at rfl rfl rfl (by decide +kernel) ⟨Nat.le_of_ble_eq_true rfl, Nat.le_of_ble_eq_true rfl⟩) ⟨zpR_blind, va_recv hK hP (ci := 7) (q0 := 0) rfl rfl, z_useR hK hN hP [0] rfl⟩ rfl rfl hl.1 rfl (lv_room (Nat.le_of_ble_eq_true rfl)) dX7_move_22 ⟨Nat.le_of_ble_eq_true rfl, Nat.le_of_ble_eq_true rfl⟩) ?_
      refine lv_if_lt (tgt := 31) hx hb dX7_move_25 (by decide) (fun c_6 => ?_) (fun c_6 => ?_)
      · have hf := zif_t hf c_6
        refine lv_aload_n hx hb dX7_move_31 rfl (lv_at hl 1 rfl) ?_
        obtain ⟨R7, e_7, hf⟩ := zbind_ex hf
        refine z_callM (gs2 := [(wX7 cI qS aS R7)]) hP hD hS hA [0] [] rfl rfl rfl (show List.Perm [0] (List.range 1) from by decide) rfl (va_runV (As := []) (rest := []) ⟨hx, hb, hml, hown, hts⟩ (c_X7_changes l dC dI cI cC cO qS aS gS  R7 e_7 H.size) (cwV 0 hts gX7_move_X7_changes rfl rfl rfl (by decide +kernel) ⟨Nat.le_of_ble_eq_true rfl, Nat.le_of_ble_eq_true rfl⟩) ⟨zpM_blind, va_recv hK hP (ci := 7) (q0 := 0) rfl rfl, z_useM hK hN hP hD [0] [] rfl (show List.Perm [0] (List.range 1) from by decide)⟩ rfl rfl hl.1 rfl (lv_room (Nat.le_of_ble_eq_true rfl)) dX7_move_32 ⟨Nat.le_of_ble_eq_true rfl, Nat.le_of_ble_eq_true rfl⟩) (fun H locs hP hD hS => ?_)
        refine W.eq (g2 := F0 m 35 ls []) rfl ?_
        refine lv_aload_n hx hb dX7_move_35 rfl (lv_at hl 1 rfl) ?_
        refine lv_iload_n hx hb dX7_move_36 rfl (lv_at hl 0 rfl) ?_
        refine lv_iload_n hx hb dX7_move_37 rfl (lv_at hl 3 rfl) ?_
        obtain ⟨R8, e_8, hf⟩ := zbind_ex hf
        refine z_callM (gs2 := [(wX7 cI qS aS R8.2)]) hP hD hS hA [0] [] rfl rfl rfl (show List.Perm [0] (List.range 1) from by decide) rfl (va_runV (As := [.int R1, .int x2]) (rest := []) ⟨hx, hb, hml, hown, hts⟩ (c_X7_moves l dC dI cI cC cO qS aS R7 R1 x2 R8 e_8 H.size) (cwV 2 hts gX7_move_X7_moves rfl rfl rfl (by decide +kernel) ⟨Nat.le_of_ble_eq_true rfl, Nat.le_of_ble_eq_true rfl⟩) ⟨zpM_blind, va_recv hK hP (ci := 7) (q0 := 0) rfl rfl, z_useM hK hN hP hD [0] [] rfl (show List.Perm [0] (List.range 1) from by decide)⟩ rfl rfl hl.1 rfl (lv_room (Nat.le_of_ble_eq_true rfl)) dX7_move_38 ⟨Nat.le_of_ble_eq_true rfl, Nat.le_of_ble_eq_true rfl⟩) (fun H locs hP hD hS => ?_)
        refine W.eq (g2 := F0 m 41 ls [.int R8.1]) rfl ?_
        exact zM_ret (gs := [(wX7 cI qS aS R8.2)]) hx hb hr rfl hP hD hS (by rw [← Option.some.inj hf]; exact ⟨rfl, rfl⟩) hlk dX7_move_41
      · have hf := zif_f hf c_6
        refine lv_ldc (v := (-1000000002 : Int32)) hx hb hown (hts _ k_X7_move_2) dX7_move_28 ?_
        exact zM_ret (gs := [(wX7 cI qS aS gS)]) hx hb hr rfl hP hD hS (by rw [← Option.some.inj hf]; exact ⟨rfl, rfl⟩) hlk dX7_move_30
    · have hf := zif_t hf c_4
      refine lv_ldc (v := (-1000000001 : Int32)) hx hb hown (hts _ k_X7_move_1) dX7_move_17 ?_
      exact zM_ret (gs := [(wX7 cI qS aS gS)]) hx hb hr rfl hP hD hS (by rw [← Option.some.inj hf]; exact ⟨rfl, rfl⟩) hlk dX7_move_19

def f_X7_set (gS : zG) (x1 : Int32) (x2 : Int32) : Option (Int32 × zG) := (if x1 = 0 then (zbind (f_X7_in x2 (1 : Int32) (500 : Int32)) (fun R2 => (if R2 = 0 then (some ((-1000000001 : Int32), gS)) else (zbind (f_X7_changes gS) (fun R4 => (zin (2 : Int32) 59 (zin (2 : Int32) 59 (zlet (gup R4 0 (2 : Int32).toNatClampNeg x2) (fun gS_6 => (some ((R4 0 (2 : Int32).toNatClampNeg), gS_6))))))))))) else (some ((-1000000001 : Int32), gS)))
theorem u_X7_set_X7 : ∀ w ∈ u_ws RX7 TX7 21, w ∈ wsX7_set := fun w h => List.mem_cons_of_mem _ (List.mem_append_right _ h)
theorem k_X7_set_1 : Cond.constant RX7 51 (-1000000001) ∈ wsX7_set := List.mem_of_getElem? (i := 1) rfl
theorem k_X7_set_2 : Cond.fieldLink RX7 7 "JoinedLightModel" "s" "[I" ∈ wsX7_set := List.mem_of_getElem? (i := 2) rfl
abbrev rm_X7_set : Room := { frames := 1, cells := 0, slots := 0, locals := 22 }
set_option maxHeartbeats 4000000 in
set_option maxRecDepth 100000 in
theorem c_X7_set (l : Launch) (dC : Nat → ClassId) (dI : Nat → Nat → Nat) (cI cC cO : ClassId) (qS : Nat) (aS : Nat → Nat) (gS : zG) (x1 : Int32) (x2 : Int32) (R : Int32 × zG) (hf : f_X7_set gS x1 x2 = some R) : cM l (dC, dI) (zT cI cC cO) yX7_set wsX7_set rm_X7_set [.ref qS, .int x1, .int x2] [(wX7 cI qS aS gS)] [(wX7 cI qS aS R.2)] (some (.int R.1)) 0 0 := by
  refine zM_in (cc := cX7_set) (maxL := 4) (ret := (some .int)) (plainFor_of_name (by decide)) rfl (Nat.le_of_ble_eq_true rfl) ?_
  intro p e s m below meth c hx hb hml hr hlk hown hts hK hN A hA hP hD hS ls hl
  have hl : lv_has ls 4 [(0, .ref qS), (1, .int x1), (2, .int x2)] := hl
  unfold f_X7_set at hf
  obtain ⟨H, hH⟩ : ∃ H, H = s.heap := ⟨_, rfl⟩
  obtain ⟨locs, hlocs⟩ : ∃ locs : List Loc, locs = [] := ⟨_, rfl⟩
  have hS : va_S A s.heap H locs := by rw [hH, hlocs]; exact hS
  rw [← hH] at hP
  refine zheap hH hlocs ?_
  refine lv_iload_n hx hb dX7_set_0 rfl (lv_at hl 1 rfl) ?_
  refine lv_if_ne (tgt := 15) hx hb dX7_set_1 (by decide) (fun c_1 => ?_) (fun c_1 => ?_)
  · have hf := zif_f hf c_1
    refine lv_ldc (v := (-1000000001 : Int32)) hx hb hown (hts _ k_X7_set_1) dX7_set_15 ?_
    exact zM_ret (gs := [(wX7 cI qS aS gS)]) hx hb hr rfl hP hD hS (by rw [← Option.some.inj hf]; exact ⟨rfl, rfl⟩) hlk dX7_set_17
  · have hf := zif_t hf c_1
    refine lv_iload_n hx hb dX7_set_4 rfl (lv_at hl 2 rfl) ?_
    refine lv_iconst (v := (1 : Int32)) hx hb dX7_set_5 (by decide) ?_
    refine lv_sipush (v := (500 : Int32)) hx hb dX7_set_6 (by decide) ?_
    obtain ⟨R2, e_2, hf⟩ := zbind_ex hf
    refine z_callRi (va_runS (As := [.int x2, .int (1 : Int32), .int (500 : Int32)]) (rest := []) ⟨hx, hb, hml, hown, hts⟩ (c_X7_in l dC dI cI cC cO  x2 (1 : Int32) (500 : Int32) R2 e_2) (va_cwS 3 hts gX7_set_X7_in rfl rfl rfl (by decide +kernel) ⟨Nat.le_of_ble_eq_true rfl, Nat.le_of_ble_eq_true rfl⟩) ⟨zpR_blind, z_useR hK hN hP [] rfl⟩ rfl rfl hl.1 rfl (lv_room (Nat.le_of_ble_eq_true rfl)) dX7_set_9 ⟨Nat.le_of_ble_eq_true rfl, Nat.le_of_ble_eq_true rfl⟩) ?_
    refine lv_if_ne (tgt := 18) hx hb dX7_set_12 (by decide) (fun c_3 => ?_) (fun c_3 => ?_)
    · have hf := zif_f hf c_3
      refine lv_aload_n hx hb dX7_set_18 rfl (lv_at hl 0 rfl) ?_
      obtain ⟨R4, e_4, hf⟩ := zbind_ex hf
      refine z_callM (gs2 := [(wX7 cI qS aS R4)]) hP hD hS hA [0] [] rfl rfl rfl (show List.Perm [0] (List.range 1) from by decide) rfl (va_runV (As := []) (rest := []) ⟨hx, hb, hml, hown, hts⟩ (c_X7_changes l dC dI cI cC cO qS aS gS  R4 e_4 H.size) (cwV 0 hts gX7_set_X7_changes rfl rfl rfl (by decide +kernel) ⟨Nat.le_of_ble_eq_true rfl, Nat.le_of_ble_eq_true rfl⟩) ⟨zpM_blind, va_recv hK hP (ci := 7) (q0 := 0) rfl rfl, z_useM hK hN hP hD [0] [] rfl (show List.Perm [0] (List.range 1) from by decide)⟩ rfl rfl hl.1 rfl (lv_room (Nat.le_of_ble_eq_true rfl)) dX7_set_19 ⟨Nat.le_of_ble_eq_true rfl, Nat.le_of_ble_eq_true rfl⟩) (fun H locs hP hD hS => ?_)
      refine W.eq (g2 := F0 m 22 ls []) rfl ?_
      refine lv_aload_n hx hb dX7_set_22 rfl (lv_at hl 0 rfl) ?_
      refine va_get (D := (dC, dI)) (ci := 7) (v := .ref (aS 0)) (C := RX7) (T := TX7) (N := 21) hx hb hts u_X7_set_X7 hown hK hP 0 rfl rfl 0 (by decide) (hts _ k_X7_set_2) (fun _ h9 => h9) rfl dX7_set_23 ?_
      refine lv_iconst (v := (2 : Int32)) hx hb dX7_set_26 (by decide) ?_
      obtain ⟨h_5, hf⟩ := zin_ex hf
      refine va_iald hx hb hK hP 1 0 rfl rfl h_5 dX7_set_27 ?_
      refine lv_istore_n (lv' := [(3, .int (R4 0 (2 : Int32).toNatClampNeg)), (0, .ref qS), (1, .int x1), (2, .int x2)]) hx hb dX7_set_28 rfl hl (by decide) rfl (fun ls hl => ?_)
      refine lv_aload_n hx hb dX7_set_29 rfl (lv_at hl 1 rfl) ?_
      refine va_get (D := (dC, dI)) (ci := 7) (v := .ref (aS 0)) (C := RX7) (T := TX7) (N := 21) hx hb hts u_X7_set_X7 hown hK hP 0 rfl rfl 0 (by decide) (hts _ k_X7_set_2) (fun _ h9 => h9) rfl dX7_set_30 ?_
      refine lv_iconst (v := (2 : Int32)) hx hb dX7_set_33 (by decide) ?_
      refine lv_iload_n hx hb dX7_set_34 rfl (lv_at hl 3 rfl) ?_
      obtain ⟨h_6, hf⟩ := zin_ex hf
      obtain ⟨gS_6, e_6, hf⟩ := zlet_ex hf
      refine z_iast (gs' := [(wX7 cI qS aS gS_6)]) hx hb hK hP hD hS 1 0 rfl rfl h_6 (by rw [e_6]; rfl) dX7_set_35 (fun H locs hP hD hS => ?_)
      refine lv_iload_n hx hb dX7_set_36 rfl (lv_at hl 0 rfl) ?_
      exact zM_ret (gs := [(wX7 cI qS aS gS_6)]) hx hb hr rfl hP hD hS (by rw [← Option.some.inj hf]; exact ⟨rfl, rfl⟩) hlk dX7_set_37
    · have hf := zif_t hf c_3
      refine lv_ldc (v := (-1000000001 : Int32)) hx hb hown (hts _ k_X7_set_1) dX7_set_15 ?_
      exact zM_ret (gs := [(wX7 cI qS aS gS)]) hx hb hr rfl hP hD hS (by rw [← Option.some.inj hf]; exact ⟨rfl, rfl⟩) hlk dX7_set_17

def f_X7_bends  (x0 : Int32) (x1 : Int32) : Option (Int32) := (if x0 = 0 then (some (((500 : Int32) + (((780 : Int32) - x1) / (8 : Int32))))) else (some (((600 : Int32) + (((780 : Int32) - x1) / (3 : Int32))))))
abbrev rm_X7_bends : Room := { frames := 0, cells := 0, slots := 0, locals := 0 }
set_option maxHeartbeats 4000000 in
set_option maxRecDepth 100000 in
theorem c_X7_bends (l : Launch) (dC : Nat → ClassId) (dI : Nat → Nat → Nat) (cI cC cO : ClassId)  (x0 : Int32) (x1 : Int32) (R : Int32) (hf : f_X7_bends x0 x1 = some R) : cR l (dC, dI) (zT cI cC cO) yX7_bends wsX7_bends rm_X7_bends [.int x0, .int x1] [] (some (.int R)) := by
  refine zR_in (cc := cX7_bends) (maxL := 2) (ret := (some .int)) (plainFor_of_name (by decide)) rfl (Nat.le_of_ble_eq_true rfl) ?_
  intro p e s m below meth c hx hb hml hr hlk hown hts hK hN hP ls hl
  have hl : lv_has ls 2 [(0, .int x0), (1, .int x1)] := hl
  unfold f_X7_bends at hf
  refine lv_iload_n hx hb dX7_bends_0 rfl (lv_at hl 0 rfl) ?_
  refine lv_if_ne (tgt := 19) hx hb dX7_bends_1 (by decide) (fun c_1 => ?_) (fun c_1 => ?_)
  · have hf := zif_f hf c_1
    refine lv_sipush (v := (600 : Int32)) hx hb dX7_bends_19 (by decide) ?_
    refine lv_sipush (v := (780 : Int32)) hx hb dX7_bends_22 (by decide) ?_
    refine lv_iload_n hx hb dX7_bends_25 rfl (lv_at hl 1 rfl) ?_
    refine lv_isub hx hb dX7_bends_26 ?_
    refine lv_iconst (v := (3 : Int32)) hx hb dX7_bends_27 (by decide) ?_
    refine lv_idiv hx hb dX7_bends_28 (by decide) ?_
    refine lv_iadd hx hb dX7_bends_29 ?_
    exact zR_ret hx hb hr rfl hf hlk dX7_bends_30
  · have hf := zif_t hf c_1
    refine lv_sipush (v := (500 : Int32)) hx hb dX7_bends_4 (by decide) ?_
    refine lv_sipush (v := (780 : Int32)) hx hb dX7_bends_7 (by decide) ?_
    refine lv_iload_n hx hb dX7_bends_10 rfl (lv_at hl 1 rfl) ?_
    refine lv_isub hx hb dX7_bends_11 ?_
    refine lv_bipush (v := (8 : Int32)) hx hb dX7_bends_12 (by decide) ?_
    refine lv_idiv hx hb dX7_bends_14 (by decide) ?_
    refine lv_iadd hx hb dX7_bends_15 ?_
    refine lv_goto (tgt := 30) hx hb dX7_bends_16 (by decide) ?_
    exact zR_ret hx hb hr rfl hf hlk dX7_bends_30

def f_X7_goes (gS : zG) (x1 : Int32) : Option (zG) := (zbind (f_X7_floor ((gS 10 0) * (x1 - (gS 8 0))) (1000 : Int32)) (fun R1 => (zlet (gup gS 9 0 ((gS 9 0) + R1)) (fun gS_2 => (zlet (gup gS_2 8 0 x1) (fun gS_3 => (zbind (f_X7_in (gS_3 9 0) (-999 : Int32) (999 : Int32)) (fun R4 => (if R4 = 0 then (zlet (gup gS_3 11 0 (2 : Int32)) (fun gS_6 => (some (gS_6)))) else (zlet (gup gS_3 11 0 (0 : Int32)) (fun gS_7 => (some (gS_7)))))))))))))
theorem u_X7_goes_X7 : ∀ w ∈ u_ws RX7 TX7 21, w ∈ wsX7_goes := fun w h => List.mem_cons_of_mem _ (List.mem_append_right _ h)
theorem k_X7_goes_1 : Cond.fieldLink RX7 88 "JoinedLightModel" "height" "I" ∈ wsX7_goes := List.mem_of_getElem? (i := 1) rfl
theorem k_X7_goes_2 : Cond.fieldLink RX7 91 "JoinedLightModel" "slope" "I" ∈ wsX7_goes := List.mem_of_getElem? (i := 2) rfl
theorem k_X7_goes_3 : Cond.fieldLink RX7 94 "JoinedLightModel" "place" "I" ∈ wsX7_goes := List.mem_of_getElem? (i := 3) rfl
theorem k_X7_goes_4 : Cond.fieldLink RX7 100 "JoinedLightModel" "why" "I" ∈ wsX7_goes := List.mem_of_getElem? (i := 4) rfl
abbrev rm_X7_goes : Room := { frames := 1, cells := 0, slots := 0, locals := 22 }
set_option maxHeartbeats 4000000 in
set_option maxRecDepth 100000 in
theorem c_X7_goes (l : Launch) (dC : Nat → ClassId) (dI : Nat → Nat → Nat) (cI cC cO : ClassId) (qS : Nat) (aS : Nat → Nat) (gS : zG) (x1 : Int32) (R : zG) (hf : f_X7_goes gS x1 = some R) : cM l (dC, dI) (zT cI cC cO) yX7_goes wsX7_goes rm_X7_goes [.ref qS, .int x1] [(wX7 cI qS aS gS)] [(wX7 cI qS aS R)] none 0 0 := by
  refine zM_in (cc := cX7_goes) (maxL := 2) (ret := none) (plainFor_of_name (by decide)) rfl (Nat.le_of_ble_eq_true rfl) ?_
  intro p e s m below meth c hx hb hml hr hlk hown hts hK hN A hA hP hD hS ls hl
  have hl : lv_has ls 2 [(0, .ref qS), (1, .int x1)] := hl
  unfold f_X7_goes at hf
  obtain ⟨H, hH⟩ : ∃ H, H = s.heap := ⟨_, rfl⟩
  obtain ⟨locs, hlocs⟩ : ∃ locs : List Loc, locs = [] := ⟨_, rfl⟩
  have hS : va_S A s.heap H locs := by rw [hH, hlocs]; exact hS
  rw [← hH] at hP
  refine zheap hH hlocs ?_
  refine lv_aload_n hx hb dX7_goes_0 rfl (lv_at hl 0 rfl) ?_
  refine lv_dup hx hb dX7_goes_1 rfl ?_
  refine va_get (D := (dC, dI)) (ci := 7) (v := .int (gS 9 0)) (C := RX7) (T := TX7) (N := 21) hx hb hts u_X7_goes_X7 hown hK hP 0 rfl rfl 9 (by decide) (hts _ k_X7_goes_1) (fun _ h9 => h9) rfl dX7_goes_2 ?_
  refine lv_aload_n hx hb dX7_goes_5 rfl (lv_at hl 0 rfl) ?_
  refine va_get (D := (dC, dI)) (ci := 7) (v := .int (gS 10 0)) (C := RX7) (T := TX7) (N := 21) hx hb hts u_X7_goes_X7 hown hK hP 0 rfl rfl 10 (by decide) (hts _ k_X7_goes_2) (fun _ h9 => h9) rfl dX7_goes_6 ?_
  refine lv_iload_n hx hb dX7_goes_9 rfl (lv_at hl 1 rfl) ?_
  refine lv_aload_n hx hb dX7_goes_10 rfl (lv_at hl 0 rfl) ?_
  refine va_get (D := (dC, dI)) (ci := 7) (v := .int (gS 8 0)) (C := RX7) (T := TX7) (N := 21) hx hb hts u_X7_goes_X7 hown hK hP 0 rfl rfl 8 (by decide) (hts _ k_X7_goes_3) (fun _ h9 => h9) rfl dX7_goes_11 ?_
  refine lv_isub hx hb dX7_goes_14 ?_
  refine lv_imul hx hb dX7_goes_15 ?_
  refine lv_sipush (v := (1000 : Int32)) hx hb dX7_goes_16 (by decide) ?_
  obtain ⟨R1, e_1, hf⟩ := zbind_ex hf
  refine z_callRi (va_runS (As := [.int ((gS 10 0) * (x1 - (gS 8 0))), .int (1000 : Int32)]) (rest := [.int (gS 9 0), .ref qS]) ⟨hx, hb, hml, hown, hts⟩ (c_X7_floor l dC dI cI cC cO  ((gS 10 0) * (x1 - (gS 8 0))) (1000 : Int32) R1 e_1) (va_cwS 2 hts gX7_goes_X7_floor rfl rfl rfl (by decide +kernel) ⟨Nat.le_of_ble_eq_true rfl, Nat.le_of_ble_eq_true rfl⟩) ⟨zpR_blind, z_useR hK hN hP [] rfl⟩ rfl rfl hl.1 rfl (lv_room (Nat.le_of_ble_eq_true rfl)) dX7_goes_19 ⟨Nat.le_of_ble_eq_true rfl, Nat.le_of_ble_eq_true rfl⟩) ?_
  refine lv_iadd hx hb dX7_goes_22 ?_
  obtain ⟨gS_2, e_2, hf⟩ := zlet_ex hf
  refine z_put (gs' := [(wX7 cI qS aS gS_2)]) (D := (dC, dI)) (ci := 7) (ty := .int) (C := RX7) (T := TX7) (N := 21) hx hb hts u_X7_goes_X7 tyX7 tyX7_ok nmX7 hown hK hP hD hS 0 rfl rfl 9 (by decide) (hts _ k_X7_goes_1) (fun _ h9 => h9) rfl (by decide +kernel) rfl rfl (Nat.le_of_ble_eq_true rfl) (by rw [e_2]; rfl) dX7_goes_23 (fun H locs hP hD hS => ?_)
  refine lv_aload_n hx hb dX7_goes_26 rfl (lv_at hl 0 rfl) ?_
  refine lv_iload_n hx hb dX7_goes_27 rfl (lv_at hl 1 rfl) ?_
  obtain ⟨gS_3, e_3, hf⟩ := zlet_ex hf
  refine z_put (gs' := [(wX7 cI qS aS gS_3)]) (D := (dC, dI)) (ci := 7) (ty := .int) (C := RX7) (T := TX7) (N := 21) hx hb hts u_X7_goes_X7 tyX7 tyX7_ok nmX7 hown hK hP hD hS 0 rfl rfl 8 (by decide) (hts _ k_X7_goes_3) (fun _ h9 => h9) rfl (by decide +kernel) rfl rfl (Nat.le_of_ble_eq_true rfl) (by rw [e_3]; rfl) dX7_goes_28 (fun H locs hP hD hS => ?_)
  refine lv_aload_n hx hb dX7_goes_31 rfl (lv_at hl 0 rfl) ?_
  refine lv_aload_n hx hb dX7_goes_32 rfl (lv_at hl 0 rfl) ?_
  refine va_get (D := (dC, dI)) (ci := 7) (v := .int (gS_3 9 0)) (C := RX7) (T := TX7) (N := 21) hx hb hts u_X7_goes_X7 hown hK hP 0 rfl rfl 9 (by decide) (hts _ k_X7_goes_1) (fun _ h9 => h9) rfl dX7_goes_33 ?_
  refine lv_sipush (v := (-999 : Int32)) hx hb dX7_goes_36 (by decide) ?_
  refine lv_sipush (v := (999 : Int32)) hx hb dX7_goes_39 (by decide) ?_
  obtain ⟨R4, e_4, hf⟩ := zbind_ex hf
  refine z_callRi (va_runS (As := [.int (gS_3 9 0), .int (-999 : Int32), .int (999 : Int32)]) (rest := [.ref qS]) ⟨hx, hb, hml, hown, hts⟩ (c_X7_in l dC dI cI cC cO  (gS_3 9 0) (-999 : Int32) (999 : Int32) R4 e_4) (va_cwS 3 hts gX7_goes_X7_in rfl rfl rfl (by decide +kernel) ⟨Nat.le_of_ble_eq_true rfl, Nat.le_of_ble_eq_true rfl⟩) ⟨zpR_blind, z_useR hK hN hP [] rfl⟩ rfl rfl hl.1 rfl (lv_room (Nat.le_of_ble_eq_true rfl)) dX7_goes_42 ⟨Nat.le_of_ble_eq_true rfl, Nat.le_of_ble_eq_true rfl⟩) ?_
  refine lv_if_eq (tgt := 52) hx hb dX7_goes_45 (by decide) (fun c_5 => ?_) (fun c_5 => ?_)
  · have hf := zif_t hf c_5
    refine lv_iconst (v := (2 : Int32)) hx hb dX7_goes_52 (by decide) ?_
    obtain ⟨gS_6, e_6, hf⟩ := zlet_ex hf
    refine z_put (gs' := [(wX7 cI qS aS gS_6)]) (D := (dC, dI)) (ci := 7) (ty := .int) (C := RX7) (T := TX7) (N := 21) hx hb hts u_X7_goes_X7 tyX7 tyX7_ok nmX7 hown hK hP hD hS 0 rfl rfl 11 (by decide) (hts _ k_X7_goes_4) (fun _ h9 => h9) rfl (by decide +kernel) rfl rfl (Nat.le_of_ble_eq_true rfl) (by rw [e_6]; rfl) dX7_goes_53 (fun H locs hP hD hS => ?_)
    exact zM_vret (gs := [(wX7 cI qS aS gS_6)]) hx hb hr hP hD hS (by rw [← Option.some.inj hf]; exact ⟨rfl, rfl⟩) hlk dX7_goes_56
  · have hf := zif_f hf c_5
    refine lv_iconst (v := (0 : Int32)) hx hb dX7_goes_48 (by decide) ?_
    refine lv_goto (tgt := 53) hx hb dX7_goes_49 (by decide) ?_
    obtain ⟨gS_7, e_7, hf⟩ := zlet_ex hf
    refine z_put (gs' := [(wX7 cI qS aS gS_7)]) (D := (dC, dI)) (ci := 7) (ty := .int) (C := RX7) (T := TX7) (N := 21) hx hb hts u_X7_goes_X7 tyX7 tyX7_ok nmX7 hown hK hP hD hS 0 rfl rfl 11 (by decide) (hts _ k_X7_goes_4) (fun _ h9 => h9) rfl (by decide +kernel) rfl rfl (Nat.le_of_ble_eq_true rfl) (by rw [e_7]; rfl) dX7_goes_53 (fun H locs hP hD hS => ?_)
    exact zM_vret (gs := [(wX7 cI qS aS gS_7)]) hx hb hr hP hD hS (by rw [← Option.some.inj hf]; exact ⟨rfl, rfl⟩) hlk dX7_goes_56

def f_X7_follows_162   (y2 : Int32) (gS : zG) : Option (zG) := (if (gS 11 0) = 0 then (zbind (f_X7_goes gS y2) (fun R22 => (some (R22)))) else (some (gS)))
def f_X7_follows_118  (k22 : Int32 → Int32 → Int32 → zG → Option (zG)) (y1 : Int32) (y2 : Int32) (y3 : Int32) (gS : zG) : Option (zG) := (if (gS 11 0) = 0 then (zbind (f_X7_of gS y3 (2 : Int32)) (fun R24 => (zbind (f_X7_of gS y3 (3 : Int32)) (fun R25 => (zbind (f_X7_in (gS 9 0) R24 R25) (fun R26 => (if R26 = 0 then (zlet (gup gS 11 0 (1 : Int32)) (fun gS_28 => (k22 y1 y2 (y3 + (1 : Int32)) gS_28))) else (zlet (gup gS 11 0 (0 : Int32)) (fun gS_29 => (k22 y1 y2 (y3 + (1 : Int32)) gS_29)))))))))) else (k22 y1 y2 (y3 + (1 : Int32)) gS))
def f_X7_follows_22_b   (k22 : Int32 → Int32 → Int32 → zG → Option (zG)) (y1 : Int32) (y2 : Int32) (y3 : Int32) (gS : zG) : Option (zG) := (zin (1 : Int32) 59 (if (gS 0 (1 : Int32).toNatClampNeg) ≤ y3 then (f_X7_follows_162    y2 gS) else (if (gS 11 0) = 0 then (zbind (f_X7_of gS y3 (0 : Int32)) (fun R8 => (if y2 ≤ R8 then (f_X7_follows_162    y2 gS) else (zbind (f_X7_of gS y3 (0 : Int32)) (fun R10 => (zbind (f_X7_goes gS R10) (fun R11 => (if (R11 11 0) = 0 then (zbind (f_X7_of R11 y3 (1 : Int32)) (fun R13 => (if R13 = 0 then (zbind (f_X7_of R11 y3 (4 : Int32)) (fun R15 => (zbind (f_X7_of R11 y3 (3 : Int32)) (fun R16 => (zbind (f_X7_of R11 y3 (2 : Int32)) (fun R17 => (zbind (f_X7_colour R11 y1) (fun R18 => (zbind (f_X7_bends R17 R18) (fun R19 => (zlet (gup R11 10 0 ((R11 10 0) + (R15 * ((R16 * R19) / (100 : Int32))))) (fun gS_20 => (k22 y1 y2 (y3 + (1 : Int32)) gS_20))))))))))))) else (f_X7_follows_118  k22  y1 y2 y3 R11)))) else (f_X7_follows_118  k22  y1 y2 y3 R11))))))))) else (f_X7_follows_162    y2 gS))))
def f_X7_follows_22   : Nat → Int32 → Int32 → Int32 → zG → Option (zG)
  | 0 => fun _ _ _ _ => none
  | n + 1 => f_X7_follows_22_b   (f_X7_follows_22   n)
def f_X7_follows (gS : zG) (x1 : Int32) (x2 : Int32) : Option (zG) := (zlet (gup gS 8 0 (0 : Int32)) (fun gS_1 => (zlet (gup gS_1 9 0 (0 : Int32)) (fun gS_2 => (zlet (gup gS_2 10 0 (0 : Int32)) (fun gS_3 => (zlet (gup gS_3 11 0 (0 : Int32)) (fun gS_4 => (f_X7_follows_22   zfuel x1 x2 (0 : Int32) gS_4)))))))))
theorem u_X7_follows_X7 : ∀ w ∈ u_ws RX7 TX7 21, w ∈ wsX7_follows := fun w h => List.mem_cons_of_mem _ (List.mem_append_right _ h)
theorem k_X7_follows_1 : Cond.fieldLink RX7 94 "JoinedLightModel" "place" "I" ∈ wsX7_follows := List.mem_of_getElem? (i := 1) rfl
theorem k_X7_follows_2 : Cond.fieldLink RX7 88 "JoinedLightModel" "height" "I" ∈ wsX7_follows := List.mem_of_getElem? (i := 2) rfl
theorem k_X7_follows_3 : Cond.fieldLink RX7 91 "JoinedLightModel" "slope" "I" ∈ wsX7_follows := List.mem_of_getElem? (i := 3) rfl
theorem k_X7_follows_4 : Cond.fieldLink RX7 100 "JoinedLightModel" "why" "I" ∈ wsX7_follows := List.mem_of_getElem? (i := 4) rfl
theorem k_X7_follows_5 : Cond.fieldLink RX7 7 "JoinedLightModel" "s" "[I" ∈ wsX7_follows := List.mem_of_getElem? (i := 5) rfl
abbrev rm_X7_follows : Room := { frames := 2, cells := 0, slots := 0, locals := 43 }
set_option maxHeartbeats 4000000 in
set_option maxRecDepth 100000 in
theorem c_X7_follows (l : Launch) (dC : Nat → ClassId) (dI : Nat → Nat → Nat) (cI cC cO : ClassId) (qS : Nat) (aS : Nat → Nat) (gS : zG) (x1 : Int32) (x2 : Int32) (R : zG) (hf : f_X7_follows gS x1 x2 = some R) : cM l (dC, dI) (zT cI cC cO) yX7_follows wsX7_follows rm_X7_follows [.ref qS, .int x1, .int x2] [(wX7 cI qS aS gS)] [(wX7 cI qS aS R)] none 0 0 := by
  refine zM_in (cc := cX7_follows) (maxL := 4) (ret := none) (plainFor_of_name (by decide)) rfl (Nat.le_of_ble_eq_true rfl) ?_
  intro p e s m below meth c hx hb hml hr hlk hown hts hK hN A hA hP hD hS ls hl
  have hl : lv_has ls 4 [(0, .ref qS), (1, .int x1), (2, .int x2)] := hl
  have w162 : ∀ (y2 : Int32) (gS : zG) (H : Heap) (locs : List Loc) (ls : Array Slot), f_X7_follows_162    y2 gS = some R → va_P (dC, dI) vwCl [(wX7 cI qS aS gS)].flatten H → va_D A [(wX7 cI qS aS gS)].flatten → va_S A s.heap H locs → lv_has ls 4 [(0, .ref qS), (2, .int y2)] → W p l e (headSpec wsX7_follows rm_X7_follows).room s m [.ref qS, .int x1, .int x2].toArray below meth c H locs 0 0 (MQ below (zqM (dC, dI) none [(wX7 cI qS aS R)] A) [.ref qS, .int x1, .int x2].toArray s 0 0 A) (F0 m 162 ls []) := by
    intro y2 gS H locs ls hf hP hD hS hl
    unfold f_X7_follows_162 at hf
    refine lv_aload_n hx hb dX7_follows_162 rfl (lv_at hl 0 rfl) ?_
    refine va_get (D := (dC, dI)) (ci := 7) (v := .int (gS 11 0)) (C := RX7) (T := TX7) (N := 21) hx hb hts u_X7_follows_X7 hown hK hP 0 rfl rfl 11 (by decide) (hts _ k_X7_follows_4) (fun _ h9 => h9) rfl dX7_follows_163 ?_
    refine lv_if_ne (tgt := 174) hx hb dX7_follows_166 (by decide) (fun c_21 => ?_) (fun c_21 => ?_)
    · have hf := zif_f hf c_21
      exact zM_vret (gs := [(wX7 cI qS aS gS)]) hx hb hr hP hD hS (by rw [← Option.some.inj hf]; exact ⟨rfl, rfl⟩) hlk dX7_follows_174
    · have hf := zif_t hf c_21
      refine lv_aload_n hx hb dX7_follows_169 rfl (lv_at hl 0 rfl) ?_
      refine lv_iload_n hx hb dX7_follows_170 rfl (lv_at hl 1 rfl) ?_
      obtain ⟨R22, e_22, hf⟩ := zbind_ex hf
      refine z_callM (gs2 := [(wX7 cI qS aS R22)]) hP hD hS hA [0] [] rfl rfl rfl (show List.Perm [0] (List.range 1) from by decide) rfl (va_runV (As := [.int y2]) (rest := []) ⟨hx, hb, hml, hown, hts⟩ (c_X7_goes l dC dI cI cC cO qS aS gS y2 R22 e_22 H.size) (cwV 1 hts gX7_follows_X7_goes rfl rfl rfl (by decide +kernel) ⟨Nat.le_of_ble_eq_true rfl, Nat.le_of_ble_eq_true rfl⟩) ⟨zpM_blind, va_recv hK hP (ci := 7) (q0 := 0) rfl rfl, z_useM hK hN hP hD [0] [] rfl (show List.Perm [0] (List.range 1) from by decide)⟩ rfl rfl hl.1 rfl (lv_room (Nat.le_of_ble_eq_true rfl)) dX7_follows_171 ⟨Nat.le_of_ble_eq_true rfl, Nat.le_of_ble_eq_true rfl⟩) (fun H locs hP hD hS => ?_)
      refine W.eq (g2 := F0 m 174 ls []) rfl ?_
      exact zM_vret (gs := [(wX7 cI qS aS R22)]) hx hb hr hP hD hS (by rw [← Option.some.inj hf]; exact ⟨rfl, rfl⟩) hlk dX7_follows_174
  have w22 : ∀ (n22 : Nat) (y1 : Int32) (y2 : Int32) (y3 : Int32) (gS : zG) (H : Heap) (locs : List Loc) (ls : Array Slot), f_X7_follows_22   n22 y1 y2 y3 gS = some R → va_P (dC, dI) vwCl [(wX7 cI qS aS gS)].flatten H → va_D A [(wX7 cI qS aS gS)].flatten → va_S A s.heap H locs → lv_has ls 4 [(0, .ref qS), (1, .int y1), (2, .int y2), (3, .int y3)] → W p l e (headSpec wsX7_follows rm_X7_follows).room s m [.ref qS, .int x1, .int x2].toArray below meth c H locs 0 0 (MQ below (zqM (dC, dI) none [(wX7 cI qS aS R)] A) [.ref qS, .int x1, .int x2].toArray s 0 0 A) (F0 m 22 ls []) := by
    intro n22
    induction n22 with
    | zero =>
      intro y1 y2 y3 gS H locs ls hf hP hD hS hl
      have hf : (none : Option (zG)) = some R := hf
      cases hf
    | succ n22 ih22 =>
      have w118 : ∀ (y1 : Int32) (y2 : Int32) (y3 : Int32) (gS : zG) (H : Heap) (locs : List Loc) (ls : Array Slot), f_X7_follows_118  (f_X7_follows_22   n22)  y1 y2 y3 gS = some R → va_P (dC, dI) vwCl [(wX7 cI qS aS gS)].flatten H → va_D A [(wX7 cI qS aS gS)].flatten → va_S A s.heap H locs → lv_has ls 4 [(0, .ref qS), (1, .int y1), (2, .int y2), (3, .int y3)] → W p l e (headSpec wsX7_follows rm_X7_follows).room s m [.ref qS, .int x1, .int x2].toArray below meth c H locs 0 0 (MQ below (zqM (dC, dI) none [(wX7 cI qS aS R)] A) [.ref qS, .int x1, .int x2].toArray s 0 0 A) (F0 m 118 ls []) := by
        intro y1 y2 y3 gS H locs ls hf hP hD hS hl
        unfold f_X7_follows_118 at hf
        refine lv_aload_n hx hb dX7_follows_118 rfl (lv_at hl 0 rfl) ?_
        refine va_get (D := (dC, dI)) (ci := 7) (v := .int (gS 11 0)) (C := RX7) (T := TX7) (N := 21) hx hb hts u_X7_follows_X7 hown hK hP 0 rfl rfl 11 (by decide) (hts _ k_X7_follows_4) (fun _ h9 => h9) rfl dX7_follows_119 ?_
        refine lv_if_ne (tgt := 156) hx hb dX7_follows_122 (by decide) (fun c_23 => ?_) (fun c_23 => ?_)
        · have hf := zif_f hf c_23
          refine lv_iinc (v := (y3 + (1 : Int32))) (lv' := [(3, .int (y3 + (1 : Int32))), (0, .ref qS), (1, .int y1), (2, .int y2)]) hx hb dX7_follows_156 hl (k := 3) rfl rfl (by decide) rfl (fun ls hl => ?_)
          refine lv_goto (tgt := 22) hx hb dX7_follows_159 (by decide) ?_
          exact ih22 y1 y2 (y3 + (1 : Int32)) gS H locs ls hf hP hD hS (lv_sub hl [1, 2, 3, 0] rfl)
        · have hf := zif_t hf c_23
          refine lv_aload_n hx hb dX7_follows_125 rfl (lv_at hl 0 rfl) ?_
          refine lv_aload_n hx hb dX7_follows_126 rfl (lv_at hl 0 rfl) ?_
          refine va_get (D := (dC, dI)) (ci := 7) (v := .int (gS 9 0)) (C := RX7) (T := TX7) (N := 21) hx hb hts u_X7_follows_X7 hown hK hP 0 rfl rfl 9 (by decide) (hts _ k_X7_follows_2) (fun _ h9 => h9) rfl dX7_follows_127 ?_
          refine lv_aload_n hx hb dX7_follows_130 rfl (lv_at hl 0 rfl) ?_
          refine lv_iload_n hx hb dX7_follows_131 rfl (lv_at hl 3 rfl) ?_
          refine lv_iconst (v := (2 : Int32)) hx hb dX7_follows_132 (by decide) ?_
          obtain ⟨R24, e_24, hf⟩ := zbind_ex hf
          refine z_callRi (va_runV (As := [.int y3, .int (2 : Int32)]) (rest := [.int (gS 9 0), .ref qS]) ⟨hx, hb, hml, hown, hts⟩ (c_X7_of l dC dI cI cC cO qS aS gS y3 (2 : Int32) R24 e_24) (cwV 2 hts gX7_follows_X7_of rfl rfl rfl (by decide +kernel) ⟨Nat.le_of_ble_eq_true rfl, Nat.le_of_ble_eq_true rfl⟩) ⟨zpR_blind, va_recv hK hP (ci := 7) (q0 := 0) rfl rfl, z_useR hK hN hP [0] rfl⟩ rfl rfl hl.1 rfl (lv_room (Nat.le_of_ble_eq_true rfl)) dX7_follows_133 ⟨Nat.le_of_ble_eq_true rfl, Nat.le_of_ble_eq_true rfl⟩) ?_
          refine lv_aload_n hx hb dX7_follows_136 rfl (lv_at hl 0 rfl) ?_
          refine lv_iload_n hx hb dX7_follows_137 rfl (lv_at hl 3 rfl) ?_
          refine lv_iconst (v := (3 : Int32)) hx hb dX7_follows_138 (by decide) ?_
          obtain ⟨R25, e_25, hf⟩ := zbind_ex hf
          refine z_callRi (va_runV (As := [.int y3, .int (3 : Int32)]) (rest := [.int R24, .int (gS 9 0), .ref qS]) ⟨hx, hb, hml, hown, hts⟩ (c_X7_of l dC dI cI cC cO qS aS gS y3 (3 : Int32) R25 e_25) (cwV 2 hts gX7_follows_X7_of rfl rfl rfl (by decide +kernel) ⟨Nat.le_of_ble_eq_true rfl, Nat.le_of_ble_eq_true rfl⟩) ⟨zpR_blind, va_recv hK hP (ci := 7) (q0 := 0) rfl rfl, z_useR hK hN hP [0] rfl⟩ rfl rfl hl.1 rfl (lv_room (Nat.le_of_ble_eq_true rfl)) dX7_follows_139 ⟨Nat.le_of_ble_eq_true rfl, Nat.le_of_ble_eq_true rfl⟩) ?_
          obtain ⟨R26, e_26, hf⟩ := zbind_ex hf
          refine z_callRi (va_runS (As := [.int (gS 9 0), .int R24, .int R25]) (rest := [.ref qS]) ⟨hx, hb, hml, hown, hts⟩ (c_X7_in l dC dI cI cC cO  (gS 9 0) R24 R25 R26 e_26) (va_cwS 3 hts gX7_follows_X7_in rfl rfl rfl (by decide +kernel) ⟨Nat.le_of_ble_eq_true rfl, Nat.le_of_ble_eq_true rfl⟩) ⟨zpR_blind, z_useR hK hN hP [] rfl⟩ rfl rfl hl.1 rfl (lv_room (Nat.le_of_ble_eq_true rfl)) dX7_follows_142 ⟨Nat.le_of_ble_eq_true rfl, Nat.le_of_ble_eq_true rfl⟩) ?_
          refine lv_if_eq (tgt := 152) hx hb dX7_follows_145 (by decide) (fun c_27 => ?_) (fun c_27 => ?_)
          · have hf := zif_t hf c_27
            refine lv_iconst (v := (1 : Int32)) hx hb dX7_follows_152 (by decide) ?_
            obtain ⟨gS_28, e_28, hf⟩ := zlet_ex hf
            refine z_put (gs' := [(wX7 cI qS aS gS_28)]) (D := (dC, dI)) (ci := 7) (ty := .int) (C := RX7) (T := TX7) (N := 21) hx hb hts u_X7_follows_X7 tyX7 tyX7_ok nmX7 hown hK hP hD hS 0 rfl rfl 11 (by decide) (hts _ k_X7_follows_4) (fun _ h9 => h9) rfl (by decide +kernel) rfl rfl (Nat.le_of_ble_eq_true rfl) (by rw [e_28]; rfl) dX7_follows_153 (fun H locs hP hD hS => ?_)
            refine lv_iinc (v := (y3 + (1 : Int32))) (lv' := [(3, .int (y3 + (1 : Int32))), (0, .ref qS), (1, .int y1), (2, .int y2)]) hx hb dX7_follows_156 hl (k := 3) rfl rfl (by decide) rfl (fun ls hl => ?_)
            refine lv_goto (tgt := 22) hx hb dX7_follows_159 (by decide) ?_
            exact ih22 y1 y2 (y3 + (1 : Int32)) gS_28 H locs ls hf hP hD hS (lv_sub hl [1, 2, 3, 0] rfl)
          · have hf := zif_f hf c_27
            refine lv_iconst (v := (0 : Int32)) hx hb dX7_follows_148 (by decide) ?_
            refine lv_goto (tgt := 153) hx hb dX7_follows_149 (by decide) ?_
            obtain ⟨gS_29, e_29, hf⟩ := zlet_ex hf
            refine z_put (gs' := [(wX7 cI qS aS gS_29)]) (D := (dC, dI)) (ci := 7) (ty := .int) (C := RX7) (T := TX7) (N := 21) hx hb hts u_X7_follows_X7 tyX7 tyX7_ok nmX7 hown hK hP hD hS 0 rfl rfl 11 (by decide) (hts _ k_X7_follows_4) (fun _ h9 => h9) rfl (by decide +kernel) rfl rfl (Nat.le_of_ble_eq_true rfl) (by rw [e_29]; rfl) dX7_follows_153 (fun H locs hP hD hS => ?_)
            refine lv_iinc (v := (y3 + (1 : Int32))) (lv' := [(3, .int (y3 + (1 : Int32))), (0, .ref qS), (1, .int y1), (2, .int y2)]) hx hb dX7_follows_156 hl (k := 3) rfl rfl (by decide) rfl (fun ls hl => ?_)
            refine lv_goto (tgt := 22) hx hb dX7_follows_159 (by decide) ?_
            exact ih22 y1 y2 (y3 + (1 : Int32)) gS_29 H locs ls hf hP hD hS (lv_sub hl [1, 2, 3, 0] rfl)
      intro y1 y2 y3 gS H locs ls hf hP hD hS hl
      have hf : f_X7_follows_22_b   (f_X7_follows_22   n22) y1 y2 y3 gS = some R := hf
      unfold f_X7_follows_22_b at hf
      refine lv_iload_n hx hb dX7_follows_22 rfl (lv_at hl 3 rfl) ?_
      refine lv_aload_n hx hb dX7_follows_23 rfl (lv_at hl 0 rfl) ?_
      refine va_get (D := (dC, dI)) (ci := 7) (v := .ref (aS 0)) (C := RX7) (T := TX7) (N := 21) hx hb hts u_X7_follows_X7 hown hK hP 0 rfl rfl 0 (by decide) (hts _ k_X7_follows_5) (fun _ h9 => h9) rfl dX7_follows_24 ?_
      refine lv_iconst (v := (1 : Int32)) hx hb dX7_follows_27 (by decide) ?_
      obtain ⟨h_5, hf⟩ := zin_ex hf
      refine va_iald hx hb hK hP 1 0 rfl rfl h_5 dX7_follows_28 ?_
      refine lv_icmp_ge (tgt := 162) hx hb dX7_follows_29 (by decide) (fun c_6 => ?_) (fun c_6 => ?_)
      · have hf := zif_t hf c_6
        exact w162  y2 gS H locs ls hf hP hD hS (lv_sub hl [0, 2] rfl)
      · have hf := zif_f hf c_6
        refine lv_aload_n hx hb dX7_follows_32 rfl (lv_at hl 0 rfl) ?_
        refine va_get (D := (dC, dI)) (ci := 7) (v := .int (gS 11 0)) (C := RX7) (T := TX7) (N := 21) hx hb hts u_X7_follows_X7 hown hK hP 0 rfl rfl 11 (by decide) (hts _ k_X7_follows_4) (fun _ h9 => h9) rfl dX7_follows_33 ?_
        refine lv_if_ne (tgt := 162) hx hb dX7_follows_36 (by decide) (fun c_7 => ?_) (fun c_7 => ?_)
        · have hf := zif_f hf c_7
          exact w162  y2 gS H locs ls hf hP hD hS (lv_sub hl [0, 2] rfl)
        · have hf := zif_t hf c_7
          refine lv_aload_n hx hb dX7_follows_39 rfl (lv_at hl 0 rfl) ?_
          refine lv_iload_n hx hb dX7_follows_40 rfl (lv_at hl 3 rfl) ?_
          refine lv_iconst (v := (0 : Int32)) hx hb dX7_follows_41 (by decide) ?_
          obtain ⟨R8, e_8, hf⟩ := zbind_ex hf
          refine z_callRi (va_runV (As := [.int y3, .int (0 : Int32)]) (rest := []) ⟨hx, hb, hml, hown, hts⟩ (c_X7_of l dC dI cI cC cO qS aS gS y3 (0 : Int32) R8 e_8) (cwV 2 hts gX7_follows_X7_of rfl rfl rfl (by decide +kernel) ⟨Nat.le_of_ble_eq_true rfl, Nat.le_of_ble_eq_true rfl⟩) ⟨zpR_blind, va_recv hK hP (ci := 7) (q0 := 0) rfl rfl, z_useR hK hN hP [0] rfl⟩ rfl rfl hl.1 rfl (lv_room (Nat.le_of_ble_eq_true rfl)) dX7_follows_42 ⟨Nat.le_of_ble_eq_true rfl, Nat.le_of_ble_eq_true rfl⟩) ?_
          refine lv_iload_n hx hb dX7_follows_45 rfl (lv_at hl 2 rfl) ?_
          refine lv_icmp_ge (tgt := 162) hx hb dX7_follows_46 (by decide) (fun c_9 => ?_) (fun c_9 => ?_)
          · have hf := zif_t hf c_9
            exact w162  y2 gS H locs ls hf hP hD hS (lv_sub hl [0, 2] rfl)
          · have hf := zif_f hf c_9
            refine lv_aload_n hx hb dX7_follows_49 rfl (lv_at hl 0 rfl) ?_
            refine lv_aload_n hx hb dX7_follows_50 rfl (lv_at hl 0 rfl) ?_
            refine lv_iload_n hx hb dX7_follows_51 rfl (lv_at hl 3 rfl) ?_
            refine lv_iconst (v := (0 : Int32)) hx hb dX7_follows_52 (by decide) ?_
            obtain ⟨R10, e_10, hf⟩ := zbind_ex hf
            refine z_callRi (va_runV (As := [.int y3, .int (0 : Int32)]) (rest := [.ref qS]) ⟨hx, hb, hml, hown, hts⟩ (c_X7_of l dC dI cI cC cO qS aS gS y3 (0 : Int32) R10 e_10) (cwV 2 hts gX7_follows_X7_of rfl rfl rfl (by decide +kernel) ⟨Nat.le_of_ble_eq_true rfl, Nat.le_of_ble_eq_true rfl⟩) ⟨zpR_blind, va_recv hK hP (ci := 7) (q0 := 0) rfl rfl, z_useR hK hN hP [0] rfl⟩ rfl rfl hl.1 rfl (lv_room (Nat.le_of_ble_eq_true rfl)) dX7_follows_53 ⟨Nat.le_of_ble_eq_true rfl, Nat.le_of_ble_eq_true rfl⟩) ?_
            obtain ⟨R11, e_11, hf⟩ := zbind_ex hf
            refine z_callM (gs2 := [(wX7 cI qS aS R11)]) hP hD hS hA [0] [] rfl rfl rfl (show List.Perm [0] (List.range 1) from by decide) rfl (va_runV (As := [.int R10]) (rest := []) ⟨hx, hb, hml, hown, hts⟩ (c_X7_goes l dC dI cI cC cO qS aS gS R10 R11 e_11 H.size) (cwV 1 hts gX7_follows_X7_goes rfl rfl rfl (by decide +kernel) ⟨Nat.le_of_ble_eq_true rfl, Nat.le_of_ble_eq_true rfl⟩) ⟨zpM_blind, va_recv hK hP (ci := 7) (q0 := 0) rfl rfl, z_useM hK hN hP hD [0] [] rfl (show List.Perm [0] (List.range 1) from by decide)⟩ rfl rfl hl.1 rfl (lv_room (Nat.le_of_ble_eq_true rfl)) dX7_follows_56 ⟨Nat.le_of_ble_eq_true rfl, Nat.le_of_ble_eq_true rfl⟩) (fun H locs hP hD hS => ?_)
            refine W.eq (g2 := F0 m 59 ls []) rfl ?_
            refine lv_aload_n hx hb dX7_follows_59 rfl (lv_at hl 0 rfl) ?_
            refine va_get (D := (dC, dI)) (ci := 7) (v := .int (R11 11 0)) (C := RX7) (T := TX7) (N := 21) hx hb hts u_X7_follows_X7 hown hK hP 0 rfl rfl 11 (by decide) (hts _ k_X7_follows_4) (fun _ h9 => h9) rfl dX7_follows_60 ?_
            refine lv_if_ne (tgt := 118) hx hb dX7_follows_63 (by decide) (fun c_12 => ?_) (fun c_12 => ?_)
            · have hf := zif_f hf c_12
              exact w118  y1 y2 y3 R11 H locs ls hf hP hD hS (lv_sub hl [0, 1, 2, 3] rfl)
            · have hf := zif_t hf c_12
              refine lv_aload_n hx hb dX7_follows_66 rfl (lv_at hl 0 rfl) ?_
              refine lv_iload_n hx hb dX7_follows_67 rfl (lv_at hl 3 rfl) ?_
              refine lv_iconst (v := (1 : Int32)) hx hb dX7_follows_68 (by decide) ?_
              obtain ⟨R13, e_13, hf⟩ := zbind_ex hf
              refine z_callRi (va_runV (As := [.int y3, .int (1 : Int32)]) (rest := []) ⟨hx, hb, hml, hown, hts⟩ (c_X7_of l dC dI cI cC cO qS aS R11 y3 (1 : Int32) R13 e_13) (cwV 2 hts gX7_follows_X7_of rfl rfl rfl (by decide +kernel) ⟨Nat.le_of_ble_eq_true rfl, Nat.le_of_ble_eq_true rfl⟩) ⟨zpR_blind, va_recv hK hP (ci := 7) (q0 := 0) rfl rfl, z_useR hK hN hP [0] rfl⟩ rfl rfl hl.1 rfl (lv_room (Nat.le_of_ble_eq_true rfl)) dX7_follows_69 ⟨Nat.le_of_ble_eq_true rfl, Nat.le_of_ble_eq_true rfl⟩) ?_
              refine lv_if_ne (tgt := 118) hx hb dX7_follows_72 (by decide) (fun c_14 => ?_) (fun c_14 => ?_)
              · have hf := zif_f hf c_14
                exact w118  y1 y2 y3 R11 H locs ls hf hP hD hS (lv_sub hl [0, 1, 2, 3] rfl)
              · have hf := zif_t hf c_14
                refine lv_aload_n hx hb dX7_follows_75 rfl (lv_at hl 0 rfl) ?_
                refine lv_dup hx hb dX7_follows_76 rfl ?_
                refine va_get (D := (dC, dI)) (ci := 7) (v := .int (R11 10 0)) (C := RX7) (T := TX7) (N := 21) hx hb hts u_X7_follows_X7 hown hK hP 0 rfl rfl 10 (by decide) (hts _ k_X7_follows_3) (fun _ h9 => h9) rfl dX7_follows_77 ?_
                refine lv_aload_n hx hb dX7_follows_80 rfl (lv_at hl 0 rfl) ?_
                refine lv_iload_n hx hb dX7_follows_81 rfl (lv_at hl 3 rfl) ?_
                refine lv_iconst (v := (4 : Int32)) hx hb dX7_follows_82 (by decide) ?_
                obtain ⟨R15, e_15, hf⟩ := zbind_ex hf
                refine z_callRi (va_runV (As := [.int y3, .int (4 : Int32)]) (rest := [.int (R11 10 0), .ref qS]) ⟨hx, hb, hml, hown, hts⟩ (c_X7_of l dC dI cI cC cO qS aS R11 y3 (4 : Int32) R15 e_15) (cwV 2 hts gX7_follows_X7_of rfl rfl rfl (by decide +kernel) ⟨Nat.le_of_ble_eq_true rfl, Nat.le_of_ble_eq_true rfl⟩) ⟨zpR_blind, va_recv hK hP (ci := 7) (q0 := 0) rfl rfl, z_useR hK hN hP [0] rfl⟩ rfl rfl hl.1 rfl (lv_room (Nat.le_of_ble_eq_true rfl)) dX7_follows_83 ⟨Nat.le_of_ble_eq_true rfl, Nat.le_of_ble_eq_true rfl⟩) ?_
                refine lv_aload_n hx hb dX7_follows_86 rfl (lv_at hl 0 rfl) ?_
                refine lv_iload_n hx hb dX7_follows_87 rfl (lv_at hl 3 rfl) ?_
                refine lv_iconst (v := (3 : Int32)) hx hb dX7_follows_88 (by decide) ?_
                obtain ⟨R16, e_16, hf⟩ := zbind_ex hf
                refine z_callRi (va_runV (As := [.int y3, .int (3 : Int32)]) (rest := [.int R15, .int (R11 10 0), .ref qS]) ⟨hx, hb, hml, hown, hts⟩ (c_X7_of l dC dI cI cC cO qS aS R11 y3 (3 : Int32) R16 e_16) (cwV 2 hts gX7_follows_X7_of rfl rfl rfl (by decide +kernel) ⟨Nat.le_of_ble_eq_true rfl, Nat.le_of_ble_eq_true rfl⟩) ⟨zpR_blind, va_recv hK hP (ci := 7) (q0 := 0) rfl rfl, z_useR hK hN hP [0] rfl⟩ rfl rfl hl.1 rfl (lv_room (Nat.le_of_ble_eq_true rfl)) dX7_follows_89 ⟨Nat.le_of_ble_eq_true rfl, Nat.le_of_ble_eq_true rfl⟩) ?_
                refine lv_aload_n hx hb dX7_follows_92 rfl (lv_at hl 0 rfl) ?_
                refine lv_iload_n hx hb dX7_follows_93 rfl (lv_at hl 3 rfl) ?_
                refine lv_iconst (v := (2 : Int32)) hx hb dX7_follows_94 (by decide) ?_
                obtain ⟨R17, e_17, hf⟩ := zbind_ex hf
                refine z_callRi (va_runV (As := [.int y3, .int (2 : Int32)]) (rest := [.int R16, .int R15, .int (R11 10 0), .ref qS]) ⟨hx, hb, hml, hown, hts⟩ (c_X7_of l dC dI cI cC cO qS aS R11 y3 (2 : Int32) R17 e_17) (cwV 2 hts gX7_follows_X7_of rfl rfl rfl (by decide +kernel) ⟨Nat.le_of_ble_eq_true rfl, Nat.le_of_ble_eq_true rfl⟩) ⟨zpR_blind, va_recv hK hP (ci := 7) (q0 := 0) rfl rfl, z_useR hK hN hP [0] rfl⟩ rfl rfl hl.1 rfl (lv_room (Nat.le_of_ble_eq_true rfl)) dX7_follows_95 ⟨Nat.le_of_ble_eq_true rfl, Nat.le_of_ble_eq_true rfl⟩) ?_
                refine lv_aload_n hx hb dX7_follows_98 rfl (lv_at hl 0 rfl) ?_
                refine lv_iload_n hx hb dX7_follows_99 rfl (lv_at hl 1 rfl) ?_
                obtain ⟨R18, e_18, hf⟩ := zbind_ex hf
                refine z_callRi (va_runV (As := [.int y1]) (rest := [.int R17, .int R16, .int R15, .int (R11 10 0), .ref qS]) ⟨hx, hb, hml, hown, hts⟩ (c_X7_colour l dC dI cI cC cO qS aS R11 y1 R18 e_18) (cwV 1 hts gX7_follows_X7_colour rfl rfl rfl (by decide +kernel) ⟨Nat.le_of_ble_eq_true rfl, Nat.le_of_ble_eq_true rfl⟩) ⟨zpR_blind, va_recv hK hP (ci := 7) (q0 := 0) rfl rfl, z_useR hK hN hP [0] rfl⟩ rfl rfl hl.1 rfl (lv_room (Nat.le_of_ble_eq_true rfl)) dX7_follows_100 ⟨Nat.le_of_ble_eq_true rfl, Nat.le_of_ble_eq_true rfl⟩) ?_
                obtain ⟨R19, e_19, hf⟩ := zbind_ex hf
                refine z_callRi (va_runS (As := [.int R17, .int R18]) (rest := [.int R16, .int R15, .int (R11 10 0), .ref qS]) ⟨hx, hb, hml, hown, hts⟩ (c_X7_bends l dC dI cI cC cO  R17 R18 R19 e_19) (va_cwS 2 hts gX7_follows_X7_bends rfl rfl rfl (by decide +kernel) ⟨Nat.le_of_ble_eq_true rfl, Nat.le_of_ble_eq_true rfl⟩) ⟨zpR_blind, z_useR hK hN hP [] rfl⟩ rfl rfl hl.1 rfl (lv_room (Nat.le_of_ble_eq_true rfl)) dX7_follows_103 ⟨Nat.le_of_ble_eq_true rfl, Nat.le_of_ble_eq_true rfl⟩) ?_
                refine lv_imul hx hb dX7_follows_106 ?_
                refine lv_bipush (v := (100 : Int32)) hx hb dX7_follows_107 (by decide) ?_
                refine lv_idiv hx hb dX7_follows_109 (by decide) ?_
                refine lv_imul hx hb dX7_follows_110 ?_
                refine lv_iadd hx hb dX7_follows_111 ?_
                obtain ⟨gS_20, e_20, hf⟩ := zlet_ex hf
                refine z_put (gs' := [(wX7 cI qS aS gS_20)]) (D := (dC, dI)) (ci := 7) (ty := .int) (C := RX7) (T := TX7) (N := 21) hx hb hts u_X7_follows_X7 tyX7 tyX7_ok nmX7 hown hK hP hD hS 0 rfl rfl 10 (by decide) (hts _ k_X7_follows_3) (fun _ h9 => h9) rfl (by decide +kernel) rfl rfl (Nat.le_of_ble_eq_true rfl) (by rw [e_20]; rfl) dX7_follows_112 (fun H locs hP hD hS => ?_)
                refine lv_goto (tgt := 156) hx hb dX7_follows_115 (by decide) ?_
                refine lv_iinc (v := (y3 + (1 : Int32))) (lv' := [(3, .int (y3 + (1 : Int32))), (0, .ref qS), (1, .int y1), (2, .int y2)]) hx hb dX7_follows_156 hl (k := 3) rfl rfl (by decide) rfl (fun ls hl => ?_)
                refine lv_goto (tgt := 22) hx hb dX7_follows_159 (by decide) ?_
                exact ih22 y1 y2 (y3 + (1 : Int32)) gS_20 H locs ls hf hP hD hS (lv_sub hl [1, 2, 3, 0] rfl)
  unfold f_X7_follows at hf
  obtain ⟨H, hH⟩ : ∃ H, H = s.heap := ⟨_, rfl⟩
  obtain ⟨locs, hlocs⟩ : ∃ locs : List Loc, locs = [] := ⟨_, rfl⟩
  have hS : va_S A s.heap H locs := by rw [hH, hlocs]; exact hS
  rw [← hH] at hP
  refine zheap hH hlocs ?_
  refine lv_aload_n hx hb dX7_follows_0 rfl (lv_at hl 0 rfl) ?_
  refine lv_iconst (v := (0 : Int32)) hx hb dX7_follows_1 (by decide) ?_
  obtain ⟨gS_1, e_1, hf⟩ := zlet_ex hf
  refine z_put (gs' := [(wX7 cI qS aS gS_1)]) (D := (dC, dI)) (ci := 7) (ty := .int) (C := RX7) (T := TX7) (N := 21) hx hb hts u_X7_follows_X7 tyX7 tyX7_ok nmX7 hown hK hP hD hS 0 rfl rfl 8 (by decide) (hts _ k_X7_follows_1) (fun _ h9 => h9) rfl (by decide +kernel) rfl rfl (Nat.le_of_ble_eq_true rfl) (by rw [e_1]; rfl) dX7_follows_2 (fun H locs hP hD hS => ?_)
  refine lv_aload_n hx hb dX7_follows_5 rfl (lv_at hl 0 rfl) ?_
  refine lv_iconst (v := (0 : Int32)) hx hb dX7_follows_6 (by decide) ?_
  obtain ⟨gS_2, e_2, hf⟩ := zlet_ex hf
  refine z_put (gs' := [(wX7 cI qS aS gS_2)]) (D := (dC, dI)) (ci := 7) (ty := .int) (C := RX7) (T := TX7) (N := 21) hx hb hts u_X7_follows_X7 tyX7 tyX7_ok nmX7 hown hK hP hD hS 0 rfl rfl 9 (by decide) (hts _ k_X7_follows_2) (fun _ h9 => h9) rfl (by decide +kernel) rfl rfl (Nat.le_of_ble_eq_true rfl) (by rw [e_2]; rfl) dX7_follows_7 (fun H locs hP hD hS => ?_)
  refine lv_aload_n hx hb dX7_follows_10 rfl (lv_at hl 0 rfl) ?_
  refine lv_iconst (v := (0 : Int32)) hx hb dX7_follows_11 (by decide) ?_
  obtain ⟨gS_3, e_3, hf⟩ := zlet_ex hf
  refine z_put (gs' := [(wX7 cI qS aS gS_3)]) (D := (dC, dI)) (ci := 7) (ty := .int) (C := RX7) (T := TX7) (N := 21) hx hb hts u_X7_follows_X7 tyX7 tyX7_ok nmX7 hown hK hP hD hS 0 rfl rfl 10 (by decide) (hts _ k_X7_follows_3) (fun _ h9 => h9) rfl (by decide +kernel) rfl rfl (Nat.le_of_ble_eq_true rfl) (by rw [e_3]; rfl) dX7_follows_12 (fun H locs hP hD hS => ?_)
  refine lv_aload_n hx hb dX7_follows_15 rfl (lv_at hl 0 rfl) ?_
  refine lv_iconst (v := (0 : Int32)) hx hb dX7_follows_16 (by decide) ?_
  obtain ⟨gS_4, e_4, hf⟩ := zlet_ex hf
  refine z_put (gs' := [(wX7 cI qS aS gS_4)]) (D := (dC, dI)) (ci := 7) (ty := .int) (C := RX7) (T := TX7) (N := 21) hx hb hts u_X7_follows_X7 tyX7 tyX7_ok nmX7 hown hK hP hD hS 0 rfl rfl 11 (by decide) (hts _ k_X7_follows_4) (fun _ h9 => h9) rfl (by decide +kernel) rfl rfl (Nat.le_of_ble_eq_true rfl) (by rw [e_4]; rfl) dX7_follows_17 (fun H locs hP hD hS => ?_)
  refine lv_iconst (v := (0 : Int32)) hx hb dX7_follows_20 (by decide) ?_
  refine lv_istore_n (lv' := [(3, .int (0 : Int32)), (0, .ref qS), (1, .int x1), (2, .int x2)]) hx hb dX7_follows_21 rfl hl (by decide) rfl (fun ls hl => ?_)
  exact w22 zfuel x1 x2 (0 : Int32) gS_4 H locs ls hf hP hD hS (lv_sub hl [1, 2, 3, 0] rfl)

def f_X7_cell (gS : zG)  : Option (Int32) := (zin (2 : Int32) 59 (zbind (f_X7_floor (gS 9 0) (gS 0 (2 : Int32).toNatClampNeg)) (fun R2 => (some (R2)))))
theorem u_X7_cell_X7 : ∀ w ∈ u_ws RX7 TX7 21, w ∈ wsX7_cell := fun w h => List.mem_cons_of_mem _ (List.mem_append_right _ h)
theorem k_X7_cell_1 : Cond.fieldLink RX7 88 "JoinedLightModel" "height" "I" ∈ wsX7_cell := List.mem_of_getElem? (i := 1) rfl
theorem k_X7_cell_2 : Cond.fieldLink RX7 7 "JoinedLightModel" "s" "[I" ∈ wsX7_cell := List.mem_of_getElem? (i := 2) rfl
abbrev rm_X7_cell : Room := { frames := 1, cells := 0, slots := 0, locals := 21 }
set_option maxHeartbeats 4000000 in
set_option maxRecDepth 100000 in
theorem c_X7_cell (l : Launch) (dC : Nat → ClassId) (dI : Nat → Nat → Nat) (cI cC cO : ClassId) (qS : Nat) (aS : Nat → Nat) (gS : zG)  (R : Int32) (hf : f_X7_cell gS = some R) : cR l (dC, dI) (zT cI cC cO) yX7_cell wsX7_cell rm_X7_cell [.ref qS] [(wX7 cI qS aS gS)] (some (.int R)) := by
  refine zR_in (cc := cX7_cell) (maxL := 1) (ret := (some .int)) (plainFor_of_name (by decide)) rfl (Nat.le_of_ble_eq_true rfl) ?_
  intro p e s m below meth c hx hb hml hr hlk hown hts hK hN hP ls hl
  have hl : lv_has ls 1 [(0, .ref qS)] := hl
  unfold f_X7_cell at hf
  refine lv_aload_n hx hb dX7_cell_0 rfl (lv_at hl 0 rfl) ?_
  refine va_get (D := (dC, dI)) (ci := 7) (v := .int (gS 9 0)) (C := RX7) (T := TX7) (N := 21) hx hb hts u_X7_cell_X7 hown hK hP 0 rfl rfl 9 (by decide) (hts _ k_X7_cell_1) (fun _ h9 => h9) rfl dX7_cell_1 ?_
  refine lv_aload_n hx hb dX7_cell_4 rfl (lv_at hl 0 rfl) ?_
  refine va_get (D := (dC, dI)) (ci := 7) (v := .ref (aS 0)) (C := RX7) (T := TX7) (N := 21) hx hb hts u_X7_cell_X7 hown hK hP 0 rfl rfl 0 (by decide) (hts _ k_X7_cell_2) (fun _ h9 => h9) rfl dX7_cell_5 ?_
  refine lv_iconst (v := (2 : Int32)) hx hb dX7_cell_8 (by decide) ?_
  obtain ⟨h_1, hf⟩ := zin_ex hf
  refine va_iald hx hb hK hP 1 0 rfl rfl h_1 dX7_cell_9 ?_
  obtain ⟨R2, e_2, hf⟩ := zbind_ex hf
  refine z_callRi (va_runS (As := [.int (gS 9 0), .int (gS 0 (2 : Int32).toNatClampNeg)]) (rest := []) ⟨hx, hb, hml, hown, hts⟩ (c_X7_floor l dC dI cI cC cO  (gS 9 0) (gS 0 (2 : Int32).toNatClampNeg) R2 e_2) (va_cwS 2 hts gX7_cell_X7_floor rfl rfl rfl (by decide +kernel) ⟨Nat.le_of_ble_eq_true rfl, Nat.le_of_ble_eq_true rfl⟩) ⟨zpR_blind, z_useR hK hN hP [] rfl⟩ rfl rfl hl.1 rfl (lv_room (Nat.le_of_ble_eq_true rfl)) dX7_cell_10 ⟨Nat.le_of_ble_eq_true rfl, Nat.le_of_ble_eq_true rfl⟩) ?_
  exact zR_ret hx hb hr rfl hf hlk dX7_cell_13

def f_X7_lineOf_63   (y1 : Int32) (y2 : Int32) (gS : zG) : Option (Int32 × zG) := (if y2 = (0 : Int32) then (zbind (f_X7_colour gS y1) (fun R9 => (some (R9, gS)))) else (if y2 = (1 : Int32) then (zbind (f_X7_lightOf gS y1) (fun R11 => (some (R11, gS)))) else (if y2 = (2 : Int32) then (if (gS 11 0) = 0 then (some ((1 : Int32), gS)) else (some ((0 : Int32), gS))) else (if y2 = (3 : Int32) then (some ((gS 9 0), gS)) else (if y2 = (4 : Int32) then (some ((gS 10 0), gS)) else (if y2 = (5 : Int32) then (zbind (f_X7_cell gS) (fun R17 => (some (R17, gS)))) else (if y2 = (6 : Int32) then (some ((gS 8 0), gS)) else (some ((gS 11 0), gS)))))))))
def f_X7_lineOf_57   (y1 : Int32) (y2 : Int32) (s0 : Int32) (s1 : Int32) (gS : zG) : Option (Int32 × zG) := (if s1 = s0 then (f_X7_lineOf_63    y1 y2 gS) else (some ((-1000000004 : Int32), gS)))
def f_X7_lineOf_45   (y1 : Int32) (y2 : Int32) (s0 : Int32) (gS : zG) : Option (Int32 × zG) := (if (gS 11 0) = 0 then (f_X7_lineOf_57    y1 y2 (1 : Int32) s0 gS) else (f_X7_lineOf_57    y1 y2 (0 : Int32) s0 gS))
def f_X7_lineOf (gS : zG) (x1 : Int32) (x2 : Int32) : Option (Int32 × zG) := (zbind (f_X7_isLine gS x1) (fun R1 => (if R1 = 0 then (some ((-1000000001 : Int32), gS)) else (zbind (f_X7_in x2 (0 : Int32) (7 : Int32)) (fun R3 => (if R3 = 0 then (some ((-1000000001 : Int32), gS)) else (zbind (f_X7_follows gS x1 (1000 : Int32)) (fun R5 => (if x2 ≤ (2 : Int32) then (f_X7_lineOf_63    x1 x2 R5) else (if (6 : Int32) ≤ x2 then (f_X7_lineOf_45    x1 x2 (0 : Int32) R5) else (f_X7_lineOf_45    x1 x2 (1 : Int32) R5)))))))))))
theorem u_X7_lineOf_X7 : ∀ w ∈ u_ws RX7 TX7 21, w ∈ wsX7_lineOf := fun w h => List.mem_cons_of_mem _ (List.mem_append_right _ h)
theorem k_X7_lineOf_1 : Cond.constant RX7 51 (-1000000001) ∈ wsX7_lineOf := List.mem_of_getElem? (i := 1) rfl
theorem k_X7_lineOf_2 : Cond.fieldLink RX7 100 "JoinedLightModel" "why" "I" ∈ wsX7_lineOf := List.mem_of_getElem? (i := 2) rfl
theorem k_X7_lineOf_4 : Cond.fieldLink RX7 88 "JoinedLightModel" "height" "I" ∈ wsX7_lineOf := List.mem_of_getElem? (i := 4) rfl
theorem k_X7_lineOf_5 : Cond.fieldLink RX7 91 "JoinedLightModel" "slope" "I" ∈ wsX7_lineOf := List.mem_of_getElem? (i := 5) rfl
theorem k_X7_lineOf_6 : Cond.fieldLink RX7 94 "JoinedLightModel" "place" "I" ∈ wsX7_lineOf := List.mem_of_getElem? (i := 6) rfl
theorem k_X7_lineOf_3 : Cond.constant RX7 46 (-1000000004) ∈ wsX7_lineOf := List.mem_of_getElem? (i := 3) rfl
abbrev rm_X7_lineOf : Room := { frames := 3, cells := 0, slots := 0, locals := 66 }
set_option maxHeartbeats 4000000 in
set_option maxRecDepth 100000 in
theorem c_X7_lineOf (l : Launch) (dC : Nat → ClassId) (dI : Nat → Nat → Nat) (cI cC cO : ClassId) (qS : Nat) (aS : Nat → Nat) (gS : zG) (x1 : Int32) (x2 : Int32) (R : Int32 × zG) (hf : f_X7_lineOf gS x1 x2 = some R) : cM l (dC, dI) (zT cI cC cO) yX7_lineOf wsX7_lineOf rm_X7_lineOf [.ref qS, .int x1, .int x2] [(wX7 cI qS aS gS)] [(wX7 cI qS aS R.2)] (some (.int R.1)) 0 0 := by
  refine zM_in (cc := cX7_lineOf) (maxL := 3) (ret := (some .int)) (plainFor_of_name (by decide)) rfl (Nat.le_of_ble_eq_true rfl) ?_
  intro p e s m below meth c hx hb hml hr hlk hown hts hK hN A hA hP hD hS ls hl
  have hl : lv_has ls 3 [(0, .ref qS), (1, .int x1), (2, .int x2)] := hl
  have w63 : ∀ (y1 : Int32) (y2 : Int32) (gS : zG) (H : Heap) (locs : List Loc) (ls : Array Slot), f_X7_lineOf_63    y1 y2 gS = some R → va_P (dC, dI) vwCl [(wX7 cI qS aS gS)].flatten H → va_D A [(wX7 cI qS aS gS)].flatten → va_S A s.heap H locs → lv_has ls 3 [(0, .ref qS), (1, .int y1), (2, .int y2)] → W p l e (headSpec wsX7_lineOf rm_X7_lineOf).room s m [.ref qS, .int x1, .int x2].toArray below meth c H locs 0 0 (MQ below (zqM (dC, dI) (some (.int R.1)) [(wX7 cI qS aS R.2)] A) [.ref qS, .int x1, .int x2].toArray s 0 0 A) (F0 m 63 ls []) := by
    intro y1 y2 gS H locs ls hf hP hD hS hl
    unfold f_X7_lineOf_63 at hf
    refine lv_iload_n hx hb dX7_lineOf_63 rfl (lv_at hl 2 rfl) ?_
    by_cases c_8 : y2 = (0 : Int32)
    · have hf := zif_t hf c_8
      refine lv_tableIn (tgt := 108) (off := 44) hx hb dX7_lineOf_64 (by rw [c_8]; decide) (by rw [c_8]; decide) (by rw [c_8]; first | done | rfl) (by decide) ?_
      refine lv_aload_n hx hb dX7_lineOf_108 rfl (lv_at hl 0 rfl) ?_
      refine lv_iload_n hx hb dX7_lineOf_109 rfl (lv_at hl 1 rfl) ?_
      obtain ⟨R9, e_9, hf⟩ := zbind_ex hf
      refine z_callRi (va_runV (As := [.int y1]) (rest := []) ⟨hx, hb, hml, hown, hts⟩ (c_X7_colour l dC dI cI cC cO qS aS gS y1 R9 e_9) (cwV 1 hts gX7_lineOf_X7_colour rfl rfl rfl (by decide +kernel) ⟨Nat.le_of_ble_eq_true rfl, Nat.le_of_ble_eq_true rfl⟩) ⟨zpR_blind, va_recv hK hP (ci := 7) (q0 := 0) rfl rfl, z_useR hK hN hP [0] rfl⟩ rfl rfl hl.1 rfl (lv_room (Nat.le_of_ble_eq_true rfl)) dX7_lineOf_110 ⟨Nat.le_of_ble_eq_true rfl, Nat.le_of_ble_eq_true rfl⟩) ?_
      exact zM_ret (gs := [(wX7 cI qS aS gS)]) hx hb hr rfl hP hD hS (by rw [← Option.some.inj hf]; exact ⟨rfl, rfl⟩) hlk dX7_lineOf_113
    · have hf := zif_f hf c_8
      by_cases c_10 : y2 = (1 : Int32)
      · have hf := zif_t hf c_10
        refine lv_tableIn (tgt := 114) (off := 50) hx hb dX7_lineOf_64 (by rw [c_10]; decide) (by rw [c_10]; decide) (by rw [c_10]; first | done | rfl) (by decide) ?_
        refine lv_aload_n hx hb dX7_lineOf_114 rfl (lv_at hl 0 rfl) ?_
        refine lv_iload_n hx hb dX7_lineOf_115 rfl (lv_at hl 1 rfl) ?_
        obtain ⟨R11, e_11, hf⟩ := zbind_ex hf
        refine z_callRi (va_runV (As := [.int y1]) (rest := []) ⟨hx, hb, hml, hown, hts⟩ (c_X7_lightOf l dC dI cI cC cO qS aS gS y1 R11 e_11) (cwV 1 hts gX7_lineOf_X7_lightOf rfl rfl rfl (by decide +kernel) ⟨Nat.le_of_ble_eq_true rfl, Nat.le_of_ble_eq_true rfl⟩) ⟨zpR_blind, va_recv hK hP (ci := 7) (q0 := 0) rfl rfl, z_useR hK hN hP [0] rfl⟩ rfl rfl hl.1 rfl (lv_room (Nat.le_of_ble_eq_true rfl)) dX7_lineOf_116 ⟨Nat.le_of_ble_eq_true rfl, Nat.le_of_ble_eq_true rfl⟩) ?_
        exact zM_ret (gs := [(wX7 cI qS aS gS)]) hx hb hr rfl hP hD hS (by rw [← Option.some.inj hf]; exact ⟨rfl, rfl⟩) hlk dX7_lineOf_119
      · have hf := zif_f hf c_10
        by_cases c_12 : y2 = (2 : Int32)
        · have hf := zif_t hf c_12
          refine lv_tableIn (tgt := 120) (off := 56) hx hb dX7_lineOf_64 (by rw [c_12]; decide) (by rw [c_12]; decide) (by rw [c_12]; first | done | rfl) (by decide) ?_
          refine lv_aload_n hx hb dX7_lineOf_120 rfl (lv_at hl 0 rfl) ?_
          refine va_get (D := (dC, dI)) (ci := 7) (v := .int (gS 11 0)) (C := RX7) (T := TX7) (N := 21) hx hb hts u_X7_lineOf_X7 hown hK hP 0 rfl rfl 11 (by decide) (hts _ k_X7_lineOf_2) (fun _ h9 => h9) rfl dX7_lineOf_121 ?_
          refine lv_if_ne (tgt := 131) hx hb dX7_lineOf_124 (by decide) (fun c_13 => ?_) (fun c_13 => ?_)
          · have hf := zif_f hf c_13
            refine lv_iconst (v := (0 : Int32)) hx hb dX7_lineOf_131 (by decide) ?_
            exact zM_ret (gs := [(wX7 cI qS aS gS)]) hx hb hr rfl hP hD hS (by rw [← Option.some.inj hf]; exact ⟨rfl, rfl⟩) hlk dX7_lineOf_132
          · have hf := zif_t hf c_13
            refine lv_iconst (v := (1 : Int32)) hx hb dX7_lineOf_127 (by decide) ?_
            refine lv_goto (tgt := 132) hx hb dX7_lineOf_128 (by decide) ?_
            exact zM_ret (gs := [(wX7 cI qS aS gS)]) hx hb hr rfl hP hD hS (by rw [← Option.some.inj hf]; exact ⟨rfl, rfl⟩) hlk dX7_lineOf_132
        · have hf := zif_f hf c_12
          by_cases c_14 : y2 = (3 : Int32)
          · have hf := zif_t hf c_14
            refine lv_tableIn (tgt := 133) (off := 69) hx hb dX7_lineOf_64 (by rw [c_14]; decide) (by rw [c_14]; decide) (by rw [c_14]; first | done | rfl) (by decide) ?_
            refine lv_aload_n hx hb dX7_lineOf_133 rfl (lv_at hl 0 rfl) ?_
            refine va_get (D := (dC, dI)) (ci := 7) (v := .int (gS 9 0)) (C := RX7) (T := TX7) (N := 21) hx hb hts u_X7_lineOf_X7 hown hK hP 0 rfl rfl 9 (by decide) (hts _ k_X7_lineOf_4) (fun _ h9 => h9) rfl dX7_lineOf_134 ?_
            exact zM_ret (gs := [(wX7 cI qS aS gS)]) hx hb hr rfl hP hD hS (by rw [← Option.some.inj hf]; exact ⟨rfl, rfl⟩) hlk dX7_lineOf_137
          · have hf := zif_f hf c_14
            by_cases c_15 : y2 = (4 : Int32)
            · have hf := zif_t hf c_15
              refine lv_tableIn (tgt := 138) (off := 74) hx hb dX7_lineOf_64 (by rw [c_15]; decide) (by rw [c_15]; decide) (by rw [c_15]; first | done | rfl) (by decide) ?_
              refine lv_aload_n hx hb dX7_lineOf_138 rfl (lv_at hl 0 rfl) ?_
              refine va_get (D := (dC, dI)) (ci := 7) (v := .int (gS 10 0)) (C := RX7) (T := TX7) (N := 21) hx hb hts u_X7_lineOf_X7 hown hK hP 0 rfl rfl 10 (by decide) (hts _ k_X7_lineOf_5) (fun _ h9 => h9) rfl dX7_lineOf_139 ?_
              exact zM_ret (gs := [(wX7 cI qS aS gS)]) hx hb hr rfl hP hD hS (by rw [← Option.some.inj hf]; exact ⟨rfl, rfl⟩) hlk dX7_lineOf_142
            · have hf := zif_f hf c_15
              by_cases c_16 : y2 = (5 : Int32)
              · have hf := zif_t hf c_16
                refine lv_tableIn (tgt := 143) (off := 79) hx hb dX7_lineOf_64 (by rw [c_16]; decide) (by rw [c_16]; decide) (by rw [c_16]; first | done | rfl) (by decide) ?_
                refine lv_aload_n hx hb dX7_lineOf_143 rfl (lv_at hl 0 rfl) ?_
                obtain ⟨R17, e_17, hf⟩ := zbind_ex hf
                refine z_callRi (va_runV (As := []) (rest := []) ⟨hx, hb, hml, hown, hts⟩ (c_X7_cell l dC dI cI cC cO qS aS gS  R17 e_17) (cwV 0 hts gX7_lineOf_X7_cell rfl rfl rfl (by decide +kernel) ⟨Nat.le_of_ble_eq_true rfl, Nat.le_of_ble_eq_true rfl⟩) ⟨zpR_blind, va_recv hK hP (ci := 7) (q0 := 0) rfl rfl, z_useR hK hN hP [0] rfl⟩ rfl rfl hl.1 rfl (lv_room (Nat.le_of_ble_eq_true rfl)) dX7_lineOf_144 ⟨Nat.le_of_ble_eq_true rfl, Nat.le_of_ble_eq_true rfl⟩) ?_
                exact zM_ret (gs := [(wX7 cI qS aS gS)]) hx hb hr rfl hP hD hS (by rw [← Option.some.inj hf]; exact ⟨rfl, rfl⟩) hlk dX7_lineOf_147
              · have hf := zif_f hf c_16
                by_cases c_18 : y2 = (6 : Int32)
                · have hf := zif_t hf c_18
                  refine lv_tableIn (tgt := 148) (off := 84) hx hb dX7_lineOf_64 (by rw [c_18]; decide) (by rw [c_18]; decide) (by rw [c_18]; first | done | rfl) (by decide) ?_
                  refine lv_aload_n hx hb dX7_lineOf_148 rfl (lv_at hl 0 rfl) ?_
                  refine va_get (D := (dC, dI)) (ci := 7) (v := .int (gS 8 0)) (C := RX7) (T := TX7) (N := 21) hx hb hts u_X7_lineOf_X7 hown hK hP 0 rfl rfl 8 (by decide) (hts _ k_X7_lineOf_6) (fun _ h9 => h9) rfl dX7_lineOf_149 ?_
                  exact zM_ret (gs := [(wX7 cI qS aS gS)]) hx hb hr rfl hP hD hS (by rw [← Option.some.inj hf]; exact ⟨rfl, rfl⟩) hlk dX7_lineOf_152
                · have hf := zif_f hf c_18
                  refine lv_tableOut (tgt := 153) hx hb dX7_lineOf_64 (by have q_8 := zne_toInt c_8 (a := 0) (by decide); have q_10 := zne_toInt c_10 (a := 1) (by decide); have q_12 := zne_toInt c_12 (a := 2) (by decide); have q_14 := zne_toInt c_14 (a := 3) (by decide); have q_15 := zne_toInt c_15 (a := 4) (by decide); have q_16 := zne_toInt c_16 (a := 5) (by decide); have q_18 := zne_toInt c_18 (a := 6) (by decide); omega) (by decide) ?_
                  refine lv_aload_n hx hb dX7_lineOf_153 rfl (lv_at hl 0 rfl) ?_
                  refine va_get (D := (dC, dI)) (ci := 7) (v := .int (gS 11 0)) (C := RX7) (T := TX7) (N := 21) hx hb hts u_X7_lineOf_X7 hown hK hP 0 rfl rfl 11 (by decide) (hts _ k_X7_lineOf_2) (fun _ h9 => h9) rfl dX7_lineOf_154 ?_
                  exact zM_ret (gs := [(wX7 cI qS aS gS)]) hx hb hr rfl hP hD hS (by rw [← Option.some.inj hf]; exact ⟨rfl, rfl⟩) hlk dX7_lineOf_157
  have w57 : ∀ (y1 : Int32) (y2 : Int32) (s0 : Int32) (s1 : Int32) (gS : zG) (H : Heap) (locs : List Loc) (ls : Array Slot), f_X7_lineOf_57    y1 y2 s0 s1 gS = some R → va_P (dC, dI) vwCl [(wX7 cI qS aS gS)].flatten H → va_D A [(wX7 cI qS aS gS)].flatten → va_S A s.heap H locs → lv_has ls 3 [(0, .ref qS), (1, .int y1), (2, .int y2)] → W p l e (headSpec wsX7_lineOf rm_X7_lineOf).room s m [.ref qS, .int x1, .int x2].toArray below meth c H locs 0 0 (MQ below (zqM (dC, dI) (some (.int R.1)) [(wX7 cI qS aS R.2)] A) [.ref qS, .int x1, .int x2].toArray s 0 0 A) (F0 m 57 ls [.int s0, .int s1]) := by
    intro y1 y2 s0 s1 gS H locs ls hf hP hD hS hl
    unfold f_X7_lineOf_57 at hf
    refine lv_icmp_eq (tgt := 63) hx hb dX7_lineOf_57 (by decide) (fun c_20 => ?_) (fun c_20 => ?_)
    · have hf := zif_t hf c_20
      exact w63  y1 y2 gS H locs ls hf hP hD hS (lv_sub hl [0, 1, 2] rfl)
    · have hf := zif_f hf c_20
      refine lv_ldc (v := (-1000000004 : Int32)) hx hb hown (hts _ k_X7_lineOf_3) dX7_lineOf_60 ?_
      exact zM_ret (gs := [(wX7 cI qS aS gS)]) hx hb hr rfl hP hD hS (by rw [← Option.some.inj hf]; exact ⟨rfl, rfl⟩) hlk dX7_lineOf_62
  have w45 : ∀ (y1 : Int32) (y2 : Int32) (s0 : Int32) (gS : zG) (H : Heap) (locs : List Loc) (ls : Array Slot), f_X7_lineOf_45    y1 y2 s0 gS = some R → va_P (dC, dI) vwCl [(wX7 cI qS aS gS)].flatten H → va_D A [(wX7 cI qS aS gS)].flatten → va_S A s.heap H locs → lv_has ls 3 [(0, .ref qS), (1, .int y1), (2, .int y2)] → W p l e (headSpec wsX7_lineOf rm_X7_lineOf).room s m [.ref qS, .int x1, .int x2].toArray below meth c H locs 0 0 (MQ below (zqM (dC, dI) (some (.int R.1)) [(wX7 cI qS aS R.2)] A) [.ref qS, .int x1, .int x2].toArray s 0 0 A) (F0 m 45 ls [.int s0]) := by
    intro y1 y2 s0 gS H locs ls hf hP hD hS hl
    unfold f_X7_lineOf_45 at hf
    refine lv_aload_n hx hb dX7_lineOf_45 rfl (lv_at hl 0 rfl) ?_
    refine va_get (D := (dC, dI)) (ci := 7) (v := .int (gS 11 0)) (C := RX7) (T := TX7) (N := 21) hx hb hts u_X7_lineOf_X7 hown hK hP 0 rfl rfl 11 (by decide) (hts _ k_X7_lineOf_2) (fun _ h9 => h9) rfl dX7_lineOf_46 ?_
    refine lv_if_ne (tgt := 56) hx hb dX7_lineOf_49 (by decide) (fun c_19 => ?_) (fun c_19 => ?_)
    · have hf := zif_f hf c_19
      refine lv_iconst (v := (0 : Int32)) hx hb dX7_lineOf_56 (by decide) ?_
      exact w57  y1 y2 (0 : Int32) s0 gS H locs ls hf hP hD hS (lv_sub hl [0, 1, 2] rfl)
    · have hf := zif_t hf c_19
      refine lv_iconst (v := (1 : Int32)) hx hb dX7_lineOf_52 (by decide) ?_
      refine lv_goto (tgt := 57) hx hb dX7_lineOf_53 (by decide) ?_
      exact w57  y1 y2 (1 : Int32) s0 gS H locs ls hf hP hD hS (lv_sub hl [0, 1, 2] rfl)
  unfold f_X7_lineOf at hf
  obtain ⟨H, hH⟩ : ∃ H, H = s.heap := ⟨_, rfl⟩
  obtain ⟨locs, hlocs⟩ : ∃ locs : List Loc, locs = [] := ⟨_, rfl⟩
  have hS : va_S A s.heap H locs := by rw [hH, hlocs]; exact hS
  rw [← hH] at hP
  refine zheap hH hlocs ?_
  refine lv_aload_n hx hb dX7_lineOf_0 rfl (lv_at hl 0 rfl) ?_
  refine lv_iload_n hx hb dX7_lineOf_1 rfl (lv_at hl 1 rfl) ?_
  obtain ⟨R1, e_1, hf⟩ := zbind_ex hf
  refine z_callRi (va_runV (As := [.int x1]) (rest := []) ⟨hx, hb, hml, hown, hts⟩ (c_X7_isLine l dC dI cI cC cO qS aS gS x1 R1 e_1) (cwV 1 hts gX7_lineOf_X7_isLine rfl rfl rfl (by decide +kernel) ⟨Nat.le_of_ble_eq_true rfl, Nat.le_of_ble_eq_true rfl⟩) ⟨zpR_blind, va_recv hK hP (ci := 7) (q0 := 0) rfl rfl, z_useR hK hN hP [0] rfl⟩ rfl rfl hl.1 rfl (lv_room (Nat.le_of_ble_eq_true rfl)) dX7_lineOf_2 ⟨Nat.le_of_ble_eq_true rfl, Nat.le_of_ble_eq_true rfl⟩) ?_
  refine lv_if_eq (tgt := 18) hx hb dX7_lineOf_5 (by decide) (fun c_2 => ?_) (fun c_2 => ?_)
  · have hf := zif_t hf c_2
    refine lv_ldc (v := (-1000000001 : Int32)) hx hb hown (hts _ k_X7_lineOf_1) dX7_lineOf_18 ?_
    exact zM_ret (gs := [(wX7 cI qS aS gS)]) hx hb hr rfl hP hD hS (by rw [← Option.some.inj hf]; exact ⟨rfl, rfl⟩) hlk dX7_lineOf_20
  · have hf := zif_f hf c_2
    refine lv_iload_n hx hb dX7_lineOf_8 rfl (lv_at hl 2 rfl) ?_
    refine lv_iconst (v := (0 : Int32)) hx hb dX7_lineOf_9 (by decide) ?_
    refine lv_bipush (v := (7 : Int32)) hx hb dX7_lineOf_10 (by decide) ?_
    obtain ⟨R3, e_3, hf⟩ := zbind_ex hf
    refine z_callRi (va_runS (As := [.int x2, .int (0 : Int32), .int (7 : Int32)]) (rest := []) ⟨hx, hb, hml, hown, hts⟩ (c_X7_in l dC dI cI cC cO  x2 (0 : Int32) (7 : Int32) R3 e_3) (va_cwS 3 hts gX7_lineOf_X7_in rfl rfl rfl (by decide +kernel) ⟨Nat.le_of_ble_eq_true rfl, Nat.le_of_ble_eq_true rfl⟩) ⟨zpR_blind, z_useR hK hN hP [] rfl⟩ rfl rfl hl.1 rfl (lv_room (Nat.le_of_ble_eq_true rfl)) dX7_lineOf_12 ⟨Nat.le_of_ble_eq_true rfl, Nat.le_of_ble_eq_true rfl⟩) ?_
    refine lv_if_ne (tgt := 21) hx hb dX7_lineOf_15 (by decide) (fun c_4 => ?_) (fun c_4 => ?_)
    · have hf := zif_f hf c_4
      refine lv_aload_n hx hb dX7_lineOf_21 rfl (lv_at hl 0 rfl) ?_
      refine lv_iload_n hx hb dX7_lineOf_22 rfl (lv_at hl 1 rfl) ?_
      refine lv_sipush (v := (1000 : Int32)) hx hb dX7_lineOf_23 (by decide) ?_
      obtain ⟨R5, e_5, hf⟩ := zbind_ex hf
      refine z_callM (gs2 := [(wX7 cI qS aS R5)]) hP hD hS hA [0] [] rfl rfl rfl (show List.Perm [0] (List.range 1) from by decide) rfl (va_runV (As := [.int x1, .int (1000 : Int32)]) (rest := []) ⟨hx, hb, hml, hown, hts⟩ (c_X7_follows l dC dI cI cC cO qS aS gS x1 (1000 : Int32) R5 e_5 H.size) (cwV 2 hts gX7_lineOf_X7_follows rfl rfl rfl (by decide +kernel) ⟨Nat.le_of_ble_eq_true rfl, Nat.le_of_ble_eq_true rfl⟩) ⟨zpM_blind, va_recv hK hP (ci := 7) (q0 := 0) rfl rfl, z_useM hK hN hP hD [0] [] rfl (show List.Perm [0] (List.range 1) from by decide)⟩ rfl rfl hl.1 rfl (lv_room (Nat.le_of_ble_eq_true rfl)) dX7_lineOf_26 ⟨Nat.le_of_ble_eq_true rfl, Nat.le_of_ble_eq_true rfl⟩) (fun H locs hP hD hS => ?_)
      refine W.eq (g2 := F0 m 29 ls []) rfl ?_
      refine lv_iload_n hx hb dX7_lineOf_29 rfl (lv_at hl 2 rfl) ?_
      refine lv_iconst (v := (2 : Int32)) hx hb dX7_lineOf_30 (by decide) ?_
      refine lv_icmp_le (tgt := 63) hx hb dX7_lineOf_31 (by decide) (fun c_6 => ?_) (fun c_6 => ?_)
      · have hf := zif_t hf c_6
        exact w63  x1 x2 R5 H locs ls hf hP hD hS (lv_sub hl [0, 1, 2] rfl)
      · have hf := zif_f hf c_6
        refine lv_iload_n hx hb dX7_lineOf_34 rfl (lv_at hl 2 rfl) ?_
        refine lv_bipush (v := (6 : Int32)) hx hb dX7_lineOf_35 (by decide) ?_
        refine lv_icmp_ge (tgt := 44) hx hb dX7_lineOf_37 (by decide) (fun c_7 => ?_) (fun c_7 => ?_)
        · have hf := zif_t hf c_7
          refine lv_iconst (v := (0 : Int32)) hx hb dX7_lineOf_44 (by decide) ?_
          exact w45  x1 x2 (0 : Int32) R5 H locs ls hf hP hD hS (lv_sub hl [0, 1, 2] rfl)
        · have hf := zif_f hf c_7
          refine lv_iconst (v := (1 : Int32)) hx hb dX7_lineOf_40 (by decide) ?_
          refine lv_goto (tgt := 45) hx hb dX7_lineOf_41 (by decide) ?_
          exact w45  x1 x2 (1 : Int32) R5 H locs ls hf hP hD hS (lv_sub hl [0, 1, 2] rfl)
    · have hf := zif_t hf c_4
      refine lv_ldc (v := (-1000000001 : Int32)) hx hb hown (hts _ k_X7_lineOf_1) dX7_lineOf_18 ?_
      exact zM_ret (gs := [(wX7 cI qS aS gS)]) hx hb hr rfl hP hD hS (by rw [← Option.some.inj hf]; exact ⟨rfl, rfl⟩) hlk dX7_lineOf_20

def f_X7_coming_4_b   (k4 : Int32 → Int32 → Int32 → zG → Option (Int32 × zG)) (y1 : Int32) (y2 : Int32) (y3 : Int32) (gS : zG) : Option (Int32 × zG) := (zin (0 : Int32) 59 (if (gS 0 (0 : Int32).toNatClampNeg) ≤ y3 then (some (y2, gS)) else (zbind (f_X7_follows gS y3 y1) (fun R3 => (if (R3 11 0) = 0 then (k4 y1 (y2 ||| ((1 : Int32) <<< (y3 &&& 31))) (y3 + (1 : Int32)) R3) else (k4 y1 (y2 ||| (0 : Int32)) (y3 + (1 : Int32)) R3))))))
def f_X7_coming_4   : Nat → Int32 → Int32 → Int32 → zG → Option (Int32 × zG)
  | 0 => fun _ _ _ _ => none
  | n + 1 => f_X7_coming_4_b   (f_X7_coming_4   n)
def f_X7_coming (gS : zG) (x1 : Int32) : Option (Int32 × zG) := (f_X7_coming_4   zfuel x1 (0 : Int32) (0 : Int32) gS)
theorem u_X7_coming_X7 : ∀ w ∈ u_ws RX7 TX7 21, w ∈ wsX7_coming := fun w h => List.mem_cons_of_mem _ (List.mem_append_right _ h)
theorem k_X7_coming_1 : Cond.fieldLink RX7 7 "JoinedLightModel" "s" "[I" ∈ wsX7_coming := List.mem_of_getElem? (i := 1) rfl
theorem k_X7_coming_2 : Cond.fieldLink RX7 100 "JoinedLightModel" "why" "I" ∈ wsX7_coming := List.mem_of_getElem? (i := 2) rfl
abbrev rm_X7_coming : Room := { frames := 3, cells := 0, slots := 0, locals := 66 }
set_option maxHeartbeats 4000000 in
set_option maxRecDepth 100000 in
theorem c_X7_coming (l : Launch) (dC : Nat → ClassId) (dI : Nat → Nat → Nat) (cI cC cO : ClassId) (qS : Nat) (aS : Nat → Nat) (gS : zG) (x1 : Int32) (R : Int32 × zG) (hf : f_X7_coming gS x1 = some R) : cM l (dC, dI) (zT cI cC cO) yX7_coming wsX7_coming rm_X7_coming [.ref qS, .int x1] [(wX7 cI qS aS gS)] [(wX7 cI qS aS R.2)] (some (.int R.1)) 0 0 := by
  refine zM_in (cc := cX7_coming) (maxL := 4) (ret := (some .int)) (plainFor_of_name (by decide)) rfl (Nat.le_of_ble_eq_true rfl) ?_
  intro p e s m below meth c hx hb hml hr hlk hown hts hK hN A hA hP hD hS ls hl
  have hl : lv_has ls 4 [(0, .ref qS), (1, .int x1)] := hl
  have w4 : ∀ (n4 : Nat) (y1 : Int32) (y2 : Int32) (y3 : Int32) (gS : zG) (H : Heap) (locs : List Loc) (ls : Array Slot), f_X7_coming_4   n4 y1 y2 y3 gS = some R → va_P (dC, dI) vwCl [(wX7 cI qS aS gS)].flatten H → va_D A [(wX7 cI qS aS gS)].flatten → va_S A s.heap H locs → lv_has ls 4 [(0, .ref qS), (1, .int y1), (2, .int y2), (3, .int y3)] → W p l e (headSpec wsX7_coming rm_X7_coming).room s m [.ref qS, .int x1].toArray below meth c H locs 0 0 (MQ below (zqM (dC, dI) (some (.int R.1)) [(wX7 cI qS aS R.2)] A) [.ref qS, .int x1].toArray s 0 0 A) (F0 m 4 ls []) := by
    intro n4
    induction n4 with
    | zero =>
      intro y1 y2 y3 gS H locs ls hf hP hD hS hl
      have hf : (none : Option (Int32 × zG)) = some R := hf
      cases hf
    | succ n4 ih4 =>
      intro y1 y2 y3 gS H locs ls hf hP hD hS hl
      have hf : f_X7_coming_4_b   (f_X7_coming_4   n4) y1 y2 y3 gS = some R := hf
      unfold f_X7_coming_4_b at hf
      refine lv_iload_n hx hb dX7_coming_4 rfl (lv_at hl 3 rfl) ?_
      refine lv_aload_n hx hb dX7_coming_5 rfl (lv_at hl 0 rfl) ?_
      refine va_get (D := (dC, dI)) (ci := 7) (v := .ref (aS 0)) (C := RX7) (T := TX7) (N := 21) hx hb hts u_X7_coming_X7 hown hK hP 0 rfl rfl 0 (by decide) (hts _ k_X7_coming_1) (fun _ h9 => h9) rfl dX7_coming_6 ?_
      refine lv_iconst (v := (0 : Int32)) hx hb dX7_coming_9 (by decide) ?_
      obtain ⟨h_1, hf⟩ := zin_ex hf
      refine va_iald hx hb hK hP 1 0 rfl rfl h_1 dX7_coming_10 ?_
      refine lv_icmp_ge (tgt := 43) hx hb dX7_coming_11 (by decide) (fun c_2 => ?_) (fun c_2 => ?_)
      · have hf := zif_t hf c_2
        refine lv_iload_n hx hb dX7_coming_43 rfl (lv_at hl 2 rfl) ?_
        exact zM_ret (gs := [(wX7 cI qS aS gS)]) hx hb hr rfl hP hD hS (by rw [← Option.some.inj hf]; exact ⟨rfl, rfl⟩) hlk dX7_coming_44
      · have hf := zif_f hf c_2
        refine lv_aload_n hx hb dX7_coming_14 rfl (lv_at hl 0 rfl) ?_
        refine lv_iload_n hx hb dX7_coming_15 rfl (lv_at hl 3 rfl) ?_
        refine lv_iload_n hx hb dX7_coming_16 rfl (lv_at hl 1 rfl) ?_
        obtain ⟨R3, e_3, hf⟩ := zbind_ex hf
        refine z_callM (gs2 := [(wX7 cI qS aS R3)]) hP hD hS hA [0] [] rfl rfl rfl (show List.Perm [0] (List.range 1) from by decide) rfl (va_runV (As := [.int y3, .int y1]) (rest := []) ⟨hx, hb, hml, hown, hts⟩ (c_X7_follows l dC dI cI cC cO qS aS gS y3 y1 R3 e_3 H.size) (cwV 2 hts gX7_coming_X7_follows rfl rfl rfl (by decide +kernel) ⟨Nat.le_of_ble_eq_true rfl, Nat.le_of_ble_eq_true rfl⟩) ⟨zpM_blind, va_recv hK hP (ci := 7) (q0 := 0) rfl rfl, z_useM hK hN hP hD [0] [] rfl (show List.Perm [0] (List.range 1) from by decide)⟩ rfl rfl hl.1 rfl (lv_room (Nat.le_of_ble_eq_true rfl)) dX7_coming_17 ⟨Nat.le_of_ble_eq_true rfl, Nat.le_of_ble_eq_true rfl⟩) (fun H locs hP hD hS => ?_)
        refine W.eq (g2 := F0 m 20 ls []) rfl ?_
        refine lv_iload_n hx hb dX7_coming_20 rfl (lv_at hl 2 rfl) ?_
        refine lv_aload_n hx hb dX7_coming_21 rfl (lv_at hl 0 rfl) ?_
        refine va_get (D := (dC, dI)) (ci := 7) (v := .int (R3 11 0)) (C := RX7) (T := TX7) (N := 21) hx hb hts u_X7_coming_X7 hown hK hP 0 rfl rfl 11 (by decide) (hts _ k_X7_coming_2) (fun _ h9 => h9) rfl dX7_coming_22 ?_
        refine lv_if_ne (tgt := 34) hx hb dX7_coming_25 (by decide) (fun c_4 => ?_) (fun c_4 => ?_)
        · have hf := zif_f hf c_4
          refine lv_iconst (v := (0 : Int32)) hx hb dX7_coming_34 (by decide) ?_
          refine lv_ior hx hb dX7_coming_35 ?_
          refine lv_istore_n (lv' := [(2, .int (y2 ||| (0 : Int32))), (0, .ref qS), (1, .int y1), (3, .int y3)]) hx hb dX7_coming_36 rfl hl (by decide) rfl (fun ls hl => ?_)
          refine lv_iinc (v := (y3 + (1 : Int32))) (lv' := [(3, .int (y3 + (1 : Int32))), (2, .int (y2 ||| (0 : Int32))), (0, .ref qS), (1, .int y1)]) hx hb dX7_coming_37 hl (k := 3) rfl rfl (by decide) rfl (fun ls hl => ?_)
          refine lv_goto (tgt := 4) hx hb dX7_coming_40 (by decide) ?_
          exact ih4 y1 (y2 ||| (0 : Int32)) (y3 + (1 : Int32)) R3 H locs ls hf hP hD hS (lv_sub hl [2, 3, 1, 0] rfl)
        · have hf := zif_t hf c_4
          refine lv_iconst (v := (1 : Int32)) hx hb dX7_coming_28 (by decide) ?_
          refine lv_iload_n hx hb dX7_coming_29 rfl (lv_at hl 3 rfl) ?_
          refine lv_ishl hx hb dX7_coming_30 ?_
          refine lv_goto (tgt := 35) hx hb dX7_coming_31 (by decide) ?_
          refine lv_ior hx hb dX7_coming_35 ?_
          refine lv_istore_n (lv' := [(2, .int (y2 ||| ((1 : Int32) <<< (y3 &&& 31)))), (0, .ref qS), (1, .int y1), (3, .int y3)]) hx hb dX7_coming_36 rfl hl (by decide) rfl (fun ls hl => ?_)
          refine lv_iinc (v := (y3 + (1 : Int32))) (lv' := [(3, .int (y3 + (1 : Int32))), (2, .int (y2 ||| ((1 : Int32) <<< (y3 &&& 31)))), (0, .ref qS), (1, .int y1)]) hx hb dX7_coming_37 hl (k := 3) rfl rfl (by decide) rfl (fun ls hl => ?_)
          refine lv_goto (tgt := 4) hx hb dX7_coming_40 (by decide) ?_
          exact ih4 y1 (y2 ||| ((1 : Int32) <<< (y3 &&& 31))) (y3 + (1 : Int32)) R3 H locs ls hf hP hD hS (lv_sub hl [2, 3, 1, 0] rfl)
  unfold f_X7_coming at hf
  obtain ⟨H, hH⟩ : ∃ H, H = s.heap := ⟨_, rfl⟩
  obtain ⟨locs, hlocs⟩ : ∃ locs : List Loc, locs = [] := ⟨_, rfl⟩
  have hS : va_S A s.heap H locs := by rw [hH, hlocs]; exact hS
  rw [← hH] at hP
  refine zheap hH hlocs ?_
  refine lv_iconst (v := (0 : Int32)) hx hb dX7_coming_0 (by decide) ?_
  refine lv_istore_n (lv' := [(2, .int (0 : Int32)), (0, .ref qS), (1, .int x1)]) hx hb dX7_coming_1 rfl hl (by decide) rfl (fun ls hl => ?_)
  refine lv_iconst (v := (0 : Int32)) hx hb dX7_coming_2 (by decide) ?_
  refine lv_istore_n (lv' := [(3, .int (0 : Int32)), (2, .int (0 : Int32)), (0, .ref qS), (1, .int x1)]) hx hb dX7_coming_3 rfl hl (by decide) rfl (fun ls hl => ?_)
  exact w4 zfuel x1 (0 : Int32) (0 : Int32) gS H locs ls hf hP hD hS (lv_sub hl [2, 3, 1, 0] rfl)

def f_X7_lightIn_4_b (gS : zG)  (k4 : Int32 → Int32 → Int32 → Option (Int32)) (y1 : Int32) (y2 : Int32) (y3 : Int32) : Option (Int32) := (zin (0 : Int32) 59 (if (gS 0 (0 : Int32).toNatClampNeg) ≤ y3 then (some (y2)) else (if ((y1 >>> (y3 &&& 31)) &&& (1 : Int32)) = (1 : Int32) then (zbind (f_X7_lightOf gS y3) (fun R4 => (k4 y1 (y2 + R4) (y3 + (1 : Int32))))) else (k4 y1 (y2 + (0 : Int32)) (y3 + (1 : Int32))))))
def f_X7_lightIn_4 (gS : zG)  : Nat → Int32 → Int32 → Int32 → Option (Int32)
  | 0 => fun _ _ _ => none
  | n + 1 => f_X7_lightIn_4_b gS  (f_X7_lightIn_4 gS  n)
def f_X7_lightIn (gS : zG) (x1 : Int32) : Option (Int32) := (f_X7_lightIn_4 gS  zfuel x1 (0 : Int32) (0 : Int32))
theorem u_X7_lightIn_X7 : ∀ w ∈ u_ws RX7 TX7 21, w ∈ wsX7_lightIn := fun w h => List.mem_cons_of_mem _ (List.mem_append_right _ h)
theorem k_X7_lightIn_1 : Cond.fieldLink RX7 7 "JoinedLightModel" "s" "[I" ∈ wsX7_lightIn := List.mem_of_getElem? (i := 1) rfl
abbrev rm_X7_lightIn : Room := { frames := 1, cells := 0, slots := 0, locals := 21 }
set_option maxHeartbeats 4000000 in
set_option maxRecDepth 100000 in
theorem c_X7_lightIn (l : Launch) (dC : Nat → ClassId) (dI : Nat → Nat → Nat) (cI cC cO : ClassId) (qS : Nat) (aS : Nat → Nat) (gS : zG) (x1 : Int32) (R : Int32) (hf : f_X7_lightIn gS x1 = some R) : cR l (dC, dI) (zT cI cC cO) yX7_lightIn wsX7_lightIn rm_X7_lightIn [.ref qS, .int x1] [(wX7 cI qS aS gS)] (some (.int R)) := by
  refine zR_in (cc := cX7_lightIn) (maxL := 4) (ret := (some .int)) (plainFor_of_name (by decide)) rfl (Nat.le_of_ble_eq_true rfl) ?_
  intro p e s m below meth c hx hb hml hr hlk hown hts hK hN hP ls hl
  have hl : lv_has ls 4 [(0, .ref qS), (1, .int x1)] := hl
  have w4 : ∀ (n4 : Nat) (y1 : Int32) (y2 : Int32) (y3 : Int32) (ls : Array Slot), f_X7_lightIn_4 gS  n4 y1 y2 y3 = some R → lv_has ls 4 [(0, .ref qS), (1, .int y1), (2, .int y2), (3, .int y3)] → W p l e (headSpec wsX7_lightIn rm_X7_lightIn).room s m [.ref qS, .int x1].toArray below meth c s.heap [] 0 0 (MQ below (zqR (some (.int R))) [.ref qS, .int x1].toArray s 0 0 (fun _ => False)) (F0 m 4 ls []) := by
    intro n4
    induction n4 with
    | zero =>
      intro y1 y2 y3 ls hf hl
      have hf : (none : Option (Int32)) = some R := hf
      cases hf
    | succ n4 ih4 =>
      intro y1 y2 y3 ls hf hl
      have hf : f_X7_lightIn_4_b gS  (f_X7_lightIn_4 gS  n4) y1 y2 y3 = some R := hf
      unfold f_X7_lightIn_4_b at hf
      refine lv_iload_n hx hb dX7_lightIn_4 rfl (lv_at hl 3 rfl) ?_
      refine lv_aload_n hx hb dX7_lightIn_5 rfl (lv_at hl 0 rfl) ?_
      refine va_get (D := (dC, dI)) (ci := 7) (v := .ref (aS 0)) (C := RX7) (T := TX7) (N := 21) hx hb hts u_X7_lightIn_X7 hown hK hP 0 rfl rfl 0 (by decide) (hts _ k_X7_lightIn_1) (fun _ h9 => h9) rfl dX7_lightIn_6 ?_
      refine lv_iconst (v := (0 : Int32)) hx hb dX7_lightIn_9 (by decide) ?_
      obtain ⟨h_1, hf⟩ := zin_ex hf
      refine va_iald hx hb hK hP 1 0 rfl rfl h_1 dX7_lightIn_10 ?_
      refine lv_icmp_ge (tgt := 41) hx hb dX7_lightIn_11 (by decide) (fun c_2 => ?_) (fun c_2 => ?_)
      · have hf := zif_t hf c_2
        refine lv_iload_n hx hb dX7_lightIn_41 rfl (lv_at hl 2 rfl) ?_
        exact zR_ret hx hb hr rfl hf hlk dX7_lightIn_42
      · have hf := zif_f hf c_2
        refine lv_iload_n hx hb dX7_lightIn_14 rfl (lv_at hl 2 rfl) ?_
        refine lv_iload_n hx hb dX7_lightIn_15 rfl (lv_at hl 1 rfl) ?_
        refine lv_iload_n hx hb dX7_lightIn_16 rfl (lv_at hl 3 rfl) ?_
        refine lv_ishr hx hb dX7_lightIn_17 ?_
        refine lv_iconst (v := (1 : Int32)) hx hb dX7_lightIn_18 (by decide) ?_
        refine lv_iand hx hb dX7_lightIn_19 ?_
        refine lv_iconst (v := (1 : Int32)) hx hb dX7_lightIn_20 (by decide) ?_
        refine lv_icmp_ne (tgt := 32) hx hb dX7_lightIn_21 (by decide) (fun c_3 => ?_) (fun c_3 => ?_)
        · have hf := zif_f hf c_3
          refine lv_iconst (v := (0 : Int32)) hx hb dX7_lightIn_32 (by decide) ?_
          refine lv_iadd hx hb dX7_lightIn_33 ?_
          refine lv_istore_n (lv' := [(2, .int (y2 + (0 : Int32))), (0, .ref qS), (1, .int y1), (3, .int y3)]) hx hb dX7_lightIn_34 rfl hl (by decide) rfl (fun ls hl => ?_)
          refine lv_iinc (v := (y3 + (1 : Int32))) (lv' := [(3, .int (y3 + (1 : Int32))), (2, .int (y2 + (0 : Int32))), (0, .ref qS), (1, .int y1)]) hx hb dX7_lightIn_35 hl (k := 3) rfl rfl (by decide) rfl (fun ls hl => ?_)
          refine lv_goto (tgt := 4) hx hb dX7_lightIn_38 (by decide) ?_
          exact ih4 y1 (y2 + (0 : Int32)) (y3 + (1 : Int32)) ls hf (lv_sub hl [2, 3, 1, 0] rfl)
        · have hf := zif_t hf c_3
          refine lv_aload_n hx hb dX7_lightIn_24 rfl (lv_at hl 0 rfl) ?_
          refine lv_iload_n hx hb dX7_lightIn_25 rfl (lv_at hl 3 rfl) ?_
          obtain ⟨R4, e_4, hf⟩ := zbind_ex hf
          refine z_callRi (va_runV (As := [.int y3]) (rest := [.int y2]) ⟨hx, hb, hml, hown, hts⟩ (c_X7_lightOf l dC dI cI cC cO qS aS gS y3 R4 e_4) (cwV 1 hts gX7_lightIn_X7_lightOf rfl rfl rfl (by decide +kernel) ⟨Nat.le_of_ble_eq_true rfl, Nat.le_of_ble_eq_true rfl⟩) ⟨zpR_blind, va_recv hK hP (ci := 7) (q0 := 0) rfl rfl, z_useR hK hN hP [0] rfl⟩ rfl rfl hl.1 rfl (lv_room (Nat.le_of_ble_eq_true rfl)) dX7_lightIn_26 ⟨Nat.le_of_ble_eq_true rfl, Nat.le_of_ble_eq_true rfl⟩) ?_
          refine lv_goto (tgt := 33) hx hb dX7_lightIn_29 (by decide) ?_
          refine lv_iadd hx hb dX7_lightIn_33 ?_
          refine lv_istore_n (lv' := [(2, .int (y2 + R4)), (0, .ref qS), (1, .int y1), (3, .int y3)]) hx hb dX7_lightIn_34 rfl hl (by decide) rfl (fun ls hl => ?_)
          refine lv_iinc (v := (y3 + (1 : Int32))) (lv' := [(3, .int (y3 + (1 : Int32))), (2, .int (y2 + R4)), (0, .ref qS), (1, .int y1)]) hx hb dX7_lightIn_35 hl (k := 3) rfl rfl (by decide) rfl (fun ls hl => ?_)
          refine lv_goto (tgt := 4) hx hb dX7_lightIn_38 (by decide) ?_
          exact ih4 y1 (y2 + R4) (y3 + (1 : Int32)) ls hf (lv_sub hl [2, 3, 1, 0] rfl)
  unfold f_X7_lightIn at hf
  refine lv_iconst (v := (0 : Int32)) hx hb dX7_lightIn_0 (by decide) ?_
  refine lv_istore_n (lv' := [(2, .int (0 : Int32)), (0, .ref qS), (1, .int x1)]) hx hb dX7_lightIn_1 rfl hl (by decide) rfl (fun ls hl => ?_)
  refine lv_iconst (v := (0 : Int32)) hx hb dX7_lightIn_2 (by decide) ?_
  refine lv_istore_n (lv' := [(3, .int (0 : Int32)), (2, .int (0 : Int32)), (0, .ref qS), (1, .int x1)]) hx hb dX7_lightIn_3 rfl hl (by decide) rfl (fun ls hl => ?_)
  exact w4 zfuel x1 (0 : Int32) (0 : Int32) ls hf (lv_sub hl [2, 3, 1, 0] rfl)

def f_X7_lostAt_46  (k4 : Int32 → Int32 → Int32 → zG → Option (Int32 × zG)) (y1 : Int32) (y3 : Int32) (s0 : Int32) (gS : zG) : Option (Int32 × zG) := (k4 y1 (s0 + (0 : Int32)) (y3 + (1 : Int32)) gS)
def f_X7_lostAt_4_b   (k4 : Int32 → Int32 → Int32 → zG → Option (Int32 × zG)) (y1 : Int32) (y2 : Int32) (y3 : Int32) (gS : zG) : Option (Int32 × zG) := (zin (0 : Int32) 59 (if (gS 0 (0 : Int32).toNatClampNeg) ≤ y3 then (some (y2, gS)) else (zbind (f_X7_follows gS y3 (1000 : Int32)) (fun R3 => (if (R3 11 0) ≤ 0 then (f_X7_lostAt_46  k4  y1 y3 y2 R3) else (if (R3 8 0) = y1 then (zbind (f_X7_lightOf R3 y3) (fun R6 => (k4 y1 (y2 + R6) (y3 + (1 : Int32)) R3))) else (f_X7_lostAt_46  k4  y1 y3 y2 R3)))))))
def f_X7_lostAt_4   : Nat → Int32 → Int32 → Int32 → zG → Option (Int32 × zG)
  | 0 => fun _ _ _ _ => none
  | n + 1 => f_X7_lostAt_4_b   (f_X7_lostAt_4   n)
def f_X7_lostAt (gS : zG) (x1 : Int32) : Option (Int32 × zG) := (f_X7_lostAt_4   zfuel x1 (0 : Int32) (0 : Int32) gS)
theorem u_X7_lostAt_X7 : ∀ w ∈ u_ws RX7 TX7 21, w ∈ wsX7_lostAt := fun w h => List.mem_cons_of_mem _ (List.mem_append_right _ h)
theorem k_X7_lostAt_1 : Cond.fieldLink RX7 7 "JoinedLightModel" "s" "[I" ∈ wsX7_lostAt := List.mem_of_getElem? (i := 1) rfl
theorem k_X7_lostAt_2 : Cond.fieldLink RX7 100 "JoinedLightModel" "why" "I" ∈ wsX7_lostAt := List.mem_of_getElem? (i := 2) rfl
theorem k_X7_lostAt_3 : Cond.fieldLink RX7 94 "JoinedLightModel" "place" "I" ∈ wsX7_lostAt := List.mem_of_getElem? (i := 3) rfl
abbrev rm_X7_lostAt : Room := { frames := 3, cells := 0, slots := 0, locals := 66 }
set_option maxHeartbeats 4000000 in
set_option maxRecDepth 100000 in
theorem c_X7_lostAt (l : Launch) (dC : Nat → ClassId) (dI : Nat → Nat → Nat) (cI cC cO : ClassId) (qS : Nat) (aS : Nat → Nat) (gS : zG) (x1 : Int32) (R : Int32 × zG) (hf : f_X7_lostAt gS x1 = some R) : cM l (dC, dI) (zT cI cC cO) yX7_lostAt wsX7_lostAt rm_X7_lostAt [.ref qS, .int x1] [(wX7 cI qS aS gS)] [(wX7 cI qS aS R.2)] (some (.int R.1)) 0 0 := by
  refine zM_in (cc := cX7_lostAt) (maxL := 4) (ret := (some .int)) (plainFor_of_name (by decide)) rfl (Nat.le_of_ble_eq_true rfl) ?_
  intro p e s m below meth c hx hb hml hr hlk hown hts hK hN A hA hP hD hS ls hl
  have hl : lv_has ls 4 [(0, .ref qS), (1, .int x1)] := hl
  have w4 : ∀ (n4 : Nat) (y1 : Int32) (y2 : Int32) (y3 : Int32) (gS : zG) (H : Heap) (locs : List Loc) (ls : Array Slot), f_X7_lostAt_4   n4 y1 y2 y3 gS = some R → va_P (dC, dI) vwCl [(wX7 cI qS aS gS)].flatten H → va_D A [(wX7 cI qS aS gS)].flatten → va_S A s.heap H locs → lv_has ls 4 [(0, .ref qS), (1, .int y1), (2, .int y2), (3, .int y3)] → W p l e (headSpec wsX7_lostAt rm_X7_lostAt).room s m [.ref qS, .int x1].toArray below meth c H locs 0 0 (MQ below (zqM (dC, dI) (some (.int R.1)) [(wX7 cI qS aS R.2)] A) [.ref qS, .int x1].toArray s 0 0 A) (F0 m 4 ls []) := by
    intro n4
    induction n4 with
    | zero =>
      intro y1 y2 y3 gS H locs ls hf hP hD hS hl
      have hf : (none : Option (Int32 × zG)) = some R := hf
      cases hf
    | succ n4 ih4 =>
      have w46 : ∀ (y1 : Int32) (y3 : Int32) (s0 : Int32) (gS : zG) (H : Heap) (locs : List Loc) (ls : Array Slot), f_X7_lostAt_46  (f_X7_lostAt_4   n4)  y1 y3 s0 gS = some R → va_P (dC, dI) vwCl [(wX7 cI qS aS gS)].flatten H → va_D A [(wX7 cI qS aS gS)].flatten → va_S A s.heap H locs → lv_has ls 4 [(0, .ref qS), (1, .int y1), (3, .int y3)] → W p l e (headSpec wsX7_lostAt rm_X7_lostAt).room s m [.ref qS, .int x1].toArray below meth c H locs 0 0 (MQ below (zqM (dC, dI) (some (.int R.1)) [(wX7 cI qS aS R.2)] A) [.ref qS, .int x1].toArray s 0 0 A) (F0 m 46 ls [.int s0]) := by
        intro y1 y3 s0 gS H locs ls hf hP hD hS hl
        unfold f_X7_lostAt_46 at hf
        refine lv_iconst (v := (0 : Int32)) hx hb dX7_lostAt_46 (by decide) ?_
        refine lv_iadd hx hb dX7_lostAt_47 ?_
        refine lv_istore_n (lv' := [(2, .int (s0 + (0 : Int32))), (0, .ref qS), (1, .int y1), (3, .int y3)]) hx hb dX7_lostAt_48 rfl hl (by decide) rfl (fun ls hl => ?_)
        refine lv_iinc (v := (y3 + (1 : Int32))) (lv' := [(3, .int (y3 + (1 : Int32))), (2, .int (s0 + (0 : Int32))), (0, .ref qS), (1, .int y1)]) hx hb dX7_lostAt_49 hl (k := 3) rfl rfl (by decide) rfl (fun ls hl => ?_)
        refine lv_goto (tgt := 4) hx hb dX7_lostAt_52 (by decide) ?_
        exact ih4 y1 (s0 + (0 : Int32)) (y3 + (1 : Int32)) gS H locs ls hf hP hD hS (lv_sub hl [2, 3, 1, 0] rfl)
      intro y1 y2 y3 gS H locs ls hf hP hD hS hl
      have hf : f_X7_lostAt_4_b   (f_X7_lostAt_4   n4) y1 y2 y3 gS = some R := hf
      unfold f_X7_lostAt_4_b at hf
      refine lv_iload_n hx hb dX7_lostAt_4 rfl (lv_at hl 3 rfl) ?_
      refine lv_aload_n hx hb dX7_lostAt_5 rfl (lv_at hl 0 rfl) ?_
      refine va_get (D := (dC, dI)) (ci := 7) (v := .ref (aS 0)) (C := RX7) (T := TX7) (N := 21) hx hb hts u_X7_lostAt_X7 hown hK hP 0 rfl rfl 0 (by decide) (hts _ k_X7_lostAt_1) (fun _ h9 => h9) rfl dX7_lostAt_6 ?_
      refine lv_iconst (v := (0 : Int32)) hx hb dX7_lostAt_9 (by decide) ?_
      obtain ⟨h_1, hf⟩ := zin_ex hf
      refine va_iald hx hb hK hP 1 0 rfl rfl h_1 dX7_lostAt_10 ?_
      refine lv_icmp_ge (tgt := 55) hx hb dX7_lostAt_11 (by decide) (fun c_2 => ?_) (fun c_2 => ?_)
      · have hf := zif_t hf c_2
        refine lv_iload_n hx hb dX7_lostAt_55 rfl (lv_at hl 2 rfl) ?_
        exact zM_ret (gs := [(wX7 cI qS aS gS)]) hx hb hr rfl hP hD hS (by rw [← Option.some.inj hf]; exact ⟨rfl, rfl⟩) hlk dX7_lostAt_56
      · have hf := zif_f hf c_2
        refine lv_aload_n hx hb dX7_lostAt_14 rfl (lv_at hl 0 rfl) ?_
        refine lv_iload_n hx hb dX7_lostAt_15 rfl (lv_at hl 3 rfl) ?_
        refine lv_sipush (v := (1000 : Int32)) hx hb dX7_lostAt_16 (by decide) ?_
        obtain ⟨R3, e_3, hf⟩ := zbind_ex hf
        refine z_callM (gs2 := [(wX7 cI qS aS R3)]) hP hD hS hA [0] [] rfl rfl rfl (show List.Perm [0] (List.range 1) from by decide) rfl (va_runV (As := [.int y3, .int (1000 : Int32)]) (rest := []) ⟨hx, hb, hml, hown, hts⟩ (c_X7_follows l dC dI cI cC cO qS aS gS y3 (1000 : Int32) R3 e_3 H.size) (cwV 2 hts gX7_lostAt_X7_follows rfl rfl rfl (by decide +kernel) ⟨Nat.le_of_ble_eq_true rfl, Nat.le_of_ble_eq_true rfl⟩) ⟨zpM_blind, va_recv hK hP (ci := 7) (q0 := 0) rfl rfl, z_useM hK hN hP hD [0] [] rfl (show List.Perm [0] (List.range 1) from by decide)⟩ rfl rfl hl.1 rfl (lv_room (Nat.le_of_ble_eq_true rfl)) dX7_lostAt_19 ⟨Nat.le_of_ble_eq_true rfl, Nat.le_of_ble_eq_true rfl⟩) (fun H locs hP hD hS => ?_)
        refine W.eq (g2 := F0 m 22 ls []) rfl ?_
        refine lv_iload_n hx hb dX7_lostAt_22 rfl (lv_at hl 2 rfl) ?_
        refine lv_aload_n hx hb dX7_lostAt_23 rfl (lv_at hl 0 rfl) ?_
        refine va_get (D := (dC, dI)) (ci := 7) (v := .int (R3 11 0)) (C := RX7) (T := TX7) (N := 21) hx hb hts u_X7_lostAt_X7 hown hK hP 0 rfl rfl 11 (by decide) (hts _ k_X7_lostAt_2) (fun _ h9 => h9) rfl dX7_lostAt_24 ?_
        refine lv_if_le (tgt := 46) hx hb dX7_lostAt_27 (by decide) (fun c_4 => ?_) (fun c_4 => ?_)
        · have hf := zif_t hf c_4
          exact w46  y1 y3 y2 R3 H locs ls hf hP hD hS (lv_sub hl [0, 1, 3] rfl)
        · have hf := zif_f hf c_4
          refine lv_aload_n hx hb dX7_lostAt_30 rfl (lv_at hl 0 rfl) ?_
          refine va_get (D := (dC, dI)) (ci := 7) (v := .int (R3 8 0)) (C := RX7) (T := TX7) (N := 21) hx hb hts u_X7_lostAt_X7 hown hK hP 0 rfl rfl 8 (by decide) (hts _ k_X7_lostAt_3) (fun _ h9 => h9) rfl dX7_lostAt_31 ?_
          refine lv_iload_n hx hb dX7_lostAt_34 rfl (lv_at hl 1 rfl) ?_
          refine lv_icmp_ne (tgt := 46) hx hb dX7_lostAt_35 (by decide) (fun c_5 => ?_) (fun c_5 => ?_)
          · have hf := zif_f hf c_5
            exact w46  y1 y3 y2 R3 H locs ls hf hP hD hS (lv_sub hl [0, 1, 3] rfl)
          · have hf := zif_t hf c_5
            refine lv_aload_n hx hb dX7_lostAt_38 rfl (lv_at hl 0 rfl) ?_
            refine lv_iload_n hx hb dX7_lostAt_39 rfl (lv_at hl 3 rfl) ?_
            obtain ⟨R6, e_6, hf⟩ := zbind_ex hf
            refine z_callRi (va_runV (As := [.int y3]) (rest := [.int y2]) ⟨hx, hb, hml, hown, hts⟩ (c_X7_lightOf l dC dI cI cC cO qS aS R3 y3 R6 e_6) (cwV 1 hts gX7_lostAt_X7_lightOf rfl rfl rfl (by decide +kernel) ⟨Nat.le_of_ble_eq_true rfl, Nat.le_of_ble_eq_true rfl⟩) ⟨zpR_blind, va_recv hK hP (ci := 7) (q0 := 0) rfl rfl, z_useR hK hN hP [0] rfl⟩ rfl rfl hl.1 rfl (lv_room (Nat.le_of_ble_eq_true rfl)) dX7_lostAt_40 ⟨Nat.le_of_ble_eq_true rfl, Nat.le_of_ble_eq_true rfl⟩) ?_
            refine lv_goto (tgt := 47) hx hb dX7_lostAt_43 (by decide) ?_
            refine lv_iadd hx hb dX7_lostAt_47 ?_
            refine lv_istore_n (lv' := [(2, .int (y2 + R6)), (0, .ref qS), (1, .int y1), (3, .int y3)]) hx hb dX7_lostAt_48 rfl hl (by decide) rfl (fun ls hl => ?_)
            refine lv_iinc (v := (y3 + (1 : Int32))) (lv' := [(3, .int (y3 + (1 : Int32))), (2, .int (y2 + R6)), (0, .ref qS), (1, .int y1)]) hx hb dX7_lostAt_49 hl (k := 3) rfl rfl (by decide) rfl (fun ls hl => ?_)
            refine lv_goto (tgt := 4) hx hb dX7_lostAt_52 (by decide) ?_
            exact ih4 y1 (y2 + R6) (y3 + (1 : Int32)) R3 H locs ls hf hP hD hS (lv_sub hl [2, 3, 1, 0] rfl)
  unfold f_X7_lostAt at hf
  obtain ⟨H, hH⟩ : ∃ H, H = s.heap := ⟨_, rfl⟩
  obtain ⟨locs, hlocs⟩ : ∃ locs : List Loc, locs = [] := ⟨_, rfl⟩
  have hS : va_S A s.heap H locs := by rw [hH, hlocs]; exact hS
  rw [← hH] at hP
  refine zheap hH hlocs ?_
  refine lv_iconst (v := (0 : Int32)) hx hb dX7_lostAt_0 (by decide) ?_
  refine lv_istore_n (lv' := [(2, .int (0 : Int32)), (0, .ref qS), (1, .int x1)]) hx hb dX7_lostAt_1 rfl hl (by decide) rfl (fun ls hl => ?_)
  refine lv_iconst (v := (0 : Int32)) hx hb dX7_lostAt_2 (by decide) ?_
  refine lv_istore_n (lv' := [(3, .int (0 : Int32)), (2, .int (0 : Int32)), (0, .ref qS), (1, .int x1)]) hx hb dX7_lostAt_3 rfl hl (by decide) rfl (fun ls hl => ?_)
  exact w4 zfuel x1 (0 : Int32) (0 : Int32) gS H locs ls hf hP hD hS (lv_sub hl [2, 3, 1, 0] rfl)

def f_X7_thing (gS : zG) (x1 : Int32) (x2 : Int32) : Option (Int32 × zG) := (if x1 < 0 then (some ((-1000000001 : Int32), gS)) else (zbind (f_X7_in x2 (0 : Int32) (6 : Int32)) (fun R2 => (if R2 = 0 then (some ((-1000000001 : Int32), gS)) else (zin (1 : Int32) 59 (if x1 < (gS 0 (1 : Int32).toNatClampNeg) then (if x2 = (4 : Int32) then (zbind (f_X7_of gS x1 (1 : Int32)) (fun R7 => (if R7 = (1 : Int32) then (some ((-1000000004 : Int32), gS)) else (zbind (f_X7_of gS x1 (4 : Int32)) (fun R9 => (if R9 = (1 : Int32) then (some ((1 : Int32), gS)) else (some ((2 : Int32), gS)))))))) else (if x2 = (5 : Int32) then (zbind (f_X7_of gS x1 (0 : Int32)) (fun R12 => (zbind (f_X7_coming gS R12) (fun R13 => (some (R13.1, R13.2)))))) else (if x2 = (6 : Int32) then (zbind (f_X7_of gS x1 (0 : Int32)) (fun R15 => (zbind (f_X7_lostAt gS R15) (fun R16 => (some (R16.1, R16.2)))))) else (zbind (f_X7_of gS x1 x2) (fun R17 => (some (R17, gS))))))) else (some ((-1000000004 : Int32), gS))))))))
theorem u_X7_thing_X7 : ∀ w ∈ u_ws RX7 TX7 21, w ∈ wsX7_thing := fun w h => List.mem_cons_of_mem _ (List.mem_append_right _ h)
theorem k_X7_thing_1 : Cond.constant RX7 51 (-1000000001) ∈ wsX7_thing := List.mem_of_getElem? (i := 1) rfl
theorem k_X7_thing_2 : Cond.fieldLink RX7 7 "JoinedLightModel" "s" "[I" ∈ wsX7_thing := List.mem_of_getElem? (i := 2) rfl
theorem k_X7_thing_3 : Cond.constant RX7 46 (-1000000004) ∈ wsX7_thing := List.mem_of_getElem? (i := 3) rfl
abbrev rm_X7_thing : Room := { frames := 4, cells := 0, slots := 0, locals := 89 }
set_option maxHeartbeats 4000000 in
set_option maxRecDepth 100000 in
theorem c_X7_thing (l : Launch) (dC : Nat → ClassId) (dI : Nat → Nat → Nat) (cI cC cO : ClassId) (qS : Nat) (aS : Nat → Nat) (gS : zG) (x1 : Int32) (x2 : Int32) (R : Int32 × zG) (hf : f_X7_thing gS x1 x2 = some R) : cM l (dC, dI) (zT cI cC cO) yX7_thing wsX7_thing rm_X7_thing [.ref qS, .int x1, .int x2] [(wX7 cI qS aS gS)] [(wX7 cI qS aS R.2)] (some (.int R.1)) 0 0 := by
  refine zM_in (cc := cX7_thing) (maxL := 3) (ret := (some .int)) (plainFor_of_name (by decide)) rfl (Nat.le_of_ble_eq_true rfl) ?_
  intro p e s m below meth c hx hb hml hr hlk hown hts hK hN A hA hP hD hS ls hl
  have hl : lv_has ls 3 [(0, .ref qS), (1, .int x1), (2, .int x2)] := hl
  unfold f_X7_thing at hf
  obtain ⟨H, hH⟩ : ∃ H, H = s.heap := ⟨_, rfl⟩
  obtain ⟨locs, hlocs⟩ : ∃ locs : List Loc, locs = [] := ⟨_, rfl⟩
  have hS : va_S A s.heap H locs := by rw [hH, hlocs]; exact hS
  rw [← hH] at hP
  refine zheap hH hlocs ?_
  refine lv_iload_n hx hb dX7_thing_0 rfl (lv_at hl 1 rfl) ?_
  refine lv_if_lt (tgt := 14) hx hb dX7_thing_1 (by decide) (fun c_1 => ?_) (fun c_1 => ?_)
  · have hf := zif_t hf c_1
    refine lv_ldc (v := (-1000000001 : Int32)) hx hb hown (hts _ k_X7_thing_1) dX7_thing_14 ?_
    exact zM_ret (gs := [(wX7 cI qS aS gS)]) hx hb hr rfl hP hD hS (by rw [← Option.some.inj hf]; exact ⟨rfl, rfl⟩) hlk dX7_thing_16
  · have hf := zif_f hf c_1
    refine lv_iload_n hx hb dX7_thing_4 rfl (lv_at hl 2 rfl) ?_
    refine lv_iconst (v := (0 : Int32)) hx hb dX7_thing_5 (by decide) ?_
    refine lv_bipush (v := (6 : Int32)) hx hb dX7_thing_6 (by decide) ?_
    obtain ⟨R2, e_2, hf⟩ := zbind_ex hf
    refine z_callRi (va_runS (As := [.int x2, .int (0 : Int32), .int (6 : Int32)]) (rest := []) ⟨hx, hb, hml, hown, hts⟩ (c_X7_in l dC dI cI cC cO  x2 (0 : Int32) (6 : Int32) R2 e_2) (va_cwS 3 hts gX7_thing_X7_in rfl rfl rfl (by decide +kernel) ⟨Nat.le_of_ble_eq_true rfl, Nat.le_of_ble_eq_true rfl⟩) ⟨zpR_blind, z_useR hK hN hP [] rfl⟩ rfl rfl hl.1 rfl (lv_room (Nat.le_of_ble_eq_true rfl)) dX7_thing_8 ⟨Nat.le_of_ble_eq_true rfl, Nat.le_of_ble_eq_true rfl⟩) ?_
    refine lv_if_ne (tgt := 17) hx hb dX7_thing_11 (by decide) (fun c_3 => ?_) (fun c_3 => ?_)
    · have hf := zif_f hf c_3
      refine lv_iload_n hx hb dX7_thing_17 rfl (lv_at hl 1 rfl) ?_
      refine lv_aload_n hx hb dX7_thing_18 rfl (lv_at hl 0 rfl) ?_
      refine va_get (D := (dC, dI)) (ci := 7) (v := .ref (aS 0)) (C := RX7) (T := TX7) (N := 21) hx hb hts u_X7_thing_X7 hown hK hP 0 rfl rfl 0 (by decide) (hts _ k_X7_thing_2) (fun _ h9 => h9) rfl dX7_thing_19 ?_
      refine lv_iconst (v := (1 : Int32)) hx hb dX7_thing_22 (by decide) ?_
      obtain ⟨h_4, hf⟩ := zin_ex hf
      refine va_iald hx hb hK hP 1 0 rfl rfl h_4 dX7_thing_23 ?_
      refine lv_icmp_lt (tgt := 30) hx hb dX7_thing_24 (by decide) (fun c_5 => ?_) (fun c_5 => ?_)
      · have hf := zif_t hf c_5
        refine lv_iload_n hx hb dX7_thing_30 rfl (lv_at hl 2 rfl) ?_
        by_cases c_6 : x2 = (4 : Int32)
        · have hf := zif_t hf c_6
          refine lv_tableIn (tgt := 56) (off := 25) hx hb dX7_thing_31 (by rw [c_6]; decide) (by rw [c_6]; decide) (by rw [c_6]; first | done | rfl) (by decide) ?_
          refine lv_aload_n hx hb dX7_thing_56 rfl (lv_at hl 0 rfl) ?_
          refine lv_iload_n hx hb dX7_thing_57 rfl (lv_at hl 1 rfl) ?_
          refine lv_iconst (v := (1 : Int32)) hx hb dX7_thing_58 (by decide) ?_
          obtain ⟨R7, e_7, hf⟩ := zbind_ex hf
          refine z_callRi (va_runV (As := [.int x1, .int (1 : Int32)]) (rest := []) ⟨hx, hb, hml, hown, hts⟩ (c_X7_of l dC dI cI cC cO qS aS gS x1 (1 : Int32) R7 e_7) (cwV 2 hts gX7_thing_X7_of rfl rfl rfl (by decide +kernel) ⟨Nat.le_of_ble_eq_true rfl, Nat.le_of_ble_eq_true rfl⟩) ⟨zpR_blind, va_recv hK hP (ci := 7) (q0 := 0) rfl rfl, z_useR hK hN hP [0] rfl⟩ rfl rfl hl.1 rfl (lv_room (Nat.le_of_ble_eq_true rfl)) dX7_thing_59 ⟨Nat.le_of_ble_eq_true rfl, Nat.le_of_ble_eq_true rfl⟩) ?_
          refine lv_iconst (v := (1 : Int32)) hx hb dX7_thing_62 (by decide) ?_
          refine lv_icmp_ne (tgt := 71) hx hb dX7_thing_63 (by decide) (fun c_8 => ?_) (fun c_8 => ?_)
          · have hf := zif_f hf c_8
            refine lv_aload_n hx hb dX7_thing_71 rfl (lv_at hl 0 rfl) ?_
            refine lv_iload_n hx hb dX7_thing_72 rfl (lv_at hl 1 rfl) ?_
            refine lv_iconst (v := (4 : Int32)) hx hb dX7_thing_73 (by decide) ?_
            obtain ⟨R9, e_9, hf⟩ := zbind_ex hf
            refine z_callRi (va_runV (As := [.int x1, .int (4 : Int32)]) (rest := []) ⟨hx, hb, hml, hown, hts⟩ (c_X7_of l dC dI cI cC cO qS aS gS x1 (4 : Int32) R9 e_9) (cwV 2 hts gX7_thing_X7_of rfl rfl rfl (by decide +kernel) ⟨Nat.le_of_ble_eq_true rfl, Nat.le_of_ble_eq_true rfl⟩) ⟨zpR_blind, va_recv hK hP (ci := 7) (q0 := 0) rfl rfl, z_useR hK hN hP [0] rfl⟩ rfl rfl hl.1 rfl (lv_room (Nat.le_of_ble_eq_true rfl)) dX7_thing_74 ⟨Nat.le_of_ble_eq_true rfl, Nat.le_of_ble_eq_true rfl⟩) ?_
            refine lv_iconst (v := (1 : Int32)) hx hb dX7_thing_77 (by decide) ?_
            refine lv_icmp_ne (tgt := 85) hx hb dX7_thing_78 (by decide) (fun c_10 => ?_) (fun c_10 => ?_)
            · have hf := zif_f hf c_10
              refine lv_iconst (v := (2 : Int32)) hx hb dX7_thing_85 (by decide) ?_
              exact zM_ret (gs := [(wX7 cI qS aS gS)]) hx hb hr rfl hP hD hS (by rw [← Option.some.inj hf]; exact ⟨rfl, rfl⟩) hlk dX7_thing_86
            · have hf := zif_t hf c_10
              refine lv_iconst (v := (1 : Int32)) hx hb dX7_thing_81 (by decide) ?_
              refine lv_goto (tgt := 86) hx hb dX7_thing_82 (by decide) ?_
              exact zM_ret (gs := [(wX7 cI qS aS gS)]) hx hb hr rfl hP hD hS (by rw [← Option.some.inj hf]; exact ⟨rfl, rfl⟩) hlk dX7_thing_86
          · have hf := zif_t hf c_8
            refine lv_ldc (v := (-1000000004 : Int32)) hx hb hown (hts _ k_X7_thing_3) dX7_thing_66 ?_
            refine lv_goto (tgt := 86) hx hb dX7_thing_68 (by decide) ?_
            exact zM_ret (gs := [(wX7 cI qS aS gS)]) hx hb hr rfl hP hD hS (by rw [← Option.some.inj hf]; exact ⟨rfl, rfl⟩) hlk dX7_thing_86
        · have hf := zif_f hf c_6
          by_cases c_11 : x2 = (5 : Int32)
          · have hf := zif_t hf c_11
            refine lv_tableIn (tgt := 87) (off := 56) hx hb dX7_thing_31 (by rw [c_11]; decide) (by rw [c_11]; decide) (by rw [c_11]; first | done | rfl) (by decide) ?_
            refine lv_aload_n hx hb dX7_thing_87 rfl (lv_at hl 0 rfl) ?_
            refine lv_aload_n hx hb dX7_thing_88 rfl (lv_at hl 0 rfl) ?_
            refine lv_iload_n hx hb dX7_thing_89 rfl (lv_at hl 1 rfl) ?_
            refine lv_iconst (v := (0 : Int32)) hx hb dX7_thing_90 (by decide) ?_
            obtain ⟨R12, e_12, hf⟩ := zbind_ex hf
            refine z_callRi (va_runV (As := [.int x1, .int (0 : Int32)]) (rest := [.ref qS]) ⟨hx, hb, hml, hown, hts⟩ (c_X7_of l dC dI cI cC cO qS aS gS x1 (0 : Int32) R12 e_12) (cwV 2 hts gX7_thing_X7_of rfl rfl rfl (by decide +kernel) ⟨Nat.le_of_ble_eq_true rfl, Nat.le_of_ble_eq_true rfl⟩) ⟨zpR_blind, va_recv hK hP (ci := 7) (q0 := 0) rfl rfl, z_useR hK hN hP [0] rfl⟩ rfl rfl hl.1 rfl (lv_room (Nat.le_of_ble_eq_true rfl)) dX7_thing_91 ⟨Nat.le_of_ble_eq_true rfl, Nat.le_of_ble_eq_true rfl⟩) ?_
            obtain ⟨R13, e_13, hf⟩ := zbind_ex hf
            refine z_callM (gs2 := [(wX7 cI qS aS R13.2)]) hP hD hS hA [0] [] rfl rfl rfl (show List.Perm [0] (List.range 1) from by decide) rfl (va_runV (As := [.int R12]) (rest := []) ⟨hx, hb, hml, hown, hts⟩ (c_X7_coming l dC dI cI cC cO qS aS gS R12 R13 e_13 H.size) (cwV 1 hts gX7_thing_X7_coming rfl rfl rfl (by decide +kernel) ⟨Nat.le_of_ble_eq_true rfl, Nat.le_of_ble_eq_true rfl⟩) ⟨zpM_blind, va_recv hK hP (ci := 7) (q0 := 0) rfl rfl, z_useM hK hN hP hD [0] [] rfl (show List.Perm [0] (List.range 1) from by decide)⟩ rfl rfl hl.1 rfl (lv_room (Nat.le_of_ble_eq_true rfl)) dX7_thing_94 ⟨Nat.le_of_ble_eq_true rfl, Nat.le_of_ble_eq_true rfl⟩) (fun H locs hP hD hS => ?_)
            refine W.eq (g2 := F0 m 97 ls [.int R13.1]) rfl ?_
            exact zM_ret (gs := [(wX7 cI qS aS R13.2)]) hx hb hr rfl hP hD hS (by rw [← Option.some.inj hf]; exact ⟨rfl, rfl⟩) hlk dX7_thing_97
          · have hf := zif_f hf c_11
            by_cases c_14 : x2 = (6 : Int32)
            · have hf := zif_t hf c_14
              refine lv_tableIn (tgt := 98) (off := 67) hx hb dX7_thing_31 (by rw [c_14]; decide) (by rw [c_14]; decide) (by rw [c_14]; first | done | rfl) (by decide) ?_
              refine lv_aload_n hx hb dX7_thing_98 rfl (lv_at hl 0 rfl) ?_
              refine lv_aload_n hx hb dX7_thing_99 rfl (lv_at hl 0 rfl) ?_
              refine lv_iload_n hx hb dX7_thing_100 rfl (lv_at hl 1 rfl) ?_
              refine lv_iconst (v := (0 : Int32)) hx hb dX7_thing_101 (by decide) ?_
              obtain ⟨R15, e_15, hf⟩ := zbind_ex hf
              refine z_callRi (va_runV (As := [.int x1, .int (0 : Int32)]) (rest := [.ref qS]) ⟨hx, hb, hml, hown, hts⟩ (c_X7_of l dC dI cI cC cO qS aS gS x1 (0 : Int32) R15 e_15) (cwV 2 hts gX7_thing_X7_of rfl rfl rfl (by decide +kernel) ⟨Nat.le_of_ble_eq_true rfl, Nat.le_of_ble_eq_true rfl⟩) ⟨zpR_blind, va_recv hK hP (ci := 7) (q0 := 0) rfl rfl, z_useR hK hN hP [0] rfl⟩ rfl rfl hl.1 rfl (lv_room (Nat.le_of_ble_eq_true rfl)) dX7_thing_102 ⟨Nat.le_of_ble_eq_true rfl, Nat.le_of_ble_eq_true rfl⟩) ?_
              obtain ⟨R16, e_16, hf⟩ := zbind_ex hf
              refine z_callM (gs2 := [(wX7 cI qS aS R16.2)]) hP hD hS hA [0] [] rfl rfl rfl (show List.Perm [0] (List.range 1) from by decide) rfl (va_runV (As := [.int R15]) (rest := []) ⟨hx, hb, hml, hown, hts⟩ (c_X7_lostAt l dC dI cI cC cO qS aS gS R15 R16 e_16 H.size) (cwV 1 hts gX7_thing_X7_lostAt rfl rfl rfl (by decide +kernel) ⟨Nat.le_of_ble_eq_true rfl, Nat.le_of_ble_eq_true rfl⟩) ⟨zpM_blind, va_recv hK hP (ci := 7) (q0 := 0) rfl rfl, z_useM hK hN hP hD [0] [] rfl (show List.Perm [0] (List.range 1) from by decide)⟩ rfl rfl hl.1 rfl (lv_room (Nat.le_of_ble_eq_true rfl)) dX7_thing_105 ⟨Nat.le_of_ble_eq_true rfl, Nat.le_of_ble_eq_true rfl⟩) (fun H locs hP hD hS => ?_)
              refine W.eq (g2 := F0 m 108 ls [.int R16.1]) rfl ?_
              exact zM_ret (gs := [(wX7 cI qS aS R16.2)]) hx hb hr rfl hP hD hS (by rw [← Option.some.inj hf]; exact ⟨rfl, rfl⟩) hlk dX7_thing_108
            · have hf := zif_f hf c_14
              refine lv_tableOut (tgt := 109) hx hb dX7_thing_31 (by have q_6 := zne_toInt c_6 (a := 4) (by decide); have q_11 := zne_toInt c_11 (a := 5) (by decide); have q_14 := zne_toInt c_14 (a := 6) (by decide); omega) (by decide) ?_
              refine lv_aload_n hx hb dX7_thing_109 rfl (lv_at hl 0 rfl) ?_
              refine lv_iload_n hx hb dX7_thing_110 rfl (lv_at hl 1 rfl) ?_
              refine lv_iload_n hx hb dX7_thing_111 rfl (lv_at hl 2 rfl) ?_
              obtain ⟨R17, e_17, hf⟩ := zbind_ex hf
              refine z_callRi (va_runV (As := [.int x1, .int x2]) (rest := []) ⟨hx, hb, hml, hown, hts⟩ (c_X7_of l dC dI cI cC cO qS aS gS x1 x2 R17 e_17) (cwV 2 hts gX7_thing_X7_of rfl rfl rfl (by decide +kernel) ⟨Nat.le_of_ble_eq_true rfl, Nat.le_of_ble_eq_true rfl⟩) ⟨zpR_blind, va_recv hK hP (ci := 7) (q0 := 0) rfl rfl, z_useR hK hN hP [0] rfl⟩ rfl rfl hl.1 rfl (lv_room (Nat.le_of_ble_eq_true rfl)) dX7_thing_112 ⟨Nat.le_of_ble_eq_true rfl, Nat.le_of_ble_eq_true rfl⟩) ?_
              exact zM_ret (gs := [(wX7 cI qS aS gS)]) hx hb hr rfl hP hD hS (by rw [← Option.some.inj hf]; exact ⟨rfl, rfl⟩) hlk dX7_thing_115
      · have hf := zif_f hf c_5
        refine lv_ldc (v := (-1000000004 : Int32)) hx hb hown (hts _ k_X7_thing_3) dX7_thing_27 ?_
        exact zM_ret (gs := [(wX7 cI qS aS gS)]) hx hb hr rfl hP hD hS (by rw [← Option.some.inj hf]; exact ⟨rfl, rfl⟩) hlk dX7_thing_29
    · have hf := zif_t hf c_3
      refine lv_ldc (v := (-1000000001 : Int32)) hx hb hown (hts _ k_X7_thing_1) dX7_thing_14 ?_
      exact zM_ret (gs := [(wX7 cI qS aS gS)]) hx hb hr rfl hP hD hS (by rw [← Option.some.inj hf]; exact ⟨rfl, rfl⟩) hlk dX7_thing_16

def f_X7_height (gS : zG) (x1 : Int32) (x2 : Int32) : Option (Int32 × zG) := (zbind (f_X7_isLine gS x1) (fun R1 => (if R1 = 0 then (some ((-1000000001 : Int32), gS)) else (zbind (f_X7_in x2 (0 : Int32) (1000 : Int32)) (fun R3 => (if R3 = 0 then (some ((-1000000001 : Int32), gS)) else (zbind (f_X7_follows gS x1 x2) (fun R5 => (if (R5 11 0) = 0 then (some ((R5 9 0), R5)) else (some ((-1000000004 : Int32), R5)))))))))))
theorem u_X7_height_X7 : ∀ w ∈ u_ws RX7 TX7 21, w ∈ wsX7_height := fun w h => List.mem_cons_of_mem _ (List.mem_append_right _ h)
theorem k_X7_height_1 : Cond.constant RX7 51 (-1000000001) ∈ wsX7_height := List.mem_of_getElem? (i := 1) rfl
theorem k_X7_height_2 : Cond.fieldLink RX7 100 "JoinedLightModel" "why" "I" ∈ wsX7_height := List.mem_of_getElem? (i := 2) rfl
theorem k_X7_height_4 : Cond.constant RX7 46 (-1000000004) ∈ wsX7_height := List.mem_of_getElem? (i := 4) rfl
theorem k_X7_height_3 : Cond.fieldLink RX7 88 "JoinedLightModel" "height" "I" ∈ wsX7_height := List.mem_of_getElem? (i := 3) rfl
abbrev rm_X7_height : Room := { frames := 3, cells := 0, slots := 0, locals := 66 }
set_option maxHeartbeats 4000000 in
set_option maxRecDepth 100000 in
theorem c_X7_height (l : Launch) (dC : Nat → ClassId) (dI : Nat → Nat → Nat) (cI cC cO : ClassId) (qS : Nat) (aS : Nat → Nat) (gS : zG) (x1 : Int32) (x2 : Int32) (R : Int32 × zG) (hf : f_X7_height gS x1 x2 = some R) : cM l (dC, dI) (zT cI cC cO) yX7_height wsX7_height rm_X7_height [.ref qS, .int x1, .int x2] [(wX7 cI qS aS gS)] [(wX7 cI qS aS R.2)] (some (.int R.1)) 0 0 := by
  refine zM_in (cc := cX7_height) (maxL := 3) (ret := (some .int)) (plainFor_of_name (by decide)) rfl (Nat.le_of_ble_eq_true rfl) ?_
  intro p e s m below meth c hx hb hml hr hlk hown hts hK hN A hA hP hD hS ls hl
  have hl : lv_has ls 3 [(0, .ref qS), (1, .int x1), (2, .int x2)] := hl
  unfold f_X7_height at hf
  obtain ⟨H, hH⟩ : ∃ H, H = s.heap := ⟨_, rfl⟩
  obtain ⟨locs, hlocs⟩ : ∃ locs : List Loc, locs = [] := ⟨_, rfl⟩
  have hS : va_S A s.heap H locs := by rw [hH, hlocs]; exact hS
  rw [← hH] at hP
  refine zheap hH hlocs ?_
  refine lv_aload_n hx hb dX7_height_0 rfl (lv_at hl 0 rfl) ?_
  refine lv_iload_n hx hb dX7_height_1 rfl (lv_at hl 1 rfl) ?_
  obtain ⟨R1, e_1, hf⟩ := zbind_ex hf
  refine z_callRi (va_runV (As := [.int x1]) (rest := []) ⟨hx, hb, hml, hown, hts⟩ (c_X7_isLine l dC dI cI cC cO qS aS gS x1 R1 e_1) (cwV 1 hts gX7_height_X7_isLine rfl rfl rfl (by decide +kernel) ⟨Nat.le_of_ble_eq_true rfl, Nat.le_of_ble_eq_true rfl⟩) ⟨zpR_blind, va_recv hK hP (ci := 7) (q0 := 0) rfl rfl, z_useR hK hN hP [0] rfl⟩ rfl rfl hl.1 rfl (lv_room (Nat.le_of_ble_eq_true rfl)) dX7_height_2 ⟨Nat.le_of_ble_eq_true rfl, Nat.le_of_ble_eq_true rfl⟩) ?_
  refine lv_if_eq (tgt := 19) hx hb dX7_height_5 (by decide) (fun c_2 => ?_) (fun c_2 => ?_)
  · have hf := zif_t hf c_2
    refine lv_ldc (v := (-1000000001 : Int32)) hx hb hown (hts _ k_X7_height_1) dX7_height_19 ?_
    exact zM_ret (gs := [(wX7 cI qS aS gS)]) hx hb hr rfl hP hD hS (by rw [← Option.some.inj hf]; exact ⟨rfl, rfl⟩) hlk dX7_height_21
  · have hf := zif_f hf c_2
    refine lv_iload_n hx hb dX7_height_8 rfl (lv_at hl 2 rfl) ?_
    refine lv_iconst (v := (0 : Int32)) hx hb dX7_height_9 (by decide) ?_
    refine lv_sipush (v := (1000 : Int32)) hx hb dX7_height_10 (by decide) ?_
    obtain ⟨R3, e_3, hf⟩ := zbind_ex hf
    refine z_callRi (va_runS (As := [.int x2, .int (0 : Int32), .int (1000 : Int32)]) (rest := []) ⟨hx, hb, hml, hown, hts⟩ (c_X7_in l dC dI cI cC cO  x2 (0 : Int32) (1000 : Int32) R3 e_3) (va_cwS 3 hts gX7_height_X7_in rfl rfl rfl (by decide +kernel) ⟨Nat.le_of_ble_eq_true rfl, Nat.le_of_ble_eq_true rfl⟩) ⟨zpR_blind, z_useR hK hN hP [] rfl⟩ rfl rfl hl.1 rfl (lv_room (Nat.le_of_ble_eq_true rfl)) dX7_height_13 ⟨Nat.le_of_ble_eq_true rfl, Nat.le_of_ble_eq_true rfl⟩) ?_
    refine lv_if_ne (tgt := 22) hx hb dX7_height_16 (by decide) (fun c_4 => ?_) (fun c_4 => ?_)
    · have hf := zif_f hf c_4
      refine lv_aload_n hx hb dX7_height_22 rfl (lv_at hl 0 rfl) ?_
      refine lv_iload_n hx hb dX7_height_23 rfl (lv_at hl 1 rfl) ?_
      refine lv_iload_n hx hb dX7_height_24 rfl (lv_at hl 2 rfl) ?_
      obtain ⟨R5, e_5, hf⟩ := zbind_ex hf
      refine z_callM (gs2 := [(wX7 cI qS aS R5)]) hP hD hS hA [0] [] rfl rfl rfl (show List.Perm [0] (List.range 1) from by decide) rfl (va_runV (As := [.int x1, .int x2]) (rest := []) ⟨hx, hb, hml, hown, hts⟩ (c_X7_follows l dC dI cI cC cO qS aS gS x1 x2 R5 e_5 H.size) (cwV 2 hts gX7_height_X7_follows rfl rfl rfl (by decide +kernel) ⟨Nat.le_of_ble_eq_true rfl, Nat.le_of_ble_eq_true rfl⟩) ⟨zpM_blind, va_recv hK hP (ci := 7) (q0 := 0) rfl rfl, z_useM hK hN hP hD [0] [] rfl (show List.Perm [0] (List.range 1) from by decide)⟩ rfl rfl hl.1 rfl (lv_room (Nat.le_of_ble_eq_true rfl)) dX7_height_25 ⟨Nat.le_of_ble_eq_true rfl, Nat.le_of_ble_eq_true rfl⟩) (fun H locs hP hD hS => ?_)
      refine W.eq (g2 := F0 m 28 ls []) rfl ?_
      refine lv_aload_n hx hb dX7_height_28 rfl (lv_at hl 0 rfl) ?_
      refine va_get (D := (dC, dI)) (ci := 7) (v := .int (R5 11 0)) (C := RX7) (T := TX7) (N := 21) hx hb hts u_X7_height_X7 hown hK hP 0 rfl rfl 11 (by decide) (hts _ k_X7_height_2) (fun _ h9 => h9) rfl dX7_height_29 ?_
      refine lv_if_ne (tgt := 42) hx hb dX7_height_32 (by decide) (fun c_6 => ?_) (fun c_6 => ?_)
      · have hf := zif_f hf c_6
        refine lv_ldc (v := (-1000000004 : Int32)) hx hb hown (hts _ k_X7_height_4) dX7_height_42 ?_
        exact zM_ret (gs := [(wX7 cI qS aS R5)]) hx hb hr rfl hP hD hS (by rw [← Option.some.inj hf]; exact ⟨rfl, rfl⟩) hlk dX7_height_44
      · have hf := zif_t hf c_6
        refine lv_aload_n hx hb dX7_height_35 rfl (lv_at hl 0 rfl) ?_
        refine va_get (D := (dC, dI)) (ci := 7) (v := .int (R5 9 0)) (C := RX7) (T := TX7) (N := 21) hx hb hts u_X7_height_X7 hown hK hP 0 rfl rfl 9 (by decide) (hts _ k_X7_height_3) (fun _ h9 => h9) rfl dX7_height_36 ?_
        refine lv_goto (tgt := 44) hx hb dX7_height_39 (by decide) ?_
        exact zM_ret (gs := [(wX7 cI qS aS R5)]) hx hb hr rfl hP hD hS (by rw [← Option.some.inj hf]; exact ⟨rfl, rfl⟩) hlk dX7_height_44
    · have hf := zif_t hf c_4
      refine lv_ldc (v := (-1000000001 : Int32)) hx hb hown (hts _ k_X7_height_1) dX7_height_19 ?_
      exact zM_ret (gs := [(wX7 cI qS aS gS)]) hx hb hr rfl hP hD hS (by rw [← Option.some.inj hf]; exact ⟨rfl, rfl⟩) hlk dX7_height_21

def f_X7_inCell_44  (k4 : Int32 → Int32 → Int32 → zG → Option (Int32 × zG)) (y1 : Int32) (y3 : Int32) (s0 : Int32) (gS : zG) : Option (Int32 × zG) := (k4 y1 (s0 ||| (0 : Int32)) (y3 + (1 : Int32)) gS)
def f_X7_inCell_4_b   (k4 : Int32 → Int32 → Int32 → zG → Option (Int32 × zG)) (y1 : Int32) (y2 : Int32) (y3 : Int32) (gS : zG) : Option (Int32 × zG) := (zin (0 : Int32) 59 (if (gS 0 (0 : Int32).toNatClampNeg) ≤ y3 then (some (y2, gS)) else (zbind (f_X7_follows gS y3 (1000 : Int32)) (fun R3 => (if (R3 11 0) = 0 then (zbind (f_X7_cell R3) (fun R5 => (if R5 = y1 then (k4 y1 (y2 ||| ((1 : Int32) <<< (y3 &&& 31))) (y3 + (1 : Int32)) R3) else (f_X7_inCell_44  k4  y1 y3 y2 R3)))) else (f_X7_inCell_44  k4  y1 y3 y2 R3))))))
def f_X7_inCell_4   : Nat → Int32 → Int32 → Int32 → zG → Option (Int32 × zG)
  | 0 => fun _ _ _ _ => none
  | n + 1 => f_X7_inCell_4_b   (f_X7_inCell_4   n)
def f_X7_inCell (gS : zG) (x1 : Int32) : Option (Int32 × zG) := (f_X7_inCell_4   zfuel x1 (0 : Int32) (0 : Int32) gS)
theorem u_X7_inCell_X7 : ∀ w ∈ u_ws RX7 TX7 21, w ∈ wsX7_inCell := fun w h => List.mem_cons_of_mem _ (List.mem_append_right _ h)
theorem k_X7_inCell_1 : Cond.fieldLink RX7 7 "JoinedLightModel" "s" "[I" ∈ wsX7_inCell := List.mem_of_getElem? (i := 1) rfl
theorem k_X7_inCell_2 : Cond.fieldLink RX7 100 "JoinedLightModel" "why" "I" ∈ wsX7_inCell := List.mem_of_getElem? (i := 2) rfl
abbrev rm_X7_inCell : Room := { frames := 3, cells := 0, slots := 0, locals := 66 }
set_option maxHeartbeats 4000000 in
set_option maxRecDepth 100000 in
theorem c_X7_inCell (l : Launch) (dC : Nat → ClassId) (dI : Nat → Nat → Nat) (cI cC cO : ClassId) (qS : Nat) (aS : Nat → Nat) (gS : zG) (x1 : Int32) (R : Int32 × zG) (hf : f_X7_inCell gS x1 = some R) : cM l (dC, dI) (zT cI cC cO) yX7_inCell wsX7_inCell rm_X7_inCell [.ref qS, .int x1] [(wX7 cI qS aS gS)] [(wX7 cI qS aS R.2)] (some (.int R.1)) 0 0 := by
  refine zM_in (cc := cX7_inCell) (maxL := 4) (ret := (some .int)) (plainFor_of_name (by decide)) rfl (Nat.le_of_ble_eq_true rfl) ?_
  intro p e s m below meth c hx hb hml hr hlk hown hts hK hN A hA hP hD hS ls hl
  have hl : lv_has ls 4 [(0, .ref qS), (1, .int x1)] := hl
  have w4 : ∀ (n4 : Nat) (y1 : Int32) (y2 : Int32) (y3 : Int32) (gS : zG) (H : Heap) (locs : List Loc) (ls : Array Slot), f_X7_inCell_4   n4 y1 y2 y3 gS = some R → va_P (dC, dI) vwCl [(wX7 cI qS aS gS)].flatten H → va_D A [(wX7 cI qS aS gS)].flatten → va_S A s.heap H locs → lv_has ls 4 [(0, .ref qS), (1, .int y1), (2, .int y2), (3, .int y3)] → W p l e (headSpec wsX7_inCell rm_X7_inCell).room s m [.ref qS, .int x1].toArray below meth c H locs 0 0 (MQ below (zqM (dC, dI) (some (.int R.1)) [(wX7 cI qS aS R.2)] A) [.ref qS, .int x1].toArray s 0 0 A) (F0 m 4 ls []) := by
    intro n4
    induction n4 with
    | zero =>
      intro y1 y2 y3 gS H locs ls hf hP hD hS hl
      have hf : (none : Option (Int32 × zG)) = some R := hf
      cases hf
    | succ n4 ih4 =>
      have w44 : ∀ (y1 : Int32) (y3 : Int32) (s0 : Int32) (gS : zG) (H : Heap) (locs : List Loc) (ls : Array Slot), f_X7_inCell_44  (f_X7_inCell_4   n4)  y1 y3 s0 gS = some R → va_P (dC, dI) vwCl [(wX7 cI qS aS gS)].flatten H → va_D A [(wX7 cI qS aS gS)].flatten → va_S A s.heap H locs → lv_has ls 4 [(0, .ref qS), (1, .int y1), (3, .int y3)] → W p l e (headSpec wsX7_inCell rm_X7_inCell).room s m [.ref qS, .int x1].toArray below meth c H locs 0 0 (MQ below (zqM (dC, dI) (some (.int R.1)) [(wX7 cI qS aS R.2)] A) [.ref qS, .int x1].toArray s 0 0 A) (F0 m 44 ls [.int s0]) := by
        intro y1 y3 s0 gS H locs ls hf hP hD hS hl
        unfold f_X7_inCell_44 at hf
        refine lv_iconst (v := (0 : Int32)) hx hb dX7_inCell_44 (by decide) ?_
        refine lv_ior hx hb dX7_inCell_45 ?_
        refine lv_istore_n (lv' := [(2, .int (s0 ||| (0 : Int32))), (0, .ref qS), (1, .int y1), (3, .int y3)]) hx hb dX7_inCell_46 rfl hl (by decide) rfl (fun ls hl => ?_)
        refine lv_iinc (v := (y3 + (1 : Int32))) (lv' := [(3, .int (y3 + (1 : Int32))), (2, .int (s0 ||| (0 : Int32))), (0, .ref qS), (1, .int y1)]) hx hb dX7_inCell_47 hl (k := 3) rfl rfl (by decide) rfl (fun ls hl => ?_)
        refine lv_goto (tgt := 4) hx hb dX7_inCell_50 (by decide) ?_
        exact ih4 y1 (s0 ||| (0 : Int32)) (y3 + (1 : Int32)) gS H locs ls hf hP hD hS (lv_sub hl [2, 3, 1, 0] rfl)
      intro y1 y2 y3 gS H locs ls hf hP hD hS hl
      have hf : f_X7_inCell_4_b   (f_X7_inCell_4   n4) y1 y2 y3 gS = some R := hf
      unfold f_X7_inCell_4_b at hf
      refine lv_iload_n hx hb dX7_inCell_4 rfl (lv_at hl 3 rfl) ?_
      refine lv_aload_n hx hb dX7_inCell_5 rfl (lv_at hl 0 rfl) ?_
      refine va_get (D := (dC, dI)) (ci := 7) (v := .ref (aS 0)) (C := RX7) (T := TX7) (N := 21) hx hb hts u_X7_inCell_X7 hown hK hP 0 rfl rfl 0 (by decide) (hts _ k_X7_inCell_1) (fun _ h9 => h9) rfl dX7_inCell_6 ?_
      refine lv_iconst (v := (0 : Int32)) hx hb dX7_inCell_9 (by decide) ?_
      obtain ⟨h_1, hf⟩ := zin_ex hf
      refine va_iald hx hb hK hP 1 0 rfl rfl h_1 dX7_inCell_10 ?_
      refine lv_icmp_ge (tgt := 53) hx hb dX7_inCell_11 (by decide) (fun c_2 => ?_) (fun c_2 => ?_)
      · have hf := zif_t hf c_2
        refine lv_iload_n hx hb dX7_inCell_53 rfl (lv_at hl 2 rfl) ?_
        exact zM_ret (gs := [(wX7 cI qS aS gS)]) hx hb hr rfl hP hD hS (by rw [← Option.some.inj hf]; exact ⟨rfl, rfl⟩) hlk dX7_inCell_54
      · have hf := zif_f hf c_2
        refine lv_aload_n hx hb dX7_inCell_14 rfl (lv_at hl 0 rfl) ?_
        refine lv_iload_n hx hb dX7_inCell_15 rfl (lv_at hl 3 rfl) ?_
        refine lv_sipush (v := (1000 : Int32)) hx hb dX7_inCell_16 (by decide) ?_
        obtain ⟨R3, e_3, hf⟩ := zbind_ex hf
        refine z_callM (gs2 := [(wX7 cI qS aS R3)]) hP hD hS hA [0] [] rfl rfl rfl (show List.Perm [0] (List.range 1) from by decide) rfl (va_runV (As := [.int y3, .int (1000 : Int32)]) (rest := []) ⟨hx, hb, hml, hown, hts⟩ (c_X7_follows l dC dI cI cC cO qS aS gS y3 (1000 : Int32) R3 e_3 H.size) (cwV 2 hts gX7_inCell_X7_follows rfl rfl rfl (by decide +kernel) ⟨Nat.le_of_ble_eq_true rfl, Nat.le_of_ble_eq_true rfl⟩) ⟨zpM_blind, va_recv hK hP (ci := 7) (q0 := 0) rfl rfl, z_useM hK hN hP hD [0] [] rfl (show List.Perm [0] (List.range 1) from by decide)⟩ rfl rfl hl.1 rfl (lv_room (Nat.le_of_ble_eq_true rfl)) dX7_inCell_19 ⟨Nat.le_of_ble_eq_true rfl, Nat.le_of_ble_eq_true rfl⟩) (fun H locs hP hD hS => ?_)
        refine W.eq (g2 := F0 m 22 ls []) rfl ?_
        refine lv_iload_n hx hb dX7_inCell_22 rfl (lv_at hl 2 rfl) ?_
        refine lv_aload_n hx hb dX7_inCell_23 rfl (lv_at hl 0 rfl) ?_
        refine va_get (D := (dC, dI)) (ci := 7) (v := .int (R3 11 0)) (C := RX7) (T := TX7) (N := 21) hx hb hts u_X7_inCell_X7 hown hK hP 0 rfl rfl 11 (by decide) (hts _ k_X7_inCell_2) (fun _ h9 => h9) rfl dX7_inCell_24 ?_
        refine lv_if_ne (tgt := 44) hx hb dX7_inCell_27 (by decide) (fun c_4 => ?_) (fun c_4 => ?_)
        · have hf := zif_f hf c_4
          exact w44  y1 y3 y2 R3 H locs ls hf hP hD hS (lv_sub hl [0, 1, 3] rfl)
        · have hf := zif_t hf c_4
          refine lv_aload_n hx hb dX7_inCell_30 rfl (lv_at hl 0 rfl) ?_
          obtain ⟨R5, e_5, hf⟩ := zbind_ex hf
          refine z_callRi (va_runV (As := []) (rest := [.int y2]) ⟨hx, hb, hml, hown, hts⟩ (c_X7_cell l dC dI cI cC cO qS aS R3  R5 e_5) (cwV 0 hts gX7_inCell_X7_cell rfl rfl rfl (by decide +kernel) ⟨Nat.le_of_ble_eq_true rfl, Nat.le_of_ble_eq_true rfl⟩) ⟨zpR_blind, va_recv hK hP (ci := 7) (q0 := 0) rfl rfl, z_useR hK hN hP [0] rfl⟩ rfl rfl hl.1 rfl (lv_room (Nat.le_of_ble_eq_true rfl)) dX7_inCell_31 ⟨Nat.le_of_ble_eq_true rfl, Nat.le_of_ble_eq_true rfl⟩) ?_
          refine lv_iload_n hx hb dX7_inCell_34 rfl (lv_at hl 1 rfl) ?_
          refine lv_icmp_ne (tgt := 44) hx hb dX7_inCell_35 (by decide) (fun c_6 => ?_) (fun c_6 => ?_)
          · have hf := zif_f hf c_6
            exact w44  y1 y3 y2 R3 H locs ls hf hP hD hS (lv_sub hl [0, 1, 3] rfl)
          · have hf := zif_t hf c_6
            refine lv_iconst (v := (1 : Int32)) hx hb dX7_inCell_38 (by decide) ?_
            refine lv_iload_n hx hb dX7_inCell_39 rfl (lv_at hl 3 rfl) ?_
            refine lv_ishl hx hb dX7_inCell_40 ?_
            refine lv_goto (tgt := 45) hx hb dX7_inCell_41 (by decide) ?_
            refine lv_ior hx hb dX7_inCell_45 ?_
            refine lv_istore_n (lv' := [(2, .int (y2 ||| ((1 : Int32) <<< (y3 &&& 31)))), (0, .ref qS), (1, .int y1), (3, .int y3)]) hx hb dX7_inCell_46 rfl hl (by decide) rfl (fun ls hl => ?_)
            refine lv_iinc (v := (y3 + (1 : Int32))) (lv' := [(3, .int (y3 + (1 : Int32))), (2, .int (y2 ||| ((1 : Int32) <<< (y3 &&& 31)))), (0, .ref qS), (1, .int y1)]) hx hb dX7_inCell_47 hl (k := 3) rfl rfl (by decide) rfl (fun ls hl => ?_)
            refine lv_goto (tgt := 4) hx hb dX7_inCell_50 (by decide) ?_
            exact ih4 y1 (y2 ||| ((1 : Int32) <<< (y3 &&& 31))) (y3 + (1 : Int32)) R3 H locs ls hf hP hD hS (lv_sub hl [2, 3, 1, 0] rfl)
  unfold f_X7_inCell at hf
  obtain ⟨H, hH⟩ : ∃ H, H = s.heap := ⟨_, rfl⟩
  obtain ⟨locs, hlocs⟩ : ∃ locs : List Loc, locs = [] := ⟨_, rfl⟩
  have hS : va_S A s.heap H locs := by rw [hH, hlocs]; exact hS
  rw [← hH] at hP
  refine zheap hH hlocs ?_
  refine lv_iconst (v := (0 : Int32)) hx hb dX7_inCell_0 (by decide) ?_
  refine lv_istore_n (lv' := [(2, .int (0 : Int32)), (0, .ref qS), (1, .int x1)]) hx hb dX7_inCell_1 rfl hl (by decide) rfl (fun ls hl => ?_)
  refine lv_iconst (v := (0 : Int32)) hx hb dX7_inCell_2 (by decide) ?_
  refine lv_istore_n (lv' := [(3, .int (0 : Int32)), (2, .int (0 : Int32)), (0, .ref qS), (1, .int x1)]) hx hb dX7_inCell_3 rfl hl (by decide) rfl (fun ls hl => ?_)
  exact w4 zfuel x1 (0 : Int32) (0 : Int32) gS H locs ls hf hP hD hS (lv_sub hl [2, 3, 1, 0] rfl)

def f_X7_light (gS : zG) (x1 : Int32) : Option (Int32 × zG) := (zbind (f_X7_in x1 (-9999 : Int32) (9999 : Int32)) (fun R1 => (if R1 = 0 then (some ((-1000000001 : Int32), gS)) else (zbind (f_X7_inCell gS x1) (fun R3 => (zbind (f_X7_lightIn R3.2 R3.1) (fun R4 => (some (R4, R3.2)))))))))
theorem k_X7_light_1 : Cond.constant RX7 51 (-1000000001) ∈ wsX7_light := List.mem_of_getElem? (i := 1) rfl
abbrev rm_X7_light : Room := { frames := 4, cells := 0, slots := 0, locals := 89 }
set_option maxHeartbeats 4000000 in
set_option maxRecDepth 100000 in
theorem c_X7_light (l : Launch) (dC : Nat → ClassId) (dI : Nat → Nat → Nat) (cI cC cO : ClassId) (qS : Nat) (aS : Nat → Nat) (gS : zG) (x1 : Int32) (R : Int32 × zG) (hf : f_X7_light gS x1 = some R) : cM l (dC, dI) (zT cI cC cO) yX7_light wsX7_light rm_X7_light [.ref qS, .int x1] [(wX7 cI qS aS gS)] [(wX7 cI qS aS R.2)] (some (.int R.1)) 0 0 := by
  refine zM_in (cc := cX7_light) (maxL := 2) (ret := (some .int)) (plainFor_of_name (by decide)) rfl (Nat.le_of_ble_eq_true rfl) ?_
  intro p e s m below meth c hx hb hml hr hlk hown hts hK hN A hA hP hD hS ls hl
  have hl : lv_has ls 2 [(0, .ref qS), (1, .int x1)] := hl
  unfold f_X7_light at hf
  obtain ⟨H, hH⟩ : ∃ H, H = s.heap := ⟨_, rfl⟩
  obtain ⟨locs, hlocs⟩ : ∃ locs : List Loc, locs = [] := ⟨_, rfl⟩
  have hS : va_S A s.heap H locs := by rw [hH, hlocs]; exact hS
  rw [← hH] at hP
  refine zheap hH hlocs ?_
  refine lv_iload_n hx hb dX7_light_0 rfl (lv_at hl 1 rfl) ?_
  refine lv_sipush (v := (-9999 : Int32)) hx hb dX7_light_1 (by decide) ?_
  refine lv_sipush (v := (9999 : Int32)) hx hb dX7_light_4 (by decide) ?_
  obtain ⟨R1, e_1, hf⟩ := zbind_ex hf
  refine z_callRi (va_runS (As := [.int x1, .int (-9999 : Int32), .int (9999 : Int32)]) (rest := []) ⟨hx, hb, hml, hown, hts⟩ (c_X7_in l dC dI cI cC cO  x1 (-9999 : Int32) (9999 : Int32) R1 e_1) (va_cwS 3 hts gX7_light_X7_in rfl rfl rfl (by decide +kernel) ⟨Nat.le_of_ble_eq_true rfl, Nat.le_of_ble_eq_true rfl⟩) ⟨zpR_blind, z_useR hK hN hP [] rfl⟩ rfl rfl hl.1 rfl (lv_room (Nat.le_of_ble_eq_true rfl)) dX7_light_7 ⟨Nat.le_of_ble_eq_true rfl, Nat.le_of_ble_eq_true rfl⟩) ?_
  refine lv_if_eq (tgt := 25) hx hb dX7_light_10 (by decide) (fun c_2 => ?_) (fun c_2 => ?_)
  · have hf := zif_t hf c_2
    refine lv_ldc (v := (-1000000001 : Int32)) hx hb hown (hts _ k_X7_light_1) dX7_light_25 ?_
    exact zM_ret (gs := [(wX7 cI qS aS gS)]) hx hb hr rfl hP hD hS (by rw [← Option.some.inj hf]; exact ⟨rfl, rfl⟩) hlk dX7_light_27
  · have hf := zif_f hf c_2
    refine lv_aload_n hx hb dX7_light_13 rfl (lv_at hl 0 rfl) ?_
    refine lv_aload_n hx hb dX7_light_14 rfl (lv_at hl 0 rfl) ?_
    refine lv_iload_n hx hb dX7_light_15 rfl (lv_at hl 1 rfl) ?_
    obtain ⟨R3, e_3, hf⟩ := zbind_ex hf
    refine z_callM (gs2 := [(wX7 cI qS aS R3.2)]) hP hD hS hA [0] [] rfl rfl rfl (show List.Perm [0] (List.range 1) from by decide) rfl (va_runV (As := [.int x1]) (rest := [.ref qS]) ⟨hx, hb, hml, hown, hts⟩ (c_X7_inCell l dC dI cI cC cO qS aS gS x1 R3 e_3 H.size) (cwV 1 hts gX7_light_X7_inCell rfl rfl rfl (by decide +kernel) ⟨Nat.le_of_ble_eq_true rfl, Nat.le_of_ble_eq_true rfl⟩) ⟨zpM_blind, va_recv hK hP (ci := 7) (q0 := 0) rfl rfl, z_useM hK hN hP hD [0] [] rfl (show List.Perm [0] (List.range 1) from by decide)⟩ rfl rfl hl.1 rfl (lv_room (Nat.le_of_ble_eq_true rfl)) dX7_light_16 ⟨Nat.le_of_ble_eq_true rfl, Nat.le_of_ble_eq_true rfl⟩) (fun H locs hP hD hS => ?_)
    refine W.eq (g2 := F0 m 19 ls [.int R3.1, .ref qS]) rfl ?_
    obtain ⟨R4, e_4, hf⟩ := zbind_ex hf
    refine z_callRi (va_runV (As := [.int R3.1]) (rest := []) ⟨hx, hb, hml, hown, hts⟩ (c_X7_lightIn l dC dI cI cC cO qS aS R3.2 R3.1 R4 e_4) (cwV 1 hts gX7_light_X7_lightIn rfl rfl rfl (by decide +kernel) ⟨Nat.le_of_ble_eq_true rfl, Nat.le_of_ble_eq_true rfl⟩) ⟨zpR_blind, va_recv hK hP (ci := 7) (q0 := 0) rfl rfl, z_useR hK hN hP [0] rfl⟩ rfl rfl hl.1 rfl (lv_room (Nat.le_of_ble_eq_true rfl)) dX7_light_19 ⟨Nat.le_of_ble_eq_true rfl, Nat.le_of_ble_eq_true rfl⟩) ?_
    refine lv_goto (tgt := 27) hx hb dX7_light_22 (by decide) ?_
    exact zM_ret (gs := [(wX7 cI qS aS R3.2)]) hx hb hr rfl hP hD hS (by rw [← Option.some.inj hf]; exact ⟨rfl, rfl⟩) hlk dX7_light_27

def f_X7_laysCells_6_b   (k6 : Int32 → Int32 → Int32 → zG → Option (Int32 × zG)) (y1 : Int32) (y2 : Int32) (y3 : Int32) (gS : zG) : Option (Int32 × zG) := (zin (0 : Int32) 59 (if (gS 0 (0 : Int32).toNatClampNeg) ≤ y3 then (some (y1, gS)) else (zbind (f_X7_follows gS y3 (1000 : Int32)) (fun R3 => (if (R3 11 0) = 0 then (if ((y2 >>> (y3 &&& 31)) &&& (1 : Int32)) = 0 then (zbind (f_X7_cell R3) (fun R6 => (zin y1 8 (zlet (gup R3 12 y1.toNatClampNeg R6) (fun gS_7 => (zin y1 8 (zbind (f_X7_inCell gS_7 (gS_7 12 y1.toNatClampNeg)) (fun R9 => (zin y1 8 (zlet (gup R9.2 13 y1.toNatClampNeg R9.1) (fun gS_10 => (zin y1 8 (k6 (y1 + (1 : Int32)) (y2 ||| (gS_10 13 y1.toNatClampNeg)) (y3 + (1 : Int32)) gS_10))))))))))))) else (k6 y1 y2 (y3 + (1 : Int32)) R3)) else (k6 y1 y2 (y3 + (1 : Int32)) R3))))))
def f_X7_laysCells_6   : Nat → Int32 → Int32 → Int32 → zG → Option (Int32 × zG)
  | 0 => fun _ _ _ _ => none
  | n + 1 => f_X7_laysCells_6_b   (f_X7_laysCells_6   n)
def f_X7_laysCells (gS : zG)  : Option (Int32 × zG) := (f_X7_laysCells_6   zfuel (0 : Int32) (0 : Int32) (0 : Int32) gS)
theorem u_X7_laysCells_X7 : ∀ w ∈ u_ws RX7 TX7 21, w ∈ wsX7_laysCells := fun w h => List.mem_cons_of_mem _ (List.mem_append_right _ h)
theorem k_X7_laysCells_1 : Cond.fieldLink RX7 7 "JoinedLightModel" "s" "[I" ∈ wsX7_laysCells := List.mem_of_getElem? (i := 1) rfl
theorem k_X7_laysCells_2 : Cond.fieldLink RX7 100 "JoinedLightModel" "why" "I" ∈ wsX7_laysCells := List.mem_of_getElem? (i := 2) rfl
theorem k_X7_laysCells_3 : Cond.fieldLink RX7 25 "JoinedLightModel" "cells" "[I" ∈ wsX7_laysCells := List.mem_of_getElem? (i := 3) rfl
theorem k_X7_laysCells_4 : Cond.fieldLink RX7 28 "JoinedLightModel" "sets" "[I" ∈ wsX7_laysCells := List.mem_of_getElem? (i := 4) rfl
abbrev rm_X7_laysCells : Room := { frames := 4, cells := 0, slots := 0, locals := 89 }
set_option maxHeartbeats 4000000 in
set_option maxRecDepth 100000 in
theorem c_X7_laysCells (l : Launch) (dC : Nat → ClassId) (dI : Nat → Nat → Nat) (cI cC cO : ClassId) (qS : Nat) (aS : Nat → Nat) (gS : zG)  (R : Int32 × zG) (hf : f_X7_laysCells gS = some R) : cM l (dC, dI) (zT cI cC cO) yX7_laysCells wsX7_laysCells rm_X7_laysCells [.ref qS] [(wX7 cI qS aS gS)] [(wX7 cI qS aS R.2)] (some (.int R.1)) 0 0 := by
  refine zM_in (cc := cX7_laysCells) (maxL := 4) (ret := (some .int)) (plainFor_of_name (by decide)) rfl (Nat.le_of_ble_eq_true rfl) ?_
  intro p e s m below meth c hx hb hml hr hlk hown hts hK hN A hA hP hD hS ls hl
  have hl : lv_has ls 4 [(0, .ref qS)] := hl
  have w6 : ∀ (n6 : Nat) (y1 : Int32) (y2 : Int32) (y3 : Int32) (gS : zG) (H : Heap) (locs : List Loc) (ls : Array Slot), f_X7_laysCells_6   n6 y1 y2 y3 gS = some R → va_P (dC, dI) vwCl [(wX7 cI qS aS gS)].flatten H → va_D A [(wX7 cI qS aS gS)].flatten → va_S A s.heap H locs → lv_has ls 4 [(0, .ref qS), (1, .int y1), (2, .int y2), (3, .int y3)] → W p l e (headSpec wsX7_laysCells rm_X7_laysCells).room s m [.ref qS].toArray below meth c H locs 0 0 (MQ below (zqM (dC, dI) (some (.int R.1)) [(wX7 cI qS aS R.2)] A) [.ref qS].toArray s 0 0 A) (F0 m 6 ls []) := by
    intro n6
    induction n6 with
    | zero =>
      intro y1 y2 y3 gS H locs ls hf hP hD hS hl
      have hf : (none : Option (Int32 × zG)) = some R := hf
      cases hf
    | succ n6 ih6 =>
      intro y1 y2 y3 gS H locs ls hf hP hD hS hl
      have hf : f_X7_laysCells_6_b   (f_X7_laysCells_6   n6) y1 y2 y3 gS = some R := hf
      unfold f_X7_laysCells_6_b at hf
      refine lv_iload_n hx hb dX7_laysCells_6 rfl (lv_at hl 3 rfl) ?_
      refine lv_aload_n hx hb dX7_laysCells_7 rfl (lv_at hl 0 rfl) ?_
      refine va_get (D := (dC, dI)) (ci := 7) (v := .ref (aS 0)) (C := RX7) (T := TX7) (N := 21) hx hb hts u_X7_laysCells_X7 hown hK hP 0 rfl rfl 0 (by decide) (hts _ k_X7_laysCells_1) (fun _ h9 => h9) rfl dX7_laysCells_8 ?_
      refine lv_iconst (v := (0 : Int32)) hx hb dX7_laysCells_11 (by decide) ?_
      obtain ⟨h_1, hf⟩ := zin_ex hf
      refine va_iald hx hb hK hP 1 0 rfl rfl h_1 dX7_laysCells_12 ?_
      refine lv_icmp_ge (tgt := 83) hx hb dX7_laysCells_13 (by decide) (fun c_2 => ?_) (fun c_2 => ?_)
      · have hf := zif_t hf c_2
        refine lv_iload_n hx hb dX7_laysCells_83 rfl (lv_at hl 1 rfl) ?_
        exact zM_ret (gs := [(wX7 cI qS aS gS)]) hx hb hr rfl hP hD hS (by rw [← Option.some.inj hf]; exact ⟨rfl, rfl⟩) hlk dX7_laysCells_84
      · have hf := zif_f hf c_2
        refine lv_aload_n hx hb dX7_laysCells_16 rfl (lv_at hl 0 rfl) ?_
        refine lv_iload_n hx hb dX7_laysCells_17 rfl (lv_at hl 3 rfl) ?_
        refine lv_sipush (v := (1000 : Int32)) hx hb dX7_laysCells_18 (by decide) ?_
        obtain ⟨R3, e_3, hf⟩ := zbind_ex hf
        refine z_callM (gs2 := [(wX7 cI qS aS R3)]) hP hD hS hA [0] [] rfl rfl rfl (show List.Perm [0] (List.range 1) from by decide) rfl (va_runV (As := [.int y3, .int (1000 : Int32)]) (rest := []) ⟨hx, hb, hml, hown, hts⟩ (c_X7_follows l dC dI cI cC cO qS aS gS y3 (1000 : Int32) R3 e_3 H.size) (cwV 2 hts gX7_laysCells_X7_follows rfl rfl rfl (by decide +kernel) ⟨Nat.le_of_ble_eq_true rfl, Nat.le_of_ble_eq_true rfl⟩) ⟨zpM_blind, va_recv hK hP (ci := 7) (q0 := 0) rfl rfl, z_useM hK hN hP hD [0] [] rfl (show List.Perm [0] (List.range 1) from by decide)⟩ rfl rfl hl.1 rfl (lv_room (Nat.le_of_ble_eq_true rfl)) dX7_laysCells_21 ⟨Nat.le_of_ble_eq_true rfl, Nat.le_of_ble_eq_true rfl⟩) (fun H locs hP hD hS => ?_)
        refine W.eq (g2 := F0 m 24 ls []) rfl ?_
        refine lv_aload_n hx hb dX7_laysCells_24 rfl (lv_at hl 0 rfl) ?_
        refine va_get (D := (dC, dI)) (ci := 7) (v := .int (R3 11 0)) (C := RX7) (T := TX7) (N := 21) hx hb hts u_X7_laysCells_X7 hown hK hP 0 rfl rfl 11 (by decide) (hts _ k_X7_laysCells_2) (fun _ h9 => h9) rfl dX7_laysCells_25 ?_
        refine lv_if_ne (tgt := 77) hx hb dX7_laysCells_28 (by decide) (fun c_4 => ?_) (fun c_4 => ?_)
        · have hf := zif_f hf c_4
          refine lv_iinc (v := (y3 + (1 : Int32))) (lv' := [(3, .int (y3 + (1 : Int32))), (0, .ref qS), (1, .int y1), (2, .int y2)]) hx hb dX7_laysCells_77 hl (k := 3) rfl rfl (by decide) rfl (fun ls hl => ?_)
          refine lv_goto (tgt := 6) hx hb dX7_laysCells_80 (by decide) ?_
          exact ih6 y1 y2 (y3 + (1 : Int32)) R3 H locs ls hf hP hD hS (lv_sub hl [1, 2, 3, 0] rfl)
        · have hf := zif_t hf c_4
          refine lv_iload_n hx hb dX7_laysCells_31 rfl (lv_at hl 2 rfl) ?_
          refine lv_iload_n hx hb dX7_laysCells_32 rfl (lv_at hl 3 rfl) ?_
          refine lv_ishr hx hb dX7_laysCells_33 ?_
          refine lv_iconst (v := (1 : Int32)) hx hb dX7_laysCells_34 (by decide) ?_
          refine lv_iand hx hb dX7_laysCells_35 ?_
          refine lv_if_ne (tgt := 77) hx hb dX7_laysCells_36 (by decide) (fun c_5 => ?_) (fun c_5 => ?_)
          · have hf := zif_f hf c_5
            refine lv_iinc (v := (y3 + (1 : Int32))) (lv' := [(3, .int (y3 + (1 : Int32))), (0, .ref qS), (1, .int y1), (2, .int y2)]) hx hb dX7_laysCells_77 hl (k := 3) rfl rfl (by decide) rfl (fun ls hl => ?_)
            refine lv_goto (tgt := 6) hx hb dX7_laysCells_80 (by decide) ?_
            exact ih6 y1 y2 (y3 + (1 : Int32)) R3 H locs ls hf hP hD hS (lv_sub hl [1, 2, 3, 0] rfl)
          · have hf := zif_t hf c_5
            refine lv_aload_n hx hb dX7_laysCells_39 rfl (lv_at hl 0 rfl) ?_
            refine va_get (D := (dC, dI)) (ci := 7) (v := .ref (aS 12)) (C := RX7) (T := TX7) (N := 21) hx hb hts u_X7_laysCells_X7 hown hK hP 0 rfl rfl 12 (by decide) (hts _ k_X7_laysCells_3) (fun _ h9 => h9) rfl dX7_laysCells_40 ?_
            refine lv_iload_n hx hb dX7_laysCells_43 rfl (lv_at hl 1 rfl) ?_
            refine lv_aload_n hx hb dX7_laysCells_44 rfl (lv_at hl 0 rfl) ?_
            obtain ⟨R6, e_6, hf⟩ := zbind_ex hf
            refine z_callRi (va_runV (As := []) (rest := [.int y1, .ref (aS 12)]) ⟨hx, hb, hml, hown, hts⟩ (c_X7_cell l dC dI cI cC cO qS aS R3  R6 e_6) (cwV 0 hts gX7_laysCells_X7_cell rfl rfl rfl (by decide +kernel) ⟨Nat.le_of_ble_eq_true rfl, Nat.le_of_ble_eq_true rfl⟩) ⟨zpR_blind, va_recv hK hP (ci := 7) (q0 := 0) rfl rfl, z_useR hK hN hP [0] rfl⟩ rfl rfl hl.1 rfl (lv_room (Nat.le_of_ble_eq_true rfl)) dX7_laysCells_45 ⟨Nat.le_of_ble_eq_true rfl, Nat.le_of_ble_eq_true rfl⟩) ?_
            obtain ⟨h_7, hf⟩ := zin_ex hf
            obtain ⟨gS_7, e_7, hf⟩ := zlet_ex hf
            refine z_iast (gs' := [(wX7 cI qS aS gS_7)]) hx hb hK hP hD hS 6 0 rfl rfl h_7 (by rw [e_7]; rfl) dX7_laysCells_48 (fun H locs hP hD hS => ?_)
            refine lv_aload_n hx hb dX7_laysCells_49 rfl (lv_at hl 0 rfl) ?_
            refine va_get (D := (dC, dI)) (ci := 7) (v := .ref (aS 13)) (C := RX7) (T := TX7) (N := 21) hx hb hts u_X7_laysCells_X7 hown hK hP 0 rfl rfl 13 (by decide) (hts _ k_X7_laysCells_4) (fun _ h9 => h9) rfl dX7_laysCells_50 ?_
            refine lv_iload_n hx hb dX7_laysCells_53 rfl (lv_at hl 1 rfl) ?_
            refine lv_aload_n hx hb dX7_laysCells_54 rfl (lv_at hl 0 rfl) ?_
            refine lv_aload_n hx hb dX7_laysCells_55 rfl (lv_at hl 0 rfl) ?_
            refine va_get (D := (dC, dI)) (ci := 7) (v := .ref (aS 12)) (C := RX7) (T := TX7) (N := 21) hx hb hts u_X7_laysCells_X7 hown hK hP 0 rfl rfl 12 (by decide) (hts _ k_X7_laysCells_3) (fun _ h9 => h9) rfl dX7_laysCells_56 ?_
            refine lv_iload_n hx hb dX7_laysCells_59 rfl (lv_at hl 1 rfl) ?_
            obtain ⟨h_8, hf⟩ := zin_ex hf
            refine va_iald hx hb hK hP 6 0 rfl rfl h_8 dX7_laysCells_60 ?_
            obtain ⟨R9, e_9, hf⟩ := zbind_ex hf
            refine z_callM (gs2 := [(wX7 cI qS aS R9.2)]) hP hD hS hA [0] [] rfl rfl rfl (show List.Perm [0] (List.range 1) from by decide) rfl (va_runV (As := [.int (gS_7 12 y1.toNatClampNeg)]) (rest := [.int y1, .ref (aS 13)]) ⟨hx, hb, hml, hown, hts⟩ (c_X7_inCell l dC dI cI cC cO qS aS gS_7 (gS_7 12 y1.toNatClampNeg) R9 e_9 H.size) (cwV 1 hts gX7_laysCells_X7_inCell rfl rfl rfl (by decide +kernel) ⟨Nat.le_of_ble_eq_true rfl, Nat.le_of_ble_eq_true rfl⟩) ⟨zpM_blind, va_recv hK hP (ci := 7) (q0 := 0) rfl rfl, z_useM hK hN hP hD [0] [] rfl (show List.Perm [0] (List.range 1) from by decide)⟩ rfl rfl hl.1 rfl (lv_room (Nat.le_of_ble_eq_true rfl)) dX7_laysCells_61 ⟨Nat.le_of_ble_eq_true rfl, Nat.le_of_ble_eq_true rfl⟩) (fun H locs hP hD hS => ?_)
            refine W.eq (g2 := F0 m 64 ls [.int R9.1, .int y1, .ref (aS 13)]) rfl ?_
            obtain ⟨h_10, hf⟩ := zin_ex hf
            obtain ⟨gS_10, e_10, hf⟩ := zlet_ex hf
            refine z_iast (gs' := [(wX7 cI qS aS gS_10)]) hx hb hK hP hD hS 7 0 rfl rfl h_10 (by rw [e_10]; rfl) dX7_laysCells_64 (fun H locs hP hD hS => ?_)
            refine lv_iload_n hx hb dX7_laysCells_65 rfl (lv_at hl 2 rfl) ?_
            refine lv_aload_n hx hb dX7_laysCells_66 rfl (lv_at hl 0 rfl) ?_
            refine va_get (D := (dC, dI)) (ci := 7) (v := .ref (aS 13)) (C := RX7) (T := TX7) (N := 21) hx hb hts u_X7_laysCells_X7 hown hK hP 0 rfl rfl 13 (by decide) (hts _ k_X7_laysCells_4) (fun _ h9 => h9) rfl dX7_laysCells_67 ?_
            refine lv_iload_n hx hb dX7_laysCells_70 rfl (lv_at hl 1 rfl) ?_
            obtain ⟨h_11, hf⟩ := zin_ex hf
            refine va_iald hx hb hK hP 7 0 rfl rfl h_11 dX7_laysCells_71 ?_
            refine lv_ior hx hb dX7_laysCells_72 ?_
            refine lv_istore_n (lv' := [(2, .int (y2 ||| (gS_10 13 y1.toNatClampNeg))), (0, .ref qS), (1, .int y1), (3, .int y3)]) hx hb dX7_laysCells_73 rfl hl (by decide) rfl (fun ls hl => ?_)
            refine lv_iinc (v := (y1 + (1 : Int32))) (lv' := [(1, .int (y1 + (1 : Int32))), (2, .int (y2 ||| (gS_10 13 y1.toNatClampNeg))), (0, .ref qS), (3, .int y3)]) hx hb dX7_laysCells_74 hl (k := 2) rfl rfl (by decide) rfl (fun ls hl => ?_)
            refine lv_iinc (v := (y3 + (1 : Int32))) (lv' := [(3, .int (y3 + (1 : Int32))), (1, .int (y1 + (1 : Int32))), (2, .int (y2 ||| (gS_10 13 y1.toNatClampNeg))), (0, .ref qS)]) hx hb dX7_laysCells_77 hl (k := 3) rfl rfl (by decide) rfl (fun ls hl => ?_)
            refine lv_goto (tgt := 6) hx hb dX7_laysCells_80 (by decide) ?_
            exact ih6 (y1 + (1 : Int32)) (y2 ||| (gS_10 13 y1.toNatClampNeg)) (y3 + (1 : Int32)) gS_10 H locs ls hf hP hD hS (lv_sub hl [3, 1, 2, 0] rfl)
  unfold f_X7_laysCells at hf
  obtain ⟨H, hH⟩ : ∃ H, H = s.heap := ⟨_, rfl⟩
  obtain ⟨locs, hlocs⟩ : ∃ locs : List Loc, locs = [] := ⟨_, rfl⟩
  have hS : va_S A s.heap H locs := by rw [hH, hlocs]; exact hS
  rw [← hH] at hP
  refine zheap hH hlocs ?_
  refine lv_iconst (v := (0 : Int32)) hx hb dX7_laysCells_0 (by decide) ?_
  refine lv_istore_n (lv' := [(1, .int (0 : Int32)), (0, .ref qS)]) hx hb dX7_laysCells_1 rfl hl (by decide) rfl (fun ls hl => ?_)
  refine lv_iconst (v := (0 : Int32)) hx hb dX7_laysCells_2 (by decide) ?_
  refine lv_istore_n (lv' := [(2, .int (0 : Int32)), (1, .int (0 : Int32)), (0, .ref qS)]) hx hb dX7_laysCells_3 rfl hl (by decide) rfl (fun ls hl => ?_)
  refine lv_iconst (v := (0 : Int32)) hx hb dX7_laysCells_4 (by decide) ?_
  refine lv_istore_n (lv' := [(3, .int (0 : Int32)), (2, .int (0 : Int32)), (1, .int (0 : Int32)), (0, .ref qS)]) hx hb dX7_laysCells_5 rfl hl (by decide) rfl (fun ls hl => ?_)
  exact w6 zfuel (0 : Int32) (0 : Int32) (0 : Int32) gS H locs ls hf hP hD hS (lv_sub hl [3, 2, 1, 0] rfl)

def f_X7_isBrighter (gS : zG) (x1 : Int32) (x2 : Int32) : Option (Int32) := (zin x1 8 (zbind (f_X7_lightIn gS (gS 13 x1.toNatClampNeg)) (fun R2 => (zin x2 8 (zbind (f_X7_lightIn gS (gS 13 x2.toNatClampNeg)) (fun R4 => (if 0 < (R2 - R4) then (some ((1 : Int32))) else (if (R2 - R4) = 0 then (zin x1 8 (zin x2 8 (if (gS 12 x2.toNatClampNeg) ≤ (gS 12 x1.toNatClampNeg) then (some ((0 : Int32))) else (some ((1 : Int32)))))) else (some ((0 : Int32)))))))))))
theorem u_X7_isBrighter_X7 : ∀ w ∈ u_ws RX7 TX7 21, w ∈ wsX7_isBrighter := fun w h => List.mem_cons_of_mem _ (List.mem_append_right _ h)
theorem k_X7_isBrighter_1 : Cond.fieldLink RX7 28 "JoinedLightModel" "sets" "[I" ∈ wsX7_isBrighter := List.mem_of_getElem? (i := 1) rfl
theorem k_X7_isBrighter_2 : Cond.fieldLink RX7 25 "JoinedLightModel" "cells" "[I" ∈ wsX7_isBrighter := List.mem_of_getElem? (i := 2) rfl
abbrev rm_X7_isBrighter : Room := { frames := 2, cells := 0, slots := 0, locals := 44 }
set_option maxHeartbeats 4000000 in
set_option maxRecDepth 100000 in
theorem c_X7_isBrighter (l : Launch) (dC : Nat → ClassId) (dI : Nat → Nat → Nat) (cI cC cO : ClassId) (qS : Nat) (aS : Nat → Nat) (gS : zG) (x1 : Int32) (x2 : Int32) (R : Int32) (hf : f_X7_isBrighter gS x1 x2 = some R) : cR l (dC, dI) (zT cI cC cO) yX7_isBrighter wsX7_isBrighter rm_X7_isBrighter [.ref qS, .int x1, .int x2] [(wX7 cI qS aS gS)] (some (.int R)) := by
  refine zR_in (cc := cX7_isBrighter) (maxL := 4) (ret := (some .boolean)) (plainFor_of_name (by decide)) rfl (Nat.le_of_ble_eq_true rfl) ?_
  intro p e s m below meth c hx hb hml hr hlk hown hts hK hN hP ls hl
  have hl : lv_has ls 4 [(0, .ref qS), (1, .int x1), (2, .int x2)] := hl
  unfold f_X7_isBrighter at hf
  refine lv_aload_n hx hb dX7_isBrighter_0 rfl (lv_at hl 0 rfl) ?_
  refine lv_aload_n hx hb dX7_isBrighter_1 rfl (lv_at hl 0 rfl) ?_
  refine va_get (D := (dC, dI)) (ci := 7) (v := .ref (aS 13)) (C := RX7) (T := TX7) (N := 21) hx hb hts u_X7_isBrighter_X7 hown hK hP 0 rfl rfl 13 (by decide) (hts _ k_X7_isBrighter_1) (fun _ h9 => h9) rfl dX7_isBrighter_2 ?_
  refine lv_iload_n hx hb dX7_isBrighter_5 rfl (lv_at hl 1 rfl) ?_
  obtain ⟨h_1, hf⟩ := zin_ex hf
  refine va_iald hx hb hK hP 7 0 rfl rfl h_1 dX7_isBrighter_6 ?_
  obtain ⟨R2, e_2, hf⟩ := zbind_ex hf
  refine z_callRi (va_runV (As := [.int (gS 13 x1.toNatClampNeg)]) (rest := []) ⟨hx, hb, hml, hown, hts⟩ (c_X7_lightIn l dC dI cI cC cO qS aS gS (gS 13 x1.toNatClampNeg) R2 e_2) (cwV 1 hts gX7_isBrighter_X7_lightIn rfl rfl rfl (by decide +kernel) ⟨Nat.le_of_ble_eq_true rfl, Nat.le_of_ble_eq_true rfl⟩) ⟨zpR_blind, va_recv hK hP (ci := 7) (q0 := 0) rfl rfl, z_useR hK hN hP [0] rfl⟩ rfl rfl hl.1 rfl (lv_room (Nat.le_of_ble_eq_true rfl)) dX7_isBrighter_7 ⟨Nat.le_of_ble_eq_true rfl, Nat.le_of_ble_eq_true rfl⟩) ?_
  refine lv_aload_n hx hb dX7_isBrighter_10 rfl (lv_at hl 0 rfl) ?_
  refine lv_aload_n hx hb dX7_isBrighter_11 rfl (lv_at hl 0 rfl) ?_
  refine va_get (D := (dC, dI)) (ci := 7) (v := .ref (aS 13)) (C := RX7) (T := TX7) (N := 21) hx hb hts u_X7_isBrighter_X7 hown hK hP 0 rfl rfl 13 (by decide) (hts _ k_X7_isBrighter_1) (fun _ h9 => h9) rfl dX7_isBrighter_12 ?_
  refine lv_iload_n hx hb dX7_isBrighter_15 rfl (lv_at hl 2 rfl) ?_
  obtain ⟨h_3, hf⟩ := zin_ex hf
  refine va_iald hx hb hK hP 7 0 rfl rfl h_3 dX7_isBrighter_16 ?_
  obtain ⟨R4, e_4, hf⟩ := zbind_ex hf
  refine z_callRi (va_runV (As := [.int (gS 13 x2.toNatClampNeg)]) (rest := [.int R2]) ⟨hx, hb, hml, hown, hts⟩ (c_X7_lightIn l dC dI cI cC cO qS aS gS (gS 13 x2.toNatClampNeg) R4 e_4) (cwV 1 hts gX7_isBrighter_X7_lightIn rfl rfl rfl (by decide +kernel) ⟨Nat.le_of_ble_eq_true rfl, Nat.le_of_ble_eq_true rfl⟩) ⟨zpR_blind, va_recv hK hP (ci := 7) (q0 := 0) rfl rfl, z_useR hK hN hP [0] rfl⟩ rfl rfl hl.1 rfl (lv_room (Nat.le_of_ble_eq_true rfl)) dX7_isBrighter_17 ⟨Nat.le_of_ble_eq_true rfl, Nat.le_of_ble_eq_true rfl⟩) ?_
  refine lv_isub hx hb dX7_isBrighter_20 ?_
  refine lv_istore_n (lv' := [(3, .int (R2 - R4)), (0, .ref qS), (1, .int x1), (2, .int x2)]) hx hb dX7_isBrighter_21 rfl hl (by decide) rfl (fun ls hl => ?_)
  refine lv_iload_n hx hb dX7_isBrighter_22 rfl (lv_at hl 0 rfl) ?_
  refine lv_if_gt (tgt := 45) hx hb dX7_isBrighter_23 (by decide) (fun c_5 => ?_) (fun c_5 => ?_)
  · have hf := zif_t hf c_5
    refine lv_iconst (v := (1 : Int32)) hx hb dX7_isBrighter_45 (by decide) ?_
    refine lv_goto (tgt := 50) hx hb dX7_isBrighter_46 (by decide) ?_
    exact zR_ret hx hb hr rfl hf hlk dX7_isBrighter_50
  · have hf := zif_f hf c_5
    refine lv_iload_n hx hb dX7_isBrighter_26 rfl (lv_at hl 0 rfl) ?_
    refine lv_if_ne (tgt := 49) hx hb dX7_isBrighter_27 (by decide) (fun c_6 => ?_) (fun c_6 => ?_)
    · have hf := zif_f hf c_6
      refine lv_iconst (v := (0 : Int32)) hx hb dX7_isBrighter_49 (by decide) ?_
      exact zR_ret hx hb hr rfl hf hlk dX7_isBrighter_50
    · have hf := zif_t hf c_6
      refine lv_aload_n hx hb dX7_isBrighter_30 rfl (lv_at hl 1 rfl) ?_
      refine va_get (D := (dC, dI)) (ci := 7) (v := .ref (aS 12)) (C := RX7) (T := TX7) (N := 21) hx hb hts u_X7_isBrighter_X7 hown hK hP 0 rfl rfl 12 (by decide) (hts _ k_X7_isBrighter_2) (fun _ h9 => h9) rfl dX7_isBrighter_31 ?_
      refine lv_iload_n hx hb dX7_isBrighter_34 rfl (lv_at hl 2 rfl) ?_
      obtain ⟨h_7, hf⟩ := zin_ex hf
      refine va_iald hx hb hK hP 6 0 rfl rfl h_7 dX7_isBrighter_35 ?_
      refine lv_aload_n hx hb dX7_isBrighter_36 rfl (lv_at hl 1 rfl) ?_
      refine va_get (D := (dC, dI)) (ci := 7) (v := .ref (aS 12)) (C := RX7) (T := TX7) (N := 21) hx hb hts u_X7_isBrighter_X7 hown hK hP 0 rfl rfl 12 (by decide) (hts _ k_X7_isBrighter_2) (fun _ h9 => h9) rfl dX7_isBrighter_37 ?_
      refine lv_iload_n hx hb dX7_isBrighter_40 rfl (lv_at hl 3 rfl) ?_
      obtain ⟨h_8, hf⟩ := zin_ex hf
      refine va_iald hx hb hK hP 6 0 rfl rfl h_8 dX7_isBrighter_41 ?_
      refine lv_icmp_ge (tgt := 49) hx hb dX7_isBrighter_42 (by decide) (fun c_9 => ?_) (fun c_9 => ?_)
      · have hf := zif_t hf c_9
        refine lv_iconst (v := (0 : Int32)) hx hb dX7_isBrighter_49 (by decide) ?_
        exact zR_ret hx hb hr rfl hf hlk dX7_isBrighter_50
      · have hf := zif_f hf c_9
        refine lv_iconst (v := (1 : Int32)) hx hb dX7_isBrighter_45 (by decide) ?_
        refine lv_goto (tgt := 50) hx hb dX7_isBrighter_46 (by decide) ?_
        exact zR_ret hx hb hr rfl hf hlk dX7_isBrighter_50

def f_X7_bright_36_b  (k24 : Int32 → Int32 → Int32 → Int32 → zG → Option (Int32 × zG)) (k36 : Int32 → Int32 → Int32 → Int32 → Int32 → Int32 → zG → Option (Int32 × zG)) (y1 : Int32) (y2 : Int32) (y3 : Int32) (y4 : Int32) (y5 : Int32) (y6 : Int32) (gS : zG) : Option (Int32 × zG) := (if y3 ≤ y6 then (if y5 = y1 then (if y2 = 0 then (zin y4 8 (some ((gS 12 y4.toNatClampNeg), gS))) else (if y2 = (1 : Int32) then (zin y4 8 (zbind (f_X7_lightIn gS (gS 13 y4.toNatClampNeg)) (fun R12 => (some (R12, gS))))) else (zin y4 8 (some ((gS 13 y4.toNatClampNeg), gS))))) else (k24 y1 y2 y3 (y4 + (1 : Int32)) gS)) else (zbind (f_X7_isBrighter gS y6 y4) (fun R14 => (if R14 = 0 then (k36 y1 y2 y3 y4 (y5 + (0 : Int32)) (y6 + (1 : Int32)) gS) else (k36 y1 y2 y3 y4 (y5 + (1 : Int32)) (y6 + (1 : Int32)) gS)))))
def f_X7_bright_36  (k24 : Int32 → Int32 → Int32 → Int32 → zG → Option (Int32 × zG)) : Nat → Int32 → Int32 → Int32 → Int32 → Int32 → Int32 → zG → Option (Int32 × zG)
  | 0 => fun _ _ _ _ _ _ _ => none
  | n + 1 => f_X7_bright_36_b  k24 (f_X7_bright_36  k24 n)
def f_X7_bright_24_b   (k24 : Int32 → Int32 → Int32 → Int32 → zG → Option (Int32 × zG)) (y1 : Int32) (y2 : Int32) (y3 : Int32) (y4 : Int32) (gS : zG) : Option (Int32 × zG) := (if y3 ≤ y4 then (some ((-1000000004 : Int32), gS)) else (f_X7_bright_36  k24 zfuel y1 y2 y3 y4 (0 : Int32) (0 : Int32) gS))
def f_X7_bright_24   : Nat → Int32 → Int32 → Int32 → Int32 → zG → Option (Int32 × zG)
  | 0 => fun _ _ _ _ _ => none
  | n + 1 => f_X7_bright_24_b   (f_X7_bright_24   n)
def f_X7_bright (gS : zG) (x1 : Int32) (x2 : Int32) : Option (Int32 × zG) := (if x1 < 0 then (some ((-1000000001 : Int32), gS)) else (zbind (f_X7_in x2 (0 : Int32) (2 : Int32)) (fun R2 => (if R2 = 0 then (some ((-1000000001 : Int32), gS)) else (zbind (f_X7_laysCells gS) (fun R4 => (f_X7_bright_24   zfuel x1 x2 R4.1 (0 : Int32) R4.2)))))))
theorem u_X7_bright_X7 : ∀ w ∈ u_ws RX7 TX7 21, w ∈ wsX7_bright := fun w h => List.mem_cons_of_mem _ (List.mem_append_right _ h)
theorem k_X7_bright_1 : Cond.constant RX7 51 (-1000000001) ∈ wsX7_bright := List.mem_of_getElem? (i := 1) rfl
theorem k_X7_bright_4 : Cond.constant RX7 46 (-1000000004) ∈ wsX7_bright := List.mem_of_getElem? (i := 4) rfl
theorem k_X7_bright_3 : Cond.fieldLink RX7 28 "JoinedLightModel" "sets" "[I" ∈ wsX7_bright := List.mem_of_getElem? (i := 3) rfl
theorem k_X7_bright_2 : Cond.fieldLink RX7 25 "JoinedLightModel" "cells" "[I" ∈ wsX7_bright := List.mem_of_getElem? (i := 2) rfl
abbrev rm_X7_bright : Room := { frames := 5, cells := 0, slots := 0, locals := 112 }
set_option maxHeartbeats 4000000 in
set_option maxRecDepth 100000 in
theorem c_X7_bright (l : Launch) (dC : Nat → ClassId) (dI : Nat → Nat → Nat) (cI cC cO : ClassId) (qS : Nat) (aS : Nat → Nat) (gS : zG) (x1 : Int32) (x2 : Int32) (R : Int32 × zG) (hf : f_X7_bright gS x1 x2 = some R) : cM l (dC, dI) (zT cI cC cO) yX7_bright wsX7_bright rm_X7_bright [.ref qS, .int x1, .int x2] [(wX7 cI qS aS gS)] [(wX7 cI qS aS R.2)] (some (.int R.1)) 0 0 := by
  refine zM_in (cc := cX7_bright) (maxL := 7) (ret := (some .int)) (plainFor_of_name (by decide)) rfl (Nat.le_of_ble_eq_true rfl) ?_
  intro p e s m below meth c hx hb hml hr hlk hown hts hK hN A hA hP hD hS ls hl
  have hl : lv_has ls 7 [(0, .ref qS), (1, .int x1), (2, .int x2)] := hl
  have w24 : ∀ (n24 : Nat) (y1 : Int32) (y2 : Int32) (y3 : Int32) (y4 : Int32) (gS : zG) (H : Heap) (locs : List Loc) (ls : Array Slot), f_X7_bright_24   n24 y1 y2 y3 y4 gS = some R → va_P (dC, dI) vwCl [(wX7 cI qS aS gS)].flatten H → va_D A [(wX7 cI qS aS gS)].flatten → va_S A s.heap H locs → lv_has ls 7 [(0, .ref qS), (1, .int y1), (2, .int y2), (3, .int y3), (4, .int y4)] → W p l e (headSpec wsX7_bright rm_X7_bright).room s m [.ref qS, .int x1, .int x2].toArray below meth c H locs 0 0 (MQ below (zqM (dC, dI) (some (.int R.1)) [(wX7 cI qS aS R.2)] A) [.ref qS, .int x1, .int x2].toArray s 0 0 A) (F0 m 24 ls []) := by
    intro n24
    induction n24 with
    | zero =>
      intro y1 y2 y3 y4 gS H locs ls hf hP hD hS hl
      have hf : (none : Option (Int32 × zG)) = some R := hf
      cases hf
    | succ n24 ih24 =>
      have w36 : ∀ (n36 : Nat) (y1 : Int32) (y2 : Int32) (y3 : Int32) (y4 : Int32) (y5 : Int32) (y6 : Int32) (gS : zG) (H : Heap) (locs : List Loc) (ls : Array Slot), f_X7_bright_36  (f_X7_bright_24   n24) n36 y1 y2 y3 y4 y5 y6 gS = some R → va_P (dC, dI) vwCl [(wX7 cI qS aS gS)].flatten H → va_D A [(wX7 cI qS aS gS)].flatten → va_S A s.heap H locs → lv_has ls 7 [(0, .ref qS), (1, .int y1), (2, .int y2), (3, .int y3), (4, .int y4), (5, .int y5), (6, .int y6)] → W p l e (headSpec wsX7_bright rm_X7_bright).room s m [.ref qS, .int x1, .int x2].toArray below meth c H locs 0 0 (MQ below (zqM (dC, dI) (some (.int R.1)) [(wX7 cI qS aS R.2)] A) [.ref qS, .int x1, .int x2].toArray s 0 0 A) (F0 m 36 ls []) := by
        intro n36
        induction n36 with
        | zero =>
          intro y1 y2 y3 y4 y5 y6 gS H locs ls hf hP hD hS hl
          have hf : (none : Option (Int32 × zG)) = some R := hf
          cases hf
        | succ n36 ih36 =>
          intro y1 y2 y3 y4 y5 y6 gS H locs ls hf hP hD hS hl
          have hf : f_X7_bright_36_b  (f_X7_bright_24   n24) (f_X7_bright_36  (f_X7_bright_24   n24) n36) y1 y2 y3 y4 y5 y6 gS = some R := hf
          unfold f_X7_bright_36_b at hf
          refine lv_iload hx hb dX7_bright_36 (lv_at hl 6 rfl) ?_
          refine lv_iload_n hx hb dX7_bright_38 rfl (lv_at hl 3 rfl) ?_
          refine lv_icmp_ge (tgt := 69) hx hb dX7_bright_39 (by decide) (fun c_6 => ?_) (fun c_6 => ?_)
          · have hf := zif_t hf c_6
            refine lv_iload hx hb dX7_bright_69 (lv_at hl 5 rfl) ?_
            refine lv_iload_n hx hb dX7_bright_71 rfl (lv_at hl 1 rfl) ?_
            refine lv_icmp_ne (tgt := 116) hx hb dX7_bright_72 (by decide) (fun c_7 => ?_) (fun c_7 => ?_)
            · have hf := zif_f hf c_7
              refine lv_iinc (v := (y4 + (1 : Int32))) (lv' := [(4, .int (y4 + (1 : Int32))), (0, .ref qS), (1, .int y1), (2, .int y2), (3, .int y3), (5, .int y5), (6, .int y6)]) hx hb dX7_bright_116 hl (k := 4) rfl rfl (by decide) rfl (fun ls hl => ?_)
              refine lv_goto (tgt := 24) hx hb dX7_bright_119 (by decide) ?_
              exact ih24 y1 y2 y3 (y4 + (1 : Int32)) gS H locs ls hf hP hD hS (lv_sub hl [1, 2, 3, 4, 0] rfl)
            · have hf := zif_t hf c_7
              refine lv_iload_n hx hb dX7_bright_75 rfl (lv_at hl 2 rfl) ?_
              refine lv_if_ne (tgt := 89) hx hb dX7_bright_76 (by decide) (fun c_8 => ?_) (fun c_8 => ?_)
              · have hf := zif_f hf c_8
                refine lv_iload_n hx hb dX7_bright_89 rfl (lv_at hl 2 rfl) ?_
                refine lv_iconst (v := (1 : Int32)) hx hb dX7_bright_90 (by decide) ?_
                refine lv_icmp_ne (tgt := 108) hx hb dX7_bright_91 (by decide) (fun c_9 => ?_) (fun c_9 => ?_)
                · have hf := zif_f hf c_9
                  refine lv_aload_n hx hb dX7_bright_108 rfl (lv_at hl 0 rfl) ?_
                  refine va_get (D := (dC, dI)) (ci := 7) (v := .ref (aS 13)) (C := RX7) (T := TX7) (N := 21) hx hb hts u_X7_bright_X7 hown hK hP 0 rfl rfl 13 (by decide) (hts _ k_X7_bright_3) (fun _ h9 => h9) rfl dX7_bright_109 ?_
                  refine lv_iload hx hb dX7_bright_112 (lv_at hl 4 rfl) ?_
                  obtain ⟨h_10, hf⟩ := zin_ex hf
                  refine va_iald hx hb hK hP 7 0 rfl rfl h_10 dX7_bright_114 ?_
                  exact zM_ret (gs := [(wX7 cI qS aS gS)]) hx hb hr rfl hP hD hS (by rw [← Option.some.inj hf]; exact ⟨rfl, rfl⟩) hlk dX7_bright_115
                · have hf := zif_t hf c_9
                  refine lv_aload_n hx hb dX7_bright_94 rfl (lv_at hl 0 rfl) ?_
                  refine lv_aload_n hx hb dX7_bright_95 rfl (lv_at hl 0 rfl) ?_
                  refine va_get (D := (dC, dI)) (ci := 7) (v := .ref (aS 13)) (C := RX7) (T := TX7) (N := 21) hx hb hts u_X7_bright_X7 hown hK hP 0 rfl rfl 13 (by decide) (hts _ k_X7_bright_3) (fun _ h9 => h9) rfl dX7_bright_96 ?_
                  refine lv_iload hx hb dX7_bright_99 (lv_at hl 4 rfl) ?_
                  obtain ⟨h_11, hf⟩ := zin_ex hf
                  refine va_iald hx hb hK hP 7 0 rfl rfl h_11 dX7_bright_101 ?_
                  obtain ⟨R12, e_12, hf⟩ := zbind_ex hf
                  refine z_callRi (va_runV (As := [.int (gS 13 y4.toNatClampNeg)]) (rest := []) ⟨hx, hb, hml, hown, hts⟩ (c_X7_lightIn l dC dI cI cC cO qS aS gS (gS 13 y4.toNatClampNeg) R12 e_12) (cwV 1 hts gX7_bright_X7_lightIn rfl rfl rfl (by decide +kernel) ⟨Nat.le_of_ble_eq_true rfl, Nat.le_of_ble_eq_true rfl⟩) ⟨zpR_blind, va_recv hK hP (ci := 7) (q0 := 0) rfl rfl, z_useR hK hN hP [0] rfl⟩ rfl rfl hl.1 rfl (lv_room (Nat.le_of_ble_eq_true rfl)) dX7_bright_102 ⟨Nat.le_of_ble_eq_true rfl, Nat.le_of_ble_eq_true rfl⟩) ?_
                  refine lv_goto (tgt := 115) hx hb dX7_bright_105 (by decide) ?_
                  exact zM_ret (gs := [(wX7 cI qS aS gS)]) hx hb hr rfl hP hD hS (by rw [← Option.some.inj hf]; exact ⟨rfl, rfl⟩) hlk dX7_bright_115
              · have hf := zif_t hf c_8
                refine lv_aload_n hx hb dX7_bright_79 rfl (lv_at hl 0 rfl) ?_
                refine va_get (D := (dC, dI)) (ci := 7) (v := .ref (aS 12)) (C := RX7) (T := TX7) (N := 21) hx hb hts u_X7_bright_X7 hown hK hP 0 rfl rfl 12 (by decide) (hts _ k_X7_bright_2) (fun _ h9 => h9) rfl dX7_bright_80 ?_
                refine lv_iload hx hb dX7_bright_83 (lv_at hl 4 rfl) ?_
                obtain ⟨h_13, hf⟩ := zin_ex hf
                refine va_iald hx hb hK hP 6 0 rfl rfl h_13 dX7_bright_85 ?_
                refine lv_goto (tgt := 115) hx hb dX7_bright_86 (by decide) ?_
                exact zM_ret (gs := [(wX7 cI qS aS gS)]) hx hb hr rfl hP hD hS (by rw [← Option.some.inj hf]; exact ⟨rfl, rfl⟩) hlk dX7_bright_115
          · have hf := zif_f hf c_6
            refine lv_iload hx hb dX7_bright_42 (lv_at hl 5 rfl) ?_
            refine lv_aload_n hx hb dX7_bright_44 rfl (lv_at hl 0 rfl) ?_
            refine lv_iload hx hb dX7_bright_45 (lv_at hl 6 rfl) ?_
            refine lv_iload hx hb dX7_bright_47 (lv_at hl 4 rfl) ?_
            obtain ⟨R14, e_14, hf⟩ := zbind_ex hf
            refine z_callRi (va_runV (As := [.int y6, .int y4]) (rest := [.int y5]) ⟨hx, hb, hml, hown, hts⟩ (c_X7_isBrighter l dC dI cI cC cO qS aS gS y6 y4 R14 e_14) (cwV 2 hts gX7_bright_X7_isBrighter rfl rfl rfl (by decide +kernel) ⟨Nat.le_of_ble_eq_true rfl, Nat.le_of_ble_eq_true rfl⟩) ⟨zpR_blind, va_recv hK hP (ci := 7) (q0 := 0) rfl rfl, z_useR hK hN hP [0] rfl⟩ rfl rfl hl.1 rfl (lv_room (Nat.le_of_ble_eq_true rfl)) dX7_bright_49 ⟨Nat.le_of_ble_eq_true rfl, Nat.le_of_ble_eq_true rfl⟩) ?_
            refine lv_if_eq (tgt := 59) hx hb dX7_bright_52 (by decide) (fun c_15 => ?_) (fun c_15 => ?_)
            · have hf := zif_t hf c_15
              refine lv_iconst (v := (0 : Int32)) hx hb dX7_bright_59 (by decide) ?_
              refine lv_iadd hx hb dX7_bright_60 ?_
              refine lv_istore (lv' := [(5, .int (y5 + (0 : Int32))), (0, .ref qS), (1, .int y1), (2, .int y2), (3, .int y3), (4, .int y4), (6, .int y6)]) hx hb dX7_bright_61 hl (by decide) rfl (fun ls hl => ?_)
              refine lv_iinc (v := (y6 + (1 : Int32))) (lv' := [(6, .int (y6 + (1 : Int32))), (5, .int (y5 + (0 : Int32))), (0, .ref qS), (1, .int y1), (2, .int y2), (3, .int y3), (4, .int y4)]) hx hb dX7_bright_63 hl (k := 6) rfl rfl (by decide) rfl (fun ls hl => ?_)
              refine lv_goto (tgt := 36) hx hb dX7_bright_66 (by decide) ?_
              exact ih36 y1 y2 y3 y4 (y5 + (0 : Int32)) (y6 + (1 : Int32)) gS H locs ls hf hP hD hS (lv_sub hl [2, 3, 4, 5, 6, 1, 0] rfl)
            · have hf := zif_f hf c_15
              refine lv_iconst (v := (1 : Int32)) hx hb dX7_bright_55 (by decide) ?_
              refine lv_goto (tgt := 60) hx hb dX7_bright_56 (by decide) ?_
              refine lv_iadd hx hb dX7_bright_60 ?_
              refine lv_istore (lv' := [(5, .int (y5 + (1 : Int32))), (0, .ref qS), (1, .int y1), (2, .int y2), (3, .int y3), (4, .int y4), (6, .int y6)]) hx hb dX7_bright_61 hl (by decide) rfl (fun ls hl => ?_)
              refine lv_iinc (v := (y6 + (1 : Int32))) (lv' := [(6, .int (y6 + (1 : Int32))), (5, .int (y5 + (1 : Int32))), (0, .ref qS), (1, .int y1), (2, .int y2), (3, .int y3), (4, .int y4)]) hx hb dX7_bright_63 hl (k := 6) rfl rfl (by decide) rfl (fun ls hl => ?_)
              refine lv_goto (tgt := 36) hx hb dX7_bright_66 (by decide) ?_
              exact ih36 y1 y2 y3 y4 (y5 + (1 : Int32)) (y6 + (1 : Int32)) gS H locs ls hf hP hD hS (lv_sub hl [2, 3, 4, 5, 6, 1, 0] rfl)
      intro y1 y2 y3 y4 gS H locs ls hf hP hD hS hl
      have hf : f_X7_bright_24_b   (f_X7_bright_24   n24) y1 y2 y3 y4 gS = some R := hf
      unfold f_X7_bright_24_b at hf
      refine lv_iload hx hb dX7_bright_24 (lv_at hl 4 rfl) ?_
      refine lv_iload_n hx hb dX7_bright_26 rfl (lv_at hl 3 rfl) ?_
      refine lv_icmp_ge (tgt := 122) hx hb dX7_bright_27 (by decide) (fun c_5 => ?_) (fun c_5 => ?_)
      · have hf := zif_t hf c_5
        refine lv_ldc (v := (-1000000004 : Int32)) hx hb hown (hts _ k_X7_bright_4) dX7_bright_122 ?_
        exact zM_ret (gs := [(wX7 cI qS aS gS)]) hx hb hr rfl hP hD hS (by rw [← Option.some.inj hf]; exact ⟨rfl, rfl⟩) hlk dX7_bright_124
      · have hf := zif_f hf c_5
        refine lv_iconst (v := (0 : Int32)) hx hb dX7_bright_30 (by decide) ?_
        refine lv_istore (lv' := [(5, .int (0 : Int32)), (0, .ref qS), (1, .int y1), (2, .int y2), (3, .int y3), (4, .int y4)]) hx hb dX7_bright_31 hl (by decide) rfl (fun ls hl => ?_)
        refine lv_iconst (v := (0 : Int32)) hx hb dX7_bright_33 (by decide) ?_
        refine lv_istore (lv' := [(6, .int (0 : Int32)), (5, .int (0 : Int32)), (0, .ref qS), (1, .int y1), (2, .int y2), (3, .int y3), (4, .int y4)]) hx hb dX7_bright_34 hl (by decide) rfl (fun ls hl => ?_)
        exact w36 zfuel y1 y2 y3 y4 (0 : Int32) (0 : Int32) gS H locs ls hf hP hD hS (lv_sub hl [2, 3, 4, 5, 6, 1, 0] rfl)
  unfold f_X7_bright at hf
  obtain ⟨H, hH⟩ : ∃ H, H = s.heap := ⟨_, rfl⟩
  obtain ⟨locs, hlocs⟩ : ∃ locs : List Loc, locs = [] := ⟨_, rfl⟩
  have hS : va_S A s.heap H locs := by rw [hH, hlocs]; exact hS
  rw [← hH] at hP
  refine zheap hH hlocs ?_
  refine lv_iload_n hx hb dX7_bright_0 rfl (lv_at hl 1 rfl) ?_
  refine lv_if_lt (tgt := 13) hx hb dX7_bright_1 (by decide) (fun c_1 => ?_) (fun c_1 => ?_)
  · have hf := zif_t hf c_1
    refine lv_ldc (v := (-1000000001 : Int32)) hx hb hown (hts _ k_X7_bright_1) dX7_bright_13 ?_
    exact zM_ret (gs := [(wX7 cI qS aS gS)]) hx hb hr rfl hP hD hS (by rw [← Option.some.inj hf]; exact ⟨rfl, rfl⟩) hlk dX7_bright_15
  · have hf := zif_f hf c_1
    refine lv_iload_n hx hb dX7_bright_4 rfl (lv_at hl 2 rfl) ?_
    refine lv_iconst (v := (0 : Int32)) hx hb dX7_bright_5 (by decide) ?_
    refine lv_iconst (v := (2 : Int32)) hx hb dX7_bright_6 (by decide) ?_
    obtain ⟨R2, e_2, hf⟩ := zbind_ex hf
    refine z_callRi (va_runS (As := [.int x2, .int (0 : Int32), .int (2 : Int32)]) (rest := []) ⟨hx, hb, hml, hown, hts⟩ (c_X7_in l dC dI cI cC cO  x2 (0 : Int32) (2 : Int32) R2 e_2) (va_cwS 3 hts gX7_bright_X7_in rfl rfl rfl (by decide +kernel) ⟨Nat.le_of_ble_eq_true rfl, Nat.le_of_ble_eq_true rfl⟩) ⟨zpR_blind, z_useR hK hN hP [] rfl⟩ rfl rfl hl.1 rfl (lv_room (Nat.le_of_ble_eq_true rfl)) dX7_bright_7 ⟨Nat.le_of_ble_eq_true rfl, Nat.le_of_ble_eq_true rfl⟩) ?_
    refine lv_if_ne (tgt := 16) hx hb dX7_bright_10 (by decide) (fun c_3 => ?_) (fun c_3 => ?_)
    · have hf := zif_f hf c_3
      refine lv_aload_n hx hb dX7_bright_16 rfl (lv_at hl 0 rfl) ?_
      obtain ⟨R4, e_4, hf⟩ := zbind_ex hf
      refine z_callM (gs2 := [(wX7 cI qS aS R4.2)]) hP hD hS hA [0] [] rfl rfl rfl (show List.Perm [0] (List.range 1) from by decide) rfl (va_runV (As := []) (rest := []) ⟨hx, hb, hml, hown, hts⟩ (c_X7_laysCells l dC dI cI cC cO qS aS gS  R4 e_4 H.size) (cwV 0 hts gX7_bright_X7_laysCells rfl rfl rfl (by decide +kernel) ⟨Nat.le_of_ble_eq_true rfl, Nat.le_of_ble_eq_true rfl⟩) ⟨zpM_blind, va_recv hK hP (ci := 7) (q0 := 0) rfl rfl, z_useM hK hN hP hD [0] [] rfl (show List.Perm [0] (List.range 1) from by decide)⟩ rfl rfl hl.1 rfl (lv_room (Nat.le_of_ble_eq_true rfl)) dX7_bright_17 ⟨Nat.le_of_ble_eq_true rfl, Nat.le_of_ble_eq_true rfl⟩) (fun H locs hP hD hS => ?_)
      refine W.eq (g2 := F0 m 20 ls [.int R4.1]) rfl ?_
      refine lv_istore_n (lv' := [(3, .int R4.1), (0, .ref qS), (1, .int x1), (2, .int x2)]) hx hb dX7_bright_20 rfl hl (by decide) rfl (fun ls hl => ?_)
      refine lv_iconst (v := (0 : Int32)) hx hb dX7_bright_21 (by decide) ?_
      refine lv_istore (lv' := [(4, .int (0 : Int32)), (3, .int R4.1), (0, .ref qS), (1, .int x1), (2, .int x2)]) hx hb dX7_bright_22 hl (by decide) rfl (fun ls hl => ?_)
      exact w24 zfuel x1 x2 R4.1 (0 : Int32) R4.2 H locs ls hf hP hD hS (lv_sub hl [2, 3, 4, 1, 0] rfl)
    · have hf := zif_t hf c_3
      refine lv_ldc (v := (-1000000001 : Int32)) hx hb hown (hts _ k_X7_bright_1) dX7_bright_13 ?_
      exact zM_ret (gs := [(wX7 cI qS aS gS)]) hx hb hr rfl hP hD hS (by rw [← Option.some.inj hf]; exact ⟨rfl, rfl⟩) hlk dX7_bright_15

def f_X7_bending (gS : zG) (x1 : Int32) (x2 : Int32) : Option (Int32) := (zbind (f_X7_in x1 (0 : Int32) (1 : Int32)) (fun R1 => (if R1 = 0 then (some ((-1000000001 : Int32))) else (zbind (f_X7_in x2 (380 : Int32) (780 : Int32)) (fun R3 => (if R3 = 0 then (some ((-1000000001 : Int32))) else (zbind (f_X7_bends x1 x2) (fun R5 => (some (R5))))))))))
theorem k_X7_bending_1 : Cond.constant RX7 51 (-1000000001) ∈ wsX7_bending := List.mem_of_getElem? (i := 1) rfl
abbrev rm_X7_bending : Room := { frames := 1, cells := 0, slots := 0, locals := 22 }
set_option maxHeartbeats 4000000 in
set_option maxRecDepth 100000 in
theorem c_X7_bending (l : Launch) (dC : Nat → ClassId) (dI : Nat → Nat → Nat) (cI cC cO : ClassId) (qS : Nat) (aS : Nat → Nat) (gS : zG) (x1 : Int32) (x2 : Int32) (R : Int32) (hf : f_X7_bending gS x1 x2 = some R) : cR l (dC, dI) (zT cI cC cO) yX7_bending wsX7_bending rm_X7_bending [.ref qS, .int x1, .int x2] [(wX7 cI qS aS gS)] (some (.int R)) := by
  refine zR_in (cc := cX7_bending) (maxL := 3) (ret := (some .int)) (plainFor_of_name (by decide)) rfl (Nat.le_of_ble_eq_true rfl) ?_
  intro p e s m below meth c hx hb hml hr hlk hown hts hK hN hP ls hl
  have hl : lv_has ls 3 [(0, .ref qS), (1, .int x1), (2, .int x2)] := hl
  unfold f_X7_bending at hf
  refine lv_iload_n hx hb dX7_bending_0 rfl (lv_at hl 1 rfl) ?_
  refine lv_iconst (v := (0 : Int32)) hx hb dX7_bending_1 (by decide) ?_
  refine lv_iconst (v := (1 : Int32)) hx hb dX7_bending_2 (by decide) ?_
  obtain ⟨R1, e_1, hf⟩ := zbind_ex hf
  refine z_callRi (va_runS (As := [.int x1, .int (0 : Int32), .int (1 : Int32)]) (rest := []) ⟨hx, hb, hml, hown, hts⟩ (c_X7_in l dC dI cI cC cO  x1 (0 : Int32) (1 : Int32) R1 e_1) (va_cwS 3 hts gX7_bending_X7_in rfl rfl rfl (by decide +kernel) ⟨Nat.le_of_ble_eq_true rfl, Nat.le_of_ble_eq_true rfl⟩) ⟨zpR_blind, z_useR hK hN hP [] rfl⟩ rfl rfl hl.1 rfl (lv_room (Nat.le_of_ble_eq_true rfl)) dX7_bending_3 ⟨Nat.le_of_ble_eq_true rfl, Nat.le_of_ble_eq_true rfl⟩) ?_
  refine lv_if_eq (tgt := 30) hx hb dX7_bending_6 (by decide) (fun c_2 => ?_) (fun c_2 => ?_)
  · have hf := zif_t hf c_2
    refine lv_ldc (v := (-1000000001 : Int32)) hx hb hown (hts _ k_X7_bending_1) dX7_bending_30 ?_
    exact zR_ret hx hb hr rfl hf hlk dX7_bending_32
  · have hf := zif_f hf c_2
    refine lv_iload_n hx hb dX7_bending_9 rfl (lv_at hl 2 rfl) ?_
    refine lv_sipush (v := (380 : Int32)) hx hb dX7_bending_10 (by decide) ?_
    refine lv_sipush (v := (780 : Int32)) hx hb dX7_bending_13 (by decide) ?_
    obtain ⟨R3, e_3, hf⟩ := zbind_ex hf
    refine z_callRi (va_runS (As := [.int x2, .int (380 : Int32), .int (780 : Int32)]) (rest := []) ⟨hx, hb, hml, hown, hts⟩ (c_X7_in l dC dI cI cC cO  x2 (380 : Int32) (780 : Int32) R3 e_3) (va_cwS 3 hts gX7_bending_X7_in rfl rfl rfl (by decide +kernel) ⟨Nat.le_of_ble_eq_true rfl, Nat.le_of_ble_eq_true rfl⟩) ⟨zpR_blind, z_useR hK hN hP [] rfl⟩ rfl rfl hl.1 rfl (lv_room (Nat.le_of_ble_eq_true rfl)) dX7_bending_16 ⟨Nat.le_of_ble_eq_true rfl, Nat.le_of_ble_eq_true rfl⟩) ?_
    refine lv_if_eq (tgt := 30) hx hb dX7_bending_19 (by decide) (fun c_4 => ?_) (fun c_4 => ?_)
    · have hf := zif_t hf c_4
      refine lv_ldc (v := (-1000000001 : Int32)) hx hb hown (hts _ k_X7_bending_1) dX7_bending_30 ?_
      exact zR_ret hx hb hr rfl hf hlk dX7_bending_32
    · have hf := zif_f hf c_4
      refine lv_iload_n hx hb dX7_bending_22 rfl (lv_at hl 1 rfl) ?_
      refine lv_iload_n hx hb dX7_bending_23 rfl (lv_at hl 2 rfl) ?_
      obtain ⟨R5, e_5, hf⟩ := zbind_ex hf
      refine z_callRi (va_runS (As := [.int x1, .int x2]) (rest := []) ⟨hx, hb, hml, hown, hts⟩ (c_X7_bends l dC dI cI cC cO  x1 x2 R5 e_5) (va_cwS 2 hts gX7_bending_X7_bends rfl rfl rfl (by decide +kernel) ⟨Nat.le_of_ble_eq_true rfl, Nat.le_of_ble_eq_true rfl⟩) ⟨zpR_blind, z_useR hK hN hP [] rfl⟩ rfl rfl hl.1 rfl (lv_room (Nat.le_of_ble_eq_true rfl)) dX7_bending_24 ⟨Nat.le_of_ble_eq_true rfl, Nat.le_of_ble_eq_true rfl⟩) ?_
      refine lv_goto (tgt := 32) hx hb dX7_bending_27 (by decide) ?_
      exact zR_ret hx hb hr rfl hf hlk dX7_bending_32

def f_X7_spread_51  (k10 : Int32 → Int32 → Int32 → zG → Option (Int32 × zG)) (y2 : Int32) (y3 : Int32) (s0 : Int32) (gS : zG) : Option (Int32 × zG) := (if (gS 11 0) = 0 then (if (gS 9 0) ≤ y2 then (k10 s0 y2 (y3 + (1 : Int32)) gS) else (k10 s0 (gS 9 0) (y3 + (1 : Int32)) gS)) else (k10 s0 y2 (y3 + (1 : Int32)) gS))
def f_X7_spread_50  (k10 : Int32 → Int32 → Int32 → zG → Option (Int32 × zG)) (y1 : Int32) (y2 : Int32) (y3 : Int32) (gS : zG) : Option (Int32 × zG) := (f_X7_spread_51  k10  y2 y3 y1 gS)
def f_X7_spread_10_b   (k10 : Int32 → Int32 → Int32 → zG → Option (Int32 × zG)) (y1 : Int32) (y2 : Int32) (y3 : Int32) (gS : zG) : Option (Int32 × zG) := (zin (0 : Int32) 59 (if (gS 0 (0 : Int32).toNatClampNeg) ≤ y3 then (if y1 ≤ y2 then (some ((y2 - y1), gS)) else (some ((0 : Int32), gS))) else (zbind (f_X7_follows gS y3 (1000 : Int32)) (fun R4 => (if (R4 11 0) = 0 then (if y1 ≤ (R4 9 0) then (f_X7_spread_50  k10  y1 y2 y3 R4) else (f_X7_spread_51  k10  y2 y3 (R4 9 0) R4)) else (f_X7_spread_50  k10  y1 y2 y3 R4))))))
def f_X7_spread_10   : Nat → Int32 → Int32 → Int32 → zG → Option (Int32 × zG)
  | 0 => fun _ _ _ _ => none
  | n + 1 => f_X7_spread_10_b   (f_X7_spread_10   n)
def f_X7_spread (gS : zG)  : Option (Int32 × zG) := (f_X7_spread_10   zfuel (1000 : Int32) (-1000 : Int32) (0 : Int32) gS)
theorem u_X7_spread_X7 : ∀ w ∈ u_ws RX7 TX7 21, w ∈ wsX7_spread := fun w h => List.mem_cons_of_mem _ (List.mem_append_right _ h)
theorem k_X7_spread_1 : Cond.fieldLink RX7 7 "JoinedLightModel" "s" "[I" ∈ wsX7_spread := List.mem_of_getElem? (i := 1) rfl
theorem k_X7_spread_2 : Cond.fieldLink RX7 100 "JoinedLightModel" "why" "I" ∈ wsX7_spread := List.mem_of_getElem? (i := 2) rfl
theorem k_X7_spread_3 : Cond.fieldLink RX7 88 "JoinedLightModel" "height" "I" ∈ wsX7_spread := List.mem_of_getElem? (i := 3) rfl
abbrev rm_X7_spread : Room := { frames := 3, cells := 0, slots := 0, locals := 66 }
set_option maxHeartbeats 4000000 in
set_option maxRecDepth 100000 in
theorem c_X7_spread (l : Launch) (dC : Nat → ClassId) (dI : Nat → Nat → Nat) (cI cC cO : ClassId) (qS : Nat) (aS : Nat → Nat) (gS : zG)  (R : Int32 × zG) (hf : f_X7_spread gS = some R) : cM l (dC, dI) (zT cI cC cO) yX7_spread wsX7_spread rm_X7_spread [.ref qS] [(wX7 cI qS aS gS)] [(wX7 cI qS aS R.2)] (some (.int R.1)) 0 0 := by
  refine zM_in (cc := cX7_spread) (maxL := 4) (ret := (some .int)) (plainFor_of_name (by decide)) rfl (Nat.le_of_ble_eq_true rfl) ?_
  intro p e s m below meth c hx hb hml hr hlk hown hts hK hN A hA hP hD hS ls hl
  have hl : lv_has ls 4 [(0, .ref qS)] := hl
  have w10 : ∀ (n10 : Nat) (y1 : Int32) (y2 : Int32) (y3 : Int32) (gS : zG) (H : Heap) (locs : List Loc) (ls : Array Slot), f_X7_spread_10   n10 y1 y2 y3 gS = some R → va_P (dC, dI) vwCl [(wX7 cI qS aS gS)].flatten H → va_D A [(wX7 cI qS aS gS)].flatten → va_S A s.heap H locs → lv_has ls 4 [(0, .ref qS), (1, .int y1), (2, .int y2), (3, .int y3)] → W p l e (headSpec wsX7_spread rm_X7_spread).room s m [.ref qS].toArray below meth c H locs 0 0 (MQ below (zqM (dC, dI) (some (.int R.1)) [(wX7 cI qS aS R.2)] A) [.ref qS].toArray s 0 0 A) (F0 m 10 ls []) := by
    intro n10
    induction n10 with
    | zero =>
      intro y1 y2 y3 gS H locs ls hf hP hD hS hl
      have hf : (none : Option (Int32 × zG)) = some R := hf
      cases hf
    | succ n10 ih10 =>
      have w51 : ∀ (y2 : Int32) (y3 : Int32) (s0 : Int32) (gS : zG) (H : Heap) (locs : List Loc) (ls : Array Slot), f_X7_spread_51  (f_X7_spread_10   n10)  y2 y3 s0 gS = some R → va_P (dC, dI) vwCl [(wX7 cI qS aS gS)].flatten H → va_D A [(wX7 cI qS aS gS)].flatten → va_S A s.heap H locs → lv_has ls 4 [(0, .ref qS), (2, .int y2), (3, .int y3)] → W p l e (headSpec wsX7_spread rm_X7_spread).room s m [.ref qS].toArray below meth c H locs 0 0 (MQ below (zqM (dC, dI) (some (.int R.1)) [(wX7 cI qS aS R.2)] A) [.ref qS].toArray s 0 0 A) (F0 m 51 ls [.int s0]) := by
        intro y2 y3 s0 gS H locs ls hf hP hD hS hl
        unfold f_X7_spread_51 at hf
        refine lv_istore_n (lv' := [(1, .int s0), (0, .ref qS), (2, .int y2), (3, .int y3)]) hx hb dX7_spread_51 rfl hl (by decide) rfl (fun ls hl => ?_)
        refine lv_aload_n hx hb dX7_spread_52 rfl (lv_at hl 1 rfl) ?_
        refine va_get (D := (dC, dI)) (ci := 7) (v := .int (gS 11 0)) (C := RX7) (T := TX7) (N := 21) hx hb hts u_X7_spread_X7 hown hK hP 0 rfl rfl 11 (by decide) (hts _ k_X7_spread_2) (fun _ h9 => h9) rfl dX7_spread_53 ?_
        refine lv_if_ne (tgt := 74) hx hb dX7_spread_56 (by decide) (fun c_7 => ?_) (fun c_7 => ?_)
        · have hf := zif_f hf c_7
          refine lv_iload_n hx hb dX7_spread_74 rfl (lv_at hl 2 rfl) ?_
          refine lv_istore_n (lv' := [(2, .int y2), (1, .int s0), (0, .ref qS), (3, .int y3)]) hx hb dX7_spread_75 rfl hl (by decide) rfl (fun ls hl => ?_)
          refine lv_iinc (v := (y3 + (1 : Int32))) (lv' := [(3, .int (y3 + (1 : Int32))), (2, .int y2), (1, .int s0), (0, .ref qS)]) hx hb dX7_spread_76 hl (k := 3) rfl rfl (by decide) rfl (fun ls hl => ?_)
          refine lv_goto (tgt := 10) hx hb dX7_spread_79 (by decide) ?_
          exact ih10 s0 y2 (y3 + (1 : Int32)) gS H locs ls hf hP hD hS (lv_sub hl [3, 2, 1, 0] rfl)
        · have hf := zif_t hf c_7
          refine lv_aload_n hx hb dX7_spread_59 rfl (lv_at hl 1 rfl) ?_
          refine va_get (D := (dC, dI)) (ci := 7) (v := .int (gS 9 0)) (C := RX7) (T := TX7) (N := 21) hx hb hts u_X7_spread_X7 hown hK hP 0 rfl rfl 9 (by decide) (hts _ k_X7_spread_3) (fun _ h9 => h9) rfl dX7_spread_60 ?_
          refine lv_iload_n hx hb dX7_spread_63 rfl (lv_at hl 2 rfl) ?_
          refine lv_icmp_le (tgt := 74) hx hb dX7_spread_64 (by decide) (fun c_8 => ?_) (fun c_8 => ?_)
          · have hf := zif_t hf c_8
            refine lv_iload_n hx hb dX7_spread_74 rfl (lv_at hl 2 rfl) ?_
            refine lv_istore_n (lv' := [(2, .int y2), (1, .int s0), (0, .ref qS), (3, .int y3)]) hx hb dX7_spread_75 rfl hl (by decide) rfl (fun ls hl => ?_)
            refine lv_iinc (v := (y3 + (1 : Int32))) (lv' := [(3, .int (y3 + (1 : Int32))), (2, .int y2), (1, .int s0), (0, .ref qS)]) hx hb dX7_spread_76 hl (k := 3) rfl rfl (by decide) rfl (fun ls hl => ?_)
            refine lv_goto (tgt := 10) hx hb dX7_spread_79 (by decide) ?_
            exact ih10 s0 y2 (y3 + (1 : Int32)) gS H locs ls hf hP hD hS (lv_sub hl [3, 2, 1, 0] rfl)
          · have hf := zif_f hf c_8
            refine lv_aload_n hx hb dX7_spread_67 rfl (lv_at hl 1 rfl) ?_
            refine va_get (D := (dC, dI)) (ci := 7) (v := .int (gS 9 0)) (C := RX7) (T := TX7) (N := 21) hx hb hts u_X7_spread_X7 hown hK hP 0 rfl rfl 9 (by decide) (hts _ k_X7_spread_3) (fun _ h9 => h9) rfl dX7_spread_68 ?_
            refine lv_goto (tgt := 75) hx hb dX7_spread_71 (by decide) ?_
            refine lv_istore_n (lv' := [(2, .int (gS 9 0)), (1, .int s0), (0, .ref qS), (3, .int y3)]) hx hb dX7_spread_75 rfl hl (by decide) rfl (fun ls hl => ?_)
            refine lv_iinc (v := (y3 + (1 : Int32))) (lv' := [(3, .int (y3 + (1 : Int32))), (2, .int (gS 9 0)), (1, .int s0), (0, .ref qS)]) hx hb dX7_spread_76 hl (k := 3) rfl rfl (by decide) rfl (fun ls hl => ?_)
            refine lv_goto (tgt := 10) hx hb dX7_spread_79 (by decide) ?_
            exact ih10 s0 (gS 9 0) (y3 + (1 : Int32)) gS H locs ls hf hP hD hS (lv_sub hl [3, 2, 1, 0] rfl)
      have w50 : ∀ (y1 : Int32) (y2 : Int32) (y3 : Int32) (gS : zG) (H : Heap) (locs : List Loc) (ls : Array Slot), f_X7_spread_50  (f_X7_spread_10   n10)  y1 y2 y3 gS = some R → va_P (dC, dI) vwCl [(wX7 cI qS aS gS)].flatten H → va_D A [(wX7 cI qS aS gS)].flatten → va_S A s.heap H locs → lv_has ls 4 [(0, .ref qS), (1, .int y1), (2, .int y2), (3, .int y3)] → W p l e (headSpec wsX7_spread rm_X7_spread).room s m [.ref qS].toArray below meth c H locs 0 0 (MQ below (zqM (dC, dI) (some (.int R.1)) [(wX7 cI qS aS R.2)] A) [.ref qS].toArray s 0 0 A) (F0 m 50 ls []) := by
        intro y1 y2 y3 gS H locs ls hf hP hD hS hl
        unfold f_X7_spread_50 at hf
        refine lv_iload_n hx hb dX7_spread_50 rfl (lv_at hl 1 rfl) ?_
        exact w51  y2 y3 y1 gS H locs ls hf hP hD hS (lv_sub hl [0, 2, 3] rfl)
      intro y1 y2 y3 gS H locs ls hf hP hD hS hl
      have hf : f_X7_spread_10_b   (f_X7_spread_10   n10) y1 y2 y3 gS = some R := hf
      unfold f_X7_spread_10_b at hf
      refine lv_iload_n hx hb dX7_spread_10 rfl (lv_at hl 3 rfl) ?_
      refine lv_aload_n hx hb dX7_spread_11 rfl (lv_at hl 0 rfl) ?_
      refine va_get (D := (dC, dI)) (ci := 7) (v := .ref (aS 0)) (C := RX7) (T := TX7) (N := 21) hx hb hts u_X7_spread_X7 hown hK hP 0 rfl rfl 0 (by decide) (hts _ k_X7_spread_1) (fun _ h9 => h9) rfl dX7_spread_12 ?_
      refine lv_iconst (v := (0 : Int32)) hx hb dX7_spread_15 (by decide) ?_
      obtain ⟨h_1, hf⟩ := zin_ex hf
      refine va_iald hx hb hK hP 1 0 rfl rfl h_1 dX7_spread_16 ?_
      refine lv_icmp_ge (tgt := 82) hx hb dX7_spread_17 (by decide) (fun c_2 => ?_) (fun c_2 => ?_)
      · have hf := zif_t hf c_2
        refine lv_iload_n hx hb dX7_spread_82 rfl (lv_at hl 2 rfl) ?_
        refine lv_iload_n hx hb dX7_spread_83 rfl (lv_at hl 1 rfl) ?_
        refine lv_icmp_ge (tgt := 91) hx hb dX7_spread_84 (by decide) (fun c_3 => ?_) (fun c_3 => ?_)
        · have hf := zif_t hf c_3
          refine lv_iload_n hx hb dX7_spread_91 rfl (lv_at hl 2 rfl) ?_
          refine lv_iload_n hx hb dX7_spread_92 rfl (lv_at hl 1 rfl) ?_
          refine lv_isub hx hb dX7_spread_93 ?_
          exact zM_ret (gs := [(wX7 cI qS aS gS)]) hx hb hr rfl hP hD hS (by rw [← Option.some.inj hf]; exact ⟨rfl, rfl⟩) hlk dX7_spread_94
        · have hf := zif_f hf c_3
          refine lv_iconst (v := (0 : Int32)) hx hb dX7_spread_87 (by decide) ?_
          refine lv_goto (tgt := 94) hx hb dX7_spread_88 (by decide) ?_
          exact zM_ret (gs := [(wX7 cI qS aS gS)]) hx hb hr rfl hP hD hS (by rw [← Option.some.inj hf]; exact ⟨rfl, rfl⟩) hlk dX7_spread_94
      · have hf := zif_f hf c_2
        refine lv_aload_n hx hb dX7_spread_20 rfl (lv_at hl 0 rfl) ?_
        refine lv_iload_n hx hb dX7_spread_21 rfl (lv_at hl 3 rfl) ?_
        refine lv_sipush (v := (1000 : Int32)) hx hb dX7_spread_22 (by decide) ?_
        obtain ⟨R4, e_4, hf⟩ := zbind_ex hf
        refine z_callM (gs2 := [(wX7 cI qS aS R4)]) hP hD hS hA [0] [] rfl rfl rfl (show List.Perm [0] (List.range 1) from by decide) rfl (va_runV (As := [.int y3, .int (1000 : Int32)]) (rest := []) ⟨hx, hb, hml, hown, hts⟩ (c_X7_follows l dC dI cI cC cO qS aS gS y3 (1000 : Int32) R4 e_4 H.size) (cwV 2 hts gX7_spread_X7_follows rfl rfl rfl (by decide +kernel) ⟨Nat.le_of_ble_eq_true rfl, Nat.le_of_ble_eq_true rfl⟩) ⟨zpM_blind, va_recv hK hP (ci := 7) (q0 := 0) rfl rfl, z_useM hK hN hP hD [0] [] rfl (show List.Perm [0] (List.range 1) from by decide)⟩ rfl rfl hl.1 rfl (lv_room (Nat.le_of_ble_eq_true rfl)) dX7_spread_25 ⟨Nat.le_of_ble_eq_true rfl, Nat.le_of_ble_eq_true rfl⟩) (fun H locs hP hD hS => ?_)
        refine W.eq (g2 := F0 m 28 ls []) rfl ?_
        refine lv_aload_n hx hb dX7_spread_28 rfl (lv_at hl 0 rfl) ?_
        refine va_get (D := (dC, dI)) (ci := 7) (v := .int (R4 11 0)) (C := RX7) (T := TX7) (N := 21) hx hb hts u_X7_spread_X7 hown hK hP 0 rfl rfl 11 (by decide) (hts _ k_X7_spread_2) (fun _ h9 => h9) rfl dX7_spread_29 ?_
        refine lv_if_ne (tgt := 50) hx hb dX7_spread_32 (by decide) (fun c_5 => ?_) (fun c_5 => ?_)
        · have hf := zif_f hf c_5
          exact w50  y1 y2 y3 R4 H locs ls hf hP hD hS (lv_sub hl [0, 1, 2, 3] rfl)
        · have hf := zif_t hf c_5
          refine lv_aload_n hx hb dX7_spread_35 rfl (lv_at hl 0 rfl) ?_
          refine va_get (D := (dC, dI)) (ci := 7) (v := .int (R4 9 0)) (C := RX7) (T := TX7) (N := 21) hx hb hts u_X7_spread_X7 hown hK hP 0 rfl rfl 9 (by decide) (hts _ k_X7_spread_3) (fun _ h9 => h9) rfl dX7_spread_36 ?_
          refine lv_iload_n hx hb dX7_spread_39 rfl (lv_at hl 1 rfl) ?_
          refine lv_icmp_ge (tgt := 50) hx hb dX7_spread_40 (by decide) (fun c_6 => ?_) (fun c_6 => ?_)
          · have hf := zif_t hf c_6
            exact w50  y1 y2 y3 R4 H locs ls hf hP hD hS (lv_sub hl [0, 1, 2, 3] rfl)
          · have hf := zif_f hf c_6
            refine lv_aload_n hx hb dX7_spread_43 rfl (lv_at hl 0 rfl) ?_
            refine va_get (D := (dC, dI)) (ci := 7) (v := .int (R4 9 0)) (C := RX7) (T := TX7) (N := 21) hx hb hts u_X7_spread_X7 hown hK hP 0 rfl rfl 9 (by decide) (hts _ k_X7_spread_3) (fun _ h9 => h9) rfl dX7_spread_44 ?_
            refine lv_goto (tgt := 51) hx hb dX7_spread_47 (by decide) ?_
            exact w51  y2 y3 (R4 9 0) R4 H locs ls hf hP hD hS (lv_sub hl [0, 2, 3] rfl)
  unfold f_X7_spread at hf
  obtain ⟨H, hH⟩ : ∃ H, H = s.heap := ⟨_, rfl⟩
  obtain ⟨locs, hlocs⟩ : ∃ locs : List Loc, locs = [] := ⟨_, rfl⟩
  have hS : va_S A s.heap H locs := by rw [hH, hlocs]; exact hS
  rw [← hH] at hP
  refine zheap hH hlocs ?_
  refine lv_sipush (v := (1000 : Int32)) hx hb dX7_spread_0 (by decide) ?_
  refine lv_istore_n (lv' := [(1, .int (1000 : Int32)), (0, .ref qS)]) hx hb dX7_spread_3 rfl hl (by decide) rfl (fun ls hl => ?_)
  refine lv_sipush (v := (-1000 : Int32)) hx hb dX7_spread_4 (by decide) ?_
  refine lv_istore_n (lv' := [(2, .int (-1000 : Int32)), (1, .int (1000 : Int32)), (0, .ref qS)]) hx hb dX7_spread_7 rfl hl (by decide) rfl (fun ls hl => ?_)
  refine lv_iconst (v := (0 : Int32)) hx hb dX7_spread_8 (by decide) ?_
  refine lv_istore_n (lv' := [(3, .int (0 : Int32)), (2, .int (-1000 : Int32)), (1, .int (1000 : Int32)), (0, .ref qS)]) hx hb dX7_spread_9 rfl hl (by decide) rfl (fun ls hl => ?_)
  exact w10 zfuel (1000 : Int32) (-1000 : Int32) (0 : Int32) gS H locs ls hf hP hD hS (lv_sub hl [3, 2, 1, 0] rfl)

def f_X7_best_166  (k47 : Int32 → Int32 → Int32 → Int32 → Int32 → Int32 → Int32 → zG → Option (Int32 × zG)) (y1 : Int32) (y2 : Int32) (y3 : Int32) (y4 : Int32) (y6 : Int32) (y7 : Int32) (y9 : Int32) (y10 : Int32) (s0 : Int32) (gS : zG) : Option (Int32 × zG) := (if y10 = 0 then (k47 y1 y2 y3 y4 s0 y6 (y7 + (10 : Int32)) gS) else (k47 y1 y2 y3 y4 s0 y9 (y7 + (10 : Int32)) gS))
def f_X7_best_152  (k47 : Int32 → Int32 → Int32 → Int32 → Int32 → Int32 → Int32 → zG → Option (Int32 × zG)) (y1 : Int32) (y2 : Int32) (y3 : Int32) (y5 : Int32) (y6 : Int32) (y7 : Int32) (y8 : Int32) (y9 : Int32) (y10 : Int32) (s0 : Int32) (gS : zG) : Option (Int32 × zG) := (if y10 = 0 then (f_X7_best_166  k47  y1 y2 y3 s0 y6 y7 y9 y10 y5 gS) else (f_X7_best_166  k47  y1 y2 y3 s0 y6 y7 y9 y10 y8 gS))
def f_X7_best_138  (k47 : Int32 → Int32 → Int32 → Int32 → Int32 → Int32 → Int32 → zG → Option (Int32 × zG)) (y1 : Int32) (y2 : Int32) (y3 : Int32) (y4 : Int32) (y5 : Int32) (y6 : Int32) (y7 : Int32) (y8 : Int32) (y9 : Int32) (s0 : Int32) (gS : zG) : Option (Int32 × zG) := (if s0 = 0 then (f_X7_best_152  k47  y1 y2 y3 y5 y6 y7 y8 y9 s0 y4 gS) else (f_X7_best_152  k47  y1 y2 y3 y5 y6 y7 y8 y9 s0 y7 gS))
def f_X7_best_137  (k47 : Int32 → Int32 → Int32 → Int32 → Int32 → Int32 → Int32 → zG → Option (Int32 × zG)) (y1 : Int32) (y2 : Int32) (y3 : Int32) (y4 : Int32) (y5 : Int32) (y6 : Int32) (y7 : Int32) (y8 : Int32) (y9 : Int32) (gS : zG) : Option (Int32 × zG) := (f_X7_best_138  k47  y1 y2 y3 y4 y5 y6 y7 y8 y9 (0 : Int32) gS)
def f_X7_best_133  (k47 : Int32 → Int32 → Int32 → Int32 → Int32 → Int32 → Int32 → zG → Option (Int32 × zG)) (y1 : Int32) (y2 : Int32) (y3 : Int32) (y4 : Int32) (y5 : Int32) (y6 : Int32) (y7 : Int32) (y8 : Int32) (y9 : Int32) (gS : zG) : Option (Int32 × zG) := (f_X7_best_138  k47  y1 y2 y3 y4 y5 y6 y7 y8 y9 (1 : Int32) gS)
def f_X7_best_70  (k47 : Int32 → Int32 → Int32 → Int32 → Int32 → Int32 → Int32 → zG → Option (Int32 × zG)) (y1 : Int32) (y2 : Int32) (y3 : Int32) (y4 : Int32) (y5 : Int32) (y6 : Int32) (y7 : Int32) (gS : zG) : Option (Int32 × zG) := (zbind (f_X7_moves gS y3 y7) (fun R12 => (zbind (f_X7_coming R12.2 (1000 : Int32)) (fun R13 => (zbind (f_X7_ones R13.1) (fun R14 => (zbind (f_X7_spread R13.2) (fun R15 => (zbind (f_X7_copies_3_0 R15.2) (fun R16 => (if y4 < 0 then (f_X7_best_133  k47  y1 y2 y3 y4 y5 y6 y7 R14 R15.1 R16) else (if y5 < R14 then (f_X7_best_133  k47  y1 y2 y3 y4 y5 y6 y7 R14 R15.1 R16) else (if R14 = y5 then (if y6 ≤ R15.1 then (f_X7_best_137  k47  y1 y2 y3 y4 y5 y6 y7 R14 R15.1 R16) else (f_X7_best_133  k47  y1 y2 y3 y4 y5 y6 y7 R14 R15.1 R16)) else (f_X7_best_137  k47  y1 y2 y3 y4 y5 y6 y7 R14 R15.1 R16))))))))))))))
def f_X7_best_47_b   (k47 : Int32 → Int32 → Int32 → Int32 → Int32 → Int32 → Int32 → zG → Option (Int32 × zG)) (y1 : Int32) (y2 : Int32) (y3 : Int32) (y4 : Int32) (y5 : Int32) (y6 : Int32) (y7 : Int32) (gS : zG) : Option (Int32 × zG) := (if (1000 : Int32) ≤ y7 then (if y2 = 0 then (some (y4, gS)) else (if y2 = (1 : Int32) then (some (y5, gS)) else (some (y6, gS)))) else (if y7 = y1 then (f_X7_best_70  k47  y1 y2 y3 y4 y5 y6 y7 gS) else (zbind (f_X7_at gS y7) (fun R10 => (if 0 ≤ R10 then (k47 y1 y2 y3 y4 y5 y6 (y7 + (10 : Int32)) gS) else (f_X7_best_70  k47  y1 y2 y3 y4 y5 y6 y7 gS))))))
def f_X7_best_47   : Nat → Int32 → Int32 → Int32 → Int32 → Int32 → Int32 → Int32 → zG → Option (Int32 × zG)
  | 0 => fun _ _ _ _ _ _ _ _ => none
  | n + 1 => f_X7_best_47_b   (f_X7_best_47   n)
def f_X7_best (gS : zG) (x1 : Int32) (x2 : Int32) : Option (Int32 × zG) := (zbind (f_X7_at gS x1) (fun R1 => (if R1 < 0 then (some ((-1000000001 : Int32), gS)) else (zbind (f_X7_in x2 (0 : Int32) (2 : Int32)) (fun R3 => (if R3 = 0 then (some ((-1000000001 : Int32), gS)) else (zbind (f_X7_copies_0_3 gS) (fun R5 => (f_X7_best_47   zfuel x1 x2 R1 (-1000000004 : Int32) (0 : Int32) (0 : Int32) (10 : Int32) R5)))))))))
theorem u_X7_best_X7 : ∀ w ∈ u_ws RX7 TX7 21, w ∈ wsX7_best := fun w h => List.mem_cons_of_mem _ (List.mem_append_right _ h)
theorem k_X7_best_1 : Cond.constant RX7 51 (-1000000001) ∈ wsX7_best := List.mem_of_getElem? (i := 1) rfl
theorem k_X7_best_2 : Cond.fieldLink RX7 7 "JoinedLightModel" "s" "[I" ∈ wsX7_best := List.mem_of_getElem? (i := 2) rfl
theorem k_X7_best_3 : Cond.fieldLink RX7 19 "JoinedLightModel" "tried" "[I" ∈ wsX7_best := List.mem_of_getElem? (i := 3) rfl
theorem k_X7_best_4 : Cond.constant RX7 46 (-1000000004) ∈ wsX7_best := List.mem_of_getElem? (i := 4) rfl
abbrev rm_X7_best : Room := { frames := 4, cells := 0, slots := 0, locals := 89 }
set_option maxHeartbeats 4000000 in
set_option maxRecDepth 100000 in
theorem c_X7_best (l : Launch) (dC : Nat → ClassId) (dI : Nat → Nat → Nat) (cI cC cO : ClassId) (qS : Nat) (aS : Nat → Nat) (gS : zG) (x1 : Int32) (x2 : Int32) (R : Int32 × zG) (hf : f_X7_best gS x1 x2 = some R) : cM l (dC, dI) (zT cI cC cO) yX7_best wsX7_best rm_X7_best [.ref qS, .int x1, .int x2] [(wX7 cI qS aS gS)] [(wX7 cI qS aS R.2)] (some (.int R.1)) 0 0 := by
  refine zM_in (cc := cX7_best) (maxL := 11) (ret := (some .int)) (plainFor_of_name (by decide)) rfl (Nat.le_of_ble_eq_true rfl) ?_
  intro p e s m below meth c hx hb hml hr hlk hown hts hK hN A hA hP hD hS ls hl
  have hl : lv_has ls 11 [(0, .ref qS), (1, .int x1), (2, .int x2)] := hl
  have w47 : ∀ (n47 : Nat) (y1 : Int32) (y2 : Int32) (y3 : Int32) (y4 : Int32) (y5 : Int32) (y6 : Int32) (y7 : Int32) (gS : zG) (H : Heap) (locs : List Loc) (ls : Array Slot), f_X7_best_47   n47 y1 y2 y3 y4 y5 y6 y7 gS = some R → va_P (dC, dI) vwCl [(wX7 cI qS aS gS)].flatten H → va_D A [(wX7 cI qS aS gS)].flatten → va_S A s.heap H locs → lv_has ls 11 [(0, .ref qS), (1, .int y1), (2, .int y2), (3, .int y3), (4, .int y4), (5, .int y5), (6, .int y6), (7, .int y7)] → W p l e (headSpec wsX7_best rm_X7_best).room s m [.ref qS, .int x1, .int x2].toArray below meth c H locs 0 0 (MQ below (zqM (dC, dI) (some (.int R.1)) [(wX7 cI qS aS R.2)] A) [.ref qS, .int x1, .int x2].toArray s 0 0 A) (F0 m 47 ls []) := by
    intro n47
    induction n47 with
    | zero =>
      intro y1 y2 y3 y4 y5 y6 y7 gS H locs ls hf hP hD hS hl
      have hf : (none : Option (Int32 × zG)) = some R := hf
      cases hf
    | succ n47 ih47 =>
      have w166 : ∀ (y1 : Int32) (y2 : Int32) (y3 : Int32) (y4 : Int32) (y6 : Int32) (y7 : Int32) (y9 : Int32) (y10 : Int32) (s0 : Int32) (gS : zG) (H : Heap) (locs : List Loc) (ls : Array Slot), f_X7_best_166  (f_X7_best_47   n47)  y1 y2 y3 y4 y6 y7 y9 y10 s0 gS = some R → va_P (dC, dI) vwCl [(wX7 cI qS aS gS)].flatten H → va_D A [(wX7 cI qS aS gS)].flatten → va_S A s.heap H locs → lv_has ls 11 [(0, .ref qS), (1, .int y1), (2, .int y2), (3, .int y3), (4, .int y4), (6, .int y6), (7, .int y7), (9, .int y9), (10, .int y10)] → W p l e (headSpec wsX7_best rm_X7_best).room s m [.ref qS, .int x1, .int x2].toArray below meth c H locs 0 0 (MQ below (zqM (dC, dI) (some (.int R.1)) [(wX7 cI qS aS R.2)] A) [.ref qS, .int x1, .int x2].toArray s 0 0 A) (F0 m 166 ls [.int s0]) := by
        intro y1 y2 y3 y4 y6 y7 y9 y10 s0 gS H locs ls hf hP hD hS hl
        unfold f_X7_best_166 at hf
        refine lv_istore (lv' := [(5, .int s0), (0, .ref qS), (1, .int y1), (2, .int y2), (3, .int y3), (4, .int y4), (6, .int y6), (7, .int y7), (9, .int y9), (10, .int y10)]) hx hb dX7_best_166 hl (by decide) rfl (fun ls hl => ?_)
        refine lv_iload hx hb dX7_best_168 (lv_at hl 9 rfl) ?_
        refine lv_if_eq (tgt := 178) hx hb dX7_best_170 (by decide) (fun c_23 => ?_) (fun c_23 => ?_)
        · have hf := zif_t hf c_23
          refine lv_iload hx hb dX7_best_178 (lv_at hl 6 rfl) ?_
          refine lv_istore (lv' := [(6, .int y6), (5, .int s0), (0, .ref qS), (1, .int y1), (2, .int y2), (3, .int y3), (4, .int y4), (7, .int y7), (9, .int y9), (10, .int y10)]) hx hb dX7_best_180 hl (by decide) rfl (fun ls hl => ?_)
          refine lv_iinc (v := (y7 + (10 : Int32))) (lv' := [(7, .int (y7 + (10 : Int32))), (6, .int y6), (5, .int s0), (0, .ref qS), (1, .int y1), (2, .int y2), (3, .int y3), (4, .int y4), (9, .int y9), (10, .int y10)]) hx hb dX7_best_182 hl (k := 7) rfl rfl (by decide) rfl (fun ls hl => ?_)
          refine lv_goto (tgt := 47) hx hb dX7_best_185 (by decide) ?_
          exact ih47 y1 y2 y3 y4 s0 y6 (y7 + (10 : Int32)) gS H locs ls hf hP hD hS (lv_sub hl [3, 4, 5, 6, 7, 2, 1, 0] rfl)
        · have hf := zif_f hf c_23
          refine lv_iload hx hb dX7_best_173 (lv_at hl 8 rfl) ?_
          refine lv_goto (tgt := 180) hx hb dX7_best_175 (by decide) ?_
          refine lv_istore (lv' := [(6, .int y9), (5, .int s0), (0, .ref qS), (1, .int y1), (2, .int y2), (3, .int y3), (4, .int y4), (7, .int y7), (9, .int y9), (10, .int y10)]) hx hb dX7_best_180 hl (by decide) rfl (fun ls hl => ?_)
          refine lv_iinc (v := (y7 + (10 : Int32))) (lv' := [(7, .int (y7 + (10 : Int32))), (6, .int y9), (5, .int s0), (0, .ref qS), (1, .int y1), (2, .int y2), (3, .int y3), (4, .int y4), (9, .int y9), (10, .int y10)]) hx hb dX7_best_182 hl (k := 7) rfl rfl (by decide) rfl (fun ls hl => ?_)
          refine lv_goto (tgt := 47) hx hb dX7_best_185 (by decide) ?_
          exact ih47 y1 y2 y3 y4 s0 y9 (y7 + (10 : Int32)) gS H locs ls hf hP hD hS (lv_sub hl [3, 4, 5, 6, 7, 2, 1, 0] rfl)
      have w152 : ∀ (y1 : Int32) (y2 : Int32) (y3 : Int32) (y5 : Int32) (y6 : Int32) (y7 : Int32) (y8 : Int32) (y9 : Int32) (y10 : Int32) (s0 : Int32) (gS : zG) (H : Heap) (locs : List Loc) (ls : Array Slot), f_X7_best_152  (f_X7_best_47   n47)  y1 y2 y3 y5 y6 y7 y8 y9 y10 s0 gS = some R → va_P (dC, dI) vwCl [(wX7 cI qS aS gS)].flatten H → va_D A [(wX7 cI qS aS gS)].flatten → va_S A s.heap H locs → lv_has ls 11 [(0, .ref qS), (1, .int y1), (2, .int y2), (3, .int y3), (5, .int y5), (6, .int y6), (7, .int y7), (8, .int y8), (9, .int y9), (10, .int y10)] → W p l e (headSpec wsX7_best rm_X7_best).room s m [.ref qS, .int x1, .int x2].toArray below meth c H locs 0 0 (MQ below (zqM (dC, dI) (some (.int R.1)) [(wX7 cI qS aS R.2)] A) [.ref qS, .int x1, .int x2].toArray s 0 0 A) (F0 m 152 ls [.int s0]) := by
        intro y1 y2 y3 y5 y6 y7 y8 y9 y10 s0 gS H locs ls hf hP hD hS hl
        unfold f_X7_best_152 at hf
        refine lv_istore (lv' := [(4, .int s0), (0, .ref qS), (1, .int y1), (2, .int y2), (3, .int y3), (5, .int y5), (6, .int y6), (7, .int y7), (8, .int y8), (9, .int y9), (10, .int y10)]) hx hb dX7_best_152 hl (by decide) rfl (fun ls hl => ?_)
        refine lv_iload hx hb dX7_best_154 (lv_at hl 10 rfl) ?_
        refine lv_if_eq (tgt := 164) hx hb dX7_best_156 (by decide) (fun c_22 => ?_) (fun c_22 => ?_)
        · have hf := zif_t hf c_22
          refine lv_iload hx hb dX7_best_164 (lv_at hl 5 rfl) ?_
          exact w166  y1 y2 y3 s0 y6 y7 y9 y10 y5 gS H locs ls hf hP hD hS (lv_sub hl [1, 2, 3, 4, 0, 6, 7, 9, 10] rfl)
        · have hf := zif_f hf c_22
          refine lv_iload hx hb dX7_best_159 (lv_at hl 8 rfl) ?_
          refine lv_goto (tgt := 166) hx hb dX7_best_161 (by decide) ?_
          exact w166  y1 y2 y3 s0 y6 y7 y9 y10 y8 gS H locs ls hf hP hD hS (lv_sub hl [1, 2, 3, 4, 0, 6, 7, 9, 10] rfl)
      have w138 : ∀ (y1 : Int32) (y2 : Int32) (y3 : Int32) (y4 : Int32) (y5 : Int32) (y6 : Int32) (y7 : Int32) (y8 : Int32) (y9 : Int32) (s0 : Int32) (gS : zG) (H : Heap) (locs : List Loc) (ls : Array Slot), f_X7_best_138  (f_X7_best_47   n47)  y1 y2 y3 y4 y5 y6 y7 y8 y9 s0 gS = some R → va_P (dC, dI) vwCl [(wX7 cI qS aS gS)].flatten H → va_D A [(wX7 cI qS aS gS)].flatten → va_S A s.heap H locs → lv_has ls 11 [(0, .ref qS), (1, .int y1), (2, .int y2), (3, .int y3), (4, .int y4), (5, .int y5), (6, .int y6), (7, .int y7), (8, .int y8), (9, .int y9)] → W p l e (headSpec wsX7_best rm_X7_best).room s m [.ref qS, .int x1, .int x2].toArray below meth c H locs 0 0 (MQ below (zqM (dC, dI) (some (.int R.1)) [(wX7 cI qS aS R.2)] A) [.ref qS, .int x1, .int x2].toArray s 0 0 A) (F0 m 138 ls [.int s0]) := by
        intro y1 y2 y3 y4 y5 y6 y7 y8 y9 s0 gS H locs ls hf hP hD hS hl
        unfold f_X7_best_138 at hf
        refine lv_istore (lv' := [(10, .int s0), (0, .ref qS), (1, .int y1), (2, .int y2), (3, .int y3), (4, .int y4), (5, .int y5), (6, .int y6), (7, .int y7), (8, .int y8), (9, .int y9)]) hx hb dX7_best_138 hl (by decide) rfl (fun ls hl => ?_)
        refine lv_iload hx hb dX7_best_140 (lv_at hl 0 rfl) ?_
        refine lv_if_eq (tgt := 150) hx hb dX7_best_142 (by decide) (fun c_21 => ?_) (fun c_21 => ?_)
        · have hf := zif_t hf c_21
          refine lv_iload hx hb dX7_best_150 (lv_at hl 5 rfl) ?_
          exact w152  y1 y2 y3 y5 y6 y7 y8 y9 s0 y4 gS H locs ls hf hP hD hS (lv_sub hl [1, 2, 3, 4, 6, 7, 8, 9, 10, 0] rfl)
        · have hf := zif_f hf c_21
          refine lv_iload hx hb dX7_best_145 (lv_at hl 8 rfl) ?_
          refine lv_goto (tgt := 152) hx hb dX7_best_147 (by decide) ?_
          exact w152  y1 y2 y3 y5 y6 y7 y8 y9 s0 y7 gS H locs ls hf hP hD hS (lv_sub hl [1, 2, 3, 4, 6, 7, 8, 9, 10, 0] rfl)
      have w137 : ∀ (y1 : Int32) (y2 : Int32) (y3 : Int32) (y4 : Int32) (y5 : Int32) (y6 : Int32) (y7 : Int32) (y8 : Int32) (y9 : Int32) (gS : zG) (H : Heap) (locs : List Loc) (ls : Array Slot), f_X7_best_137  (f_X7_best_47   n47)  y1 y2 y3 y4 y5 y6 y7 y8 y9 gS = some R → va_P (dC, dI) vwCl [(wX7 cI qS aS gS)].flatten H → va_D A [(wX7 cI qS aS gS)].flatten → va_S A s.heap H locs → lv_has ls 11 [(0, .ref qS), (1, .int y1), (2, .int y2), (3, .int y3), (4, .int y4), (5, .int y5), (6, .int y6), (7, .int y7), (8, .int y8), (9, .int y9)] → W p l e (headSpec wsX7_best rm_X7_best).room s m [.ref qS, .int x1, .int x2].toArray below meth c H locs 0 0 (MQ below (zqM (dC, dI) (some (.int R.1)) [(wX7 cI qS aS R.2)] A) [.ref qS, .int x1, .int x2].toArray s 0 0 A) (F0 m 137 ls []) := by
        intro y1 y2 y3 y4 y5 y6 y7 y8 y9 gS H locs ls hf hP hD hS hl
        unfold f_X7_best_137 at hf
        refine lv_iconst (v := (0 : Int32)) hx hb dX7_best_137 (by decide) ?_
        exact w138  y1 y2 y3 y4 y5 y6 y7 y8 y9 (0 : Int32) gS H locs ls hf hP hD hS (lv_sub hl [0, 1, 2, 3, 4, 5, 6, 7, 8, 9] rfl)
      have w133 : ∀ (y1 : Int32) (y2 : Int32) (y3 : Int32) (y4 : Int32) (y5 : Int32) (y6 : Int32) (y7 : Int32) (y8 : Int32) (y9 : Int32) (gS : zG) (H : Heap) (locs : List Loc) (ls : Array Slot), f_X7_best_133  (f_X7_best_47   n47)  y1 y2 y3 y4 y5 y6 y7 y8 y9 gS = some R → va_P (dC, dI) vwCl [(wX7 cI qS aS gS)].flatten H → va_D A [(wX7 cI qS aS gS)].flatten → va_S A s.heap H locs → lv_has ls 11 [(0, .ref qS), (1, .int y1), (2, .int y2), (3, .int y3), (4, .int y4), (5, .int y5), (6, .int y6), (7, .int y7), (8, .int y8), (9, .int y9)] → W p l e (headSpec wsX7_best rm_X7_best).room s m [.ref qS, .int x1, .int x2].toArray below meth c H locs 0 0 (MQ below (zqM (dC, dI) (some (.int R.1)) [(wX7 cI qS aS R.2)] A) [.ref qS, .int x1, .int x2].toArray s 0 0 A) (F0 m 133 ls []) := by
        intro y1 y2 y3 y4 y5 y6 y7 y8 y9 gS H locs ls hf hP hD hS hl
        unfold f_X7_best_133 at hf
        refine lv_iconst (v := (1 : Int32)) hx hb dX7_best_133 (by decide) ?_
        refine lv_goto (tgt := 138) hx hb dX7_best_134 (by decide) ?_
        exact w138  y1 y2 y3 y4 y5 y6 y7 y8 y9 (1 : Int32) gS H locs ls hf hP hD hS (lv_sub hl [0, 1, 2, 3, 4, 5, 6, 7, 8, 9] rfl)
      have w70 : ∀ (y1 : Int32) (y2 : Int32) (y3 : Int32) (y4 : Int32) (y5 : Int32) (y6 : Int32) (y7 : Int32) (gS : zG) (H : Heap) (locs : List Loc) (ls : Array Slot), f_X7_best_70  (f_X7_best_47   n47)  y1 y2 y3 y4 y5 y6 y7 gS = some R → va_P (dC, dI) vwCl [(wX7 cI qS aS gS)].flatten H → va_D A [(wX7 cI qS aS gS)].flatten → va_S A s.heap H locs → lv_has ls 11 [(0, .ref qS), (1, .int y1), (2, .int y2), (3, .int y3), (4, .int y4), (5, .int y5), (6, .int y6), (7, .int y7)] → W p l e (headSpec wsX7_best rm_X7_best).room s m [.ref qS, .int x1, .int x2].toArray below meth c H locs 0 0 (MQ below (zqM (dC, dI) (some (.int R.1)) [(wX7 cI qS aS R.2)] A) [.ref qS, .int x1, .int x2].toArray s 0 0 A) (F0 m 70 ls []) := by
        intro y1 y2 y3 y4 y5 y6 y7 gS H locs ls hf hP hD hS hl
        unfold f_X7_best_70 at hf
        refine lv_aload_n hx hb dX7_best_70 rfl (lv_at hl 0 rfl) ?_
        refine lv_iload_n hx hb dX7_best_71 rfl (lv_at hl 3 rfl) ?_
        refine lv_iload hx hb dX7_best_72 (lv_at hl 7 rfl) ?_
        obtain ⟨R12, e_12, hf⟩ := zbind_ex hf
        refine z_callM (gs2 := [(wX7 cI qS aS R12.2)]) hP hD hS hA [0] [] rfl rfl rfl (show List.Perm [0] (List.range 1) from by decide) rfl (va_runV (As := [.int y3, .int y7]) (rest := []) ⟨hx, hb, hml, hown, hts⟩ (c_X7_moves l dC dI cI cC cO qS aS gS y3 y7 R12 e_12 H.size) (cwV 2 hts gX7_best_X7_moves rfl rfl rfl (by decide +kernel) ⟨Nat.le_of_ble_eq_true rfl, Nat.le_of_ble_eq_true rfl⟩) ⟨zpM_blind, va_recv hK hP (ci := 7) (q0 := 0) rfl rfl, z_useM hK hN hP hD [0] [] rfl (show List.Perm [0] (List.range 1) from by decide)⟩ rfl rfl hl.1 rfl (lv_room (Nat.le_of_ble_eq_true rfl)) dX7_best_74 ⟨Nat.le_of_ble_eq_true rfl, Nat.le_of_ble_eq_true rfl⟩) (fun H locs hP hD hS => ?_)
        refine W.eq (g2 := F0 m 77 ls [.int R12.1]) rfl ?_
        refine lv_pop hx hb dX7_best_77 rfl ?_
        refine lv_aload_n hx hb dX7_best_78 rfl (lv_at hl 0 rfl) ?_
        refine lv_sipush (v := (1000 : Int32)) hx hb dX7_best_79 (by decide) ?_
        obtain ⟨R13, e_13, hf⟩ := zbind_ex hf
        refine z_callM (gs2 := [(wX7 cI qS aS R13.2)]) hP hD hS hA [0] [] rfl rfl rfl (show List.Perm [0] (List.range 1) from by decide) rfl (va_runV (As := [.int (1000 : Int32)]) (rest := []) ⟨hx, hb, hml, hown, hts⟩ (c_X7_coming l dC dI cI cC cO qS aS R12.2 (1000 : Int32) R13 e_13 H.size) (cwV 1 hts gX7_best_X7_coming rfl rfl rfl (by decide +kernel) ⟨Nat.le_of_ble_eq_true rfl, Nat.le_of_ble_eq_true rfl⟩) ⟨zpM_blind, va_recv hK hP (ci := 7) (q0 := 0) rfl rfl, z_useM hK hN hP hD [0] [] rfl (show List.Perm [0] (List.range 1) from by decide)⟩ rfl rfl hl.1 rfl (lv_room (Nat.le_of_ble_eq_true rfl)) dX7_best_82 ⟨Nat.le_of_ble_eq_true rfl, Nat.le_of_ble_eq_true rfl⟩) (fun H locs hP hD hS => ?_)
        refine W.eq (g2 := F0 m 85 ls [.int R13.1]) rfl ?_
        obtain ⟨R14, e_14, hf⟩ := zbind_ex hf
        refine z_callRi (va_runS (As := [.int R13.1]) (rest := []) ⟨hx, hb, hml, hown, hts⟩ (c_X7_ones l dC dI cI cC cO  R13.1 R14 e_14) (va_cwS 1 hts gX7_best_X7_ones rfl rfl rfl (by decide +kernel) ⟨Nat.le_of_ble_eq_true rfl, Nat.le_of_ble_eq_true rfl⟩) ⟨zpR_blind, z_useR hK hN hP [] rfl⟩ rfl rfl hl.1 rfl (lv_room (Nat.le_of_ble_eq_true rfl)) dX7_best_85 ⟨Nat.le_of_ble_eq_true rfl, Nat.le_of_ble_eq_true rfl⟩) ?_
        refine lv_istore (lv' := [(8, .int R14), (0, .ref qS), (1, .int y1), (2, .int y2), (3, .int y3), (4, .int y4), (5, .int y5), (6, .int y6), (7, .int y7)]) hx hb dX7_best_88 hl (by decide) rfl (fun ls hl => ?_)
        refine lv_aload_n hx hb dX7_best_90 rfl (lv_at hl 1 rfl) ?_
        obtain ⟨R15, e_15, hf⟩ := zbind_ex hf
        refine z_callM (gs2 := [(wX7 cI qS aS R15.2)]) hP hD hS hA [0] [] rfl rfl rfl (show List.Perm [0] (List.range 1) from by decide) rfl (va_runV (As := []) (rest := []) ⟨hx, hb, hml, hown, hts⟩ (c_X7_spread l dC dI cI cC cO qS aS R13.2  R15 e_15 H.size) (cwV 0 hts gX7_best_X7_spread rfl rfl rfl (by decide +kernel) ⟨Nat.le_of_ble_eq_true rfl, Nat.le_of_ble_eq_true rfl⟩) ⟨zpM_blind, va_recv hK hP (ci := 7) (q0 := 0) rfl rfl, z_useM hK hN hP hD [0] [] rfl (show List.Perm [0] (List.range 1) from by decide)⟩ rfl rfl hl.1 rfl (lv_room (Nat.le_of_ble_eq_true rfl)) dX7_best_91 ⟨Nat.le_of_ble_eq_true rfl, Nat.le_of_ble_eq_true rfl⟩) (fun H locs hP hD hS => ?_)
        refine W.eq (g2 := F0 m 94 ls [.int R15.1]) rfl ?_
        refine lv_istore (lv' := [(9, .int R15.1), (8, .int R14), (0, .ref qS), (1, .int y1), (2, .int y2), (3, .int y3), (4, .int y4), (5, .int y5), (6, .int y6), (7, .int y7)]) hx hb dX7_best_94 hl (by decide) rfl (fun ls hl => ?_)
        refine lv_aload_n hx hb dX7_best_96 rfl (lv_at hl 2 rfl) ?_
        refine va_get (D := (dC, dI)) (ci := 7) (v := .ref (aS 3)) (C := RX7) (T := TX7) (N := 21) hx hb hts u_X7_best_X7 hown hK hP 0 rfl rfl 3 (by decide) (hts _ k_X7_best_3) (fun _ h9 => h9) rfl dX7_best_97 ?_
        refine lv_aload_n hx hb dX7_best_100 rfl (lv_at hl 2 rfl) ?_
        refine va_get (D := (dC, dI)) (ci := 7) (v := .ref (aS 0)) (C := RX7) (T := TX7) (N := 21) hx hb hts u_X7_best_X7 hown hK hP 0 rfl rfl 0 (by decide) (hts _ k_X7_best_2) (fun _ h9 => h9) rfl dX7_best_101 ?_
        obtain ⟨R16, e_16, hf⟩ := zbind_ex hf
        refine z_callM (gs2 := [(wX7 cI qS aS R16)]) hP hD hS hA [0] [] rfl rfl rfl (show List.Perm [0] (List.range 1) from by decide) rfl (va_runS (As := [.ref (aS 3), .ref (aS 0)]) (rest := []) ⟨hx, hb, hml, hown, hts⟩ (c_X7_copies_3_0 l dC dI cI cC cO qS aS R15.2  R16 e_16 H.size) (va_cwS 2 hts gX7_best_X7_copies rfl rfl rfl (by decide +kernel) ⟨Nat.le_of_ble_eq_true rfl, Nat.le_of_ble_eq_true rfl⟩) ⟨zpM_blind, z_useM hK hN hP hD [0] [] rfl (show List.Perm [0] (List.range 1) from by decide)⟩ rfl rfl hl.1 rfl (lv_room (Nat.le_of_ble_eq_true rfl)) dX7_best_104 ⟨Nat.le_of_ble_eq_true rfl, Nat.le_of_ble_eq_true rfl⟩) (fun H locs hP hD hS => ?_)
        refine W.eq (g2 := F0 m 107 ls []) rfl ?_
        refine lv_iload hx hb dX7_best_107 (lv_at hl 6 rfl) ?_
        refine lv_if_lt (tgt := 133) hx hb dX7_best_109 (by decide) (fun c_17 => ?_) (fun c_17 => ?_)
        · have hf := zif_t hf c_17
          exact w133  y1 y2 y3 y4 y5 y6 y7 R14 R15.1 R16 H locs ls hf hP hD hS (lv_sub hl [2, 3, 4, 5, 6, 7, 8, 9, 1, 0] rfl)
        · have hf := zif_f hf c_17
          refine lv_iload hx hb dX7_best_112 (lv_at hl 1 rfl) ?_
          refine lv_iload hx hb dX7_best_114 (lv_at hl 7 rfl) ?_
          refine lv_icmp_gt (tgt := 133) hx hb dX7_best_116 (by decide) (fun c_18 => ?_) (fun c_18 => ?_)
          · have hf := zif_t hf c_18
            exact w133  y1 y2 y3 y4 y5 y6 y7 R14 R15.1 R16 H locs ls hf hP hD hS (lv_sub hl [2, 3, 4, 5, 6, 7, 8, 9, 1, 0] rfl)
          · have hf := zif_f hf c_18
            refine lv_iload hx hb dX7_best_119 (lv_at hl 1 rfl) ?_
            refine lv_iload hx hb dX7_best_121 (lv_at hl 7 rfl) ?_
            refine lv_icmp_ne (tgt := 137) hx hb dX7_best_123 (by decide) (fun c_19 => ?_) (fun c_19 => ?_)
            · have hf := zif_f hf c_19
              exact w137  y1 y2 y3 y4 y5 y6 y7 R14 R15.1 R16 H locs ls hf hP hD hS (lv_sub hl [2, 3, 4, 5, 6, 7, 8, 9, 1, 0] rfl)
            · have hf := zif_t hf c_19
              refine lv_iload hx hb dX7_best_126 (lv_at hl 0 rfl) ?_
              refine lv_iload hx hb dX7_best_128 (lv_at hl 8 rfl) ?_
              refine lv_icmp_ge (tgt := 137) hx hb dX7_best_130 (by decide) (fun c_20 => ?_) (fun c_20 => ?_)
              · have hf := zif_t hf c_20
                exact w137  y1 y2 y3 y4 y5 y6 y7 R14 R15.1 R16 H locs ls hf hP hD hS (lv_sub hl [2, 3, 4, 5, 6, 7, 8, 9, 1, 0] rfl)
              · have hf := zif_f hf c_20
                exact w133  y1 y2 y3 y4 y5 y6 y7 R14 R15.1 R16 H locs ls hf hP hD hS (lv_sub hl [2, 3, 4, 5, 6, 7, 8, 9, 1, 0] rfl)
      intro y1 y2 y3 y4 y5 y6 y7 gS H locs ls hf hP hD hS hl
      have hf : f_X7_best_47_b   (f_X7_best_47   n47) y1 y2 y3 y4 y5 y6 y7 gS = some R := hf
      unfold f_X7_best_47_b at hf
      refine lv_iload hx hb dX7_best_47 (lv_at hl 7 rfl) ?_
      refine lv_sipush (v := (1000 : Int32)) hx hb dX7_best_49 (by decide) ?_
      refine lv_icmp_ge (tgt := 188) hx hb dX7_best_52 (by decide) (fun c_6 => ?_) (fun c_6 => ?_)
      · have hf := zif_t hf c_6
        refine lv_iload_n hx hb dX7_best_188 rfl (lv_at hl 2 rfl) ?_
        refine lv_if_ne (tgt := 197) hx hb dX7_best_189 (by decide) (fun c_7 => ?_) (fun c_7 => ?_)
        · have hf := zif_f hf c_7
          refine lv_iload_n hx hb dX7_best_197 rfl (lv_at hl 2 rfl) ?_
          refine lv_iconst (v := (1 : Int32)) hx hb dX7_best_198 (by decide) ?_
          refine lv_icmp_ne (tgt := 207) hx hb dX7_best_199 (by decide) (fun c_8 => ?_) (fun c_8 => ?_)
          · have hf := zif_f hf c_8
            refine lv_iload hx hb dX7_best_207 (lv_at hl 6 rfl) ?_
            exact zM_ret (gs := [(wX7 cI qS aS gS)]) hx hb hr rfl hP hD hS (by rw [← Option.some.inj hf]; exact ⟨rfl, rfl⟩) hlk dX7_best_209
          · have hf := zif_t hf c_8
            refine lv_iload hx hb dX7_best_202 (lv_at hl 5 rfl) ?_
            refine lv_goto (tgt := 209) hx hb dX7_best_204 (by decide) ?_
            exact zM_ret (gs := [(wX7 cI qS aS gS)]) hx hb hr rfl hP hD hS (by rw [← Option.some.inj hf]; exact ⟨rfl, rfl⟩) hlk dX7_best_209
        · have hf := zif_t hf c_7
          refine lv_iload hx hb dX7_best_192 (lv_at hl 4 rfl) ?_
          refine lv_goto (tgt := 209) hx hb dX7_best_194 (by decide) ?_
          exact zM_ret (gs := [(wX7 cI qS aS gS)]) hx hb hr rfl hP hD hS (by rw [← Option.some.inj hf]; exact ⟨rfl, rfl⟩) hlk dX7_best_209
      · have hf := zif_f hf c_6
        refine lv_iload hx hb dX7_best_55 (lv_at hl 7 rfl) ?_
        refine lv_iload_n hx hb dX7_best_57 rfl (lv_at hl 1 rfl) ?_
        refine lv_icmp_eq (tgt := 70) hx hb dX7_best_58 (by decide) (fun c_9 => ?_) (fun c_9 => ?_)
        · have hf := zif_t hf c_9
          exact w70  y1 y2 y3 y4 y5 y6 y7 gS H locs ls hf hP hD hS (lv_sub hl [0, 1, 2, 3, 4, 5, 6, 7] rfl)
        · have hf := zif_f hf c_9
          refine lv_aload_n hx hb dX7_best_61 rfl (lv_at hl 0 rfl) ?_
          refine lv_iload hx hb dX7_best_62 (lv_at hl 7 rfl) ?_
          obtain ⟨R10, e_10, hf⟩ := zbind_ex hf
          refine z_callRi (va_runV (As := [.int y7]) (rest := []) ⟨hx, hb, hml, hown, hts⟩ (c_X7_at l dC dI cI cC cO qS aS gS y7 R10 e_10) (cwV 1 hts gX7_best_X7_at rfl rfl rfl (by decide +kernel) ⟨Nat.le_of_ble_eq_true rfl, Nat.le_of_ble_eq_true rfl⟩) ⟨zpR_blind, va_recv hK hP (ci := 7) (q0 := 0) rfl rfl, z_useR hK hN hP [0] rfl⟩ rfl rfl hl.1 rfl (lv_room (Nat.le_of_ble_eq_true rfl)) dX7_best_64 ⟨Nat.le_of_ble_eq_true rfl, Nat.le_of_ble_eq_true rfl⟩) ?_
          refine lv_if_ge (tgt := 182) hx hb dX7_best_67 (by decide) (fun c_11 => ?_) (fun c_11 => ?_)
          · have hf := zif_t hf c_11
            refine lv_iinc (v := (y7 + (10 : Int32))) (lv' := [(7, .int (y7 + (10 : Int32))), (0, .ref qS), (1, .int y1), (2, .int y2), (3, .int y3), (4, .int y4), (5, .int y5), (6, .int y6)]) hx hb dX7_best_182 hl (k := 7) rfl rfl (by decide) rfl (fun ls hl => ?_)
            refine lv_goto (tgt := 47) hx hb dX7_best_185 (by decide) ?_
            exact ih47 y1 y2 y3 y4 y5 y6 (y7 + (10 : Int32)) gS H locs ls hf hP hD hS (lv_sub hl [1, 2, 3, 4, 5, 6, 7, 0] rfl)
          · have hf := zif_f hf c_11
            exact w70  y1 y2 y3 y4 y5 y6 y7 gS H locs ls hf hP hD hS (lv_sub hl [0, 1, 2, 3, 4, 5, 6, 7] rfl)
  unfold f_X7_best at hf
  obtain ⟨H, hH⟩ : ∃ H, H = s.heap := ⟨_, rfl⟩
  obtain ⟨locs, hlocs⟩ : ∃ locs : List Loc, locs = [] := ⟨_, rfl⟩
  have hS : va_S A s.heap H locs := by rw [hH, hlocs]; exact hS
  rw [← hH] at hP
  refine zheap hH hlocs ?_
  refine lv_aload_n hx hb dX7_best_0 rfl (lv_at hl 0 rfl) ?_
  refine lv_iload_n hx hb dX7_best_1 rfl (lv_at hl 1 rfl) ?_
  obtain ⟨R1, e_1, hf⟩ := zbind_ex hf
  refine z_callRi (va_runV (As := [.int x1]) (rest := []) ⟨hx, hb, hml, hown, hts⟩ (c_X7_at l dC dI cI cC cO qS aS gS x1 R1 e_1) (cwV 1 hts gX7_best_X7_at rfl rfl rfl (by decide +kernel) ⟨Nat.le_of_ble_eq_true rfl, Nat.le_of_ble_eq_true rfl⟩) ⟨zpR_blind, va_recv hK hP (ci := 7) (q0 := 0) rfl rfl, z_useR hK hN hP [0] rfl⟩ rfl rfl hl.1 rfl (lv_room (Nat.le_of_ble_eq_true rfl)) dX7_best_2 ⟨Nat.le_of_ble_eq_true rfl, Nat.le_of_ble_eq_true rfl⟩) ?_
  refine lv_istore_n (lv' := [(3, .int R1), (0, .ref qS), (1, .int x1), (2, .int x2)]) hx hb dX7_best_5 rfl hl (by decide) rfl (fun ls hl => ?_)
  refine lv_iload_n hx hb dX7_best_6 rfl (lv_at hl 0 rfl) ?_
  refine lv_if_lt (tgt := 19) hx hb dX7_best_7 (by decide) (fun c_2 => ?_) (fun c_2 => ?_)
  · have hf := zif_t hf c_2
    refine lv_ldc (v := (-1000000001 : Int32)) hx hb hown (hts _ k_X7_best_1) dX7_best_19 ?_
    exact zM_ret (gs := [(wX7 cI qS aS gS)]) hx hb hr rfl hP hD hS (by rw [← Option.some.inj hf]; exact ⟨rfl, rfl⟩) hlk dX7_best_21
  · have hf := zif_f hf c_2
    refine lv_iload_n hx hb dX7_best_10 rfl (lv_at hl 3 rfl) ?_
    refine lv_iconst (v := (0 : Int32)) hx hb dX7_best_11 (by decide) ?_
    refine lv_iconst (v := (2 : Int32)) hx hb dX7_best_12 (by decide) ?_
    obtain ⟨R3, e_3, hf⟩ := zbind_ex hf
    refine z_callRi (va_runS (As := [.int x2, .int (0 : Int32), .int (2 : Int32)]) (rest := []) ⟨hx, hb, hml, hown, hts⟩ (c_X7_in l dC dI cI cC cO  x2 (0 : Int32) (2 : Int32) R3 e_3) (va_cwS 3 hts gX7_best_X7_in rfl rfl rfl (by decide +kernel) ⟨Nat.le_of_ble_eq_true rfl, Nat.le_of_ble_eq_true rfl⟩) ⟨zpR_blind, z_useR hK hN hP [] rfl⟩ rfl rfl hl.1 rfl (lv_room (Nat.le_of_ble_eq_true rfl)) dX7_best_13 ⟨Nat.le_of_ble_eq_true rfl, Nat.le_of_ble_eq_true rfl⟩) ?_
    refine lv_if_ne (tgt := 22) hx hb dX7_best_16 (by decide) (fun c_4 => ?_) (fun c_4 => ?_)
    · have hf := zif_f hf c_4
      refine lv_aload_n hx hb dX7_best_22 rfl (lv_at hl 1 rfl) ?_
      refine va_get (D := (dC, dI)) (ci := 7) (v := .ref (aS 0)) (C := RX7) (T := TX7) (N := 21) hx hb hts u_X7_best_X7 hown hK hP 0 rfl rfl 0 (by decide) (hts _ k_X7_best_2) (fun _ h9 => h9) rfl dX7_best_23 ?_
      refine lv_aload_n hx hb dX7_best_26 rfl (lv_at hl 1 rfl) ?_
      refine va_get (D := (dC, dI)) (ci := 7) (v := .ref (aS 3)) (C := RX7) (T := TX7) (N := 21) hx hb hts u_X7_best_X7 hown hK hP 0 rfl rfl 3 (by decide) (hts _ k_X7_best_3) (fun _ h9 => h9) rfl dX7_best_27 ?_
      obtain ⟨R5, e_5, hf⟩ := zbind_ex hf
      refine z_callM (gs2 := [(wX7 cI qS aS R5)]) hP hD hS hA [0] [] rfl rfl rfl (show List.Perm [0] (List.range 1) from by decide) rfl (va_runS (As := [.ref (aS 0), .ref (aS 3)]) (rest := []) ⟨hx, hb, hml, hown, hts⟩ (c_X7_copies_0_3 l dC dI cI cC cO qS aS gS  R5 e_5 H.size) (va_cwS 2 hts gX7_best_X7_copies rfl rfl rfl (by decide +kernel) ⟨Nat.le_of_ble_eq_true rfl, Nat.le_of_ble_eq_true rfl⟩) ⟨zpM_blind, z_useM hK hN hP hD [0] [] rfl (show List.Perm [0] (List.range 1) from by decide)⟩ rfl rfl hl.1 rfl (lv_room (Nat.le_of_ble_eq_true rfl)) dX7_best_30 ⟨Nat.le_of_ble_eq_true rfl, Nat.le_of_ble_eq_true rfl⟩) (fun H locs hP hD hS => ?_)
      refine W.eq (g2 := F0 m 33 ls []) rfl ?_
      refine lv_ldc (v := (-1000000004 : Int32)) hx hb hown (hts _ k_X7_best_4) dX7_best_33 ?_
      refine lv_istore (lv' := [(4, .int (-1000000004 : Int32)), (3, .int R1), (0, .ref qS), (1, .int x1), (2, .int x2)]) hx hb dX7_best_35 hl (by decide) rfl (fun ls hl => ?_)
      refine lv_iconst (v := (0 : Int32)) hx hb dX7_best_37 (by decide) ?_
      refine lv_istore (lv' := [(5, .int (0 : Int32)), (4, .int (-1000000004 : Int32)), (3, .int R1), (0, .ref qS), (1, .int x1), (2, .int x2)]) hx hb dX7_best_38 hl (by decide) rfl (fun ls hl => ?_)
      refine lv_iconst (v := (0 : Int32)) hx hb dX7_best_40 (by decide) ?_
      refine lv_istore (lv' := [(6, .int (0 : Int32)), (5, .int (0 : Int32)), (4, .int (-1000000004 : Int32)), (3, .int R1), (0, .ref qS), (1, .int x1), (2, .int x2)]) hx hb dX7_best_41 hl (by decide) rfl (fun ls hl => ?_)
      refine lv_bipush (v := (10 : Int32)) hx hb dX7_best_43 (by decide) ?_
      refine lv_istore (lv' := [(7, .int (10 : Int32)), (6, .int (0 : Int32)), (5, .int (0 : Int32)), (4, .int (-1000000004 : Int32)), (3, .int R1), (0, .ref qS), (1, .int x1), (2, .int x2)]) hx hb dX7_best_45 hl (by decide) rfl (fun ls hl => ?_)
      exact w47 zfuel x1 x2 R1 (-1000000004 : Int32) (0 : Int32) (0 : Int32) (10 : Int32) R5 H locs ls hf hP hD hS (lv_sub hl [5, 6, 7, 4, 3, 2, 1, 0] rfl)
    · have hf := zif_t hf c_4
      refine lv_ldc (v := (-1000000001 : Int32)) hx hb hown (hts _ k_X7_best_1) dX7_best_19 ?_
      exact zM_ret (gs := [(wX7 cI qS aS gS)]) hx hb hr rfl hP hD hS (by rw [← Option.some.inj hf]; exact ⟨rfl, rfl⟩) hlk dX7_best_21

def f_X7_alone_111   (y2 : Int32) (y3 : Int32) (y4 : Int32) (y5 : Int32) (gS : zG) : Option (Int32 × zG) := (zbind (f_X7_at gS y2) (fun R15 => (if 0 ≤ R15 then (some ((-1000000002 : Int32), gS)) else (if y5 = 0 then (if y3 = 0 then (some ((-1000000004 : Int32), gS)) else (some (y4, gS))) else (some ((-1000000002 : Int32), gS))))))
def f_X7_alone_98  (k49 : Int32 → Int32 → Int32 → Int32 → Int32 → Int32 → zG → Option (Int32 × zG)) (y1 : Int32) (y2 : Int32) (y3 : Int32) (y4 : Int32) (y6 : Int32) (gS : zG) : Option (Int32 × zG) := (k49 y1 y2 y3 y4 (1 : Int32) (y6 + (1 : Int32)) gS)
def f_X7_alone_49_b   (k49 : Int32 → Int32 → Int32 → Int32 → Int32 → Int32 → zG → Option (Int32 × zG)) (y1 : Int32) (y2 : Int32) (y3 : Int32) (y4 : Int32) (y5 : Int32) (y6 : Int32) (gS : zG) : Option (Int32 × zG) := (zin (0 : Int32) 59 (if (gS 0 (0 : Int32).toNatClampNeg) ≤ y6 then (f_X7_alone_111    y2 y3 y4 y5 gS) else (if y3 = 0 then (f_X7_alone_111    y2 y3 y4 y5 gS) else (zbind (f_X7_follows gS y6 y2) (fun R10 => (if y5 = 0 then (if y6 = y1 then (k49 y1 y2 y3 y4 (0 : Int32) (y6 + (1 : Int32)) R10) else (if (R10 11 0) = 0 then (if (R10 9 0) = y4 then (f_X7_alone_98  k49  y1 y2 y3 y4 y6 R10) else (k49 y1 y2 y3 y4 (0 : Int32) (y6 + (1 : Int32)) R10)) else (k49 y1 y2 y3 y4 (0 : Int32) (y6 + (1 : Int32)) R10))) else (f_X7_alone_98  k49  y1 y2 y3 y4 y6 R10)))))))
def f_X7_alone_49   : Nat → Int32 → Int32 → Int32 → Int32 → Int32 → Int32 → zG → Option (Int32 × zG)
  | 0 => fun _ _ _ _ _ _ _ => none
  | n + 1 => f_X7_alone_49_b   (f_X7_alone_49   n)
def f_X7_alone_36   (y1 : Int32) (y2 : Int32) (s0 : Int32) (gS : zG) : Option (Int32 × zG) := (f_X7_alone_49   zfuel y1 y2 s0 (gS 9 0) (0 : Int32) (0 : Int32) gS)
def f_X7_alone (gS : zG) (x1 : Int32) (x2 : Int32) : Option (Int32 × zG) := (zbind (f_X7_isLine gS x1) (fun R1 => (if R1 = 0 then (some ((-1000000001 : Int32), gS)) else (zbind (f_X7_isPlace x2) (fun R3 => (if R3 = 0 then (some ((-1000000001 : Int32), gS)) else (zbind (f_X7_follows gS x1 x2) (fun R5 => (if (R5 11 0) = 0 then (f_X7_alone_36    x1 x2 (1 : Int32) R5) else (f_X7_alone_36    x1 x2 (0 : Int32) R5))))))))))
theorem u_X7_alone_X7 : ∀ w ∈ u_ws RX7 TX7 21, w ∈ wsX7_alone := fun w h => List.mem_cons_of_mem _ (List.mem_append_right _ h)
theorem k_X7_alone_1 : Cond.constant RX7 51 (-1000000001) ∈ wsX7_alone := List.mem_of_getElem? (i := 1) rfl
theorem k_X7_alone_2 : Cond.fieldLink RX7 100 "JoinedLightModel" "why" "I" ∈ wsX7_alone := List.mem_of_getElem? (i := 2) rfl
theorem k_X7_alone_3 : Cond.fieldLink RX7 88 "JoinedLightModel" "height" "I" ∈ wsX7_alone := List.mem_of_getElem? (i := 3) rfl
theorem k_X7_alone_4 : Cond.fieldLink RX7 7 "JoinedLightModel" "s" "[I" ∈ wsX7_alone := List.mem_of_getElem? (i := 4) rfl
theorem k_X7_alone_5 : Cond.constant RX7 67 (-1000000002) ∈ wsX7_alone := List.mem_of_getElem? (i := 5) rfl
theorem k_X7_alone_6 : Cond.constant RX7 46 (-1000000004) ∈ wsX7_alone := List.mem_of_getElem? (i := 6) rfl
abbrev rm_X7_alone : Room := { frames := 3, cells := 0, slots := 0, locals := 66 }
set_option maxHeartbeats 4000000 in
set_option maxRecDepth 100000 in
theorem c_X7_alone (l : Launch) (dC : Nat → ClassId) (dI : Nat → Nat → Nat) (cI cC cO : ClassId) (qS : Nat) (aS : Nat → Nat) (gS : zG) (x1 : Int32) (x2 : Int32) (R : Int32 × zG) (hf : f_X7_alone gS x1 x2 = some R) : cM l (dC, dI) (zT cI cC cO) yX7_alone wsX7_alone rm_X7_alone [.ref qS, .int x1, .int x2] [(wX7 cI qS aS gS)] [(wX7 cI qS aS R.2)] (some (.int R.1)) 0 0 := by
  refine zM_in (cc := cX7_alone) (maxL := 7) (ret := (some .int)) (plainFor_of_name (by decide)) rfl (Nat.le_of_ble_eq_true rfl) ?_
  intro p e s m below meth c hx hb hml hr hlk hown hts hK hN A hA hP hD hS ls hl
  have hl : lv_has ls 7 [(0, .ref qS), (1, .int x1), (2, .int x2)] := hl
  have w111 : ∀ (y2 : Int32) (y3 : Int32) (y4 : Int32) (y5 : Int32) (gS : zG) (H : Heap) (locs : List Loc) (ls : Array Slot), f_X7_alone_111    y2 y3 y4 y5 gS = some R → va_P (dC, dI) vwCl [(wX7 cI qS aS gS)].flatten H → va_D A [(wX7 cI qS aS gS)].flatten → va_S A s.heap H locs → lv_has ls 7 [(0, .ref qS), (2, .int y2), (3, .int y3), (4, .int y4), (5, .int y5)] → W p l e (headSpec wsX7_alone rm_X7_alone).room s m [.ref qS, .int x1, .int x2].toArray below meth c H locs 0 0 (MQ below (zqM (dC, dI) (some (.int R.1)) [(wX7 cI qS aS R.2)] A) [.ref qS, .int x1, .int x2].toArray s 0 0 A) (F0 m 111 ls []) := by
    intro y2 y3 y4 y5 gS H locs ls hf hP hD hS hl
    unfold f_X7_alone_111 at hf
    refine lv_aload_n hx hb dX7_alone_111 rfl (lv_at hl 0 rfl) ?_
    refine lv_iload_n hx hb dX7_alone_112 rfl (lv_at hl 1 rfl) ?_
    obtain ⟨R15, e_15, hf⟩ := zbind_ex hf
    refine z_callRi (va_runV (As := [.int y2]) (rest := []) ⟨hx, hb, hml, hown, hts⟩ (c_X7_at l dC dI cI cC cO qS aS gS y2 R15 e_15) (cwV 1 hts gX7_alone_X7_at rfl rfl rfl (by decide +kernel) ⟨Nat.le_of_ble_eq_true rfl, Nat.le_of_ble_eq_true rfl⟩) ⟨zpR_blind, va_recv hK hP (ci := 7) (q0 := 0) rfl rfl, z_useR hK hN hP [0] rfl⟩ rfl rfl hl.1 rfl (lv_room (Nat.le_of_ble_eq_true rfl)) dX7_alone_113 ⟨Nat.le_of_ble_eq_true rfl, Nat.le_of_ble_eq_true rfl⟩) ?_
    refine lv_if_ge (tgt := 124) hx hb dX7_alone_116 (by decide) (fun c_16 => ?_) (fun c_16 => ?_)
    · have hf := zif_t hf c_16
      refine lv_ldc (v := (-1000000002 : Int32)) hx hb hown (hts _ k_X7_alone_5) dX7_alone_124 ?_
      refine lv_goto (tgt := 140) hx hb dX7_alone_126 (by decide) ?_
      exact zM_ret (gs := [(wX7 cI qS aS gS)]) hx hb hr rfl hP hD hS (by rw [← Option.some.inj hf]; exact ⟨rfl, rfl⟩) hlk dX7_alone_140
    · have hf := zif_f hf c_16
      refine lv_iload hx hb dX7_alone_119 (lv_at hl 4 rfl) ?_
      refine lv_if_eq (tgt := 129) hx hb dX7_alone_121 (by decide) (fun c_17 => ?_) (fun c_17 => ?_)
      · have hf := zif_t hf c_17
        refine lv_iload_n hx hb dX7_alone_129 rfl (lv_at hl 2 rfl) ?_
        refine lv_if_eq (tgt := 138) hx hb dX7_alone_130 (by decide) (fun c_18 => ?_) (fun c_18 => ?_)
        · have hf := zif_t hf c_18
          refine lv_ldc (v := (-1000000004 : Int32)) hx hb hown (hts _ k_X7_alone_6) dX7_alone_138 ?_
          exact zM_ret (gs := [(wX7 cI qS aS gS)]) hx hb hr rfl hP hD hS (by rw [← Option.some.inj hf]; exact ⟨rfl, rfl⟩) hlk dX7_alone_140
        · have hf := zif_f hf c_18
          refine lv_iload hx hb dX7_alone_133 (lv_at hl 3 rfl) ?_
          refine lv_goto (tgt := 140) hx hb dX7_alone_135 (by decide) ?_
          exact zM_ret (gs := [(wX7 cI qS aS gS)]) hx hb hr rfl hP hD hS (by rw [← Option.some.inj hf]; exact ⟨rfl, rfl⟩) hlk dX7_alone_140
      · have hf := zif_f hf c_17
        refine lv_ldc (v := (-1000000002 : Int32)) hx hb hown (hts _ k_X7_alone_5) dX7_alone_124 ?_
        refine lv_goto (tgt := 140) hx hb dX7_alone_126 (by decide) ?_
        exact zM_ret (gs := [(wX7 cI qS aS gS)]) hx hb hr rfl hP hD hS (by rw [← Option.some.inj hf]; exact ⟨rfl, rfl⟩) hlk dX7_alone_140
  have w49 : ∀ (n49 : Nat) (y1 : Int32) (y2 : Int32) (y3 : Int32) (y4 : Int32) (y5 : Int32) (y6 : Int32) (gS : zG) (H : Heap) (locs : List Loc) (ls : Array Slot), f_X7_alone_49   n49 y1 y2 y3 y4 y5 y6 gS = some R → va_P (dC, dI) vwCl [(wX7 cI qS aS gS)].flatten H → va_D A [(wX7 cI qS aS gS)].flatten → va_S A s.heap H locs → lv_has ls 7 [(0, .ref qS), (1, .int y1), (2, .int y2), (3, .int y3), (4, .int y4), (5, .int y5), (6, .int y6)] → W p l e (headSpec wsX7_alone rm_X7_alone).room s m [.ref qS, .int x1, .int x2].toArray below meth c H locs 0 0 (MQ below (zqM (dC, dI) (some (.int R.1)) [(wX7 cI qS aS R.2)] A) [.ref qS, .int x1, .int x2].toArray s 0 0 A) (F0 m 49 ls []) := by
    intro n49
    induction n49 with
    | zero =>
      intro y1 y2 y3 y4 y5 y6 gS H locs ls hf hP hD hS hl
      have hf : (none : Option (Int32 × zG)) = some R := hf
      cases hf
    | succ n49 ih49 =>
      have w98 : ∀ (y1 : Int32) (y2 : Int32) (y3 : Int32) (y4 : Int32) (y6 : Int32) (gS : zG) (H : Heap) (locs : List Loc) (ls : Array Slot), f_X7_alone_98  (f_X7_alone_49   n49)  y1 y2 y3 y4 y6 gS = some R → va_P (dC, dI) vwCl [(wX7 cI qS aS gS)].flatten H → va_D A [(wX7 cI qS aS gS)].flatten → va_S A s.heap H locs → lv_has ls 7 [(0, .ref qS), (1, .int y1), (2, .int y2), (3, .int y3), (4, .int y4), (6, .int y6)] → W p l e (headSpec wsX7_alone rm_X7_alone).room s m [.ref qS, .int x1, .int x2].toArray below meth c H locs 0 0 (MQ below (zqM (dC, dI) (some (.int R.1)) [(wX7 cI qS aS R.2)] A) [.ref qS, .int x1, .int x2].toArray s 0 0 A) (F0 m 98 ls []) := by
        intro y1 y2 y3 y4 y6 gS H locs ls hf hP hD hS hl
        unfold f_X7_alone_98 at hf
        refine lv_iconst (v := (1 : Int32)) hx hb dX7_alone_98 (by decide) ?_
        refine lv_goto (tgt := 103) hx hb dX7_alone_99 (by decide) ?_
        refine lv_istore (lv' := [(5, .int (1 : Int32)), (0, .ref qS), (1, .int y1), (2, .int y2), (3, .int y3), (4, .int y4), (6, .int y6)]) hx hb dX7_alone_103 hl (by decide) rfl (fun ls hl => ?_)
        refine lv_iinc (v := (y6 + (1 : Int32))) (lv' := [(6, .int (y6 + (1 : Int32))), (5, .int (1 : Int32)), (0, .ref qS), (1, .int y1), (2, .int y2), (3, .int y3), (4, .int y4)]) hx hb dX7_alone_105 hl (k := 6) rfl rfl (by decide) rfl (fun ls hl => ?_)
        refine lv_goto (tgt := 49) hx hb dX7_alone_108 (by decide) ?_
        exact ih49 y1 y2 y3 y4 (1 : Int32) (y6 + (1 : Int32)) gS H locs ls hf hP hD hS (lv_sub hl [2, 3, 4, 5, 6, 1, 0] rfl)
      intro y1 y2 y3 y4 y5 y6 gS H locs ls hf hP hD hS hl
      have hf : f_X7_alone_49_b   (f_X7_alone_49   n49) y1 y2 y3 y4 y5 y6 gS = some R := hf
      unfold f_X7_alone_49_b at hf
      refine lv_iload hx hb dX7_alone_49 (lv_at hl 6 rfl) ?_
      refine lv_aload_n hx hb dX7_alone_51 rfl (lv_at hl 0 rfl) ?_
      refine va_get (D := (dC, dI)) (ci := 7) (v := .ref (aS 0)) (C := RX7) (T := TX7) (N := 21) hx hb hts u_X7_alone_X7 hown hK hP 0 rfl rfl 0 (by decide) (hts _ k_X7_alone_4) (fun _ h9 => h9) rfl dX7_alone_52 ?_
      refine lv_iconst (v := (0 : Int32)) hx hb dX7_alone_55 (by decide) ?_
      obtain ⟨h_7, hf⟩ := zin_ex hf
      refine va_iald hx hb hK hP 1 0 rfl rfl h_7 dX7_alone_56 ?_
      refine lv_icmp_ge (tgt := 111) hx hb dX7_alone_57 (by decide) (fun c_8 => ?_) (fun c_8 => ?_)
      · have hf := zif_t hf c_8
        exact w111  y2 y3 y4 y5 gS H locs ls hf hP hD hS (lv_sub hl [0, 2, 3, 4, 5] rfl)
      · have hf := zif_f hf c_8
        refine lv_iload_n hx hb dX7_alone_60 rfl (lv_at hl 3 rfl) ?_
        refine lv_if_eq (tgt := 111) hx hb dX7_alone_61 (by decide) (fun c_9 => ?_) (fun c_9 => ?_)
        · have hf := zif_t hf c_9
          exact w111  y2 y3 y4 y5 gS H locs ls hf hP hD hS (lv_sub hl [0, 2, 3, 4, 5] rfl)
        · have hf := zif_f hf c_9
          refine lv_aload_n hx hb dX7_alone_64 rfl (lv_at hl 0 rfl) ?_
          refine lv_iload hx hb dX7_alone_65 (lv_at hl 6 rfl) ?_
          refine lv_iload_n hx hb dX7_alone_67 rfl (lv_at hl 2 rfl) ?_
          obtain ⟨R10, e_10, hf⟩ := zbind_ex hf
          refine z_callM (gs2 := [(wX7 cI qS aS R10)]) hP hD hS hA [0] [] rfl rfl rfl (show List.Perm [0] (List.range 1) from by decide) rfl (va_runV (As := [.int y6, .int y2]) (rest := []) ⟨hx, hb, hml, hown, hts⟩ (c_X7_follows l dC dI cI cC cO qS aS gS y6 y2 R10 e_10 H.size) (cwV 2 hts gX7_alone_X7_follows rfl rfl rfl (by decide +kernel) ⟨Nat.le_of_ble_eq_true rfl, Nat.le_of_ble_eq_true rfl⟩) ⟨zpM_blind, va_recv hK hP (ci := 7) (q0 := 0) rfl rfl, z_useM hK hN hP hD [0] [] rfl (show List.Perm [0] (List.range 1) from by decide)⟩ rfl rfl hl.1 rfl (lv_room (Nat.le_of_ble_eq_true rfl)) dX7_alone_68 ⟨Nat.le_of_ble_eq_true rfl, Nat.le_of_ble_eq_true rfl⟩) (fun H locs hP hD hS => ?_)
          refine W.eq (g2 := F0 m 71 ls []) rfl ?_
          refine lv_iload hx hb dX7_alone_71 (lv_at hl 5 rfl) ?_
          refine lv_if_ne (tgt := 98) hx hb dX7_alone_73 (by decide) (fun c_11 => ?_) (fun c_11 => ?_)
          · have hf := zif_f hf c_11
            exact w98  y1 y2 y3 y4 y6 R10 H locs ls hf hP hD hS (lv_sub hl [0, 1, 2, 3, 4, 6] rfl)
          · have hf := zif_t hf c_11
            refine lv_iload hx hb dX7_alone_76 (lv_at hl 6 rfl) ?_
            refine lv_iload_n hx hb dX7_alone_78 rfl (lv_at hl 1 rfl) ?_
            refine lv_icmp_eq (tgt := 102) hx hb dX7_alone_79 (by decide) (fun c_12 => ?_) (fun c_12 => ?_)
            · have hf := zif_t hf c_12
              refine lv_iconst (v := (0 : Int32)) hx hb dX7_alone_102 (by decide) ?_
              refine lv_istore (lv' := [(5, .int (0 : Int32)), (0, .ref qS), (1, .int y1), (2, .int y2), (3, .int y3), (4, .int y4), (6, .int y6)]) hx hb dX7_alone_103 hl (by decide) rfl (fun ls hl => ?_)
              refine lv_iinc (v := (y6 + (1 : Int32))) (lv' := [(6, .int (y6 + (1 : Int32))), (5, .int (0 : Int32)), (0, .ref qS), (1, .int y1), (2, .int y2), (3, .int y3), (4, .int y4)]) hx hb dX7_alone_105 hl (k := 6) rfl rfl (by decide) rfl (fun ls hl => ?_)
              refine lv_goto (tgt := 49) hx hb dX7_alone_108 (by decide) ?_
              exact ih49 y1 y2 y3 y4 (0 : Int32) (y6 + (1 : Int32)) R10 H locs ls hf hP hD hS (lv_sub hl [2, 3, 4, 5, 6, 1, 0] rfl)
            · have hf := zif_f hf c_12
              refine lv_aload_n hx hb dX7_alone_82 rfl (lv_at hl 0 rfl) ?_
              refine va_get (D := (dC, dI)) (ci := 7) (v := .int (R10 11 0)) (C := RX7) (T := TX7) (N := 21) hx hb hts u_X7_alone_X7 hown hK hP 0 rfl rfl 11 (by decide) (hts _ k_X7_alone_2) (fun _ h9 => h9) rfl dX7_alone_83 ?_
              refine lv_if_ne (tgt := 102) hx hb dX7_alone_86 (by decide) (fun c_13 => ?_) (fun c_13 => ?_)
              · have hf := zif_f hf c_13
                refine lv_iconst (v := (0 : Int32)) hx hb dX7_alone_102 (by decide) ?_
                refine lv_istore (lv' := [(5, .int (0 : Int32)), (0, .ref qS), (1, .int y1), (2, .int y2), (3, .int y3), (4, .int y4), (6, .int y6)]) hx hb dX7_alone_103 hl (by decide) rfl (fun ls hl => ?_)
                refine lv_iinc (v := (y6 + (1 : Int32))) (lv' := [(6, .int (y6 + (1 : Int32))), (5, .int (0 : Int32)), (0, .ref qS), (1, .int y1), (2, .int y2), (3, .int y3), (4, .int y4)]) hx hb dX7_alone_105 hl (k := 6) rfl rfl (by decide) rfl (fun ls hl => ?_)
                refine lv_goto (tgt := 49) hx hb dX7_alone_108 (by decide) ?_
                exact ih49 y1 y2 y3 y4 (0 : Int32) (y6 + (1 : Int32)) R10 H locs ls hf hP hD hS (lv_sub hl [2, 3, 4, 5, 6, 1, 0] rfl)
              · have hf := zif_t hf c_13
                refine lv_aload_n hx hb dX7_alone_89 rfl (lv_at hl 0 rfl) ?_
                refine va_get (D := (dC, dI)) (ci := 7) (v := .int (R10 9 0)) (C := RX7) (T := TX7) (N := 21) hx hb hts u_X7_alone_X7 hown hK hP 0 rfl rfl 9 (by decide) (hts _ k_X7_alone_3) (fun _ h9 => h9) rfl dX7_alone_90 ?_
                refine lv_iload hx hb dX7_alone_93 (lv_at hl 4 rfl) ?_
                refine lv_icmp_ne (tgt := 102) hx hb dX7_alone_95 (by decide) (fun c_14 => ?_) (fun c_14 => ?_)
                · have hf := zif_f hf c_14
                  refine lv_iconst (v := (0 : Int32)) hx hb dX7_alone_102 (by decide) ?_
                  refine lv_istore (lv' := [(5, .int (0 : Int32)), (0, .ref qS), (1, .int y1), (2, .int y2), (3, .int y3), (4, .int y4), (6, .int y6)]) hx hb dX7_alone_103 hl (by decide) rfl (fun ls hl => ?_)
                  refine lv_iinc (v := (y6 + (1 : Int32))) (lv' := [(6, .int (y6 + (1 : Int32))), (5, .int (0 : Int32)), (0, .ref qS), (1, .int y1), (2, .int y2), (3, .int y3), (4, .int y4)]) hx hb dX7_alone_105 hl (k := 6) rfl rfl (by decide) rfl (fun ls hl => ?_)
                  refine lv_goto (tgt := 49) hx hb dX7_alone_108 (by decide) ?_
                  exact ih49 y1 y2 y3 y4 (0 : Int32) (y6 + (1 : Int32)) R10 H locs ls hf hP hD hS (lv_sub hl [2, 3, 4, 5, 6, 1, 0] rfl)
                · have hf := zif_t hf c_14
                  exact w98  y1 y2 y3 y4 y6 R10 H locs ls hf hP hD hS (lv_sub hl [0, 1, 2, 3, 4, 6] rfl)
  have w36 : ∀ (y1 : Int32) (y2 : Int32) (s0 : Int32) (gS : zG) (H : Heap) (locs : List Loc) (ls : Array Slot), f_X7_alone_36    y1 y2 s0 gS = some R → va_P (dC, dI) vwCl [(wX7 cI qS aS gS)].flatten H → va_D A [(wX7 cI qS aS gS)].flatten → va_S A s.heap H locs → lv_has ls 7 [(0, .ref qS), (1, .int y1), (2, .int y2)] → W p l e (headSpec wsX7_alone rm_X7_alone).room s m [.ref qS, .int x1, .int x2].toArray below meth c H locs 0 0 (MQ below (zqM (dC, dI) (some (.int R.1)) [(wX7 cI qS aS R.2)] A) [.ref qS, .int x1, .int x2].toArray s 0 0 A) (F0 m 36 ls [.int s0]) := by
    intro y1 y2 s0 gS H locs ls hf hP hD hS hl
    unfold f_X7_alone_36 at hf
    refine lv_istore_n (lv' := [(3, .int s0), (0, .ref qS), (1, .int y1), (2, .int y2)]) hx hb dX7_alone_36 rfl hl (by decide) rfl (fun ls hl => ?_)
    refine lv_aload_n hx hb dX7_alone_37 rfl (lv_at hl 1 rfl) ?_
    refine va_get (D := (dC, dI)) (ci := 7) (v := .int (gS 9 0)) (C := RX7) (T := TX7) (N := 21) hx hb hts u_X7_alone_X7 hown hK hP 0 rfl rfl 9 (by decide) (hts _ k_X7_alone_3) (fun _ h9 => h9) rfl dX7_alone_38 ?_
    refine lv_istore (lv' := [(4, .int (gS 9 0)), (3, .int s0), (0, .ref qS), (1, .int y1), (2, .int y2)]) hx hb dX7_alone_41 hl (by decide) rfl (fun ls hl => ?_)
    refine lv_iconst (v := (0 : Int32)) hx hb dX7_alone_43 (by decide) ?_
    refine lv_istore (lv' := [(5, .int (0 : Int32)), (4, .int (gS 9 0)), (3, .int s0), (0, .ref qS), (1, .int y1), (2, .int y2)]) hx hb dX7_alone_44 hl (by decide) rfl (fun ls hl => ?_)
    refine lv_iconst (v := (0 : Int32)) hx hb dX7_alone_46 (by decide) ?_
    refine lv_istore (lv' := [(6, .int (0 : Int32)), (5, .int (0 : Int32)), (4, .int (gS 9 0)), (3, .int s0), (0, .ref qS), (1, .int y1), (2, .int y2)]) hx hb dX7_alone_47 hl (by decide) rfl (fun ls hl => ?_)
    exact w49 zfuel y1 y2 s0 (gS 9 0) (0 : Int32) (0 : Int32) gS H locs ls hf hP hD hS (lv_sub hl [4, 5, 6, 3, 2, 1, 0] rfl)
  unfold f_X7_alone at hf
  obtain ⟨H, hH⟩ : ∃ H, H = s.heap := ⟨_, rfl⟩
  obtain ⟨locs, hlocs⟩ : ∃ locs : List Loc, locs = [] := ⟨_, rfl⟩
  have hS : va_S A s.heap H locs := by rw [hH, hlocs]; exact hS
  rw [← hH] at hP
  refine zheap hH hlocs ?_
  refine lv_aload_n hx hb dX7_alone_0 rfl (lv_at hl 0 rfl) ?_
  refine lv_iload_n hx hb dX7_alone_1 rfl (lv_at hl 1 rfl) ?_
  obtain ⟨R1, e_1, hf⟩ := zbind_ex hf
  refine z_callRi (va_runV (As := [.int x1]) (rest := []) ⟨hx, hb, hml, hown, hts⟩ (c_X7_isLine l dC dI cI cC cO qS aS gS x1 R1 e_1) (cwV 1 hts gX7_alone_X7_isLine rfl rfl rfl (by decide +kernel) ⟨Nat.le_of_ble_eq_true rfl, Nat.le_of_ble_eq_true rfl⟩) ⟨zpR_blind, va_recv hK hP (ci := 7) (q0 := 0) rfl rfl, z_useR hK hN hP [0] rfl⟩ rfl rfl hl.1 rfl (lv_room (Nat.le_of_ble_eq_true rfl)) dX7_alone_2 ⟨Nat.le_of_ble_eq_true rfl, Nat.le_of_ble_eq_true rfl⟩) ?_
  refine lv_if_eq (tgt := 15) hx hb dX7_alone_5 (by decide) (fun c_2 => ?_) (fun c_2 => ?_)
  · have hf := zif_t hf c_2
    refine lv_ldc (v := (-1000000001 : Int32)) hx hb hown (hts _ k_X7_alone_1) dX7_alone_15 ?_
    exact zM_ret (gs := [(wX7 cI qS aS gS)]) hx hb hr rfl hP hD hS (by rw [← Option.some.inj hf]; exact ⟨rfl, rfl⟩) hlk dX7_alone_17
  · have hf := zif_f hf c_2
    refine lv_iload_n hx hb dX7_alone_8 rfl (lv_at hl 2 rfl) ?_
    obtain ⟨R3, e_3, hf⟩ := zbind_ex hf
    refine z_callRi (va_runS (As := [.int x2]) (rest := []) ⟨hx, hb, hml, hown, hts⟩ (c_X7_isPlace l dC dI cI cC cO  x2 R3 e_3) (va_cwS 1 hts gX7_alone_X7_isPlace rfl rfl rfl (by decide +kernel) ⟨Nat.le_of_ble_eq_true rfl, Nat.le_of_ble_eq_true rfl⟩) ⟨zpR_blind, z_useR hK hN hP [] rfl⟩ rfl rfl hl.1 rfl (lv_room (Nat.le_of_ble_eq_true rfl)) dX7_alone_9 ⟨Nat.le_of_ble_eq_true rfl, Nat.le_of_ble_eq_true rfl⟩) ?_
    refine lv_if_ne (tgt := 18) hx hb dX7_alone_12 (by decide) (fun c_4 => ?_) (fun c_4 => ?_)
    · have hf := zif_f hf c_4
      refine lv_aload_n hx hb dX7_alone_18 rfl (lv_at hl 0 rfl) ?_
      refine lv_iload_n hx hb dX7_alone_19 rfl (lv_at hl 1 rfl) ?_
      refine lv_iload_n hx hb dX7_alone_20 rfl (lv_at hl 2 rfl) ?_
      obtain ⟨R5, e_5, hf⟩ := zbind_ex hf
      refine z_callM (gs2 := [(wX7 cI qS aS R5)]) hP hD hS hA [0] [] rfl rfl rfl (show List.Perm [0] (List.range 1) from by decide) rfl (va_runV (As := [.int x1, .int x2]) (rest := []) ⟨hx, hb, hml, hown, hts⟩ (c_X7_follows l dC dI cI cC cO qS aS gS x1 x2 R5 e_5 H.size) (cwV 2 hts gX7_alone_X7_follows rfl rfl rfl (by decide +kernel) ⟨Nat.le_of_ble_eq_true rfl, Nat.le_of_ble_eq_true rfl⟩) ⟨zpM_blind, va_recv hK hP (ci := 7) (q0 := 0) rfl rfl, z_useM hK hN hP hD [0] [] rfl (show List.Perm [0] (List.range 1) from by decide)⟩ rfl rfl hl.1 rfl (lv_room (Nat.le_of_ble_eq_true rfl)) dX7_alone_21 ⟨Nat.le_of_ble_eq_true rfl, Nat.le_of_ble_eq_true rfl⟩) (fun H locs hP hD hS => ?_)
      refine W.eq (g2 := F0 m 24 ls []) rfl ?_
      refine lv_aload_n hx hb dX7_alone_24 rfl (lv_at hl 0 rfl) ?_
      refine va_get (D := (dC, dI)) (ci := 7) (v := .int (R5 11 0)) (C := RX7) (T := TX7) (N := 21) hx hb hts u_X7_alone_X7 hown hK hP 0 rfl rfl 11 (by decide) (hts _ k_X7_alone_2) (fun _ h9 => h9) rfl dX7_alone_25 ?_
      refine lv_if_ne (tgt := 35) hx hb dX7_alone_28 (by decide) (fun c_6 => ?_) (fun c_6 => ?_)
      · have hf := zif_f hf c_6
        refine lv_iconst (v := (0 : Int32)) hx hb dX7_alone_35 (by decide) ?_
        exact w36  x1 x2 (0 : Int32) R5 H locs ls hf hP hD hS (lv_sub hl [0, 1, 2] rfl)
      · have hf := zif_t hf c_6
        refine lv_iconst (v := (1 : Int32)) hx hb dX7_alone_31 (by decide) ?_
        refine lv_goto (tgt := 36) hx hb dX7_alone_32 (by decide) ?_
        exact w36  x1 x2 (1 : Int32) R5 H locs ls hf hP hD hS (lv_sub hl [0, 1, 2] rfl)
    · have hf := zif_t hf c_4
      refine lv_ldc (v := (-1000000001 : Int32)) hx hb hown (hts _ k_X7_alone_1) dX7_alone_15 ?_
      exact zM_ret (gs := [(wX7 cI qS aS gS)]) hx hb hr rfl hP hD hS (by rw [← Option.some.inj hf]; exact ⟨rfl, rfl⟩) hlk dX7_alone_17

def f_X7_tuned_142  (k43 : Int32 → Int32 → Int32 → Int32 → Int32 → Int32 → zG → Option (Int32 × zG)) (y2 : Int32) (y3 : Int32) (y4 : Int32) (y6 : Int32) (y7 : Int32) (y9 : Int32) (y10 : Int32) (s0 : Int32) (gS : zG) : Option (Int32 × zG) := (if y10 = 0 then (k43 y2 y3 y4 s0 y6 (y7 + (1 : Int32)) gS) else (k43 y2 y3 y4 s0 y9 (y7 + (1 : Int32)) gS))
def f_X7_tuned_128  (k43 : Int32 → Int32 → Int32 → Int32 → Int32 → Int32 → zG → Option (Int32 × zG)) (y2 : Int32) (y3 : Int32) (y5 : Int32) (y6 : Int32) (y7 : Int32) (y8 : Int32) (y9 : Int32) (y10 : Int32) (s0 : Int32) (gS : zG) : Option (Int32 × zG) := (if y10 = 0 then (f_X7_tuned_142  k43  y2 y3 s0 y6 y7 y9 y10 y5 gS) else (f_X7_tuned_142  k43  y2 y3 s0 y6 y7 y9 y10 y8 gS))
def f_X7_tuned_114  (k43 : Int32 → Int32 → Int32 → Int32 → Int32 → Int32 → zG → Option (Int32 × zG)) (y2 : Int32) (y3 : Int32) (y4 : Int32) (y5 : Int32) (y6 : Int32) (y7 : Int32) (y8 : Int32) (y9 : Int32) (s0 : Int32) (gS : zG) : Option (Int32 × zG) := (if s0 = 0 then (f_X7_tuned_128  k43  y2 y3 y5 y6 y7 y8 y9 s0 y4 gS) else (f_X7_tuned_128  k43  y2 y3 y5 y6 y7 y8 y9 s0 y7 gS))
def f_X7_tuned_113  (k43 : Int32 → Int32 → Int32 → Int32 → Int32 → Int32 → zG → Option (Int32 × zG)) (y2 : Int32) (y3 : Int32) (y4 : Int32) (y5 : Int32) (y6 : Int32) (y7 : Int32) (y8 : Int32) (y9 : Int32) (gS : zG) : Option (Int32 × zG) := (f_X7_tuned_114  k43  y2 y3 y4 y5 y6 y7 y8 y9 (0 : Int32) gS)
def f_X7_tuned_109  (k43 : Int32 → Int32 → Int32 → Int32 → Int32 → Int32 → zG → Option (Int32 × zG)) (y2 : Int32) (y3 : Int32) (y4 : Int32) (y5 : Int32) (y6 : Int32) (y7 : Int32) (y8 : Int32) (y9 : Int32) (gS : zG) : Option (Int32 × zG) := (f_X7_tuned_114  k43  y2 y3 y4 y5 y6 y7 y8 y9 (1 : Int32) gS)
def f_X7_tuned_43_b   (k43 : Int32 → Int32 → Int32 → Int32 → Int32 → Int32 → zG → Option (Int32 × zG)) (y2 : Int32) (y3 : Int32) (y4 : Int32) (y5 : Int32) (y6 : Int32) (y7 : Int32) (gS : zG) : Option (Int32 × zG) := (if (100 : Int32) ≤ y7 then (zin (((19 : Int32) + ((5 : Int32) * y2)) + (3 : Int32)) 59 (zlet (gup gS 0 (((19 : Int32) + ((5 : Int32) * y2)) + (3 : Int32)).toNatClampNeg y3) (fun gS_7 => (some (y4, gS_7))))) else (zin (((19 : Int32) + ((5 : Int32) * y2)) + (3 : Int32)) 59 (zlet (gup gS 0 (((19 : Int32) + ((5 : Int32) * y2)) + (3 : Int32)).toNatClampNeg y7) (fun gS_8 => (zbind (f_X7_coming gS_8 (1000 : Int32)) (fun R9 => (zbind (f_X7_ones R9.1) (fun R10 => (zbind (f_X7_spread R9.2) (fun R11 => (if y4 < 0 then (f_X7_tuned_109  k43  y2 y3 y4 y5 y6 y7 R10 R11.1 R11.2) else (if y5 < R10 then (f_X7_tuned_109  k43  y2 y3 y4 y5 y6 y7 R10 R11.1 R11.2) else (if R10 = y5 then (if y6 ≤ R11.1 then (f_X7_tuned_113  k43  y2 y3 y4 y5 y6 y7 R10 R11.1 R11.2) else (f_X7_tuned_109  k43  y2 y3 y4 y5 y6 y7 R10 R11.1 R11.2)) else (f_X7_tuned_113  k43  y2 y3 y4 y5 y6 y7 R10 R11.1 R11.2))))))))))))))
def f_X7_tuned_43   : Nat → Int32 → Int32 → Int32 → Int32 → Int32 → Int32 → zG → Option (Int32 × zG)
  | 0 => fun _ _ _ _ _ _ _ => none
  | n + 1 => f_X7_tuned_43_b   (f_X7_tuned_43   n)
def f_X7_tuned (gS : zG) (x1 : Int32) : Option (Int32 × zG) := (zbind (f_X7_at gS x1) (fun R1 => (if R1 < 0 then (some ((-1000000001 : Int32), gS)) else (zbind (f_X7_of gS R1 (1 : Int32)) (fun R3 => (if R3 = (1 : Int32) then (some ((-1000000001 : Int32), gS)) else (zbind (f_X7_of gS R1 (3 : Int32)) (fun R5 => (f_X7_tuned_43   zfuel R1 R5 (-1000000004 : Int32) (0 : Int32) (0 : Int32) (1 : Int32) gS)))))))))
theorem u_X7_tuned_X7 : ∀ w ∈ u_ws RX7 TX7 21, w ∈ wsX7_tuned := fun w h => List.mem_cons_of_mem _ (List.mem_append_right _ h)
theorem k_X7_tuned_1 : Cond.constant RX7 51 (-1000000001) ∈ wsX7_tuned := List.mem_of_getElem? (i := 1) rfl
theorem k_X7_tuned_2 : Cond.constant RX7 46 (-1000000004) ∈ wsX7_tuned := List.mem_of_getElem? (i := 2) rfl
theorem k_X7_tuned_3 : Cond.fieldLink RX7 7 "JoinedLightModel" "s" "[I" ∈ wsX7_tuned := List.mem_of_getElem? (i := 3) rfl
abbrev rm_X7_tuned : Room := { frames := 4, cells := 0, slots := 0, locals := 89 }
set_option maxHeartbeats 4000000 in
set_option maxRecDepth 100000 in
theorem c_X7_tuned (l : Launch) (dC : Nat → ClassId) (dI : Nat → Nat → Nat) (cI cC cO : ClassId) (qS : Nat) (aS : Nat → Nat) (gS : zG) (x1 : Int32) (R : Int32 × zG) (hf : f_X7_tuned gS x1 = some R) : cM l (dC, dI) (zT cI cC cO) yX7_tuned wsX7_tuned rm_X7_tuned [.ref qS, .int x1] [(wX7 cI qS aS gS)] [(wX7 cI qS aS R.2)] (some (.int R.1)) 0 0 := by
  refine zM_in (cc := cX7_tuned) (maxL := 11) (ret := (some .int)) (plainFor_of_name (by decide)) rfl (Nat.le_of_ble_eq_true rfl) ?_
  intro p e s m below meth c hx hb hml hr hlk hown hts hK hN A hA hP hD hS ls hl
  have hl : lv_has ls 11 [(0, .ref qS), (1, .int x1)] := hl
  have w43 : ∀ (n43 : Nat) (y2 : Int32) (y3 : Int32) (y4 : Int32) (y5 : Int32) (y6 : Int32) (y7 : Int32) (gS : zG) (H : Heap) (locs : List Loc) (ls : Array Slot), f_X7_tuned_43   n43 y2 y3 y4 y5 y6 y7 gS = some R → va_P (dC, dI) vwCl [(wX7 cI qS aS gS)].flatten H → va_D A [(wX7 cI qS aS gS)].flatten → va_S A s.heap H locs → lv_has ls 11 [(0, .ref qS), (2, .int y2), (3, .int y3), (4, .int y4), (5, .int y5), (6, .int y6), (7, .int y7)] → W p l e (headSpec wsX7_tuned rm_X7_tuned).room s m [.ref qS, .int x1].toArray below meth c H locs 0 0 (MQ below (zqM (dC, dI) (some (.int R.1)) [(wX7 cI qS aS R.2)] A) [.ref qS, .int x1].toArray s 0 0 A) (F0 m 43 ls []) := by
    intro n43
    induction n43 with
    | zero =>
      intro y2 y3 y4 y5 y6 y7 gS H locs ls hf hP hD hS hl
      have hf : (none : Option (Int32 × zG)) = some R := hf
      cases hf
    | succ n43 ih43 =>
      have w142 : ∀ (y2 : Int32) (y3 : Int32) (y4 : Int32) (y6 : Int32) (y7 : Int32) (y9 : Int32) (y10 : Int32) (s0 : Int32) (gS : zG) (H : Heap) (locs : List Loc) (ls : Array Slot), f_X7_tuned_142  (f_X7_tuned_43   n43)  y2 y3 y4 y6 y7 y9 y10 s0 gS = some R → va_P (dC, dI) vwCl [(wX7 cI qS aS gS)].flatten H → va_D A [(wX7 cI qS aS gS)].flatten → va_S A s.heap H locs → lv_has ls 11 [(0, .ref qS), (2, .int y2), (3, .int y3), (4, .int y4), (6, .int y6), (7, .int y7), (9, .int y9), (10, .int y10)] → W p l e (headSpec wsX7_tuned rm_X7_tuned).room s m [.ref qS, .int x1].toArray below meth c H locs 0 0 (MQ below (zqM (dC, dI) (some (.int R.1)) [(wX7 cI qS aS R.2)] A) [.ref qS, .int x1].toArray s 0 0 A) (F0 m 142 ls [.int s0]) := by
        intro y2 y3 y4 y6 y7 y9 y10 s0 gS H locs ls hf hP hD hS hl
        unfold f_X7_tuned_142 at hf
        refine lv_istore (lv' := [(5, .int s0), (0, .ref qS), (2, .int y2), (3, .int y3), (4, .int y4), (6, .int y6), (7, .int y7), (9, .int y9), (10, .int y10)]) hx hb dX7_tuned_142 hl (by decide) rfl (fun ls hl => ?_)
        refine lv_iload hx hb dX7_tuned_144 (lv_at hl 8 rfl) ?_
        refine lv_if_eq (tgt := 154) hx hb dX7_tuned_146 (by decide) (fun c_18 => ?_) (fun c_18 => ?_)
        · have hf := zif_t hf c_18
          refine lv_iload hx hb dX7_tuned_154 (lv_at hl 5 rfl) ?_
          refine lv_istore (lv' := [(6, .int y6), (5, .int s0), (0, .ref qS), (2, .int y2), (3, .int y3), (4, .int y4), (7, .int y7), (9, .int y9), (10, .int y10)]) hx hb dX7_tuned_156 hl (by decide) rfl (fun ls hl => ?_)
          refine lv_iinc (v := (y7 + (1 : Int32))) (lv' := [(7, .int (y7 + (1 : Int32))), (6, .int y6), (5, .int s0), (0, .ref qS), (2, .int y2), (3, .int y3), (4, .int y4), (9, .int y9), (10, .int y10)]) hx hb dX7_tuned_158 hl (k := 6) rfl rfl (by decide) rfl (fun ls hl => ?_)
          refine lv_goto (tgt := 43) hx hb dX7_tuned_161 (by decide) ?_
          exact ih43 y2 y3 y4 s0 y6 (y7 + (1 : Int32)) gS H locs ls hf hP hD hS (lv_sub hl [3, 4, 5, 6, 2, 1, 0] rfl)
        · have hf := zif_f hf c_18
          refine lv_iload hx hb dX7_tuned_149 (lv_at hl 7 rfl) ?_
          refine lv_goto (tgt := 156) hx hb dX7_tuned_151 (by decide) ?_
          refine lv_istore (lv' := [(6, .int y9), (5, .int s0), (0, .ref qS), (2, .int y2), (3, .int y3), (4, .int y4), (7, .int y7), (9, .int y9), (10, .int y10)]) hx hb dX7_tuned_156 hl (by decide) rfl (fun ls hl => ?_)
          refine lv_iinc (v := (y7 + (1 : Int32))) (lv' := [(7, .int (y7 + (1 : Int32))), (6, .int y9), (5, .int s0), (0, .ref qS), (2, .int y2), (3, .int y3), (4, .int y4), (9, .int y9), (10, .int y10)]) hx hb dX7_tuned_158 hl (k := 6) rfl rfl (by decide) rfl (fun ls hl => ?_)
          refine lv_goto (tgt := 43) hx hb dX7_tuned_161 (by decide) ?_
          exact ih43 y2 y3 y4 s0 y9 (y7 + (1 : Int32)) gS H locs ls hf hP hD hS (lv_sub hl [3, 4, 5, 6, 2, 1, 0] rfl)
      have w128 : ∀ (y2 : Int32) (y3 : Int32) (y5 : Int32) (y6 : Int32) (y7 : Int32) (y8 : Int32) (y9 : Int32) (y10 : Int32) (s0 : Int32) (gS : zG) (H : Heap) (locs : List Loc) (ls : Array Slot), f_X7_tuned_128  (f_X7_tuned_43   n43)  y2 y3 y5 y6 y7 y8 y9 y10 s0 gS = some R → va_P (dC, dI) vwCl [(wX7 cI qS aS gS)].flatten H → va_D A [(wX7 cI qS aS gS)].flatten → va_S A s.heap H locs → lv_has ls 11 [(0, .ref qS), (2, .int y2), (3, .int y3), (5, .int y5), (6, .int y6), (7, .int y7), (8, .int y8), (9, .int y9), (10, .int y10)] → W p l e (headSpec wsX7_tuned rm_X7_tuned).room s m [.ref qS, .int x1].toArray below meth c H locs 0 0 (MQ below (zqM (dC, dI) (some (.int R.1)) [(wX7 cI qS aS R.2)] A) [.ref qS, .int x1].toArray s 0 0 A) (F0 m 128 ls [.int s0]) := by
        intro y2 y3 y5 y6 y7 y8 y9 y10 s0 gS H locs ls hf hP hD hS hl
        unfold f_X7_tuned_128 at hf
        refine lv_istore (lv' := [(4, .int s0), (0, .ref qS), (2, .int y2), (3, .int y3), (5, .int y5), (6, .int y6), (7, .int y7), (8, .int y8), (9, .int y9), (10, .int y10)]) hx hb dX7_tuned_128 hl (by decide) rfl (fun ls hl => ?_)
        refine lv_iload hx hb dX7_tuned_130 (lv_at hl 9 rfl) ?_
        refine lv_if_eq (tgt := 140) hx hb dX7_tuned_132 (by decide) (fun c_17 => ?_) (fun c_17 => ?_)
        · have hf := zif_t hf c_17
          refine lv_iload hx hb dX7_tuned_140 (lv_at hl 4 rfl) ?_
          exact w142  y2 y3 s0 y6 y7 y9 y10 y5 gS H locs ls hf hP hD hS (lv_sub hl [1, 2, 3, 0, 5, 6, 8, 9] rfl)
        · have hf := zif_f hf c_17
          refine lv_iload hx hb dX7_tuned_135 (lv_at hl 7 rfl) ?_
          refine lv_goto (tgt := 142) hx hb dX7_tuned_137 (by decide) ?_
          exact w142  y2 y3 s0 y6 y7 y9 y10 y8 gS H locs ls hf hP hD hS (lv_sub hl [1, 2, 3, 0, 5, 6, 8, 9] rfl)
      have w114 : ∀ (y2 : Int32) (y3 : Int32) (y4 : Int32) (y5 : Int32) (y6 : Int32) (y7 : Int32) (y8 : Int32) (y9 : Int32) (s0 : Int32) (gS : zG) (H : Heap) (locs : List Loc) (ls : Array Slot), f_X7_tuned_114  (f_X7_tuned_43   n43)  y2 y3 y4 y5 y6 y7 y8 y9 s0 gS = some R → va_P (dC, dI) vwCl [(wX7 cI qS aS gS)].flatten H → va_D A [(wX7 cI qS aS gS)].flatten → va_S A s.heap H locs → lv_has ls 11 [(0, .ref qS), (2, .int y2), (3, .int y3), (4, .int y4), (5, .int y5), (6, .int y6), (7, .int y7), (8, .int y8), (9, .int y9)] → W p l e (headSpec wsX7_tuned rm_X7_tuned).room s m [.ref qS, .int x1].toArray below meth c H locs 0 0 (MQ below (zqM (dC, dI) (some (.int R.1)) [(wX7 cI qS aS R.2)] A) [.ref qS, .int x1].toArray s 0 0 A) (F0 m 114 ls [.int s0]) := by
        intro y2 y3 y4 y5 y6 y7 y8 y9 s0 gS H locs ls hf hP hD hS hl
        unfold f_X7_tuned_114 at hf
        refine lv_istore (lv' := [(10, .int s0), (0, .ref qS), (2, .int y2), (3, .int y3), (4, .int y4), (5, .int y5), (6, .int y6), (7, .int y7), (8, .int y8), (9, .int y9)]) hx hb dX7_tuned_114 hl (by decide) rfl (fun ls hl => ?_)
        refine lv_iload hx hb dX7_tuned_116 (lv_at hl 0 rfl) ?_
        refine lv_if_eq (tgt := 126) hx hb dX7_tuned_118 (by decide) (fun c_16 => ?_) (fun c_16 => ?_)
        · have hf := zif_t hf c_16
          refine lv_iload hx hb dX7_tuned_126 (lv_at hl 4 rfl) ?_
          exact w128  y2 y3 y5 y6 y7 y8 y9 s0 y4 gS H locs ls hf hP hD hS (lv_sub hl [1, 2, 3, 5, 6, 7, 8, 9, 0] rfl)
        · have hf := zif_f hf c_16
          refine lv_iload hx hb dX7_tuned_121 (lv_at hl 7 rfl) ?_
          refine lv_goto (tgt := 128) hx hb dX7_tuned_123 (by decide) ?_
          exact w128  y2 y3 y5 y6 y7 y8 y9 s0 y7 gS H locs ls hf hP hD hS (lv_sub hl [1, 2, 3, 5, 6, 7, 8, 9, 0] rfl)
      have w113 : ∀ (y2 : Int32) (y3 : Int32) (y4 : Int32) (y5 : Int32) (y6 : Int32) (y7 : Int32) (y8 : Int32) (y9 : Int32) (gS : zG) (H : Heap) (locs : List Loc) (ls : Array Slot), f_X7_tuned_113  (f_X7_tuned_43   n43)  y2 y3 y4 y5 y6 y7 y8 y9 gS = some R → va_P (dC, dI) vwCl [(wX7 cI qS aS gS)].flatten H → va_D A [(wX7 cI qS aS gS)].flatten → va_S A s.heap H locs → lv_has ls 11 [(0, .ref qS), (2, .int y2), (3, .int y3), (4, .int y4), (5, .int y5), (6, .int y6), (7, .int y7), (8, .int y8), (9, .int y9)] → W p l e (headSpec wsX7_tuned rm_X7_tuned).room s m [.ref qS, .int x1].toArray below meth c H locs 0 0 (MQ below (zqM (dC, dI) (some (.int R.1)) [(wX7 cI qS aS R.2)] A) [.ref qS, .int x1].toArray s 0 0 A) (F0 m 113 ls []) := by
        intro y2 y3 y4 y5 y6 y7 y8 y9 gS H locs ls hf hP hD hS hl
        unfold f_X7_tuned_113 at hf
        refine lv_iconst (v := (0 : Int32)) hx hb dX7_tuned_113 (by decide) ?_
        exact w114  y2 y3 y4 y5 y6 y7 y8 y9 (0 : Int32) gS H locs ls hf hP hD hS (lv_sub hl [0, 1, 2, 3, 4, 5, 6, 7, 8] rfl)
      have w109 : ∀ (y2 : Int32) (y3 : Int32) (y4 : Int32) (y5 : Int32) (y6 : Int32) (y7 : Int32) (y8 : Int32) (y9 : Int32) (gS : zG) (H : Heap) (locs : List Loc) (ls : Array Slot), f_X7_tuned_109  (f_X7_tuned_43   n43)  y2 y3 y4 y5 y6 y7 y8 y9 gS = some R → va_P (dC, dI) vwCl [(wX7 cI qS aS gS)].flatten H → va_D A [(wX7 cI qS aS gS)].flatten → va_S A s.heap H locs → lv_has ls 11 [(0, .ref qS), (2, .int y2), (3, .int y3), (4, .int y4), (5, .int y5), (6, .int y6), (7, .int y7), (8, .int y8), (9, .int y9)] → W p l e (headSpec wsX7_tuned rm_X7_tuned).room s m [.ref qS, .int x1].toArray below meth c H locs 0 0 (MQ below (zqM (dC, dI) (some (.int R.1)) [(wX7 cI qS aS R.2)] A) [.ref qS, .int x1].toArray s 0 0 A) (F0 m 109 ls []) := by
        intro y2 y3 y4 y5 y6 y7 y8 y9 gS H locs ls hf hP hD hS hl
        unfold f_X7_tuned_109 at hf
        refine lv_iconst (v := (1 : Int32)) hx hb dX7_tuned_109 (by decide) ?_
        refine lv_goto (tgt := 114) hx hb dX7_tuned_110 (by decide) ?_
        exact w114  y2 y3 y4 y5 y6 y7 y8 y9 (1 : Int32) gS H locs ls hf hP hD hS (lv_sub hl [0, 1, 2, 3, 4, 5, 6, 7, 8] rfl)
      intro y2 y3 y4 y5 y6 y7 gS H locs ls hf hP hD hS hl
      have hf : f_X7_tuned_43_b   (f_X7_tuned_43   n43) y2 y3 y4 y5 y6 y7 gS = some R := hf
      unfold f_X7_tuned_43_b at hf
      refine lv_iload hx hb dX7_tuned_43 (lv_at hl 6 rfl) ?_
      refine lv_bipush (v := (100 : Int32)) hx hb dX7_tuned_45 (by decide) ?_
      refine lv_icmp_ge (tgt := 164) hx hb dX7_tuned_47 (by decide) (fun c_6 => ?_) (fun c_6 => ?_)
      · have hf := zif_t hf c_6
        refine lv_aload_n hx hb dX7_tuned_164 rfl (lv_at hl 0 rfl) ?_
        refine va_get (D := (dC, dI)) (ci := 7) (v := .ref (aS 0)) (C := RX7) (T := TX7) (N := 21) hx hb hts u_X7_tuned_X7 hown hK hP 0 rfl rfl 0 (by decide) (hts _ k_X7_tuned_3) (fun _ h9 => h9) rfl dX7_tuned_165 ?_
        refine lv_bipush (v := (19 : Int32)) hx hb dX7_tuned_168 (by decide) ?_
        refine lv_iconst (v := (5 : Int32)) hx hb dX7_tuned_170 (by decide) ?_
        refine lv_iload_n hx hb dX7_tuned_171 rfl (lv_at hl 1 rfl) ?_
        refine lv_imul hx hb dX7_tuned_172 ?_
        refine lv_iadd hx hb dX7_tuned_173 ?_
        refine lv_iconst (v := (3 : Int32)) hx hb dX7_tuned_174 (by decide) ?_
        refine lv_iadd hx hb dX7_tuned_175 ?_
        refine lv_iload_n hx hb dX7_tuned_176 rfl (lv_at hl 2 rfl) ?_
        obtain ⟨h_7, hf⟩ := zin_ex hf
        obtain ⟨gS_7, e_7, hf⟩ := zlet_ex hf
        refine z_iast (gs' := [(wX7 cI qS aS gS_7)]) hx hb hK hP hD hS 1 0 rfl rfl h_7 (by rw [e_7]; rfl) dX7_tuned_177 (fun H locs hP hD hS => ?_)
        refine lv_iload hx hb dX7_tuned_178 (lv_at hl 3 rfl) ?_
        exact zM_ret (gs := [(wX7 cI qS aS gS_7)]) hx hb hr rfl hP hD hS (by rw [← Option.some.inj hf]; exact ⟨rfl, rfl⟩) hlk dX7_tuned_180
      · have hf := zif_f hf c_6
        refine lv_aload_n hx hb dX7_tuned_50 rfl (lv_at hl 0 rfl) ?_
        refine va_get (D := (dC, dI)) (ci := 7) (v := .ref (aS 0)) (C := RX7) (T := TX7) (N := 21) hx hb hts u_X7_tuned_X7 hown hK hP 0 rfl rfl 0 (by decide) (hts _ k_X7_tuned_3) (fun _ h9 => h9) rfl dX7_tuned_51 ?_
        refine lv_bipush (v := (19 : Int32)) hx hb dX7_tuned_54 (by decide) ?_
        refine lv_iconst (v := (5 : Int32)) hx hb dX7_tuned_56 (by decide) ?_
        refine lv_iload_n hx hb dX7_tuned_57 rfl (lv_at hl 1 rfl) ?_
        refine lv_imul hx hb dX7_tuned_58 ?_
        refine lv_iadd hx hb dX7_tuned_59 ?_
        refine lv_iconst (v := (3 : Int32)) hx hb dX7_tuned_60 (by decide) ?_
        refine lv_iadd hx hb dX7_tuned_61 ?_
        refine lv_iload hx hb dX7_tuned_62 (lv_at hl 6 rfl) ?_
        obtain ⟨h_8, hf⟩ := zin_ex hf
        obtain ⟨gS_8, e_8, hf⟩ := zlet_ex hf
        refine z_iast (gs' := [(wX7 cI qS aS gS_8)]) hx hb hK hP hD hS 1 0 rfl rfl h_8 (by rw [e_8]; rfl) dX7_tuned_64 (fun H locs hP hD hS => ?_)
        refine lv_aload_n hx hb dX7_tuned_65 rfl (lv_at hl 0 rfl) ?_
        refine lv_sipush (v := (1000 : Int32)) hx hb dX7_tuned_66 (by decide) ?_
        obtain ⟨R9, e_9, hf⟩ := zbind_ex hf
        refine z_callM (gs2 := [(wX7 cI qS aS R9.2)]) hP hD hS hA [0] [] rfl rfl rfl (show List.Perm [0] (List.range 1) from by decide) rfl (va_runV (As := [.int (1000 : Int32)]) (rest := []) ⟨hx, hb, hml, hown, hts⟩ (c_X7_coming l dC dI cI cC cO qS aS gS_8 (1000 : Int32) R9 e_9 H.size) (cwV 1 hts gX7_tuned_X7_coming rfl rfl rfl (by decide +kernel) ⟨Nat.le_of_ble_eq_true rfl, Nat.le_of_ble_eq_true rfl⟩) ⟨zpM_blind, va_recv hK hP (ci := 7) (q0 := 0) rfl rfl, z_useM hK hN hP hD [0] [] rfl (show List.Perm [0] (List.range 1) from by decide)⟩ rfl rfl hl.1 rfl (lv_room (Nat.le_of_ble_eq_true rfl)) dX7_tuned_69 ⟨Nat.le_of_ble_eq_true rfl, Nat.le_of_ble_eq_true rfl⟩) (fun H locs hP hD hS => ?_)
        refine W.eq (g2 := F0 m 72 ls [.int R9.1]) rfl ?_
        obtain ⟨R10, e_10, hf⟩ := zbind_ex hf
        refine z_callRi (va_runS (As := [.int R9.1]) (rest := []) ⟨hx, hb, hml, hown, hts⟩ (c_X7_ones l dC dI cI cC cO  R9.1 R10 e_10) (va_cwS 1 hts gX7_tuned_X7_ones rfl rfl rfl (by decide +kernel) ⟨Nat.le_of_ble_eq_true rfl, Nat.le_of_ble_eq_true rfl⟩) ⟨zpR_blind, z_useR hK hN hP [] rfl⟩ rfl rfl hl.1 rfl (lv_room (Nat.le_of_ble_eq_true rfl)) dX7_tuned_72 ⟨Nat.le_of_ble_eq_true rfl, Nat.le_of_ble_eq_true rfl⟩) ?_
        refine lv_istore (lv' := [(8, .int R10), (0, .ref qS), (2, .int y2), (3, .int y3), (4, .int y4), (5, .int y5), (6, .int y6), (7, .int y7)]) hx hb dX7_tuned_75 hl (by decide) rfl (fun ls hl => ?_)
        refine lv_aload_n hx hb dX7_tuned_77 rfl (lv_at hl 1 rfl) ?_
        obtain ⟨R11, e_11, hf⟩ := zbind_ex hf
        refine z_callM (gs2 := [(wX7 cI qS aS R11.2)]) hP hD hS hA [0] [] rfl rfl rfl (show List.Perm [0] (List.range 1) from by decide) rfl (va_runV (As := []) (rest := []) ⟨hx, hb, hml, hown, hts⟩ (c_X7_spread l dC dI cI cC cO qS aS R9.2  R11 e_11 H.size) (cwV 0 hts gX7_tuned_X7_spread rfl rfl rfl (by decide +kernel) ⟨Nat.le_of_ble_eq_true rfl, Nat.le_of_ble_eq_true rfl⟩) ⟨zpM_blind, va_recv hK hP (ci := 7) (q0 := 0) rfl rfl, z_useM hK hN hP hD [0] [] rfl (show List.Perm [0] (List.range 1) from by decide)⟩ rfl rfl hl.1 rfl (lv_room (Nat.le_of_ble_eq_true rfl)) dX7_tuned_78 ⟨Nat.le_of_ble_eq_true rfl, Nat.le_of_ble_eq_true rfl⟩) (fun H locs hP hD hS => ?_)
        refine W.eq (g2 := F0 m 81 ls [.int R11.1]) rfl ?_
        refine lv_istore (lv' := [(9, .int R11.1), (8, .int R10), (0, .ref qS), (2, .int y2), (3, .int y3), (4, .int y4), (5, .int y5), (6, .int y6), (7, .int y7)]) hx hb dX7_tuned_81 hl (by decide) rfl (fun ls hl => ?_)
        refine lv_iload hx hb dX7_tuned_83 (lv_at hl 5 rfl) ?_
        refine lv_if_lt (tgt := 109) hx hb dX7_tuned_85 (by decide) (fun c_12 => ?_) (fun c_12 => ?_)
        · have hf := zif_t hf c_12
          exact w109  y2 y3 y4 y5 y6 y7 R10 R11.1 R11.2 H locs ls hf hP hD hS (lv_sub hl [2, 3, 4, 5, 6, 7, 8, 1, 0] rfl)
        · have hf := zif_f hf c_12
          refine lv_iload hx hb dX7_tuned_88 (lv_at hl 1 rfl) ?_
          refine lv_iload hx hb dX7_tuned_90 (lv_at hl 6 rfl) ?_
          refine lv_icmp_gt (tgt := 109) hx hb dX7_tuned_92 (by decide) (fun c_13 => ?_) (fun c_13 => ?_)
          · have hf := zif_t hf c_13
            exact w109  y2 y3 y4 y5 y6 y7 R10 R11.1 R11.2 H locs ls hf hP hD hS (lv_sub hl [2, 3, 4, 5, 6, 7, 8, 1, 0] rfl)
          · have hf := zif_f hf c_13
            refine lv_iload hx hb dX7_tuned_95 (lv_at hl 1 rfl) ?_
            refine lv_iload hx hb dX7_tuned_97 (lv_at hl 6 rfl) ?_
            refine lv_icmp_ne (tgt := 113) hx hb dX7_tuned_99 (by decide) (fun c_14 => ?_) (fun c_14 => ?_)
            · have hf := zif_f hf c_14
              exact w113  y2 y3 y4 y5 y6 y7 R10 R11.1 R11.2 H locs ls hf hP hD hS (lv_sub hl [2, 3, 4, 5, 6, 7, 8, 1, 0] rfl)
            · have hf := zif_t hf c_14
              refine lv_iload hx hb dX7_tuned_102 (lv_at hl 0 rfl) ?_
              refine lv_iload hx hb dX7_tuned_104 (lv_at hl 7 rfl) ?_
              refine lv_icmp_ge (tgt := 113) hx hb dX7_tuned_106 (by decide) (fun c_15 => ?_) (fun c_15 => ?_)
              · have hf := zif_t hf c_15
                exact w113  y2 y3 y4 y5 y6 y7 R10 R11.1 R11.2 H locs ls hf hP hD hS (lv_sub hl [2, 3, 4, 5, 6, 7, 8, 1, 0] rfl)
              · have hf := zif_f hf c_15
                exact w109  y2 y3 y4 y5 y6 y7 R10 R11.1 R11.2 H locs ls hf hP hD hS (lv_sub hl [2, 3, 4, 5, 6, 7, 8, 1, 0] rfl)
  unfold f_X7_tuned at hf
  obtain ⟨H, hH⟩ : ∃ H, H = s.heap := ⟨_, rfl⟩
  obtain ⟨locs, hlocs⟩ : ∃ locs : List Loc, locs = [] := ⟨_, rfl⟩
  have hS : va_S A s.heap H locs := by rw [hH, hlocs]; exact hS
  rw [← hH] at hP
  refine zheap hH hlocs ?_
  refine lv_aload_n hx hb dX7_tuned_0 rfl (lv_at hl 0 rfl) ?_
  refine lv_iload_n hx hb dX7_tuned_1 rfl (lv_at hl 1 rfl) ?_
  obtain ⟨R1, e_1, hf⟩ := zbind_ex hf
  refine z_callRi (va_runV (As := [.int x1]) (rest := []) ⟨hx, hb, hml, hown, hts⟩ (c_X7_at l dC dI cI cC cO qS aS gS x1 R1 e_1) (cwV 1 hts gX7_tuned_X7_at rfl rfl rfl (by decide +kernel) ⟨Nat.le_of_ble_eq_true rfl, Nat.le_of_ble_eq_true rfl⟩) ⟨zpR_blind, va_recv hK hP (ci := 7) (q0 := 0) rfl rfl, z_useR hK hN hP [0] rfl⟩ rfl rfl hl.1 rfl (lv_room (Nat.le_of_ble_eq_true rfl)) dX7_tuned_2 ⟨Nat.le_of_ble_eq_true rfl, Nat.le_of_ble_eq_true rfl⟩) ?_
  refine lv_istore_n (lv' := [(2, .int R1), (0, .ref qS), (1, .int x1)]) hx hb dX7_tuned_5 rfl hl (by decide) rfl (fun ls hl => ?_)
  refine lv_iload_n hx hb dX7_tuned_6 rfl (lv_at hl 0 rfl) ?_
  refine lv_if_lt (tgt := 20) hx hb dX7_tuned_7 (by decide) (fun c_2 => ?_) (fun c_2 => ?_)
  · have hf := zif_t hf c_2
    refine lv_ldc (v := (-1000000001 : Int32)) hx hb hown (hts _ k_X7_tuned_1) dX7_tuned_20 ?_
    exact zM_ret (gs := [(wX7 cI qS aS gS)]) hx hb hr rfl hP hD hS (by rw [← Option.some.inj hf]; exact ⟨rfl, rfl⟩) hlk dX7_tuned_22
  · have hf := zif_f hf c_2
    refine lv_aload_n hx hb dX7_tuned_10 rfl (lv_at hl 1 rfl) ?_
    refine lv_iload_n hx hb dX7_tuned_11 rfl (lv_at hl 0 rfl) ?_
    refine lv_iconst (v := (1 : Int32)) hx hb dX7_tuned_12 (by decide) ?_
    obtain ⟨R3, e_3, hf⟩ := zbind_ex hf
    refine z_callRi (va_runV (As := [.int R1, .int (1 : Int32)]) (rest := []) ⟨hx, hb, hml, hown, hts⟩ (c_X7_of l dC dI cI cC cO qS aS gS R1 (1 : Int32) R3 e_3) (cwV 2 hts gX7_tuned_X7_of rfl rfl rfl (by decide +kernel) ⟨Nat.le_of_ble_eq_true rfl, Nat.le_of_ble_eq_true rfl⟩) ⟨zpR_blind, va_recv hK hP (ci := 7) (q0 := 0) rfl rfl, z_useR hK hN hP [0] rfl⟩ rfl rfl hl.1 rfl (lv_room (Nat.le_of_ble_eq_true rfl)) dX7_tuned_13 ⟨Nat.le_of_ble_eq_true rfl, Nat.le_of_ble_eq_true rfl⟩) ?_
    refine lv_iconst (v := (1 : Int32)) hx hb dX7_tuned_16 (by decide) ?_
    refine lv_icmp_ne (tgt := 23) hx hb dX7_tuned_17 (by decide) (fun c_4 => ?_) (fun c_4 => ?_)
    · have hf := zif_f hf c_4
      refine lv_aload_n hx hb dX7_tuned_23 rfl (lv_at hl 1 rfl) ?_
      refine lv_iload_n hx hb dX7_tuned_24 rfl (lv_at hl 0 rfl) ?_
      refine lv_iconst (v := (3 : Int32)) hx hb dX7_tuned_25 (by decide) ?_
      obtain ⟨R5, e_5, hf⟩ := zbind_ex hf
      refine z_callRi (va_runV (As := [.int R1, .int (3 : Int32)]) (rest := []) ⟨hx, hb, hml, hown, hts⟩ (c_X7_of l dC dI cI cC cO qS aS gS R1 (3 : Int32) R5 e_5) (cwV 2 hts gX7_tuned_X7_of rfl rfl rfl (by decide +kernel) ⟨Nat.le_of_ble_eq_true rfl, Nat.le_of_ble_eq_true rfl⟩) ⟨zpR_blind, va_recv hK hP (ci := 7) (q0 := 0) rfl rfl, z_useR hK hN hP [0] rfl⟩ rfl rfl hl.1 rfl (lv_room (Nat.le_of_ble_eq_true rfl)) dX7_tuned_26 ⟨Nat.le_of_ble_eq_true rfl, Nat.le_of_ble_eq_true rfl⟩) ?_
      refine lv_istore_n (lv' := [(3, .int R5), (2, .int R1), (0, .ref qS), (1, .int x1)]) hx hb dX7_tuned_29 rfl hl (by decide) rfl (fun ls hl => ?_)
      refine lv_ldc (v := (-1000000004 : Int32)) hx hb hown (hts _ k_X7_tuned_2) dX7_tuned_30 ?_
      refine lv_istore (lv' := [(4, .int (-1000000004 : Int32)), (3, .int R5), (2, .int R1), (0, .ref qS), (1, .int x1)]) hx hb dX7_tuned_32 hl (by decide) rfl (fun ls hl => ?_)
      refine lv_iconst (v := (0 : Int32)) hx hb dX7_tuned_34 (by decide) ?_
      refine lv_istore (lv' := [(5, .int (0 : Int32)), (4, .int (-1000000004 : Int32)), (3, .int R5), (2, .int R1), (0, .ref qS), (1, .int x1)]) hx hb dX7_tuned_35 hl (by decide) rfl (fun ls hl => ?_)
      refine lv_iconst (v := (0 : Int32)) hx hb dX7_tuned_37 (by decide) ?_
      refine lv_istore (lv' := [(6, .int (0 : Int32)), (5, .int (0 : Int32)), (4, .int (-1000000004 : Int32)), (3, .int R5), (2, .int R1), (0, .ref qS), (1, .int x1)]) hx hb dX7_tuned_38 hl (by decide) rfl (fun ls hl => ?_)
      refine lv_iconst (v := (1 : Int32)) hx hb dX7_tuned_40 (by decide) ?_
      refine lv_istore (lv' := [(7, .int (1 : Int32)), (6, .int (0 : Int32)), (5, .int (0 : Int32)), (4, .int (-1000000004 : Int32)), (3, .int R5), (2, .int R1), (0, .ref qS), (1, .int x1)]) hx hb dX7_tuned_41 hl (by decide) rfl (fun ls hl => ?_)
      exact w43 zfuel R1 R5 (-1000000004 : Int32) (0 : Int32) (0 : Int32) (1 : Int32) gS H locs ls hf hP hD hS (lv_sub hl [6, 5, 4, 3, 2, 1, 0] rfl)
    · have hf := zif_t hf c_4
      refine lv_ldc (v := (-1000000001 : Int32)) hx hb hown (hts _ k_X7_tuned_1) dX7_tuned_20 ?_
      exact zM_ret (gs := [(wX7 cI qS aS gS)]) hx hb hr rfl hP hD hS (by rw [← Option.some.inj hf]; exact ⟨rfl, rfl⟩) hlk dX7_tuned_22

def f_X7_allLines (gS : zG)  : Option (Int32) := (zin (0 : Int32) 59 (some ((((1 : Int32) <<< ((gS 0 (0 : Int32).toNatClampNeg) &&& 31)) - (1 : Int32)))))
theorem u_X7_allLines_X7 : ∀ w ∈ u_ws RX7 TX7 21, w ∈ wsX7_allLines := fun w h => List.mem_cons_of_mem _ (List.mem_append_right _ h)
theorem k_X7_allLines_1 : Cond.fieldLink RX7 7 "JoinedLightModel" "s" "[I" ∈ wsX7_allLines := List.mem_of_getElem? (i := 1) rfl
abbrev rm_X7_allLines : Room := { frames := 0, cells := 0, slots := 0, locals := 0 }
set_option maxHeartbeats 4000000 in
set_option maxRecDepth 100000 in
theorem c_X7_allLines (l : Launch) (dC : Nat → ClassId) (dI : Nat → Nat → Nat) (cI cC cO : ClassId) (qS : Nat) (aS : Nat → Nat) (gS : zG)  (R : Int32) (hf : f_X7_allLines gS = some R) : cR l (dC, dI) (zT cI cC cO) yX7_allLines wsX7_allLines rm_X7_allLines [.ref qS] [(wX7 cI qS aS gS)] (some (.int R)) := by
  refine zR_in (cc := cX7_allLines) (maxL := 1) (ret := (some .int)) (plainFor_of_name (by decide)) rfl (Nat.le_of_ble_eq_true rfl) ?_
  intro p e s m below meth c hx hb hml hr hlk hown hts hK hN hP ls hl
  have hl : lv_has ls 1 [(0, .ref qS)] := hl
  unfold f_X7_allLines at hf
  refine lv_iconst (v := (1 : Int32)) hx hb dX7_allLines_0 (by decide) ?_
  refine lv_aload_n hx hb dX7_allLines_1 rfl (lv_at hl 0 rfl) ?_
  refine va_get (D := (dC, dI)) (ci := 7) (v := .ref (aS 0)) (C := RX7) (T := TX7) (N := 21) hx hb hts u_X7_allLines_X7 hown hK hP 0 rfl rfl 0 (by decide) (hts _ k_X7_allLines_1) (fun _ h9 => h9) rfl dX7_allLines_2 ?_
  refine lv_iconst (v := (0 : Int32)) hx hb dX7_allLines_5 (by decide) ?_
  obtain ⟨h_1, hf⟩ := zin_ex hf
  refine va_iald hx hb hK hP 1 0 rfl rfl h_1 dX7_allLines_6 ?_
  refine lv_ishl hx hb dX7_allLines_7 ?_
  refine lv_iconst (v := (1 : Int32)) hx hb dX7_allLines_8 (by decide) ?_
  refine lv_isub hx hb dX7_allLines_9 ?_
  exact zR_ret hx hb hr rfl hf hlk dX7_allLines_10

def f_X7_share_30   (y1 : Int32) (s0 : Int32) (s1 : UInt32) (gS : zG) : Option (Int32 × zG) := (zfl (FP.fdiv s1 (FP.i2f s0)) (if y1 = 0 then (some ((-1000000004 : Int32), gS)) else (zbind (f_Jxf58ca_floatToIntBits_5c35a (FP.fdiv s1 (FP.i2f s0))) (fun R8 => (some (R8, gS))))))
def f_X7_share (gS : zG)  : Option (Int32 × zG) := (zbind (f_X7_allLines gS) (fun R1 => (zbind (f_X7_lightIn gS R1) (fun R2 => (zbind (f_X7_coming gS (1000 : Int32)) (fun R3 => (zbind (f_X7_lightIn R3.2 R3.1) (fun R4 => (if R2 = 0 then (f_X7_share_30    R2 (1 : Int32) (FP.i2f R4) R3.2) else (f_X7_share_30    R2 R2 (FP.i2f R4) R3.2))))))))))
theorem k_X7_share_1 : Cond.constant RX7 46 (-1000000004) ∈ wsX7_share := List.mem_of_getElem? (i := 1) rfl
abbrev rm_X7_share : Room := { frames := 4, cells := 0, slots := 0, locals := 89 }
set_option maxHeartbeats 4000000 in
set_option maxRecDepth 100000 in
theorem c_X7_share (l : Launch) (dC : Nat → ClassId) (dI : Nat → Nat → Nat) (cI cC cO : ClassId) (qS : Nat) (aS : Nat → Nat) (gS : zG)  (R : Int32 × zG) (hf : f_X7_share gS = some R) : cM l (dC, dI) (zT cI cC cO) yX7_share wsX7_share rm_X7_share [.ref qS] [(wX7 cI qS aS gS)] [(wX7 cI qS aS R.2)] (some (.int R.1)) 0 0 := by
  refine zM_in (cc := cX7_share) (maxL := 3) (ret := (some .int)) (plainFor_of_name (by decide)) rfl (Nat.le_of_ble_eq_true rfl) ?_
  intro p e s m below meth c hx hb hml hr hlk hown hts hK hN A hA hP hD hS ls hl
  have hl : lv_has ls 3 [(0, .ref qS)] := hl
  have w30 : ∀ (y1 : Int32) (s0 : Int32) (s1 : UInt32) (gS : zG) (H : Heap) (locs : List Loc) (ls : Array Slot), f_X7_share_30    y1 s0 s1 gS = some R → va_P (dC, dI) vwCl [(wX7 cI qS aS gS)].flatten H → va_D A [(wX7 cI qS aS gS)].flatten → va_S A s.heap H locs → lv_has ls 3 [(1, .int y1)] → W p l e (headSpec wsX7_share rm_X7_share).room s m [.ref qS].toArray below meth c H locs 0 0 (MQ below (zqM (dC, dI) (some (.int R.1)) [(wX7 cI qS aS R.2)] A) [.ref qS].toArray s 0 0 A) (F0 m 30 ls [.int s0, .float s1]) := by
    intro y1 s0 s1 gS H locs ls hf hP hD hS hl
    unfold f_X7_share_30 at hf
    refine lv_i2f hx hb dX7_share_30 ?_
    obtain ⟨h_6, hf⟩ := zfl_ex hf
    refine lv_fdiv hx hb dX7_share_31 h_6 ?_
    refine lv_fstore_n (lv' := [(2, .float (FP.fdiv s1 (FP.i2f s0))), (1, .int y1)]) hx hb dX7_share_32 rfl hl (by decide) rfl (fun ls hl => ?_)
    refine lv_iload_n hx hb dX7_share_33 rfl (lv_at hl 1 rfl) ?_
    refine lv_if_ne (tgt := 42) hx hb dX7_share_34 (by decide) (fun c_7 => ?_) (fun c_7 => ?_)
    · have hf := zif_f hf c_7
      refine lv_fload_n hx hb dX7_share_42 rfl (lv_at hl 0 rfl) ?_
      obtain ⟨R8, e_8, hf⟩ := zbind_ex hf
      refine z_callRi (va_runS (As := [.float (FP.fdiv s1 (FP.i2f s0))]) (rest := []) ⟨hx, hb, hml, hown, hts⟩ (c_Jxf58ca_floatToIntBits_5c35a l dC dI cI cC cO  (FP.fdiv s1 (FP.i2f s0)) R8 e_8) (va_cwS 1 hts gX7_share_Jxf58ca_floatToIntBits_5c35a rfl rfl rfl (by decide +kernel) ⟨Nat.le_of_ble_eq_true rfl, Nat.le_of_ble_eq_true rfl⟩) ⟨zpR_blind, z_useR hK hN hP [] rfl⟩ rfl rfl hl.1 rfl (lv_room (Nat.le_of_ble_eq_true rfl)) dX7_share_43 ⟨Nat.le_of_ble_eq_true rfl, Nat.le_of_ble_eq_true rfl⟩) ?_
      exact zM_ret (gs := [(wX7 cI qS aS gS)]) hx hb hr rfl hP hD hS (by rw [← Option.some.inj hf]; exact ⟨rfl, rfl⟩) hlk dX7_share_46
    · have hf := zif_t hf c_7
      refine lv_ldc (v := (-1000000004 : Int32)) hx hb hown (hts _ k_X7_share_1) dX7_share_37 ?_
      refine lv_goto (tgt := 46) hx hb dX7_share_39 (by decide) ?_
      exact zM_ret (gs := [(wX7 cI qS aS gS)]) hx hb hr rfl hP hD hS (by rw [← Option.some.inj hf]; exact ⟨rfl, rfl⟩) hlk dX7_share_46
  unfold f_X7_share at hf
  obtain ⟨H, hH⟩ : ∃ H, H = s.heap := ⟨_, rfl⟩
  obtain ⟨locs, hlocs⟩ : ∃ locs : List Loc, locs = [] := ⟨_, rfl⟩
  have hS : va_S A s.heap H locs := by rw [hH, hlocs]; exact hS
  rw [← hH] at hP
  refine zheap hH hlocs ?_
  refine lv_aload_n hx hb dX7_share_0 rfl (lv_at hl 0 rfl) ?_
  refine lv_aload_n hx hb dX7_share_1 rfl (lv_at hl 0 rfl) ?_
  obtain ⟨R1, e_1, hf⟩ := zbind_ex hf
  refine z_callRi (va_runV (As := []) (rest := [.ref qS]) ⟨hx, hb, hml, hown, hts⟩ (c_X7_allLines l dC dI cI cC cO qS aS gS  R1 e_1) (cwV 0 hts gX7_share_X7_allLines rfl rfl rfl (by decide +kernel) ⟨Nat.le_of_ble_eq_true rfl, Nat.le_of_ble_eq_true rfl⟩) ⟨zpR_blind, va_recv hK hP (ci := 7) (q0 := 0) rfl rfl, z_useR hK hN hP [0] rfl⟩ rfl rfl hl.1 rfl (lv_room (Nat.le_of_ble_eq_true rfl)) dX7_share_2 ⟨Nat.le_of_ble_eq_true rfl, Nat.le_of_ble_eq_true rfl⟩) ?_
  obtain ⟨R2, e_2, hf⟩ := zbind_ex hf
  refine z_callRi (va_runV (As := [.int R1]) (rest := []) ⟨hx, hb, hml, hown, hts⟩ (c_X7_lightIn l dC dI cI cC cO qS aS gS R1 R2 e_2) (cwV 1 hts gX7_share_X7_lightIn rfl rfl rfl (by decide +kernel) ⟨Nat.le_of_ble_eq_true rfl, Nat.le_of_ble_eq_true rfl⟩) ⟨zpR_blind, va_recv hK hP (ci := 7) (q0 := 0) rfl rfl, z_useR hK hN hP [0] rfl⟩ rfl rfl hl.1 rfl (lv_room (Nat.le_of_ble_eq_true rfl)) dX7_share_5 ⟨Nat.le_of_ble_eq_true rfl, Nat.le_of_ble_eq_true rfl⟩) ?_
  refine lv_istore_n (lv' := [(1, .int R2), (0, .ref qS)]) hx hb dX7_share_8 rfl hl (by decide) rfl (fun ls hl => ?_)
  refine lv_aload_n hx hb dX7_share_9 rfl (lv_at hl 1 rfl) ?_
  refine lv_aload_n hx hb dX7_share_10 rfl (lv_at hl 1 rfl) ?_
  refine lv_sipush (v := (1000 : Int32)) hx hb dX7_share_11 (by decide) ?_
  obtain ⟨R3, e_3, hf⟩ := zbind_ex hf
  refine z_callM (gs2 := [(wX7 cI qS aS R3.2)]) hP hD hS hA [0] [] rfl rfl rfl (show List.Perm [0] (List.range 1) from by decide) rfl (va_runV (As := [.int (1000 : Int32)]) (rest := [.ref qS]) ⟨hx, hb, hml, hown, hts⟩ (c_X7_coming l dC dI cI cC cO qS aS gS (1000 : Int32) R3 e_3 H.size) (cwV 1 hts gX7_share_X7_coming rfl rfl rfl (by decide +kernel) ⟨Nat.le_of_ble_eq_true rfl, Nat.le_of_ble_eq_true rfl⟩) ⟨zpM_blind, va_recv hK hP (ci := 7) (q0 := 0) rfl rfl, z_useM hK hN hP hD [0] [] rfl (show List.Perm [0] (List.range 1) from by decide)⟩ rfl rfl hl.1 rfl (lv_room (Nat.le_of_ble_eq_true rfl)) dX7_share_14 ⟨Nat.le_of_ble_eq_true rfl, Nat.le_of_ble_eq_true rfl⟩) (fun H locs hP hD hS => ?_)
  refine W.eq (g2 := F0 m 17 ls [.int R3.1, .ref qS]) rfl ?_
  obtain ⟨R4, e_4, hf⟩ := zbind_ex hf
  refine z_callRi (va_runV (As := [.int R3.1]) (rest := []) ⟨hx, hb, hml, hown, hts⟩ (c_X7_lightIn l dC dI cI cC cO qS aS R3.2 R3.1 R4 e_4) (cwV 1 hts gX7_share_X7_lightIn rfl rfl rfl (by decide +kernel) ⟨Nat.le_of_ble_eq_true rfl, Nat.le_of_ble_eq_true rfl⟩) ⟨zpR_blind, va_recv hK hP (ci := 7) (q0 := 0) rfl rfl, z_useR hK hN hP [0] rfl⟩ rfl rfl hl.1 rfl (lv_room (Nat.le_of_ble_eq_true rfl)) dX7_share_17 ⟨Nat.le_of_ble_eq_true rfl, Nat.le_of_ble_eq_true rfl⟩) ?_
  refine lv_i2f hx hb dX7_share_20 ?_
  refine lv_iload_n hx hb dX7_share_21 rfl (lv_at hl 0 rfl) ?_
  refine lv_if_ne (tgt := 29) hx hb dX7_share_22 (by decide) (fun c_5 => ?_) (fun c_5 => ?_)
  · have hf := zif_f hf c_5
    refine lv_iload_n hx hb dX7_share_29 rfl (lv_at hl 0 rfl) ?_
    exact w30  R2 R2 (FP.i2f R4) R3.2 H locs ls hf hP hD hS (lv_sub hl [0] rfl)
  · have hf := zif_t hf c_5
    refine lv_iconst (v := (1 : Int32)) hx hb dX7_share_25 (by decide) ?_
    refine lv_goto (tgt := 30) hx hb dX7_share_26 (by decide) ?_
    exact w30  R2 (1 : Int32) (FP.i2f R4) R3.2 H locs ls hf hP hD hS (lv_sub hl [0] rfl)

def f_X7_isJoined (gS : zG)  : Option (Int32 × zG) := (zin (0 : Int32) 59 (if (gS 0 (0 : Int32).toNatClampNeg) ≤ 0 then (some ((0 : Int32), gS)) else (zbind (f_X7_coming gS (1000 : Int32)) (fun R3 => (zbind (f_X7_allLines R3.2) (fun R4 => (if R3.1 = R4 then (zbind (f_X7_laysCells R3.2) (fun R6 => (if R6.1 = (1 : Int32) then (some ((1 : Int32), R6.2)) else (some ((0 : Int32), R6.2))))) else (some ((0 : Int32), R3.2)))))))))
theorem u_X7_isJoined_X7 : ∀ w ∈ u_ws RX7 TX7 21, w ∈ wsX7_isJoined := fun w h => List.mem_cons_of_mem _ (List.mem_append_right _ h)
theorem k_X7_isJoined_1 : Cond.fieldLink RX7 7 "JoinedLightModel" "s" "[I" ∈ wsX7_isJoined := List.mem_of_getElem? (i := 1) rfl
abbrev rm_X7_isJoined : Room := { frames := 5, cells := 0, slots := 0, locals := 112 }
set_option maxHeartbeats 4000000 in
set_option maxRecDepth 100000 in
theorem c_X7_isJoined (l : Launch) (dC : Nat → ClassId) (dI : Nat → Nat → Nat) (cI cC cO : ClassId) (qS : Nat) (aS : Nat → Nat) (gS : zG)  (R : Int32 × zG) (hf : f_X7_isJoined gS = some R) : cM l (dC, dI) (zT cI cC cO) yX7_isJoined wsX7_isJoined rm_X7_isJoined [.ref qS] [(wX7 cI qS aS gS)] [(wX7 cI qS aS R.2)] (some (.int R.1)) 0 0 := by
  refine zM_in (cc := cX7_isJoined) (maxL := 1) (ret := (some .boolean)) (plainFor_of_name (by decide)) rfl (Nat.le_of_ble_eq_true rfl) ?_
  intro p e s m below meth c hx hb hml hr hlk hown hts hK hN A hA hP hD hS ls hl
  have hl : lv_has ls 1 [(0, .ref qS)] := hl
  unfold f_X7_isJoined at hf
  obtain ⟨H, hH⟩ : ∃ H, H = s.heap := ⟨_, rfl⟩
  obtain ⟨locs, hlocs⟩ : ∃ locs : List Loc, locs = [] := ⟨_, rfl⟩
  have hS : va_S A s.heap H locs := by rw [hH, hlocs]; exact hS
  rw [← hH] at hP
  refine zheap hH hlocs ?_
  refine lv_aload_n hx hb dX7_isJoined_0 rfl (lv_at hl 0 rfl) ?_
  refine va_get (D := (dC, dI)) (ci := 7) (v := .ref (aS 0)) (C := RX7) (T := TX7) (N := 21) hx hb hts u_X7_isJoined_X7 hown hK hP 0 rfl rfl 0 (by decide) (hts _ k_X7_isJoined_1) (fun _ h9 => h9) rfl dX7_isJoined_1 ?_
  refine lv_iconst (v := (0 : Int32)) hx hb dX7_isJoined_4 (by decide) ?_
  obtain ⟨h_1, hf⟩ := zin_ex hf
  refine va_iald hx hb hK hP 1 0 rfl rfl h_1 dX7_isJoined_5 ?_
  refine lv_if_le (tgt := 35) hx hb dX7_isJoined_6 (by decide) (fun c_2 => ?_) (fun c_2 => ?_)
  · have hf := zif_t hf c_2
    refine lv_iconst (v := (0 : Int32)) hx hb dX7_isJoined_35 (by decide) ?_
    exact zM_ret (gs := [(wX7 cI qS aS gS)]) hx hb hr rfl hP hD hS (by rw [← Option.some.inj hf]; exact ⟨rfl, rfl⟩) hlk dX7_isJoined_36
  · have hf := zif_f hf c_2
    refine lv_aload_n hx hb dX7_isJoined_9 rfl (lv_at hl 0 rfl) ?_
    refine lv_sipush (v := (1000 : Int32)) hx hb dX7_isJoined_10 (by decide) ?_
    obtain ⟨R3, e_3, hf⟩ := zbind_ex hf
    refine z_callM (gs2 := [(wX7 cI qS aS R3.2)]) hP hD hS hA [0] [] rfl rfl rfl (show List.Perm [0] (List.range 1) from by decide) rfl (va_runV (As := [.int (1000 : Int32)]) (rest := []) ⟨hx, hb, hml, hown, hts⟩ (c_X7_coming l dC dI cI cC cO qS aS gS (1000 : Int32) R3 e_3 H.size) (cwV 1 hts gX7_isJoined_X7_coming rfl rfl rfl (by decide +kernel) ⟨Nat.le_of_ble_eq_true rfl, Nat.le_of_ble_eq_true rfl⟩) ⟨zpM_blind, va_recv hK hP (ci := 7) (q0 := 0) rfl rfl, z_useM hK hN hP hD [0] [] rfl (show List.Perm [0] (List.range 1) from by decide)⟩ rfl rfl hl.1 rfl (lv_room (Nat.le_of_ble_eq_true rfl)) dX7_isJoined_13 ⟨Nat.le_of_ble_eq_true rfl, Nat.le_of_ble_eq_true rfl⟩) (fun H locs hP hD hS => ?_)
    refine W.eq (g2 := F0 m 16 ls [.int R3.1]) rfl ?_
    refine lv_aload_n hx hb dX7_isJoined_16 rfl (lv_at hl 0 rfl) ?_
    obtain ⟨R4, e_4, hf⟩ := zbind_ex hf
    refine z_callRi (va_runV (As := []) (rest := [.int R3.1]) ⟨hx, hb, hml, hown, hts⟩ (c_X7_allLines l dC dI cI cC cO qS aS R3.2  R4 e_4) (cwV 0 hts gX7_isJoined_X7_allLines rfl rfl rfl (by decide +kernel) ⟨Nat.le_of_ble_eq_true rfl, Nat.le_of_ble_eq_true rfl⟩) ⟨zpR_blind, va_recv hK hP (ci := 7) (q0 := 0) rfl rfl, z_useR hK hN hP [0] rfl⟩ rfl rfl hl.1 rfl (lv_room (Nat.le_of_ble_eq_true rfl)) dX7_isJoined_17 ⟨Nat.le_of_ble_eq_true rfl, Nat.le_of_ble_eq_true rfl⟩) ?_
    refine lv_icmp_ne (tgt := 35) hx hb dX7_isJoined_20 (by decide) (fun c_5 => ?_) (fun c_5 => ?_)
    · have hf := zif_f hf c_5
      refine lv_iconst (v := (0 : Int32)) hx hb dX7_isJoined_35 (by decide) ?_
      exact zM_ret (gs := [(wX7 cI qS aS R3.2)]) hx hb hr rfl hP hD hS (by rw [← Option.some.inj hf]; exact ⟨rfl, rfl⟩) hlk dX7_isJoined_36
    · have hf := zif_t hf c_5
      refine lv_aload_n hx hb dX7_isJoined_23 rfl (lv_at hl 0 rfl) ?_
      obtain ⟨R6, e_6, hf⟩ := zbind_ex hf
      refine z_callM (gs2 := [(wX7 cI qS aS R6.2)]) hP hD hS hA [0] [] rfl rfl rfl (show List.Perm [0] (List.range 1) from by decide) rfl (va_runV (As := []) (rest := []) ⟨hx, hb, hml, hown, hts⟩ (c_X7_laysCells l dC dI cI cC cO qS aS R3.2  R6 e_6 H.size) (cwV 0 hts gX7_isJoined_X7_laysCells rfl rfl rfl (by decide +kernel) ⟨Nat.le_of_ble_eq_true rfl, Nat.le_of_ble_eq_true rfl⟩) ⟨zpM_blind, va_recv hK hP (ci := 7) (q0 := 0) rfl rfl, z_useM hK hN hP hD [0] [] rfl (show List.Perm [0] (List.range 1) from by decide)⟩ rfl rfl hl.1 rfl (lv_room (Nat.le_of_ble_eq_true rfl)) dX7_isJoined_24 ⟨Nat.le_of_ble_eq_true rfl, Nat.le_of_ble_eq_true rfl⟩) (fun H locs hP hD hS => ?_)
      refine W.eq (g2 := F0 m 27 ls [.int R6.1]) rfl ?_
      refine lv_iconst (v := (1 : Int32)) hx hb dX7_isJoined_27 (by decide) ?_
      refine lv_icmp_ne (tgt := 35) hx hb dX7_isJoined_28 (by decide) (fun c_7 => ?_) (fun c_7 => ?_)
      · have hf := zif_f hf c_7
        refine lv_iconst (v := (0 : Int32)) hx hb dX7_isJoined_35 (by decide) ?_
        exact zM_ret (gs := [(wX7 cI qS aS R6.2)]) hx hb hr rfl hP hD hS (by rw [← Option.some.inj hf]; exact ⟨rfl, rfl⟩) hlk dX7_isJoined_36
      · have hf := zif_t hf c_7
        refine lv_iconst (v := (1 : Int32)) hx hb dX7_isJoined_31 (by decide) ?_
        refine lv_goto (tgt := 36) hx hb dX7_isJoined_32 (by decide) ?_
        exact zM_ret (gs := [(wX7 cI qS aS R6.2)]) hx hb hr rfl hP hD hS (by rw [← Option.some.inj hf]; exact ⟨rfl, rfl⟩) hlk dX7_isJoined_36

def f_X7_isAsItWas_20_b   (k20 : Int32 → Int32 → Int32 → zG → Option (Int32 × zG)) (y1 : Int32) (y2 : Int32) (y3 : Int32) (gS : zG) : Option (Int32 × zG) := (zin (0 : Int32) 59 (if (gS 0 (0 : Int32).toNatClampNeg) ≤ y3 then (zbl y2 (some (y2, gS))) else (zbind (f_X7_follows gS y3 (1000 : Int32)) (fun R6 => (if y2 = 0 then (k20 y1 (0 : Int32) (y3 + (1 : Int32)) R6) else (if (R6 10 0) = y1 then (k20 y1 (1 : Int32) (y3 + (1 : Int32)) R6) else (k20 y1 (0 : Int32) (y3 + (1 : Int32)) R6)))))))
def f_X7_isAsItWas_20   : Nat → Int32 → Int32 → Int32 → zG → Option (Int32 × zG)
  | 0 => fun _ _ _ _ => none
  | n + 1 => f_X7_isAsItWas_20_b   (f_X7_isAsItWas_20   n)
def f_X7_isAsItWas (gS : zG)  : Option (Int32 × zG) := (zbind (f_X7_follows gS (0 : Int32) (1000 : Int32)) (fun R1 => (zbind (f_X7_isJoined R1) (fun R2 => (f_X7_isAsItWas_20   zfuel (R1 10 0) R2.1 (0 : Int32) R2.2)))))
theorem u_X7_isAsItWas_X7 : ∀ w ∈ u_ws RX7 TX7 21, w ∈ wsX7_isAsItWas := fun w h => List.mem_cons_of_mem _ (List.mem_append_right _ h)
theorem k_X7_isAsItWas_1 : Cond.fieldLink RX7 91 "JoinedLightModel" "slope" "I" ∈ wsX7_isAsItWas := List.mem_of_getElem? (i := 1) rfl
theorem k_X7_isAsItWas_2 : Cond.fieldLink RX7 7 "JoinedLightModel" "s" "[I" ∈ wsX7_isAsItWas := List.mem_of_getElem? (i := 2) rfl
abbrev rm_X7_isAsItWas : Room := { frames := 6, cells := 0, slots := 0, locals := 132 }
set_option maxHeartbeats 4000000 in
set_option maxRecDepth 100000 in
theorem c_X7_isAsItWas (l : Launch) (dC : Nat → ClassId) (dI : Nat → Nat → Nat) (cI cC cO : ClassId) (qS : Nat) (aS : Nat → Nat) (gS : zG)  (R : Int32 × zG) (hf : f_X7_isAsItWas gS = some R) : cM l (dC, dI) (zT cI cC cO) yX7_isAsItWas wsX7_isAsItWas rm_X7_isAsItWas [.ref qS] [(wX7 cI qS aS gS)] [(wX7 cI qS aS R.2)] (some (.int R.1)) 0 0 := by
  refine zM_in (cc := cX7_isAsItWas) (maxL := 4) (ret := (some .boolean)) (plainFor_of_name (by decide)) rfl (Nat.le_of_ble_eq_true rfl) ?_
  intro p e s m below meth c hx hb hml hr hlk hown hts hK hN A hA hP hD hS ls hl
  have hl : lv_has ls 4 [(0, .ref qS)] := hl
  have w20 : ∀ (n20 : Nat) (y1 : Int32) (y2 : Int32) (y3 : Int32) (gS : zG) (H : Heap) (locs : List Loc) (ls : Array Slot), f_X7_isAsItWas_20   n20 y1 y2 y3 gS = some R → va_P (dC, dI) vwCl [(wX7 cI qS aS gS)].flatten H → va_D A [(wX7 cI qS aS gS)].flatten → va_S A s.heap H locs → lv_has ls 4 [(0, .ref qS), (1, .int y1), (2, .int y2), (3, .int y3)] → W p l e (headSpec wsX7_isAsItWas rm_X7_isAsItWas).room s m [.ref qS].toArray below meth c H locs 0 0 (MQ below (zqM (dC, dI) (some (.int R.1)) [(wX7 cI qS aS R.2)] A) [.ref qS].toArray s 0 0 A) (F0 m 20 ls []) := by
    intro n20
    induction n20 with
    | zero =>
      intro y1 y2 y3 gS H locs ls hf hP hD hS hl
      have hf : (none : Option (Int32 × zG)) = some R := hf
      cases hf
    | succ n20 ih20 =>
      intro y1 y2 y3 gS H locs ls hf hP hD hS hl
      have hf : f_X7_isAsItWas_20_b   (f_X7_isAsItWas_20   n20) y1 y2 y3 gS = some R := hf
      unfold f_X7_isAsItWas_20_b at hf
      refine lv_iload_n hx hb dX7_isAsItWas_20 rfl (lv_at hl 3 rfl) ?_
      refine lv_aload_n hx hb dX7_isAsItWas_21 rfl (lv_at hl 0 rfl) ?_
      refine va_get (D := (dC, dI)) (ci := 7) (v := .ref (aS 0)) (C := RX7) (T := TX7) (N := 21) hx hb hts u_X7_isAsItWas_X7 hown hK hP 0 rfl rfl 0 (by decide) (hts _ k_X7_isAsItWas_2) (fun _ h9 => h9) rfl dX7_isAsItWas_22 ?_
      refine lv_iconst (v := (0 : Int32)) hx hb dX7_isAsItWas_25 (by decide) ?_
      obtain ⟨h_3, hf⟩ := zin_ex hf
      refine va_iald hx hb hK hP 1 0 rfl rfl h_3 dX7_isAsItWas_26 ?_
      refine lv_icmp_ge (tgt := 62) hx hb dX7_isAsItWas_27 (by decide) (fun c_4 => ?_) (fun c_4 => ?_)
      · have hf := zif_t hf c_4
        refine lv_iload_n hx hb dX7_isAsItWas_62 rfl (lv_at hl 2 rfl) ?_
        obtain ⟨h_5, hf⟩ := zbl_ex hf
        exact zM_ret (gs := [(wX7 cI qS aS gS)]) hx hb hr h_5 hP hD hS (by rw [← Option.some.inj hf]; exact ⟨rfl, rfl⟩) hlk dX7_isAsItWas_63
      · have hf := zif_f hf c_4
        refine lv_aload_n hx hb dX7_isAsItWas_30 rfl (lv_at hl 0 rfl) ?_
        refine lv_iload_n hx hb dX7_isAsItWas_31 rfl (lv_at hl 3 rfl) ?_
        refine lv_sipush (v := (1000 : Int32)) hx hb dX7_isAsItWas_32 (by decide) ?_
        obtain ⟨R6, e_6, hf⟩ := zbind_ex hf
        refine z_callM (gs2 := [(wX7 cI qS aS R6)]) hP hD hS hA [0] [] rfl rfl rfl (show List.Perm [0] (List.range 1) from by decide) rfl (va_runV (As := [.int y3, .int (1000 : Int32)]) (rest := []) ⟨hx, hb, hml, hown, hts⟩ (c_X7_follows l dC dI cI cC cO qS aS gS y3 (1000 : Int32) R6 e_6 H.size) (cwV 2 hts gX7_isAsItWas_X7_follows rfl rfl rfl (by decide +kernel) ⟨Nat.le_of_ble_eq_true rfl, Nat.le_of_ble_eq_true rfl⟩) ⟨zpM_blind, va_recv hK hP (ci := 7) (q0 := 0) rfl rfl, z_useM hK hN hP hD [0] [] rfl (show List.Perm [0] (List.range 1) from by decide)⟩ rfl rfl hl.1 rfl (lv_room (Nat.le_of_ble_eq_true rfl)) dX7_isAsItWas_35 ⟨Nat.le_of_ble_eq_true rfl, Nat.le_of_ble_eq_true rfl⟩) (fun H locs hP hD hS => ?_)
        refine W.eq (g2 := F0 m 38 ls []) rfl ?_
        refine lv_iload_n hx hb dX7_isAsItWas_38 rfl (lv_at hl 2 rfl) ?_
        refine lv_if_eq (tgt := 54) hx hb dX7_isAsItWas_39 (by decide) (fun c_7 => ?_) (fun c_7 => ?_)
        · have hf := zif_t hf c_7
          refine lv_iconst (v := (0 : Int32)) hx hb dX7_isAsItWas_54 (by decide) ?_
          refine lv_istore_n (lv' := [(2, .int (0 : Int32)), (0, .ref qS), (1, .int y1), (3, .int y3)]) hx hb dX7_isAsItWas_55 rfl hl (by decide) rfl (fun ls hl => ?_)
          refine lv_iinc (v := (y3 + (1 : Int32))) (lv' := [(3, .int (y3 + (1 : Int32))), (2, .int (0 : Int32)), (0, .ref qS), (1, .int y1)]) hx hb dX7_isAsItWas_56 hl (k := 3) rfl rfl (by decide) rfl (fun ls hl => ?_)
          refine lv_goto (tgt := 20) hx hb dX7_isAsItWas_59 (by decide) ?_
          exact ih20 y1 (0 : Int32) (y3 + (1 : Int32)) R6 H locs ls hf hP hD hS (lv_sub hl [2, 3, 1, 0] rfl)
        · have hf := zif_f hf c_7
          refine lv_aload_n hx hb dX7_isAsItWas_42 rfl (lv_at hl 0 rfl) ?_
          refine va_get (D := (dC, dI)) (ci := 7) (v := .int (R6 10 0)) (C := RX7) (T := TX7) (N := 21) hx hb hts u_X7_isAsItWas_X7 hown hK hP 0 rfl rfl 10 (by decide) (hts _ k_X7_isAsItWas_1) (fun _ h9 => h9) rfl dX7_isAsItWas_43 ?_
          refine lv_iload_n hx hb dX7_isAsItWas_46 rfl (lv_at hl 1 rfl) ?_
          refine lv_icmp_ne (tgt := 54) hx hb dX7_isAsItWas_47 (by decide) (fun c_8 => ?_) (fun c_8 => ?_)
          · have hf := zif_f hf c_8
            refine lv_iconst (v := (0 : Int32)) hx hb dX7_isAsItWas_54 (by decide) ?_
            refine lv_istore_n (lv' := [(2, .int (0 : Int32)), (0, .ref qS), (1, .int y1), (3, .int y3)]) hx hb dX7_isAsItWas_55 rfl hl (by decide) rfl (fun ls hl => ?_)
            refine lv_iinc (v := (y3 + (1 : Int32))) (lv' := [(3, .int (y3 + (1 : Int32))), (2, .int (0 : Int32)), (0, .ref qS), (1, .int y1)]) hx hb dX7_isAsItWas_56 hl (k := 3) rfl rfl (by decide) rfl (fun ls hl => ?_)
            refine lv_goto (tgt := 20) hx hb dX7_isAsItWas_59 (by decide) ?_
            exact ih20 y1 (0 : Int32) (y3 + (1 : Int32)) R6 H locs ls hf hP hD hS (lv_sub hl [2, 3, 1, 0] rfl)
          · have hf := zif_t hf c_8
            refine lv_iconst (v := (1 : Int32)) hx hb dX7_isAsItWas_50 (by decide) ?_
            refine lv_goto (tgt := 55) hx hb dX7_isAsItWas_51 (by decide) ?_
            refine lv_istore_n (lv' := [(2, .int (1 : Int32)), (0, .ref qS), (1, .int y1), (3, .int y3)]) hx hb dX7_isAsItWas_55 rfl hl (by decide) rfl (fun ls hl => ?_)
            refine lv_iinc (v := (y3 + (1 : Int32))) (lv' := [(3, .int (y3 + (1 : Int32))), (2, .int (1 : Int32)), (0, .ref qS), (1, .int y1)]) hx hb dX7_isAsItWas_56 hl (k := 3) rfl rfl (by decide) rfl (fun ls hl => ?_)
            refine lv_goto (tgt := 20) hx hb dX7_isAsItWas_59 (by decide) ?_
            exact ih20 y1 (1 : Int32) (y3 + (1 : Int32)) R6 H locs ls hf hP hD hS (lv_sub hl [2, 3, 1, 0] rfl)
  unfold f_X7_isAsItWas at hf
  obtain ⟨H, hH⟩ : ∃ H, H = s.heap := ⟨_, rfl⟩
  obtain ⟨locs, hlocs⟩ : ∃ locs : List Loc, locs = [] := ⟨_, rfl⟩
  have hS : va_S A s.heap H locs := by rw [hH, hlocs]; exact hS
  rw [← hH] at hP
  refine zheap hH hlocs ?_
  refine lv_aload_n hx hb dX7_isAsItWas_0 rfl (lv_at hl 0 rfl) ?_
  refine lv_iconst (v := (0 : Int32)) hx hb dX7_isAsItWas_1 (by decide) ?_
  refine lv_sipush (v := (1000 : Int32)) hx hb dX7_isAsItWas_2 (by decide) ?_
  obtain ⟨R1, e_1, hf⟩ := zbind_ex hf
  refine z_callM (gs2 := [(wX7 cI qS aS R1)]) hP hD hS hA [0] [] rfl rfl rfl (show List.Perm [0] (List.range 1) from by decide) rfl (va_runV (As := [.int (0 : Int32), .int (1000 : Int32)]) (rest := []) ⟨hx, hb, hml, hown, hts⟩ (c_X7_follows l dC dI cI cC cO qS aS gS (0 : Int32) (1000 : Int32) R1 e_1 H.size) (cwV 2 hts gX7_isAsItWas_X7_follows rfl rfl rfl (by decide +kernel) ⟨Nat.le_of_ble_eq_true rfl, Nat.le_of_ble_eq_true rfl⟩) ⟨zpM_blind, va_recv hK hP (ci := 7) (q0 := 0) rfl rfl, z_useM hK hN hP hD [0] [] rfl (show List.Perm [0] (List.range 1) from by decide)⟩ rfl rfl hl.1 rfl (lv_room (Nat.le_of_ble_eq_true rfl)) dX7_isAsItWas_5 ⟨Nat.le_of_ble_eq_true rfl, Nat.le_of_ble_eq_true rfl⟩) (fun H locs hP hD hS => ?_)
  refine W.eq (g2 := F0 m 8 ls []) rfl ?_
  refine lv_aload_n hx hb dX7_isAsItWas_8 rfl (lv_at hl 0 rfl) ?_
  refine va_get (D := (dC, dI)) (ci := 7) (v := .int (R1 10 0)) (C := RX7) (T := TX7) (N := 21) hx hb hts u_X7_isAsItWas_X7 hown hK hP 0 rfl rfl 10 (by decide) (hts _ k_X7_isAsItWas_1) (fun _ h9 => h9) rfl dX7_isAsItWas_9 ?_
  refine lv_istore_n (lv' := [(1, .int (R1 10 0)), (0, .ref qS)]) hx hb dX7_isAsItWas_12 rfl hl (by decide) rfl (fun ls hl => ?_)
  refine lv_aload_n hx hb dX7_isAsItWas_13 rfl (lv_at hl 1 rfl) ?_
  obtain ⟨R2, e_2, hf⟩ := zbind_ex hf
  refine z_callM (gs2 := [(wX7 cI qS aS R2.2)]) hP hD hS hA [0] [] rfl rfl rfl (show List.Perm [0] (List.range 1) from by decide) rfl (va_runV (As := []) (rest := []) ⟨hx, hb, hml, hown, hts⟩ (c_X7_isJoined l dC dI cI cC cO qS aS R1  R2 e_2 H.size) (cwV 0 hts gX7_isAsItWas_X7_isJoined rfl rfl rfl (by decide +kernel) ⟨Nat.le_of_ble_eq_true rfl, Nat.le_of_ble_eq_true rfl⟩) ⟨zpM_blind, va_recv hK hP (ci := 7) (q0 := 0) rfl rfl, z_useM hK hN hP hD [0] [] rfl (show List.Perm [0] (List.range 1) from by decide)⟩ rfl rfl hl.1 rfl (lv_room (Nat.le_of_ble_eq_true rfl)) dX7_isAsItWas_14 ⟨Nat.le_of_ble_eq_true rfl, Nat.le_of_ble_eq_true rfl⟩) (fun H locs hP hD hS => ?_)
  refine W.eq (g2 := F0 m 17 ls [.int R2.1]) rfl ?_
  refine lv_istore_n (lv' := [(2, .int R2.1), (1, .int (R1 10 0)), (0, .ref qS)]) hx hb dX7_isAsItWas_17 rfl hl (by decide) rfl (fun ls hl => ?_)
  refine lv_iconst (v := (0 : Int32)) hx hb dX7_isAsItWas_18 (by decide) ?_
  refine lv_istore_n (lv' := [(3, .int (0 : Int32)), (2, .int R2.1), (1, .int (R1 10 0)), (0, .ref qS)]) hx hb dX7_isAsItWas_19 rfl hl (by decide) rfl (fun ls hl => ?_)
  exact w20 zfuel (R1 10 0) R2.1 (0 : Int32) R2.2 H locs ls hf hP hD hS (lv_sub hl [3, 2, 1, 0] rfl)

def f_X7_lostAtThings_4_b   (k4 : Int32 → Int32 → zG → Option (Int32 × zG)) (y1 : Int32) (y2 : Int32) (gS : zG) : Option (Int32 × zG) := (zin (1 : Int32) 59 (if (gS 0 (1 : Int32).toNatClampNeg) ≤ y2 then (some (y1, gS)) else (zbind (f_X7_of gS y2 (0 : Int32)) (fun R3 => (zbind (f_X7_lostAt gS R3) (fun R4 => (k4 (y1 + R4.1) (y2 + (1 : Int32)) R4.2)))))))
def f_X7_lostAtThings_4   : Nat → Int32 → Int32 → zG → Option (Int32 × zG)
  | 0 => fun _ _ _ => none
  | n + 1 => f_X7_lostAtThings_4_b   (f_X7_lostAtThings_4   n)
def f_X7_lostAtThings (gS : zG)  : Option (Int32 × zG) := (f_X7_lostAtThings_4   zfuel (0 : Int32) (0 : Int32) gS)
theorem u_X7_lostAtThings_X7 : ∀ w ∈ u_ws RX7 TX7 21, w ∈ wsX7_lostAtThings := fun w h => List.mem_cons_of_mem _ (List.mem_append_right _ h)
theorem k_X7_lostAtThings_1 : Cond.fieldLink RX7 7 "JoinedLightModel" "s" "[I" ∈ wsX7_lostAtThings := List.mem_of_getElem? (i := 1) rfl
abbrev rm_X7_lostAtThings : Room := { frames := 4, cells := 0, slots := 0, locals := 89 }
set_option maxHeartbeats 4000000 in
set_option maxRecDepth 100000 in
theorem c_X7_lostAtThings (l : Launch) (dC : Nat → ClassId) (dI : Nat → Nat → Nat) (cI cC cO : ClassId) (qS : Nat) (aS : Nat → Nat) (gS : zG)  (R : Int32 × zG) (hf : f_X7_lostAtThings gS = some R) : cM l (dC, dI) (zT cI cC cO) yX7_lostAtThings wsX7_lostAtThings rm_X7_lostAtThings [.ref qS] [(wX7 cI qS aS gS)] [(wX7 cI qS aS R.2)] (some (.int R.1)) 0 0 := by
  refine zM_in (cc := cX7_lostAtThings) (maxL := 3) (ret := (some .int)) (plainFor_of_name (by decide)) rfl (Nat.le_of_ble_eq_true rfl) ?_
  intro p e s m below meth c hx hb hml hr hlk hown hts hK hN A hA hP hD hS ls hl
  have hl : lv_has ls 3 [(0, .ref qS)] := hl
  have w4 : ∀ (n4 : Nat) (y1 : Int32) (y2 : Int32) (gS : zG) (H : Heap) (locs : List Loc) (ls : Array Slot), f_X7_lostAtThings_4   n4 y1 y2 gS = some R → va_P (dC, dI) vwCl [(wX7 cI qS aS gS)].flatten H → va_D A [(wX7 cI qS aS gS)].flatten → va_S A s.heap H locs → lv_has ls 3 [(0, .ref qS), (1, .int y1), (2, .int y2)] → W p l e (headSpec wsX7_lostAtThings rm_X7_lostAtThings).room s m [.ref qS].toArray below meth c H locs 0 0 (MQ below (zqM (dC, dI) (some (.int R.1)) [(wX7 cI qS aS R.2)] A) [.ref qS].toArray s 0 0 A) (F0 m 4 ls []) := by
    intro n4
    induction n4 with
    | zero =>
      intro y1 y2 gS H locs ls hf hP hD hS hl
      have hf : (none : Option (Int32 × zG)) = some R := hf
      cases hf
    | succ n4 ih4 =>
      intro y1 y2 gS H locs ls hf hP hD hS hl
      have hf : f_X7_lostAtThings_4_b   (f_X7_lostAtThings_4   n4) y1 y2 gS = some R := hf
      unfold f_X7_lostAtThings_4_b at hf
      refine lv_iload_n hx hb dX7_lostAtThings_4 rfl (lv_at hl 2 rfl) ?_
      refine lv_aload_n hx hb dX7_lostAtThings_5 rfl (lv_at hl 0 rfl) ?_
      refine va_get (D := (dC, dI)) (ci := 7) (v := .ref (aS 0)) (C := RX7) (T := TX7) (N := 21) hx hb hts u_X7_lostAtThings_X7 hown hK hP 0 rfl rfl 0 (by decide) (hts _ k_X7_lostAtThings_1) (fun _ h9 => h9) rfl dX7_lostAtThings_6 ?_
      refine lv_iconst (v := (1 : Int32)) hx hb dX7_lostAtThings_9 (by decide) ?_
      obtain ⟨h_1, hf⟩ := zin_ex hf
      refine va_iald hx hb hK hP 1 0 rfl rfl h_1 dX7_lostAtThings_10 ?_
      refine lv_icmp_ge (tgt := 33) hx hb dX7_lostAtThings_11 (by decide) (fun c_2 => ?_) (fun c_2 => ?_)
      · have hf := zif_t hf c_2
        refine lv_iload_n hx hb dX7_lostAtThings_33 rfl (lv_at hl 1 rfl) ?_
        exact zM_ret (gs := [(wX7 cI qS aS gS)]) hx hb hr rfl hP hD hS (by rw [← Option.some.inj hf]; exact ⟨rfl, rfl⟩) hlk dX7_lostAtThings_34
      · have hf := zif_f hf c_2
        refine lv_iload_n hx hb dX7_lostAtThings_14 rfl (lv_at hl 1 rfl) ?_
        refine lv_aload_n hx hb dX7_lostAtThings_15 rfl (lv_at hl 0 rfl) ?_
        refine lv_aload_n hx hb dX7_lostAtThings_16 rfl (lv_at hl 0 rfl) ?_
        refine lv_iload_n hx hb dX7_lostAtThings_17 rfl (lv_at hl 2 rfl) ?_
        refine lv_iconst (v := (0 : Int32)) hx hb dX7_lostAtThings_18 (by decide) ?_
        obtain ⟨R3, e_3, hf⟩ := zbind_ex hf
        refine z_callRi (va_runV (As := [.int y2, .int (0 : Int32)]) (rest := [.ref qS, .int y1]) ⟨hx, hb, hml, hown, hts⟩ (c_X7_of l dC dI cI cC cO qS aS gS y2 (0 : Int32) R3 e_3) (cwV 2 hts gX7_lostAtThings_X7_of rfl rfl rfl (by decide +kernel) ⟨Nat.le_of_ble_eq_true rfl, Nat.le_of_ble_eq_true rfl⟩) ⟨zpR_blind, va_recv hK hP (ci := 7) (q0 := 0) rfl rfl, z_useR hK hN hP [0] rfl⟩ rfl rfl hl.1 rfl (lv_room (Nat.le_of_ble_eq_true rfl)) dX7_lostAtThings_19 ⟨Nat.le_of_ble_eq_true rfl, Nat.le_of_ble_eq_true rfl⟩) ?_
        obtain ⟨R4, e_4, hf⟩ := zbind_ex hf
        refine z_callM (gs2 := [(wX7 cI qS aS R4.2)]) hP hD hS hA [0] [] rfl rfl rfl (show List.Perm [0] (List.range 1) from by decide) rfl (va_runV (As := [.int R3]) (rest := [.int y1]) ⟨hx, hb, hml, hown, hts⟩ (c_X7_lostAt l dC dI cI cC cO qS aS gS R3 R4 e_4 H.size) (cwV 1 hts gX7_lostAtThings_X7_lostAt rfl rfl rfl (by decide +kernel) ⟨Nat.le_of_ble_eq_true rfl, Nat.le_of_ble_eq_true rfl⟩) ⟨zpM_blind, va_recv hK hP (ci := 7) (q0 := 0) rfl rfl, z_useM hK hN hP hD [0] [] rfl (show List.Perm [0] (List.range 1) from by decide)⟩ rfl rfl hl.1 rfl (lv_room (Nat.le_of_ble_eq_true rfl)) dX7_lostAtThings_22 ⟨Nat.le_of_ble_eq_true rfl, Nat.le_of_ble_eq_true rfl⟩) (fun H locs hP hD hS => ?_)
        refine W.eq (g2 := F0 m 25 ls [.int R4.1, .int y1]) rfl ?_
        refine lv_iadd hx hb dX7_lostAtThings_25 ?_
        refine lv_istore_n (lv' := [(1, .int (y1 + R4.1)), (0, .ref qS), (2, .int y2)]) hx hb dX7_lostAtThings_26 rfl hl (by decide) rfl (fun ls hl => ?_)
        refine lv_iinc (v := (y2 + (1 : Int32))) (lv' := [(2, .int (y2 + (1 : Int32))), (1, .int (y1 + R4.1)), (0, .ref qS)]) hx hb dX7_lostAtThings_27 hl (k := 2) rfl rfl (by decide) rfl (fun ls hl => ?_)
        refine lv_goto (tgt := 4) hx hb dX7_lostAtThings_30 (by decide) ?_
        exact ih4 (y1 + R4.1) (y2 + (1 : Int32)) R4.2 H locs ls hf hP hD hS (lv_sub hl [2, 1, 0] rfl)
  unfold f_X7_lostAtThings at hf
  obtain ⟨H, hH⟩ : ∃ H, H = s.heap := ⟨_, rfl⟩
  obtain ⟨locs, hlocs⟩ : ∃ locs : List Loc, locs = [] := ⟨_, rfl⟩
  have hS : va_S A s.heap H locs := by rw [hH, hlocs]; exact hS
  rw [← hH] at hP
  refine zheap hH hlocs ?_
  refine lv_iconst (v := (0 : Int32)) hx hb dX7_lostAtThings_0 (by decide) ?_
  refine lv_istore_n (lv' := [(1, .int (0 : Int32)), (0, .ref qS)]) hx hb dX7_lostAtThings_1 rfl hl (by decide) rfl (fun ls hl => ?_)
  refine lv_iconst (v := (0 : Int32)) hx hb dX7_lostAtThings_2 (by decide) ?_
  refine lv_istore_n (lv' := [(2, .int (0 : Int32)), (1, .int (0 : Int32)), (0, .ref qS)]) hx hb dX7_lostAtThings_3 rfl hl (by decide) rfl (fun ls hl => ?_)
  exact w4 zfuel (0 : Int32) (0 : Int32) gS H locs ls hf hP hD hS (lv_sub hl [2, 1, 0] rfl)

def f_X7_count (gS : zG) (x1 : Int32) : Option (Int32 × zG) := (if x1 = (0 : Int32) then (zin x1 59 (some ((gS 0 x1.toNatClampNeg), gS))) else (if x1 = (1 : Int32) then (zin x1 59 (some ((gS 0 x1.toNatClampNeg), gS))) else (if x1 = (2 : Int32) then (zbind (f_X7_coming gS (1000 : Int32)) (fun R6 => (some (R6.1, R6.2)))) else (if x1 = (3 : Int32) then (zbind (f_X7_spread gS) (fun R8 => (some (R8.1, R8.2)))) else (if x1 = (4 : Int32) then (zbind (f_X7_isJoined gS) (fun R10 => (if R10.1 = 0 then (some ((0 : Int32), R10.2)) else (some ((1 : Int32), R10.2))))) else (if x1 = (5 : Int32) then (zbind (f_X7_isAsItWas gS) (fun R13 => (if R13.1 = 0 then (some ((0 : Int32), R13.2)) else (some ((1 : Int32), R13.2))))) else (if x1 = (6 : Int32) then (zbind (f_X7_allLines gS) (fun R16 => (zbind (f_X7_lightIn gS R16) (fun R17 => (some (R17, gS)))))) else (if x1 = (7 : Int32) then (zbind (f_X7_coming gS (1000 : Int32)) (fun R19 => (zbind (f_X7_lightIn R19.2 R19.1) (fun R20 => (some (R20, R19.2)))))) else (if x1 = (8 : Int32) then (zbind (f_X7_lostAtThings gS) (fun R22 => (some (R22.1, R22.2)))) else (if x1 = (9 : Int32) then (zbind (f_X7_lostAt gS (1000 : Int32)) (fun R24 => (some (R24.1, R24.2)))) else (if x1 = (10 : Int32) then (zbind (f_X7_laysCells gS) (fun R26 => (some (R26.1, R26.2)))) else (if x1 = (11 : Int32) then (some ((gS 4 0), gS)) else (if x1 = (12 : Int32) then (some ((gS 7 0), gS)) else (if x1 = (13 : Int32) then (some ((-1000000001 : Int32), gS)) else (if x1 = (14 : Int32) then (some ((-1000000001 : Int32), gS)) else (if x1 = (15 : Int32) then (some ((-1000000001 : Int32), gS)) else (if x1 = (16 : Int32) then (some ((-1000000001 : Int32), gS)) else (if x1 = (17 : Int32) then (some ((-1000000001 : Int32), gS)) else (if x1 = (18 : Int32) then (some ((-1000000001 : Int32), gS)) else (if x1 = (19 : Int32) then (some ((-1000000001 : Int32), gS)) else (if x1 = (20 : Int32) then (zin (2 : Int32) 59 (some ((gS 0 (2 : Int32).toNatClampNeg), gS))) else (some ((-1000000001 : Int32), gS)))))))))))))))))))))))
theorem u_X7_count_X7 : ∀ w ∈ u_ws RX7 TX7 21, w ∈ wsX7_count := fun w h => List.mem_cons_of_mem _ (List.mem_append_right _ h)
theorem k_X7_count_1 : Cond.fieldLink RX7 7 "JoinedLightModel" "s" "[I" ∈ wsX7_count := List.mem_of_getElem? (i := 1) rfl
theorem k_X7_count_2 : Cond.fieldLink RX7 38 "JoinedLightModel" "pasts" "I" ∈ wsX7_count := List.mem_of_getElem? (i := 2) rfl
theorem k_X7_count_3 : Cond.fieldLink RX7 168 "JoinedLightModel" "typed" "I" ∈ wsX7_count := List.mem_of_getElem? (i := 3) rfl
theorem k_X7_count_4 : Cond.constant RX7 51 (-1000000001) ∈ wsX7_count := List.mem_of_getElem? (i := 4) rfl
abbrev rm_X7_count : Room := { frames := 7, cells := 0, slots := 0, locals := 155 }
set_option maxHeartbeats 4000000 in
set_option maxRecDepth 100000 in
theorem c_X7_count (l : Launch) (dC : Nat → ClassId) (dI : Nat → Nat → Nat) (cI cC cO : ClassId) (qS : Nat) (aS : Nat → Nat) (gS : zG) (x1 : Int32) (R : Int32 × zG) (hf : f_X7_count gS x1 = some R) : cM l (dC, dI) (zT cI cC cO) yX7_count wsX7_count rm_X7_count [.ref qS, .int x1] [(wX7 cI qS aS gS)] [(wX7 cI qS aS R.2)] (some (.int R.1)) 0 0 := by
  refine zM_in (cc := cX7_count) (maxL := 2) (ret := (some .int)) (plainFor_of_name (by decide)) rfl (Nat.le_of_ble_eq_true rfl) ?_
  intro p e s m below meth c hx hb hml hr hlk hown hts hK hN A hA hP hD hS ls hl
  have hl : lv_has ls 2 [(0, .ref qS), (1, .int x1)] := hl
  unfold f_X7_count at hf
  obtain ⟨H, hH⟩ : ∃ H, H = s.heap := ⟨_, rfl⟩
  obtain ⟨locs, hlocs⟩ : ∃ locs : List Loc, locs = [] := ⟨_, rfl⟩
  have hS : va_S A s.heap H locs := by rw [hH, hlocs]; exact hS
  rw [← hH] at hP
  refine zheap hH hlocs ?_
  refine lv_iload_n hx hb dX7_count_0 rfl (lv_at hl 1 rfl) ?_
  by_cases c_1 : x1 = (0 : Int32)
  · have hf := zif_t hf c_1
    refine lv_tableIn (tgt := 100) (off := 99) hx hb dX7_count_1 (by rw [c_1]; decide) (by rw [c_1]; decide) (by rw [c_1]; first | done | rfl) (by decide) ?_
    refine lv_aload_n hx hb dX7_count_100 rfl (lv_at hl 0 rfl) ?_
    refine va_get (D := (dC, dI)) (ci := 7) (v := .ref (aS 0)) (C := RX7) (T := TX7) (N := 21) hx hb hts u_X7_count_X7 hown hK hP 0 rfl rfl 0 (by decide) (hts _ k_X7_count_1) (fun _ h9 => h9) rfl dX7_count_101 ?_
    refine lv_iload_n hx hb dX7_count_104 rfl (lv_at hl 1 rfl) ?_
    obtain ⟨h_2, hf⟩ := zin_ex hf
    refine va_iald hx hb hK hP 1 0 rfl rfl h_2 dX7_count_105 ?_
    exact zM_ret (gs := [(wX7 cI qS aS gS)]) hx hb hr rfl hP hD hS (by rw [← Option.some.inj hf]; exact ⟨rfl, rfl⟩) hlk dX7_count_106
  · have hf := zif_f hf c_1
    by_cases c_3 : x1 = (1 : Int32)
    · have hf := zif_t hf c_3
      refine lv_tableIn (tgt := 100) (off := 99) hx hb dX7_count_1 (by rw [c_3]; decide) (by rw [c_3]; decide) (by rw [c_3]; first | done | rfl) (by decide) ?_
      refine lv_aload_n hx hb dX7_count_100 rfl (lv_at hl 0 rfl) ?_
      refine va_get (D := (dC, dI)) (ci := 7) (v := .ref (aS 0)) (C := RX7) (T := TX7) (N := 21) hx hb hts u_X7_count_X7 hown hK hP 0 rfl rfl 0 (by decide) (hts _ k_X7_count_1) (fun _ h9 => h9) rfl dX7_count_101 ?_
      refine lv_iload_n hx hb dX7_count_104 rfl (lv_at hl 1 rfl) ?_
      obtain ⟨h_4, hf⟩ := zin_ex hf
      refine va_iald hx hb hK hP 1 0 rfl rfl h_4 dX7_count_105 ?_
      exact zM_ret (gs := [(wX7 cI qS aS gS)]) hx hb hr rfl hP hD hS (by rw [← Option.some.inj hf]; exact ⟨rfl, rfl⟩) hlk dX7_count_106
    · have hf := zif_f hf c_3
      by_cases c_5 : x1 = (2 : Int32)
      · have hf := zif_t hf c_5
        refine lv_tableIn (tgt := 107) (off := 106) hx hb dX7_count_1 (by rw [c_5]; decide) (by rw [c_5]; decide) (by rw [c_5]; first | done | rfl) (by decide) ?_
        refine lv_aload_n hx hb dX7_count_107 rfl (lv_at hl 0 rfl) ?_
        refine lv_sipush (v := (1000 : Int32)) hx hb dX7_count_108 (by decide) ?_
        obtain ⟨R6, e_6, hf⟩ := zbind_ex hf
        refine z_callM (gs2 := [(wX7 cI qS aS R6.2)]) hP hD hS hA [0] [] rfl rfl rfl (show List.Perm [0] (List.range 1) from by decide) rfl (va_runV (As := [.int (1000 : Int32)]) (rest := []) ⟨hx, hb, hml, hown, hts⟩ (c_X7_coming l dC dI cI cC cO qS aS gS (1000 : Int32) R6 e_6 H.size) (cwV 1 hts gX7_count_X7_coming rfl rfl rfl (by decide +kernel) ⟨Nat.le_of_ble_eq_true rfl, Nat.le_of_ble_eq_true rfl⟩) ⟨zpM_blind, va_recv hK hP (ci := 7) (q0 := 0) rfl rfl, z_useM hK hN hP hD [0] [] rfl (show List.Perm [0] (List.range 1) from by decide)⟩ rfl rfl hl.1 rfl (lv_room (Nat.le_of_ble_eq_true rfl)) dX7_count_111 ⟨Nat.le_of_ble_eq_true rfl, Nat.le_of_ble_eq_true rfl⟩) (fun H locs hP hD hS => ?_)
        refine W.eq (g2 := F0 m 114 ls [.int R6.1]) rfl ?_
        exact zM_ret (gs := [(wX7 cI qS aS R6.2)]) hx hb hr rfl hP hD hS (by rw [← Option.some.inj hf]; exact ⟨rfl, rfl⟩) hlk dX7_count_114
      · have hf := zif_f hf c_5
        by_cases c_7 : x1 = (3 : Int32)
        · have hf := zif_t hf c_7
          refine lv_tableIn (tgt := 115) (off := 114) hx hb dX7_count_1 (by rw [c_7]; decide) (by rw [c_7]; decide) (by rw [c_7]; first | done | rfl) (by decide) ?_
          refine lv_aload_n hx hb dX7_count_115 rfl (lv_at hl 0 rfl) ?_
          obtain ⟨R8, e_8, hf⟩ := zbind_ex hf
          refine z_callM (gs2 := [(wX7 cI qS aS R8.2)]) hP hD hS hA [0] [] rfl rfl rfl (show List.Perm [0] (List.range 1) from by decide) rfl (va_runV (As := []) (rest := []) ⟨hx, hb, hml, hown, hts⟩ (c_X7_spread l dC dI cI cC cO qS aS gS  R8 e_8 H.size) (cwV 0 hts gX7_count_X7_spread rfl rfl rfl (by decide +kernel) ⟨Nat.le_of_ble_eq_true rfl, Nat.le_of_ble_eq_true rfl⟩) ⟨zpM_blind, va_recv hK hP (ci := 7) (q0 := 0) rfl rfl, z_useM hK hN hP hD [0] [] rfl (show List.Perm [0] (List.range 1) from by decide)⟩ rfl rfl hl.1 rfl (lv_room (Nat.le_of_ble_eq_true rfl)) dX7_count_116 ⟨Nat.le_of_ble_eq_true rfl, Nat.le_of_ble_eq_true rfl⟩) (fun H locs hP hD hS => ?_)
          refine W.eq (g2 := F0 m 119 ls [.int R8.1]) rfl ?_
          exact zM_ret (gs := [(wX7 cI qS aS R8.2)]) hx hb hr rfl hP hD hS (by rw [← Option.some.inj hf]; exact ⟨rfl, rfl⟩) hlk dX7_count_119
        · have hf := zif_f hf c_7
          by_cases c_9 : x1 = (4 : Int32)
          · have hf := zif_t hf c_9
            refine lv_tableIn (tgt := 120) (off := 119) hx hb dX7_count_1 (by rw [c_9]; decide) (by rw [c_9]; decide) (by rw [c_9]; first | done | rfl) (by decide) ?_
            refine lv_aload_n hx hb dX7_count_120 rfl (lv_at hl 0 rfl) ?_
            obtain ⟨R10, e_10, hf⟩ := zbind_ex hf
            refine z_callM (gs2 := [(wX7 cI qS aS R10.2)]) hP hD hS hA [0] [] rfl rfl rfl (show List.Perm [0] (List.range 1) from by decide) rfl (va_runV (As := []) (rest := []) ⟨hx, hb, hml, hown, hts⟩ (c_X7_isJoined l dC dI cI cC cO qS aS gS  R10 e_10 H.size) (cwV 0 hts gX7_count_X7_isJoined rfl rfl rfl (by decide +kernel) ⟨Nat.le_of_ble_eq_true rfl, Nat.le_of_ble_eq_true rfl⟩) ⟨zpM_blind, va_recv hK hP (ci := 7) (q0 := 0) rfl rfl, z_useM hK hN hP hD [0] [] rfl (show List.Perm [0] (List.range 1) from by decide)⟩ rfl rfl hl.1 rfl (lv_room (Nat.le_of_ble_eq_true rfl)) dX7_count_121 ⟨Nat.le_of_ble_eq_true rfl, Nat.le_of_ble_eq_true rfl⟩) (fun H locs hP hD hS => ?_)
            refine W.eq (g2 := F0 m 124 ls [.int R10.1]) rfl ?_
            refine lv_if_eq (tgt := 131) hx hb dX7_count_124 (by decide) (fun c_11 => ?_) (fun c_11 => ?_)
            · have hf := zif_t hf c_11
              refine lv_iconst (v := (0 : Int32)) hx hb dX7_count_131 (by decide) ?_
              exact zM_ret (gs := [(wX7 cI qS aS R10.2)]) hx hb hr rfl hP hD hS (by rw [← Option.some.inj hf]; exact ⟨rfl, rfl⟩) hlk dX7_count_132
            · have hf := zif_f hf c_11
              refine lv_iconst (v := (1 : Int32)) hx hb dX7_count_127 (by decide) ?_
              refine lv_goto (tgt := 132) hx hb dX7_count_128 (by decide) ?_
              exact zM_ret (gs := [(wX7 cI qS aS R10.2)]) hx hb hr rfl hP hD hS (by rw [← Option.some.inj hf]; exact ⟨rfl, rfl⟩) hlk dX7_count_132
          · have hf := zif_f hf c_9
            by_cases c_12 : x1 = (5 : Int32)
            · have hf := zif_t hf c_12
              refine lv_tableIn (tgt := 133) (off := 132) hx hb dX7_count_1 (by rw [c_12]; decide) (by rw [c_12]; decide) (by rw [c_12]; first | done | rfl) (by decide) ?_
              refine lv_aload_n hx hb dX7_count_133 rfl (lv_at hl 0 rfl) ?_
              obtain ⟨R13, e_13, hf⟩ := zbind_ex hf
              refine z_callM (gs2 := [(wX7 cI qS aS R13.2)]) hP hD hS hA [0] [] rfl rfl rfl (show List.Perm [0] (List.range 1) from by decide) rfl (va_runV (As := []) (rest := []) ⟨hx, hb, hml, hown, hts⟩ (c_X7_isAsItWas l dC dI cI cC cO qS aS gS  R13 e_13 H.size) (cwV 0 hts gX7_count_X7_isAsItWas rfl rfl rfl (by decide +kernel) ⟨Nat.le_of_ble_eq_true rfl, Nat.le_of_ble_eq_true rfl⟩) ⟨zpM_blind, va_recv hK hP (ci := 7) (q0 := 0) rfl rfl, z_useM hK hN hP hD [0] [] rfl (show List.Perm [0] (List.range 1) from by decide)⟩ rfl rfl hl.1 rfl (lv_room (Nat.le_of_ble_eq_true rfl)) dX7_count_134 ⟨Nat.le_of_ble_eq_true rfl, Nat.le_of_ble_eq_true rfl⟩) (fun H locs hP hD hS => ?_)
              refine W.eq (g2 := F0 m 137 ls [.int R13.1]) rfl ?_
              refine lv_if_eq (tgt := 144) hx hb dX7_count_137 (by decide) (fun c_14 => ?_) (fun c_14 => ?_)
              · have hf := zif_t hf c_14
                refine lv_iconst (v := (0 : Int32)) hx hb dX7_count_144 (by decide) ?_
                exact zM_ret (gs := [(wX7 cI qS aS R13.2)]) hx hb hr rfl hP hD hS (by rw [← Option.some.inj hf]; exact ⟨rfl, rfl⟩) hlk dX7_count_145
              · have hf := zif_f hf c_14
                refine lv_iconst (v := (1 : Int32)) hx hb dX7_count_140 (by decide) ?_
                refine lv_goto (tgt := 145) hx hb dX7_count_141 (by decide) ?_
                exact zM_ret (gs := [(wX7 cI qS aS R13.2)]) hx hb hr rfl hP hD hS (by rw [← Option.some.inj hf]; exact ⟨rfl, rfl⟩) hlk dX7_count_145
            · have hf := zif_f hf c_12
              by_cases c_15 : x1 = (6 : Int32)
              · have hf := zif_t hf c_15
                refine lv_tableIn (tgt := 146) (off := 145) hx hb dX7_count_1 (by rw [c_15]; decide) (by rw [c_15]; decide) (by rw [c_15]; first | done | rfl) (by decide) ?_
                refine lv_aload_n hx hb dX7_count_146 rfl (lv_at hl 0 rfl) ?_
                refine lv_aload_n hx hb dX7_count_147 rfl (lv_at hl 0 rfl) ?_
                obtain ⟨R16, e_16, hf⟩ := zbind_ex hf
                refine z_callRi (va_runV (As := []) (rest := [.ref qS]) ⟨hx, hb, hml, hown, hts⟩ (c_X7_allLines l dC dI cI cC cO qS aS gS  R16 e_16) (cwV 0 hts gX7_count_X7_allLines rfl rfl rfl (by decide +kernel) ⟨Nat.le_of_ble_eq_true rfl, Nat.le_of_ble_eq_true rfl⟩) ⟨zpR_blind, va_recv hK hP (ci := 7) (q0 := 0) rfl rfl, z_useR hK hN hP [0] rfl⟩ rfl rfl hl.1 rfl (lv_room (Nat.le_of_ble_eq_true rfl)) dX7_count_148 ⟨Nat.le_of_ble_eq_true rfl, Nat.le_of_ble_eq_true rfl⟩) ?_
                obtain ⟨R17, e_17, hf⟩ := zbind_ex hf
                refine z_callRi (va_runV (As := [.int R16]) (rest := []) ⟨hx, hb, hml, hown, hts⟩ (c_X7_lightIn l dC dI cI cC cO qS aS gS R16 R17 e_17) (cwV 1 hts gX7_count_X7_lightIn rfl rfl rfl (by decide +kernel) ⟨Nat.le_of_ble_eq_true rfl, Nat.le_of_ble_eq_true rfl⟩) ⟨zpR_blind, va_recv hK hP (ci := 7) (q0 := 0) rfl rfl, z_useR hK hN hP [0] rfl⟩ rfl rfl hl.1 rfl (lv_room (Nat.le_of_ble_eq_true rfl)) dX7_count_151 ⟨Nat.le_of_ble_eq_true rfl, Nat.le_of_ble_eq_true rfl⟩) ?_
                exact zM_ret (gs := [(wX7 cI qS aS gS)]) hx hb hr rfl hP hD hS (by rw [← Option.some.inj hf]; exact ⟨rfl, rfl⟩) hlk dX7_count_154
              · have hf := zif_f hf c_15
                by_cases c_18 : x1 = (7 : Int32)
                · have hf := zif_t hf c_18
                  refine lv_tableIn (tgt := 155) (off := 154) hx hb dX7_count_1 (by rw [c_18]; decide) (by rw [c_18]; decide) (by rw [c_18]; first | done | rfl) (by decide) ?_
                  refine lv_aload_n hx hb dX7_count_155 rfl (lv_at hl 0 rfl) ?_
                  refine lv_aload_n hx hb dX7_count_156 rfl (lv_at hl 0 rfl) ?_
                  refine lv_sipush (v := (1000 : Int32)) hx hb dX7_count_157 (by decide) ?_
                  obtain ⟨R19, e_19, hf⟩ := zbind_ex hf
                  refine z_callM (gs2 := [(wX7 cI qS aS R19.2)]) hP hD hS hA [0] [] rfl rfl rfl (show List.Perm [0] (List.range 1) from by decide) rfl (va_runV (As := [.int (1000 : Int32)]) (rest := [.ref qS]) ⟨hx, hb, hml, hown, hts⟩ (c_X7_coming l dC dI cI cC cO qS aS gS (1000 : Int32) R19 e_19 H.size) (cwV 1 hts gX7_count_X7_coming rfl rfl rfl (by decide +kernel) ⟨Nat.le_of_ble_eq_true rfl, Nat.le_of_ble_eq_true rfl⟩) ⟨zpM_blind, va_recv hK hP (ci := 7) (q0 := 0) rfl rfl, z_useM hK hN hP hD [0] [] rfl (show List.Perm [0] (List.range 1) from by decide)⟩ rfl rfl hl.1 rfl (lv_room (Nat.le_of_ble_eq_true rfl)) dX7_count_160 ⟨Nat.le_of_ble_eq_true rfl, Nat.le_of_ble_eq_true rfl⟩) (fun H locs hP hD hS => ?_)
                  refine W.eq (g2 := F0 m 163 ls [.int R19.1, .ref qS]) rfl ?_
                  obtain ⟨R20, e_20, hf⟩ := zbind_ex hf
                  refine z_callRi (va_runV (As := [.int R19.1]) (rest := []) ⟨hx, hb, hml, hown, hts⟩ (c_X7_lightIn l dC dI cI cC cO qS aS R19.2 R19.1 R20 e_20) (cwV 1 hts gX7_count_X7_lightIn rfl rfl rfl (by decide +kernel) ⟨Nat.le_of_ble_eq_true rfl, Nat.le_of_ble_eq_true rfl⟩) ⟨zpR_blind, va_recv hK hP (ci := 7) (q0 := 0) rfl rfl, z_useR hK hN hP [0] rfl⟩ rfl rfl hl.1 rfl (lv_room (Nat.le_of_ble_eq_true rfl)) dX7_count_163 ⟨Nat.le_of_ble_eq_true rfl, Nat.le_of_ble_eq_true rfl⟩) ?_
                  exact zM_ret (gs := [(wX7 cI qS aS R19.2)]) hx hb hr rfl hP hD hS (by rw [← Option.some.inj hf]; exact ⟨rfl, rfl⟩) hlk dX7_count_166
                · have hf := zif_f hf c_18
                  by_cases c_21 : x1 = (8 : Int32)
                  · have hf := zif_t hf c_21
                    refine lv_tableIn (tgt := 167) (off := 166) hx hb dX7_count_1 (by rw [c_21]; decide) (by rw [c_21]; decide) (by rw [c_21]; first | done | rfl) (by decide) ?_
                    refine lv_aload_n hx hb dX7_count_167 rfl (lv_at hl 0 rfl) ?_
                    obtain ⟨R22, e_22, hf⟩ := zbind_ex hf
                    refine z_callM (gs2 := [(wX7 cI qS aS R22.2)]) hP hD hS hA [0] [] rfl rfl rfl (show List.Perm [0] (List.range 1) from by decide) rfl (va_runV (As := []) (rest := []) ⟨hx, hb, hml, hown, hts⟩ (c_X7_lostAtThings l dC dI cI cC cO qS aS gS  R22 e_22 H.size) (cwV 0 hts gX7_count_X7_lostAtThings rfl rfl rfl (by decide +kernel) ⟨Nat.le_of_ble_eq_true rfl, Nat.le_of_ble_eq_true rfl⟩) ⟨zpM_blind, va_recv hK hP (ci := 7) (q0 := 0) rfl rfl, z_useM hK hN hP hD [0] [] rfl (show List.Perm [0] (List.range 1) from by decide)⟩ rfl rfl hl.1 rfl (lv_room (Nat.le_of_ble_eq_true rfl)) dX7_count_168 ⟨Nat.le_of_ble_eq_true rfl, Nat.le_of_ble_eq_true rfl⟩) (fun H locs hP hD hS => ?_)
                    refine W.eq (g2 := F0 m 171 ls [.int R22.1]) rfl ?_
                    exact zM_ret (gs := [(wX7 cI qS aS R22.2)]) hx hb hr rfl hP hD hS (by rw [← Option.some.inj hf]; exact ⟨rfl, rfl⟩) hlk dX7_count_171
                  · have hf := zif_f hf c_21
                    by_cases c_23 : x1 = (9 : Int32)
                    · have hf := zif_t hf c_23
                      refine lv_tableIn (tgt := 172) (off := 171) hx hb dX7_count_1 (by rw [c_23]; decide) (by rw [c_23]; decide) (by rw [c_23]; first | done | rfl) (by decide) ?_
                      refine lv_aload_n hx hb dX7_count_172 rfl (lv_at hl 0 rfl) ?_
                      refine lv_sipush (v := (1000 : Int32)) hx hb dX7_count_173 (by decide) ?_
                      obtain ⟨R24, e_24, hf⟩ := zbind_ex hf
                      refine z_callM (gs2 := [(wX7 cI qS aS R24.2)]) hP hD hS hA [0] [] rfl rfl rfl (show List.Perm [0] (List.range 1) from by decide) rfl (va_runV (As := [.int (1000 : Int32)]) (rest := []) ⟨hx, hb, hml, hown, hts⟩ (c_X7_lostAt l dC dI cI cC cO qS aS gS (1000 : Int32) R24 e_24 H.size) (cwV 1 hts gX7_count_X7_lostAt rfl rfl rfl (by decide +kernel) ⟨Nat.le_of_ble_eq_true rfl, Nat.le_of_ble_eq_true rfl⟩) ⟨zpM_blind, va_recv hK hP (ci := 7) (q0 := 0) rfl rfl, z_useM hK hN hP hD [0] [] rfl (show List.Perm [0] (List.range 1) from by decide)⟩ rfl rfl hl.1 rfl (lv_room (Nat.le_of_ble_eq_true rfl)) dX7_count_176 ⟨Nat.le_of_ble_eq_true rfl, Nat.le_of_ble_eq_true rfl⟩) (fun H locs hP hD hS => ?_)
                      refine W.eq (g2 := F0 m 179 ls [.int R24.1]) rfl ?_
                      exact zM_ret (gs := [(wX7 cI qS aS R24.2)]) hx hb hr rfl hP hD hS (by rw [← Option.some.inj hf]; exact ⟨rfl, rfl⟩) hlk dX7_count_179
                    · have hf := zif_f hf c_23
                      by_cases c_25 : x1 = (10 : Int32)
                      · have hf := zif_t hf c_25
                        refine lv_tableIn (tgt := 180) (off := 179) hx hb dX7_count_1 (by rw [c_25]; decide) (by rw [c_25]; decide) (by rw [c_25]; first | done | rfl) (by decide) ?_
                        refine lv_aload_n hx hb dX7_count_180 rfl (lv_at hl 0 rfl) ?_
                        obtain ⟨R26, e_26, hf⟩ := zbind_ex hf
                        refine z_callM (gs2 := [(wX7 cI qS aS R26.2)]) hP hD hS hA [0] [] rfl rfl rfl (show List.Perm [0] (List.range 1) from by decide) rfl (va_runV (As := []) (rest := []) ⟨hx, hb, hml, hown, hts⟩ (c_X7_laysCells l dC dI cI cC cO qS aS gS  R26 e_26 H.size) (cwV 0 hts gX7_count_X7_laysCells rfl rfl rfl (by decide +kernel) ⟨Nat.le_of_ble_eq_true rfl, Nat.le_of_ble_eq_true rfl⟩) ⟨zpM_blind, va_recv hK hP (ci := 7) (q0 := 0) rfl rfl, z_useM hK hN hP hD [0] [] rfl (show List.Perm [0] (List.range 1) from by decide)⟩ rfl rfl hl.1 rfl (lv_room (Nat.le_of_ble_eq_true rfl)) dX7_count_181 ⟨Nat.le_of_ble_eq_true rfl, Nat.le_of_ble_eq_true rfl⟩) (fun H locs hP hD hS => ?_)
                        refine W.eq (g2 := F0 m 184 ls [.int R26.1]) rfl ?_
                        exact zM_ret (gs := [(wX7 cI qS aS R26.2)]) hx hb hr rfl hP hD hS (by rw [← Option.some.inj hf]; exact ⟨rfl, rfl⟩) hlk dX7_count_184
                      · have hf := zif_f hf c_25
                        by_cases c_27 : x1 = (11 : Int32)
                        · have hf := zif_t hf c_27
                          refine lv_tableIn (tgt := 185) (off := 184) hx hb dX7_count_1 (by rw [c_27]; decide) (by rw [c_27]; decide) (by rw [c_27]; first | done | rfl) (by decide) ?_
                          refine lv_aload_n hx hb dX7_count_185 rfl (lv_at hl 0 rfl) ?_
                          refine va_get (D := (dC, dI)) (ci := 7) (v := .int (gS 4 0)) (C := RX7) (T := TX7) (N := 21) hx hb hts u_X7_count_X7 hown hK hP 0 rfl rfl 4 (by decide) (hts _ k_X7_count_2) (fun _ h9 => h9) rfl dX7_count_186 ?_
                          exact zM_ret (gs := [(wX7 cI qS aS gS)]) hx hb hr rfl hP hD hS (by rw [← Option.some.inj hf]; exact ⟨rfl, rfl⟩) hlk dX7_count_189
                        · have hf := zif_f hf c_27
                          by_cases c_28 : x1 = (12 : Int32)
                          · have hf := zif_t hf c_28
                            refine lv_tableIn (tgt := 190) (off := 189) hx hb dX7_count_1 (by rw [c_28]; decide) (by rw [c_28]; decide) (by rw [c_28]; first | done | rfl) (by decide) ?_
                            refine lv_aload_n hx hb dX7_count_190 rfl (lv_at hl 0 rfl) ?_
                            refine va_get (D := (dC, dI)) (ci := 7) (v := .int (gS 7 0)) (C := RX7) (T := TX7) (N := 21) hx hb hts u_X7_count_X7 hown hK hP 0 rfl rfl 7 (by decide) (hts _ k_X7_count_3) (fun _ h9 => h9) rfl dX7_count_191 ?_
                            exact zM_ret (gs := [(wX7 cI qS aS gS)]) hx hb hr rfl hP hD hS (by rw [← Option.some.inj hf]; exact ⟨rfl, rfl⟩) hlk dX7_count_194
                          · have hf := zif_f hf c_28
                            by_cases c_29 : x1 = (13 : Int32)
                            · have hf := zif_t hf c_29
                              refine lv_tableIn (tgt := 202) (off := 201) hx hb dX7_count_1 (by rw [c_29]; decide) (by rw [c_29]; decide) (by rw [c_29]; first | done | rfl) (by decide) ?_
                              refine lv_ldc (v := (-1000000001 : Int32)) hx hb hown (hts _ k_X7_count_4) dX7_count_202 ?_
                              exact zM_ret (gs := [(wX7 cI qS aS gS)]) hx hb hr rfl hP hD hS (by rw [← Option.some.inj hf]; exact ⟨rfl, rfl⟩) hlk dX7_count_204
                            · have hf := zif_f hf c_29
                              by_cases c_30 : x1 = (14 : Int32)
                              · have hf := zif_t hf c_30
                                refine lv_tableIn (tgt := 202) (off := 201) hx hb dX7_count_1 (by rw [c_30]; decide) (by rw [c_30]; decide) (by rw [c_30]; first | done | rfl) (by decide) ?_
                                refine lv_ldc (v := (-1000000001 : Int32)) hx hb hown (hts _ k_X7_count_4) dX7_count_202 ?_
                                exact zM_ret (gs := [(wX7 cI qS aS gS)]) hx hb hr rfl hP hD hS (by rw [← Option.some.inj hf]; exact ⟨rfl, rfl⟩) hlk dX7_count_204
                              · have hf := zif_f hf c_30
                                by_cases c_31 : x1 = (15 : Int32)
                                · have hf := zif_t hf c_31
                                  refine lv_tableIn (tgt := 202) (off := 201) hx hb dX7_count_1 (by rw [c_31]; decide) (by rw [c_31]; decide) (by rw [c_31]; first | done | rfl) (by decide) ?_
                                  refine lv_ldc (v := (-1000000001 : Int32)) hx hb hown (hts _ k_X7_count_4) dX7_count_202 ?_
                                  exact zM_ret (gs := [(wX7 cI qS aS gS)]) hx hb hr rfl hP hD hS (by rw [← Option.some.inj hf]; exact ⟨rfl, rfl⟩) hlk dX7_count_204
                                · have hf := zif_f hf c_31
                                  by_cases c_32 : x1 = (16 : Int32)
                                  · have hf := zif_t hf c_32
                                    refine lv_tableIn (tgt := 202) (off := 201) hx hb dX7_count_1 (by rw [c_32]; decide) (by rw [c_32]; decide) (by rw [c_32]; first | done | rfl) (by decide) ?_
                                    refine lv_ldc (v := (-1000000001 : Int32)) hx hb hown (hts _ k_X7_count_4) dX7_count_202 ?_
                                    exact zM_ret (gs := [(wX7 cI qS aS gS)]) hx hb hr rfl hP hD hS (by rw [← Option.some.inj hf]; exact ⟨rfl, rfl⟩) hlk dX7_count_204
                                  · have hf := zif_f hf c_32
                                    by_cases c_33 : x1 = (17 : Int32)
                                    · have hf := zif_t hf c_33
                                      refine lv_tableIn (tgt := 202) (off := 201) hx hb dX7_count_1 (by rw [c_33]; decide) (by rw [c_33]; decide) (by rw [c_33]; first | done | rfl) (by decide) ?_
                                      refine lv_ldc (v := (-1000000001 : Int32)) hx hb hown (hts _ k_X7_count_4) dX7_count_202 ?_
                                      exact zM_ret (gs := [(wX7 cI qS aS gS)]) hx hb hr rfl hP hD hS (by rw [← Option.some.inj hf]; exact ⟨rfl, rfl⟩) hlk dX7_count_204
                                    · have hf := zif_f hf c_33
                                      by_cases c_34 : x1 = (18 : Int32)
                                      · have hf := zif_t hf c_34
                                        refine lv_tableIn (tgt := 202) (off := 201) hx hb dX7_count_1 (by rw [c_34]; decide) (by rw [c_34]; decide) (by rw [c_34]; first | done | rfl) (by decide) ?_
                                        refine lv_ldc (v := (-1000000001 : Int32)) hx hb hown (hts _ k_X7_count_4) dX7_count_202 ?_
                                        exact zM_ret (gs := [(wX7 cI qS aS gS)]) hx hb hr rfl hP hD hS (by rw [← Option.some.inj hf]; exact ⟨rfl, rfl⟩) hlk dX7_count_204
                                      · have hf := zif_f hf c_34
                                        by_cases c_35 : x1 = (19 : Int32)
                                        · have hf := zif_t hf c_35
                                          refine lv_tableIn (tgt := 202) (off := 201) hx hb dX7_count_1 (by rw [c_35]; decide) (by rw [c_35]; decide) (by rw [c_35]; first | done | rfl) (by decide) ?_
                                          refine lv_ldc (v := (-1000000001 : Int32)) hx hb hown (hts _ k_X7_count_4) dX7_count_202 ?_
                                          exact zM_ret (gs := [(wX7 cI qS aS gS)]) hx hb hr rfl hP hD hS (by rw [← Option.some.inj hf]; exact ⟨rfl, rfl⟩) hlk dX7_count_204
                                        · have hf := zif_f hf c_35
                                          by_cases c_36 : x1 = (20 : Int32)
                                          · have hf := zif_t hf c_36
                                            refine lv_tableIn (tgt := 195) (off := 194) hx hb dX7_count_1 (by rw [c_36]; decide) (by rw [c_36]; decide) (by rw [c_36]; first | done | rfl) (by decide) ?_
                                            refine lv_aload_n hx hb dX7_count_195 rfl (lv_at hl 0 rfl) ?_
                                            refine va_get (D := (dC, dI)) (ci := 7) (v := .ref (aS 0)) (C := RX7) (T := TX7) (N := 21) hx hb hts u_X7_count_X7 hown hK hP 0 rfl rfl 0 (by decide) (hts _ k_X7_count_1) (fun _ h9 => h9) rfl dX7_count_196 ?_
                                            refine lv_iconst (v := (2 : Int32)) hx hb dX7_count_199 (by decide) ?_
                                            obtain ⟨h_37, hf⟩ := zin_ex hf
                                            refine va_iald hx hb hK hP 1 0 rfl rfl h_37 dX7_count_200 ?_
                                            exact zM_ret (gs := [(wX7 cI qS aS gS)]) hx hb hr rfl hP hD hS (by rw [← Option.some.inj hf]; exact ⟨rfl, rfl⟩) hlk dX7_count_201
                                          · have hf := zif_f hf c_36
                                            refine lv_tableOut (tgt := 202) hx hb dX7_count_1 (by have q_1 := zne_toInt c_1 (a := 0) (by decide); have q_3 := zne_toInt c_3 (a := 1) (by decide); have q_5 := zne_toInt c_5 (a := 2) (by decide); have q_7 := zne_toInt c_7 (a := 3) (by decide); have q_9 := zne_toInt c_9 (a := 4) (by decide); have q_12 := zne_toInt c_12 (a := 5) (by decide); have q_15 := zne_toInt c_15 (a := 6) (by decide); have q_18 := zne_toInt c_18 (a := 7) (by decide); have q_21 := zne_toInt c_21 (a := 8) (by decide); have q_23 := zne_toInt c_23 (a := 9) (by decide); have q_25 := zne_toInt c_25 (a := 10) (by decide); have q_27 := zne_toInt c_27 (a := 11) (by decide); have q_28 := zne_toInt c_28 (a := 12) (by decide); have q_29 := zne_toInt c_29 (a := 13) (by decide); have q_30 := zne_toInt c_30 (a := 14) (by decide); have q_31 := zne_toInt c_31 (a := 15) (by decide); have q_32 := zne_toInt c_32 (a := 16) (by decide); have q_33 := zne_toInt c_33 (a := 17) (by decide); have q_34 := zne_toInt c_34 (a := 18) (by decide); have q_35 := zne_toInt c_35 (a := 19) (by decide); have q_36 := zne_toInt c_36 (a := 20) (by decide); omega) (by decide) ?_
                                            refine lv_ldc (v := (-1000000001 : Int32)) hx hb hown (hts _ k_X7_count_4) dX7_count_202 ?_
                                            exact zM_ret (gs := [(wX7 cI qS aS gS)]) hx hb hr rfl hP hD hS (by rw [← Option.some.inj hf]; exact ⟨rfl, rfl⟩) hlk dX7_count_204

def f_X7_undo_22_b   (k22 : Int32 → zG → Option (Int32 × zG)) (y1 : Int32) (gS : zG) : Option (Int32 × zG) := (if (59 : Int32) ≤ y1 then (some ((gS 4 0), gS)) else (zin (((59 : Int32) * (gS 4 0)) + y1) 236 (zin y1 59 (zlet (gup gS 0 y1.toNatClampNeg (gS 1 (((59 : Int32) * (gS 4 0)) + y1).toNatClampNeg)) (fun gS_5 => (k22 (y1 + (1 : Int32)) gS_5))))))
def f_X7_undo_22   : Nat → Int32 → zG → Option (Int32 × zG)
  | 0 => fun _ _ => none
  | n + 1 => f_X7_undo_22_b   (f_X7_undo_22   n)
def f_X7_undo (gS : zG)  : Option (Int32 × zG) := (if (gS 4 0) = 0 then (some ((-1000000002 : Int32), gS)) else (zlet (gup gS 4 0 ((gS 4 0) - (1 : Int32))) (fun gS_2 => (f_X7_undo_22   zfuel (0 : Int32) gS_2))))
theorem u_X7_undo_X7 : ∀ w ∈ u_ws RX7 TX7 21, w ∈ wsX7_undo := fun w h => List.mem_cons_of_mem _ (List.mem_append_right _ h)
theorem k_X7_undo_1 : Cond.fieldLink RX7 38 "JoinedLightModel" "pasts" "I" ∈ wsX7_undo := List.mem_of_getElem? (i := 1) rfl
theorem k_X7_undo_2 : Cond.constant RX7 67 (-1000000002) ∈ wsX7_undo := List.mem_of_getElem? (i := 2) rfl
theorem k_X7_undo_3 : Cond.fieldLink RX7 7 "JoinedLightModel" "s" "[I" ∈ wsX7_undo := List.mem_of_getElem? (i := 3) rfl
theorem k_X7_undo_4 : Cond.fieldLink RX7 13 "JoinedLightModel" "past" "[I" ∈ wsX7_undo := List.mem_of_getElem? (i := 4) rfl
abbrev rm_X7_undo : Room := { frames := 0, cells := 0, slots := 0, locals := 0 }
set_option maxHeartbeats 4000000 in
set_option maxRecDepth 100000 in
theorem c_X7_undo (l : Launch) (dC : Nat → ClassId) (dI : Nat → Nat → Nat) (cI cC cO : ClassId) (qS : Nat) (aS : Nat → Nat) (gS : zG)  (R : Int32 × zG) (hf : f_X7_undo gS = some R) : cM l (dC, dI) (zT cI cC cO) yX7_undo wsX7_undo rm_X7_undo [.ref qS] [(wX7 cI qS aS gS)] [(wX7 cI qS aS R.2)] (some (.int R.1)) 0 0 := by
  refine zM_in (cc := cX7_undo) (maxL := 2) (ret := (some .int)) (plainFor_of_name (by decide)) rfl (Nat.le_of_ble_eq_true rfl) ?_
  intro p e s m below meth c hx hb hml hr hlk hown hts hK hN A hA hP hD hS ls hl
  have hl : lv_has ls 2 [(0, .ref qS)] := hl
  have w22 : ∀ (n22 : Nat) (y1 : Int32) (gS : zG) (H : Heap) (locs : List Loc) (ls : Array Slot), f_X7_undo_22   n22 y1 gS = some R → va_P (dC, dI) vwCl [(wX7 cI qS aS gS)].flatten H → va_D A [(wX7 cI qS aS gS)].flatten → va_S A s.heap H locs → lv_has ls 2 [(0, .ref qS), (1, .int y1)] → W p l e (headSpec wsX7_undo rm_X7_undo).room s m [.ref qS].toArray below meth c H locs 0 0 (MQ below (zqM (dC, dI) (some (.int R.1)) [(wX7 cI qS aS R.2)] A) [.ref qS].toArray s 0 0 A) (F0 m 22 ls []) := by
    intro n22
    induction n22 with
    | zero =>
      intro y1 gS H locs ls hf hP hD hS hl
      have hf : (none : Option (Int32 × zG)) = some R := hf
      cases hf
    | succ n22 ih22 =>
      intro y1 gS H locs ls hf hP hD hS hl
      have hf : f_X7_undo_22_b   (f_X7_undo_22   n22) y1 gS = some R := hf
      unfold f_X7_undo_22_b at hf
      refine lv_iload_n hx hb dX7_undo_22 rfl (lv_at hl 1 rfl) ?_
      refine lv_bipush (v := (59 : Int32)) hx hb dX7_undo_23 (by decide) ?_
      refine lv_icmp_ge (tgt := 54) hx hb dX7_undo_25 (by decide) (fun c_3 => ?_) (fun c_3 => ?_)
      · have hf := zif_t hf c_3
        refine lv_aload_n hx hb dX7_undo_54 rfl (lv_at hl 0 rfl) ?_
        refine va_get (D := (dC, dI)) (ci := 7) (v := .int (gS 4 0)) (C := RX7) (T := TX7) (N := 21) hx hb hts u_X7_undo_X7 hown hK hP 0 rfl rfl 4 (by decide) (hts _ k_X7_undo_1) (fun _ h9 => h9) rfl dX7_undo_55 ?_
        exact zM_ret (gs := [(wX7 cI qS aS gS)]) hx hb hr rfl hP hD hS (by rw [← Option.some.inj hf]; exact ⟨rfl, rfl⟩) hlk dX7_undo_58
      · have hf := zif_f hf c_3
        refine lv_aload_n hx hb dX7_undo_28 rfl (lv_at hl 0 rfl) ?_
        refine va_get (D := (dC, dI)) (ci := 7) (v := .ref (aS 0)) (C := RX7) (T := TX7) (N := 21) hx hb hts u_X7_undo_X7 hown hK hP 0 rfl rfl 0 (by decide) (hts _ k_X7_undo_3) (fun _ h9 => h9) rfl dX7_undo_29 ?_
        refine lv_iload_n hx hb dX7_undo_32 rfl (lv_at hl 1 rfl) ?_
        refine lv_aload_n hx hb dX7_undo_33 rfl (lv_at hl 0 rfl) ?_
        refine va_get (D := (dC, dI)) (ci := 7) (v := .ref (aS 1)) (C := RX7) (T := TX7) (N := 21) hx hb hts u_X7_undo_X7 hown hK hP 0 rfl rfl 1 (by decide) (hts _ k_X7_undo_4) (fun _ h9 => h9) rfl dX7_undo_34 ?_
        refine lv_bipush (v := (59 : Int32)) hx hb dX7_undo_37 (by decide) ?_
        refine lv_aload_n hx hb dX7_undo_39 rfl (lv_at hl 0 rfl) ?_
        refine va_get (D := (dC, dI)) (ci := 7) (v := .int (gS 4 0)) (C := RX7) (T := TX7) (N := 21) hx hb hts u_X7_undo_X7 hown hK hP 0 rfl rfl 4 (by decide) (hts _ k_X7_undo_1) (fun _ h9 => h9) rfl dX7_undo_40 ?_
        refine lv_imul hx hb dX7_undo_43 ?_
        refine lv_iload_n hx hb dX7_undo_44 rfl (lv_at hl 1 rfl) ?_
        refine lv_iadd hx hb dX7_undo_45 ?_
        obtain ⟨h_4, hf⟩ := zin_ex hf
        refine va_iald hx hb hK hP 2 0 rfl rfl h_4 dX7_undo_46 ?_
        obtain ⟨h_5, hf⟩ := zin_ex hf
        obtain ⟨gS_5, e_5, hf⟩ := zlet_ex hf
        refine z_iast (gs' := [(wX7 cI qS aS gS_5)]) hx hb hK hP hD hS 1 0 rfl rfl h_5 (by rw [e_5]; rfl) dX7_undo_47 (fun H locs hP hD hS => ?_)
        refine lv_iinc (v := (y1 + (1 : Int32))) (lv' := [(1, .int (y1 + (1 : Int32))), (0, .ref qS)]) hx hb dX7_undo_48 hl (k := 1) rfl rfl (by decide) rfl (fun ls hl => ?_)
        refine lv_goto (tgt := 22) hx hb dX7_undo_51 (by decide) ?_
        exact ih22 (y1 + (1 : Int32)) gS_5 H locs ls hf hP hD hS (lv_sub hl [1, 0] rfl)
  unfold f_X7_undo at hf
  obtain ⟨H, hH⟩ : ∃ H, H = s.heap := ⟨_, rfl⟩
  obtain ⟨locs, hlocs⟩ : ∃ locs : List Loc, locs = [] := ⟨_, rfl⟩
  have hS : va_S A s.heap H locs := by rw [hH, hlocs]; exact hS
  rw [← hH] at hP
  refine zheap hH hlocs ?_
  refine lv_aload_n hx hb dX7_undo_0 rfl (lv_at hl 0 rfl) ?_
  refine va_get (D := (dC, dI)) (ci := 7) (v := .int (gS 4 0)) (C := RX7) (T := TX7) (N := 21) hx hb hts u_X7_undo_X7 hown hK hP 0 rfl rfl 4 (by decide) (hts _ k_X7_undo_1) (fun _ h9 => h9) rfl dX7_undo_1 ?_
  refine lv_if_ne (tgt := 10) hx hb dX7_undo_4 (by decide) (fun c_1 => ?_) (fun c_1 => ?_)
  · have hf := zif_f hf c_1
    refine lv_aload_n hx hb dX7_undo_10 rfl (lv_at hl 0 rfl) ?_
    refine lv_dup hx hb dX7_undo_11 rfl ?_
    refine va_get (D := (dC, dI)) (ci := 7) (v := .int (gS 4 0)) (C := RX7) (T := TX7) (N := 21) hx hb hts u_X7_undo_X7 hown hK hP 0 rfl rfl 4 (by decide) (hts _ k_X7_undo_1) (fun _ h9 => h9) rfl dX7_undo_12 ?_
    refine lv_iconst (v := (1 : Int32)) hx hb dX7_undo_15 (by decide) ?_
    refine lv_isub hx hb dX7_undo_16 ?_
    obtain ⟨gS_2, e_2, hf⟩ := zlet_ex hf
    refine z_put (gs' := [(wX7 cI qS aS gS_2)]) (D := (dC, dI)) (ci := 7) (ty := .int) (C := RX7) (T := TX7) (N := 21) hx hb hts u_X7_undo_X7 tyX7 tyX7_ok nmX7 hown hK hP hD hS 0 rfl rfl 4 (by decide) (hts _ k_X7_undo_1) (fun _ h9 => h9) rfl (by decide +kernel) rfl rfl (Nat.le_of_ble_eq_true rfl) (by rw [e_2]; rfl) dX7_undo_17 (fun H locs hP hD hS => ?_)
    refine lv_iconst (v := (0 : Int32)) hx hb dX7_undo_20 (by decide) ?_
    refine lv_istore_n (lv' := [(1, .int (0 : Int32)), (0, .ref qS)]) hx hb dX7_undo_21 rfl hl (by decide) rfl (fun ls hl => ?_)
    exact w22 zfuel (0 : Int32) gS_2 H locs ls hf hP hD hS (lv_sub hl [1, 0] rfl)
  · have hf := zif_t hf c_1
    refine lv_ldc (v := (-1000000002 : Int32)) hx hb hown (hts _ k_X7_undo_2) dX7_undo_7 ?_
    exact zM_ret (gs := [(wX7 cI qS aS gS)]) hx hb hr rfl hP hD hS (by rw [← Option.some.inj hf]; exact ⟨rfl, rfl⟩) hlk dX7_undo_9

def f_X7_type (gS : zG) (x1 : Int32) : Option (Int32 × zG) := (zbind (f_X7_in x1 (32 : Int32) (126 : Int32)) (fun R1 => (if R1 = 0 then (some ((-1000000001 : Int32), gS)) else (if (gS 7 0) = (60 : Int32) then (some ((-1000000003 : Int32), gS)) else (zin (gS 7 0) 60 (zlet (gup gS 6 (gS 7 0).toNatClampNeg x1) (fun gS_4 => (zlet (gup gS_4 7 0 ((gS_4 7 0) + (1 : Int32))) (fun gS_5 => (some ((gS_5 7 0), gS_5)))))))))))
theorem u_X7_type_X7 : ∀ w ∈ u_ws RX7 TX7 21, w ∈ wsX7_type := fun w h => List.mem_cons_of_mem _ (List.mem_append_right _ h)
theorem k_X7_type_2 : Cond.fieldLink RX7 168 "JoinedLightModel" "typed" "I" ∈ wsX7_type := List.mem_of_getElem? (i := 2) rfl
theorem k_X7_type_4 : Cond.fieldLink RX7 22 "JoinedLightModel" "text" "[I" ∈ wsX7_type := List.mem_of_getElem? (i := 4) rfl
theorem k_X7_type_3 : Cond.constant RX7 52 (-1000000003) ∈ wsX7_type := List.mem_of_getElem? (i := 3) rfl
theorem k_X7_type_1 : Cond.constant RX7 51 (-1000000001) ∈ wsX7_type := List.mem_of_getElem? (i := 1) rfl
abbrev rm_X7_type : Room := { frames := 1, cells := 0, slots := 0, locals := 22 }
set_option maxHeartbeats 4000000 in
set_option maxRecDepth 100000 in
theorem c_X7_type (l : Launch) (dC : Nat → ClassId) (dI : Nat → Nat → Nat) (cI cC cO : ClassId) (qS : Nat) (aS : Nat → Nat) (gS : zG) (x1 : Int32) (R : Int32 × zG) (hf : f_X7_type gS x1 = some R) : cM l (dC, dI) (zT cI cC cO) yX7_type wsX7_type rm_X7_type [.ref qS, .int x1] [(wX7 cI qS aS gS)] [(wX7 cI qS aS R.2)] (some (.int R.1)) 0 0 := by
  refine zM_in (cc := cX7_type) (maxL := 2) (ret := (some .int)) (plainFor_of_name (by decide)) rfl (Nat.le_of_ble_eq_true rfl) ?_
  intro p e s m below meth c hx hb hml hr hlk hown hts hK hN A hA hP hD hS ls hl
  have hl : lv_has ls 2 [(0, .ref qS), (1, .int x1)] := hl
  unfold f_X7_type at hf
  obtain ⟨H, hH⟩ : ∃ H, H = s.heap := ⟨_, rfl⟩
  obtain ⟨locs, hlocs⟩ : ∃ locs : List Loc, locs = [] := ⟨_, rfl⟩
  have hS : va_S A s.heap H locs := by rw [hH, hlocs]; exact hS
  rw [← hH] at hP
  refine zheap hH hlocs ?_
  refine lv_iload_n hx hb dX7_type_0 rfl (lv_at hl 1 rfl) ?_
  refine lv_bipush (v := (32 : Int32)) hx hb dX7_type_1 (by decide) ?_
  refine lv_bipush (v := (126 : Int32)) hx hb dX7_type_3 (by decide) ?_
  obtain ⟨R1, e_1, hf⟩ := zbind_ex hf
  refine z_callRi (va_runS (As := [.int x1, .int (32 : Int32), .int (126 : Int32)]) (rest := []) ⟨hx, hb, hml, hown, hts⟩ (c_X7_in l dC dI cI cC cO  x1 (32 : Int32) (126 : Int32) R1 e_1) (va_cwS 3 hts gX7_type_X7_in rfl rfl rfl (by decide +kernel) ⟨Nat.le_of_ble_eq_true rfl, Nat.le_of_ble_eq_true rfl⟩) ⟨zpR_blind, z_useR hK hN hP [] rfl⟩ rfl rfl hl.1 rfl (lv_room (Nat.le_of_ble_eq_true rfl)) dX7_type_5 ⟨Nat.le_of_ble_eq_true rfl, Nat.le_of_ble_eq_true rfl⟩) ?_
  refine lv_if_ne (tgt := 14) hx hb dX7_type_8 (by decide) (fun c_2 => ?_) (fun c_2 => ?_)
  · have hf := zif_f hf c_2
    refine lv_aload_n hx hb dX7_type_14 rfl (lv_at hl 0 rfl) ?_
    refine va_get (D := (dC, dI)) (ci := 7) (v := .int (gS 7 0)) (C := RX7) (T := TX7) (N := 21) hx hb hts u_X7_type_X7 hown hK hP 0 rfl rfl 7 (by decide) (hts _ k_X7_type_2) (fun _ h9 => h9) rfl dX7_type_15 ?_
    refine lv_bipush (v := (60 : Int32)) hx hb dX7_type_18 (by decide) ?_
    refine lv_icmp_ne (tgt := 26) hx hb dX7_type_20 (by decide) (fun c_3 => ?_) (fun c_3 => ?_)
    · have hf := zif_f hf c_3
      refine lv_aload_n hx hb dX7_type_26 rfl (lv_at hl 0 rfl) ?_
      refine va_get (D := (dC, dI)) (ci := 7) (v := .ref (aS 6)) (C := RX7) (T := TX7) (N := 21) hx hb hts u_X7_type_X7 hown hK hP 0 rfl rfl 6 (by decide) (hts _ k_X7_type_4) (fun _ h9 => h9) rfl dX7_type_27 ?_
      refine lv_aload_n hx hb dX7_type_30 rfl (lv_at hl 0 rfl) ?_
      refine va_get (D := (dC, dI)) (ci := 7) (v := .int (gS 7 0)) (C := RX7) (T := TX7) (N := 21) hx hb hts u_X7_type_X7 hown hK hP 0 rfl rfl 7 (by decide) (hts _ k_X7_type_2) (fun _ h9 => h9) rfl dX7_type_31 ?_
      refine lv_iload_n hx hb dX7_type_34 rfl (lv_at hl 1 rfl) ?_
      obtain ⟨h_4, hf⟩ := zin_ex hf
      obtain ⟨gS_4, e_4, hf⟩ := zlet_ex hf
      refine z_iast (gs' := [(wX7 cI qS aS gS_4)]) hx hb hK hP hD hS 5 0 rfl rfl h_4 (by rw [e_4]; rfl) dX7_type_35 (fun H locs hP hD hS => ?_)
      refine lv_aload_n hx hb dX7_type_36 rfl (lv_at hl 0 rfl) ?_
      refine lv_dup hx hb dX7_type_37 rfl ?_
      refine va_get (D := (dC, dI)) (ci := 7) (v := .int (gS_4 7 0)) (C := RX7) (T := TX7) (N := 21) hx hb hts u_X7_type_X7 hown hK hP 0 rfl rfl 7 (by decide) (hts _ k_X7_type_2) (fun _ h9 => h9) rfl dX7_type_38 ?_
      refine lv_iconst (v := (1 : Int32)) hx hb dX7_type_41 (by decide) ?_
      refine lv_iadd hx hb dX7_type_42 ?_
      obtain ⟨gS_5, e_5, hf⟩ := zlet_ex hf
      refine z_put (gs' := [(wX7 cI qS aS gS_5)]) (D := (dC, dI)) (ci := 7) (ty := .int) (C := RX7) (T := TX7) (N := 21) hx hb hts u_X7_type_X7 tyX7 tyX7_ok nmX7 hown hK hP hD hS 0 rfl rfl 7 (by decide) (hts _ k_X7_type_2) (fun _ h9 => h9) rfl (by decide +kernel) rfl rfl (Nat.le_of_ble_eq_true rfl) (by rw [e_5]; rfl) dX7_type_43 (fun H locs hP hD hS => ?_)
      refine lv_aload_n hx hb dX7_type_46 rfl (lv_at hl 0 rfl) ?_
      refine va_get (D := (dC, dI)) (ci := 7) (v := .int (gS_5 7 0)) (C := RX7) (T := TX7) (N := 21) hx hb hts u_X7_type_X7 hown hK hP 0 rfl rfl 7 (by decide) (hts _ k_X7_type_2) (fun _ h9 => h9) rfl dX7_type_47 ?_
      exact zM_ret (gs := [(wX7 cI qS aS gS_5)]) hx hb hr rfl hP hD hS (by rw [← Option.some.inj hf]; exact ⟨rfl, rfl⟩) hlk dX7_type_50
    · have hf := zif_t hf c_3
      refine lv_ldc (v := (-1000000003 : Int32)) hx hb hown (hts _ k_X7_type_3) dX7_type_23 ?_
      exact zM_ret (gs := [(wX7 cI qS aS gS)]) hx hb hr rfl hP hD hS (by rw [← Option.some.inj hf]; exact ⟨rfl, rfl⟩) hlk dX7_type_25
  · have hf := zif_t hf c_2
    refine lv_ldc (v := (-1000000001 : Int32)) hx hb hown (hts _ k_X7_type_1) dX7_type_11 ?_
    exact zM_ret (gs := [(wX7 cI qS aS gS)]) hx hb hr rfl hP hD hS (by rw [← Option.some.inj hf]; exact ⟨rfl, rfl⟩) hlk dX7_type_13

def f_X7_clearText (gS : zG)  : Option (Int32 × zG) := (zlet (gup gS 7 0 (0 : Int32)) (fun gS_1 => (some ((gS 7 0), gS_1))))
theorem u_X7_clearText_X7 : ∀ w ∈ u_ws RX7 TX7 21, w ∈ wsX7_clearText := fun w h => List.mem_cons_of_mem _ (List.mem_append_right _ h)
theorem k_X7_clearText_1 : Cond.fieldLink RX7 168 "JoinedLightModel" "typed" "I" ∈ wsX7_clearText := List.mem_of_getElem? (i := 1) rfl
abbrev rm_X7_clearText : Room := { frames := 0, cells := 0, slots := 0, locals := 0 }
set_option maxHeartbeats 4000000 in
set_option maxRecDepth 100000 in
theorem c_X7_clearText (l : Launch) (dC : Nat → ClassId) (dI : Nat → Nat → Nat) (cI cC cO : ClassId) (qS : Nat) (aS : Nat → Nat) (gS : zG)  (R : Int32 × zG) (hf : f_X7_clearText gS = some R) : cM l (dC, dI) (zT cI cC cO) yX7_clearText wsX7_clearText rm_X7_clearText [.ref qS] [(wX7 cI qS aS gS)] [(wX7 cI qS aS R.2)] (some (.int R.1)) 0 0 := by
  refine zM_in (cc := cX7_clearText) (maxL := 2) (ret := (some .int)) (plainFor_of_name (by decide)) rfl (Nat.le_of_ble_eq_true rfl) ?_
  intro p e s m below meth c hx hb hml hr hlk hown hts hK hN A hA hP hD hS ls hl
  have hl : lv_has ls 2 [(0, .ref qS)] := hl
  unfold f_X7_clearText at hf
  obtain ⟨H, hH⟩ : ∃ H, H = s.heap := ⟨_, rfl⟩
  obtain ⟨locs, hlocs⟩ : ∃ locs : List Loc, locs = [] := ⟨_, rfl⟩
  have hS : va_S A s.heap H locs := by rw [hH, hlocs]; exact hS
  rw [← hH] at hP
  refine zheap hH hlocs ?_
  refine lv_aload_n hx hb dX7_clearText_0 rfl (lv_at hl 0 rfl) ?_
  refine va_get (D := (dC, dI)) (ci := 7) (v := .int (gS 7 0)) (C := RX7) (T := TX7) (N := 21) hx hb hts u_X7_clearText_X7 hown hK hP 0 rfl rfl 7 (by decide) (hts _ k_X7_clearText_1) (fun _ h9 => h9) rfl dX7_clearText_1 ?_
  refine lv_istore_n (lv' := [(1, .int (gS 7 0)), (0, .ref qS)]) hx hb dX7_clearText_4 rfl hl (by decide) rfl (fun ls hl => ?_)
  refine lv_aload_n hx hb dX7_clearText_5 rfl (lv_at hl 1 rfl) ?_
  refine lv_iconst (v := (0 : Int32)) hx hb dX7_clearText_6 (by decide) ?_
  obtain ⟨gS_1, e_1, hf⟩ := zlet_ex hf
  refine z_put (gs' := [(wX7 cI qS aS gS_1)]) (D := (dC, dI)) (ci := 7) (ty := .int) (C := RX7) (T := TX7) (N := 21) hx hb hts u_X7_clearText_X7 tyX7 tyX7_ok nmX7 hown hK hP hD hS 0 rfl rfl 7 (by decide) (hts _ k_X7_clearText_1) (fun _ h9 => h9) rfl (by decide +kernel) rfl rfl (Nat.le_of_ble_eq_true rfl) (by rw [e_1]; rfl) dX7_clearText_7 (fun H locs hP hD hS => ?_)
  refine lv_iload_n hx hb dX7_clearText_10 rfl (lv_at hl 0 rfl) ?_
  exact zM_ret (gs := [(wX7 cI qS aS gS_1)]) hx hb hr rfl hP hD hS (by rw [← Option.some.inj hf]; exact ⟨rfl, rfl⟩) hlk dX7_clearText_11

def f_X7_isAt (gS : zG) (x1 : Int32) (x2 : Int32) : Option (Int32) := (if (gS 7 0) ≤ (gS 14 0) then (some ((0 : Int32))) else (zin (gS 14 0) 60 (zbind (f_X7_in (gS 6 (gS 14 0).toNatClampNeg) x1 x2) (fun R3 => (if R3 = 0 then (some ((0 : Int32))) else (some ((1 : Int32))))))))
theorem u_X7_isAt_X7 : ∀ w ∈ u_ws RX7 TX7 21, w ∈ wsX7_isAt := fun w h => List.mem_cons_of_mem _ (List.mem_append_right _ h)
theorem k_X7_isAt_1 : Cond.fieldLink RX7 171 "JoinedLightModel" "spot" "I" ∈ wsX7_isAt := List.mem_of_getElem? (i := 1) rfl
theorem k_X7_isAt_2 : Cond.fieldLink RX7 168 "JoinedLightModel" "typed" "I" ∈ wsX7_isAt := List.mem_of_getElem? (i := 2) rfl
theorem k_X7_isAt_3 : Cond.fieldLink RX7 22 "JoinedLightModel" "text" "[I" ∈ wsX7_isAt := List.mem_of_getElem? (i := 3) rfl
abbrev rm_X7_isAt : Room := { frames := 1, cells := 0, slots := 0, locals := 22 }
set_option maxHeartbeats 4000000 in
set_option maxRecDepth 100000 in
theorem c_X7_isAt (l : Launch) (dC : Nat → ClassId) (dI : Nat → Nat → Nat) (cI cC cO : ClassId) (qS : Nat) (aS : Nat → Nat) (gS : zG) (x1 : Int32) (x2 : Int32) (R : Int32) (hf : f_X7_isAt gS x1 x2 = some R) : cR l (dC, dI) (zT cI cC cO) yX7_isAt wsX7_isAt rm_X7_isAt [.ref qS, .int x1, .int x2] [(wX7 cI qS aS gS)] (some (.int R)) := by
  refine zR_in (cc := cX7_isAt) (maxL := 3) (ret := (some .boolean)) (plainFor_of_name (by decide)) rfl (Nat.le_of_ble_eq_true rfl) ?_
  intro p e s m below meth c hx hb hml hr hlk hown hts hK hN hP ls hl
  have hl : lv_has ls 3 [(0, .ref qS), (1, .int x1), (2, .int x2)] := hl
  unfold f_X7_isAt at hf
  refine lv_aload_n hx hb dX7_isAt_0 rfl (lv_at hl 0 rfl) ?_
  refine va_get (D := (dC, dI)) (ci := 7) (v := .int (gS 14 0)) (C := RX7) (T := TX7) (N := 21) hx hb hts u_X7_isAt_X7 hown hK hP 0 rfl rfl 14 (by decide) (hts _ k_X7_isAt_1) (fun _ h9 => h9) rfl dX7_isAt_1 ?_
  refine lv_aload_n hx hb dX7_isAt_4 rfl (lv_at hl 0 rfl) ?_
  refine va_get (D := (dC, dI)) (ci := 7) (v := .int (gS 7 0)) (C := RX7) (T := TX7) (N := 21) hx hb hts u_X7_isAt_X7 hown hK hP 0 rfl rfl 7 (by decide) (hts _ k_X7_isAt_2) (fun _ h9 => h9) rfl dX7_isAt_5 ?_
  refine lv_icmp_ge (tgt := 32) hx hb dX7_isAt_8 (by decide) (fun c_1 => ?_) (fun c_1 => ?_)
  · have hf := zif_t hf c_1
    refine lv_iconst (v := (0 : Int32)) hx hb dX7_isAt_32 (by decide) ?_
    exact zR_ret hx hb hr rfl hf hlk dX7_isAt_33
  · have hf := zif_f hf c_1
    refine lv_aload_n hx hb dX7_isAt_11 rfl (lv_at hl 0 rfl) ?_
    refine va_get (D := (dC, dI)) (ci := 7) (v := .ref (aS 6)) (C := RX7) (T := TX7) (N := 21) hx hb hts u_X7_isAt_X7 hown hK hP 0 rfl rfl 6 (by decide) (hts _ k_X7_isAt_3) (fun _ h9 => h9) rfl dX7_isAt_12 ?_
    refine lv_aload_n hx hb dX7_isAt_15 rfl (lv_at hl 0 rfl) ?_
    refine va_get (D := (dC, dI)) (ci := 7) (v := .int (gS 14 0)) (C := RX7) (T := TX7) (N := 21) hx hb hts u_X7_isAt_X7 hown hK hP 0 rfl rfl 14 (by decide) (hts _ k_X7_isAt_1) (fun _ h9 => h9) rfl dX7_isAt_16 ?_
    obtain ⟨h_2, hf⟩ := zin_ex hf
    refine va_iald hx hb hK hP 5 0 rfl rfl h_2 dX7_isAt_19 ?_
    refine lv_iload_n hx hb dX7_isAt_20 rfl (lv_at hl 1 rfl) ?_
    refine lv_iload_n hx hb dX7_isAt_21 rfl (lv_at hl 2 rfl) ?_
    obtain ⟨R3, e_3, hf⟩ := zbind_ex hf
    refine z_callRi (va_runS (As := [.int (gS 6 (gS 14 0).toNatClampNeg), .int x1, .int x2]) (rest := []) ⟨hx, hb, hml, hown, hts⟩ (c_X7_in l dC dI cI cC cO  (gS 6 (gS 14 0).toNatClampNeg) x1 x2 R3 e_3) (va_cwS 3 hts gX7_isAt_X7_in rfl rfl rfl (by decide +kernel) ⟨Nat.le_of_ble_eq_true rfl, Nat.le_of_ble_eq_true rfl⟩) ⟨zpR_blind, z_useR hK hN hP [] rfl⟩ rfl rfl hl.1 rfl (lv_room (Nat.le_of_ble_eq_true rfl)) dX7_isAt_22 ⟨Nat.le_of_ble_eq_true rfl, Nat.le_of_ble_eq_true rfl⟩) ?_
    refine lv_if_eq (tgt := 32) hx hb dX7_isAt_25 (by decide) (fun c_4 => ?_) (fun c_4 => ?_)
    · have hf := zif_t hf c_4
      refine lv_iconst (v := (0 : Int32)) hx hb dX7_isAt_32 (by decide) ?_
      exact zR_ret hx hb hr rfl hf hlk dX7_isAt_33
    · have hf := zif_f hf c_4
      refine lv_iconst (v := (1 : Int32)) hx hb dX7_isAt_28 (by decide) ?_
      refine lv_goto (tgt := 33) hx hb dX7_isAt_29 (by decide) ?_
      exact zR_ret hx hb hr rfl hf hlk dX7_isAt_33

def f_X7_sign (gS : zG) (x1 : Int32) : Option (Int32 × zG) := (zbind (f_X7_isAt gS x1 x1) (fun R1 => (if R1 = 0 then (zlet (gup gS 14 0 ((gS 14 0) + (0 : Int32))) (fun gS_3 => (zbl R1 (some (R1, gS_3))))) else (zlet (gup gS 14 0 ((gS 14 0) + (1 : Int32))) (fun gS_5 => (zbl R1 (some (R1, gS_5))))))))
theorem u_X7_sign_X7 : ∀ w ∈ u_ws RX7 TX7 21, w ∈ wsX7_sign := fun w h => List.mem_cons_of_mem _ (List.mem_append_right _ h)
theorem k_X7_sign_1 : Cond.fieldLink RX7 171 "JoinedLightModel" "spot" "I" ∈ wsX7_sign := List.mem_of_getElem? (i := 1) rfl
abbrev rm_X7_sign : Room := { frames := 2, cells := 0, slots := 0, locals := 44 }
set_option maxHeartbeats 4000000 in
set_option maxRecDepth 100000 in
theorem c_X7_sign (l : Launch) (dC : Nat → ClassId) (dI : Nat → Nat → Nat) (cI cC cO : ClassId) (qS : Nat) (aS : Nat → Nat) (gS : zG) (x1 : Int32) (R : Int32 × zG) (hf : f_X7_sign gS x1 = some R) : cM l (dC, dI) (zT cI cC cO) yX7_sign wsX7_sign rm_X7_sign [.ref qS, .int x1] [(wX7 cI qS aS gS)] [(wX7 cI qS aS R.2)] (some (.int R.1)) 0 0 := by
  refine zM_in (cc := cX7_sign) (maxL := 3) (ret := (some .boolean)) (plainFor_of_name (by decide)) rfl (Nat.le_of_ble_eq_true rfl) ?_
  intro p e s m below meth c hx hb hml hr hlk hown hts hK hN A hA hP hD hS ls hl
  have hl : lv_has ls 3 [(0, .ref qS), (1, .int x1)] := hl
  unfold f_X7_sign at hf
  obtain ⟨H, hH⟩ : ∃ H, H = s.heap := ⟨_, rfl⟩
  obtain ⟨locs, hlocs⟩ : ∃ locs : List Loc, locs = [] := ⟨_, rfl⟩
  have hS : va_S A s.heap H locs := by rw [hH, hlocs]; exact hS
  rw [← hH] at hP
  refine zheap hH hlocs ?_
  refine lv_aload_n hx hb dX7_sign_0 rfl (lv_at hl 0 rfl) ?_
  refine lv_iload_n hx hb dX7_sign_1 rfl (lv_at hl 1 rfl) ?_
  refine lv_iload_n hx hb dX7_sign_2 rfl (lv_at hl 1 rfl) ?_
  obtain ⟨R1, e_1, hf⟩ := zbind_ex hf
  refine z_callRi (va_runV (As := [.int x1, .int x1]) (rest := []) ⟨hx, hb, hml, hown, hts⟩ (c_X7_isAt l dC dI cI cC cO qS aS gS x1 x1 R1 e_1) (cwV 2 hts gX7_sign_X7_isAt rfl rfl rfl (by decide +kernel) ⟨Nat.le_of_ble_eq_true rfl, Nat.le_of_ble_eq_true rfl⟩) ⟨zpR_blind, va_recv hK hP (ci := 7) (q0 := 0) rfl rfl, z_useR hK hN hP [0] rfl⟩ rfl rfl hl.1 rfl (lv_room (Nat.le_of_ble_eq_true rfl)) dX7_sign_3 ⟨Nat.le_of_ble_eq_true rfl, Nat.le_of_ble_eq_true rfl⟩) ?_
  refine lv_istore_n (lv' := [(2, .int R1), (0, .ref qS), (1, .int x1)]) hx hb dX7_sign_6 rfl hl (by decide) rfl (fun ls hl => ?_)
  refine lv_aload_n hx hb dX7_sign_7 rfl (lv_at hl 1 rfl) ?_
  refine lv_dup hx hb dX7_sign_8 rfl ?_
  refine va_get (D := (dC, dI)) (ci := 7) (v := .int (gS 14 0)) (C := RX7) (T := TX7) (N := 21) hx hb hts u_X7_sign_X7 hown hK hP 0 rfl rfl 14 (by decide) (hts _ k_X7_sign_1) (fun _ h9 => h9) rfl dX7_sign_9 ?_
  refine lv_iload_n hx hb dX7_sign_12 rfl (lv_at hl 0 rfl) ?_
  refine lv_if_eq (tgt := 20) hx hb dX7_sign_13 (by decide) (fun c_2 => ?_) (fun c_2 => ?_)
  · have hf := zif_t hf c_2
    refine lv_iconst (v := (0 : Int32)) hx hb dX7_sign_20 (by decide) ?_
    refine lv_iadd hx hb dX7_sign_21 ?_
    obtain ⟨gS_3, e_3, hf⟩ := zlet_ex hf
    refine z_put (gs' := [(wX7 cI qS aS gS_3)]) (D := (dC, dI)) (ci := 7) (ty := .int) (C := RX7) (T := TX7) (N := 21) hx hb hts u_X7_sign_X7 tyX7 tyX7_ok nmX7 hown hK hP hD hS 0 rfl rfl 14 (by decide) (hts _ k_X7_sign_1) (fun _ h9 => h9) rfl (by decide +kernel) rfl rfl (Nat.le_of_ble_eq_true rfl) (by rw [e_3]; rfl) dX7_sign_22 (fun H locs hP hD hS => ?_)
    refine lv_iload_n hx hb dX7_sign_25 rfl (lv_at hl 0 rfl) ?_
    obtain ⟨h_4, hf⟩ := zbl_ex hf
    exact zM_ret (gs := [(wX7 cI qS aS gS_3)]) hx hb hr h_4 hP hD hS (by rw [← Option.some.inj hf]; exact ⟨rfl, rfl⟩) hlk dX7_sign_26
  · have hf := zif_f hf c_2
    refine lv_iconst (v := (1 : Int32)) hx hb dX7_sign_16 (by decide) ?_
    refine lv_goto (tgt := 21) hx hb dX7_sign_17 (by decide) ?_
    refine lv_iadd hx hb dX7_sign_21 ?_
    obtain ⟨gS_5, e_5, hf⟩ := zlet_ex hf
    refine z_put (gs' := [(wX7 cI qS aS gS_5)]) (D := (dC, dI)) (ci := 7) (ty := .int) (C := RX7) (T := TX7) (N := 21) hx hb hts u_X7_sign_X7 tyX7 tyX7_ok nmX7 hown hK hP hD hS 0 rfl rfl 14 (by decide) (hts _ k_X7_sign_1) (fun _ h9 => h9) rfl (by decide +kernel) rfl rfl (Nat.le_of_ble_eq_true rfl) (by rw [e_5]; rfl) dX7_sign_22 (fun H locs hP hD hS => ?_)
    refine lv_iload_n hx hb dX7_sign_25 rfl (lv_at hl 0 rfl) ?_
    obtain ⟨h_6, hf⟩ := zbl_ex hf
    exact zM_ret (gs := [(wX7 cI qS aS gS_5)]) hx hb hr h_6 hP hD hS (by rw [← Option.some.inj hf]; exact ⟨rfl, rfl⟩) hlk dX7_sign_26

def f_X7_numbered_74   (y2 : Int32) (gS : zG) : Option (Int32 × zG) := (if (gS 14 0) ≤ y2 then (some ((0 : Int32), gS)) else (some ((1 : Int32), gS)))
def f_X7_numbered_12_b   (k12 : Int32 → Int32 → zG → Option (Int32 × zG)) (y1 : Int32) (y2 : Int32) (gS : zG) : Option (Int32 × zG) := (zbind (f_X7_isAt gS (48 : Int32) (57 : Int32)) (fun R2 => (if R2 = 0 then (f_X7_numbered_74    y2 gS) else (if (4 : Int32) ≤ ((gS 14 0) - y2) then (f_X7_numbered_74    y2 gS) else (zin y1 3 (zin (gS 14 0) 60 (zin y1 3 (zlet (gup gS 20 y1.toNatClampNeg ((((10 : Int32) * (gS 20 y1.toNatClampNeg)) + (gS 6 (gS 14 0).toNatClampNeg)) - (48 : Int32))) (fun gS_7 => (zlet (gup gS_7 14 0 ((gS_7 14 0) + (1 : Int32))) (fun gS_8 => (k12 y1 y2 gS_8))))))))))))
def f_X7_numbered_12   : Nat → Int32 → Int32 → zG → Option (Int32 × zG)
  | 0 => fun _ _ _ => none
  | n + 1 => f_X7_numbered_12_b   (f_X7_numbered_12   n)
def f_X7_numbered (gS : zG) (x1 : Int32) : Option (Int32 × zG) := (zin x1 3 (zlet (gup gS 20 x1.toNatClampNeg (0 : Int32)) (fun gS_1 => (f_X7_numbered_12   zfuel x1 (gS 14 0) gS_1))))
theorem u_X7_numbered_X7 : ∀ w ∈ u_ws RX7 TX7 21, w ∈ wsX7_numbered := fun w h => List.mem_cons_of_mem _ (List.mem_append_right _ h)
theorem k_X7_numbered_1 : Cond.fieldLink RX7 171 "JoinedLightModel" "spot" "I" ∈ wsX7_numbered := List.mem_of_getElem? (i := 1) rfl
theorem k_X7_numbered_2 : Cond.fieldLink RX7 31 "JoinedLightModel" "told" "[I" ∈ wsX7_numbered := List.mem_of_getElem? (i := 2) rfl
theorem k_X7_numbered_3 : Cond.fieldLink RX7 22 "JoinedLightModel" "text" "[I" ∈ wsX7_numbered := List.mem_of_getElem? (i := 3) rfl
abbrev rm_X7_numbered : Room := { frames := 2, cells := 0, slots := 0, locals := 44 }
set_option maxHeartbeats 4000000 in
set_option maxRecDepth 100000 in
theorem c_X7_numbered (l : Launch) (dC : Nat → ClassId) (dI : Nat → Nat → Nat) (cI cC cO : ClassId) (qS : Nat) (aS : Nat → Nat) (gS : zG) (x1 : Int32) (R : Int32 × zG) (hf : f_X7_numbered gS x1 = some R) : cM l (dC, dI) (zT cI cC cO) yX7_numbered wsX7_numbered rm_X7_numbered [.ref qS, .int x1] [(wX7 cI qS aS gS)] [(wX7 cI qS aS R.2)] (some (.int R.1)) 0 0 := by
  refine zM_in (cc := cX7_numbered) (maxL := 3) (ret := (some .boolean)) (plainFor_of_name (by decide)) rfl (Nat.le_of_ble_eq_true rfl) ?_
  intro p e s m below meth c hx hb hml hr hlk hown hts hK hN A hA hP hD hS ls hl
  have hl : lv_has ls 3 [(0, .ref qS), (1, .int x1)] := hl
  have w74 : ∀ (y2 : Int32) (gS : zG) (H : Heap) (locs : List Loc) (ls : Array Slot), f_X7_numbered_74    y2 gS = some R → va_P (dC, dI) vwCl [(wX7 cI qS aS gS)].flatten H → va_D A [(wX7 cI qS aS gS)].flatten → va_S A s.heap H locs → lv_has ls 3 [(0, .ref qS), (2, .int y2)] → W p l e (headSpec wsX7_numbered rm_X7_numbered).room s m [.ref qS, .int x1].toArray below meth c H locs 0 0 (MQ below (zqM (dC, dI) (some (.int R.1)) [(wX7 cI qS aS R.2)] A) [.ref qS, .int x1].toArray s 0 0 A) (F0 m 74 ls []) := by
    intro y2 gS H locs ls hf hP hD hS hl
    unfold f_X7_numbered_74 at hf
    refine lv_aload_n hx hb dX7_numbered_74 rfl (lv_at hl 0 rfl) ?_
    refine va_get (D := (dC, dI)) (ci := 7) (v := .int (gS 14 0)) (C := RX7) (T := TX7) (N := 21) hx hb hts u_X7_numbered_X7 hown hK hP 0 rfl rfl 14 (by decide) (hts _ k_X7_numbered_1) (fun _ h9 => h9) rfl dX7_numbered_75 ?_
    refine lv_iload_n hx hb dX7_numbered_78 rfl (lv_at hl 1 rfl) ?_
    refine lv_icmp_le (tgt := 86) hx hb dX7_numbered_79 (by decide) (fun c_9 => ?_) (fun c_9 => ?_)
    · have hf := zif_t hf c_9
      refine lv_iconst (v := (0 : Int32)) hx hb dX7_numbered_86 (by decide) ?_
      exact zM_ret (gs := [(wX7 cI qS aS gS)]) hx hb hr rfl hP hD hS (by rw [← Option.some.inj hf]; exact ⟨rfl, rfl⟩) hlk dX7_numbered_87
    · have hf := zif_f hf c_9
      refine lv_iconst (v := (1 : Int32)) hx hb dX7_numbered_82 (by decide) ?_
      refine lv_goto (tgt := 87) hx hb dX7_numbered_83 (by decide) ?_
      exact zM_ret (gs := [(wX7 cI qS aS gS)]) hx hb hr rfl hP hD hS (by rw [← Option.some.inj hf]; exact ⟨rfl, rfl⟩) hlk dX7_numbered_87
  have w12 : ∀ (n12 : Nat) (y1 : Int32) (y2 : Int32) (gS : zG) (H : Heap) (locs : List Loc) (ls : Array Slot), f_X7_numbered_12   n12 y1 y2 gS = some R → va_P (dC, dI) vwCl [(wX7 cI qS aS gS)].flatten H → va_D A [(wX7 cI qS aS gS)].flatten → va_S A s.heap H locs → lv_has ls 3 [(0, .ref qS), (1, .int y1), (2, .int y2)] → W p l e (headSpec wsX7_numbered rm_X7_numbered).room s m [.ref qS, .int x1].toArray below meth c H locs 0 0 (MQ below (zqM (dC, dI) (some (.int R.1)) [(wX7 cI qS aS R.2)] A) [.ref qS, .int x1].toArray s 0 0 A) (F0 m 12 ls []) := by
    intro n12
    induction n12 with
    | zero =>
      intro y1 y2 gS H locs ls hf hP hD hS hl
      have hf : (none : Option (Int32 × zG)) = some R := hf
      cases hf
    | succ n12 ih12 =>
      intro y1 y2 gS H locs ls hf hP hD hS hl
      have hf : f_X7_numbered_12_b   (f_X7_numbered_12   n12) y1 y2 gS = some R := hf
      unfold f_X7_numbered_12_b at hf
      refine lv_aload_n hx hb dX7_numbered_12 rfl (lv_at hl 0 rfl) ?_
      refine lv_bipush (v := (48 : Int32)) hx hb dX7_numbered_13 (by decide) ?_
      refine lv_bipush (v := (57 : Int32)) hx hb dX7_numbered_15 (by decide) ?_
      obtain ⟨R2, e_2, hf⟩ := zbind_ex hf
      refine z_callRi (va_runV (As := [.int (48 : Int32), .int (57 : Int32)]) (rest := []) ⟨hx, hb, hml, hown, hts⟩ (c_X7_isAt l dC dI cI cC cO qS aS gS (48 : Int32) (57 : Int32) R2 e_2) (cwV 2 hts gX7_numbered_X7_isAt rfl rfl rfl (by decide +kernel) ⟨Nat.le_of_ble_eq_true rfl, Nat.le_of_ble_eq_true rfl⟩) ⟨zpR_blind, va_recv hK hP (ci := 7) (q0 := 0) rfl rfl, z_useR hK hN hP [0] rfl⟩ rfl rfl hl.1 rfl (lv_room (Nat.le_of_ble_eq_true rfl)) dX7_numbered_17 ⟨Nat.le_of_ble_eq_true rfl, Nat.le_of_ble_eq_true rfl⟩) ?_
      refine lv_if_eq (tgt := 74) hx hb dX7_numbered_20 (by decide) (fun c_3 => ?_) (fun c_3 => ?_)
      · have hf := zif_t hf c_3
        exact w74  y2 gS H locs ls hf hP hD hS (lv_sub hl [0, 2] rfl)
      · have hf := zif_f hf c_3
        refine lv_aload_n hx hb dX7_numbered_23 rfl (lv_at hl 0 rfl) ?_
        refine va_get (D := (dC, dI)) (ci := 7) (v := .int (gS 14 0)) (C := RX7) (T := TX7) (N := 21) hx hb hts u_X7_numbered_X7 hown hK hP 0 rfl rfl 14 (by decide) (hts _ k_X7_numbered_1) (fun _ h9 => h9) rfl dX7_numbered_24 ?_
        refine lv_iload_n hx hb dX7_numbered_27 rfl (lv_at hl 2 rfl) ?_
        refine lv_isub hx hb dX7_numbered_28 ?_
        refine lv_iconst (v := (4 : Int32)) hx hb dX7_numbered_29 (by decide) ?_
        refine lv_icmp_ge (tgt := 74) hx hb dX7_numbered_30 (by decide) (fun c_4 => ?_) (fun c_4 => ?_)
        · have hf := zif_t hf c_4
          exact w74  y2 gS H locs ls hf hP hD hS (lv_sub hl [0, 2] rfl)
        · have hf := zif_f hf c_4
          refine lv_aload_n hx hb dX7_numbered_33 rfl (lv_at hl 0 rfl) ?_
          refine va_get (D := (dC, dI)) (ci := 7) (v := .ref (aS 20)) (C := RX7) (T := TX7) (N := 21) hx hb hts u_X7_numbered_X7 hown hK hP 0 rfl rfl 20 (by decide) (hts _ k_X7_numbered_2) (fun _ h9 => h9) rfl dX7_numbered_34 ?_
          refine lv_iload_n hx hb dX7_numbered_37 rfl (lv_at hl 1 rfl) ?_
          refine lv_bipush (v := (10 : Int32)) hx hb dX7_numbered_38 (by decide) ?_
          refine lv_aload_n hx hb dX7_numbered_40 rfl (lv_at hl 0 rfl) ?_
          refine va_get (D := (dC, dI)) (ci := 7) (v := .ref (aS 20)) (C := RX7) (T := TX7) (N := 21) hx hb hts u_X7_numbered_X7 hown hK hP 0 rfl rfl 20 (by decide) (hts _ k_X7_numbered_2) (fun _ h9 => h9) rfl dX7_numbered_41 ?_
          refine lv_iload_n hx hb dX7_numbered_44 rfl (lv_at hl 1 rfl) ?_
          obtain ⟨h_5, hf⟩ := zin_ex hf
          refine va_iald hx hb hK hP 8 0 rfl rfl h_5 dX7_numbered_45 ?_
          refine lv_imul hx hb dX7_numbered_46 ?_
          refine lv_aload_n hx hb dX7_numbered_47 rfl (lv_at hl 0 rfl) ?_
          refine va_get (D := (dC, dI)) (ci := 7) (v := .ref (aS 6)) (C := RX7) (T := TX7) (N := 21) hx hb hts u_X7_numbered_X7 hown hK hP 0 rfl rfl 6 (by decide) (hts _ k_X7_numbered_3) (fun _ h9 => h9) rfl dX7_numbered_48 ?_
          refine lv_aload_n hx hb dX7_numbered_51 rfl (lv_at hl 0 rfl) ?_
          refine va_get (D := (dC, dI)) (ci := 7) (v := .int (gS 14 0)) (C := RX7) (T := TX7) (N := 21) hx hb hts u_X7_numbered_X7 hown hK hP 0 rfl rfl 14 (by decide) (hts _ k_X7_numbered_1) (fun _ h9 => h9) rfl dX7_numbered_52 ?_
          obtain ⟨h_6, hf⟩ := zin_ex hf
          refine va_iald hx hb hK hP 5 0 rfl rfl h_6 dX7_numbered_55 ?_
          refine lv_iadd hx hb dX7_numbered_56 ?_
          refine lv_bipush (v := (48 : Int32)) hx hb dX7_numbered_57 (by decide) ?_
          refine lv_isub hx hb dX7_numbered_59 ?_
          obtain ⟨h_7, hf⟩ := zin_ex hf
          obtain ⟨gS_7, e_7, hf⟩ := zlet_ex hf
          refine z_iast (gs' := [(wX7 cI qS aS gS_7)]) hx hb hK hP hD hS 8 0 rfl rfl h_7 (by rw [e_7]; rfl) dX7_numbered_60 (fun H locs hP hD hS => ?_)
          refine lv_aload_n hx hb dX7_numbered_61 rfl (lv_at hl 0 rfl) ?_
          refine lv_dup hx hb dX7_numbered_62 rfl ?_
          refine va_get (D := (dC, dI)) (ci := 7) (v := .int (gS_7 14 0)) (C := RX7) (T := TX7) (N := 21) hx hb hts u_X7_numbered_X7 hown hK hP 0 rfl rfl 14 (by decide) (hts _ k_X7_numbered_1) (fun _ h9 => h9) rfl dX7_numbered_63 ?_
          refine lv_iconst (v := (1 : Int32)) hx hb dX7_numbered_66 (by decide) ?_
          refine lv_iadd hx hb dX7_numbered_67 ?_
          obtain ⟨gS_8, e_8, hf⟩ := zlet_ex hf
          refine z_put (gs' := [(wX7 cI qS aS gS_8)]) (D := (dC, dI)) (ci := 7) (ty := .int) (C := RX7) (T := TX7) (N := 21) hx hb hts u_X7_numbered_X7 tyX7 tyX7_ok nmX7 hown hK hP hD hS 0 rfl rfl 14 (by decide) (hts _ k_X7_numbered_1) (fun _ h9 => h9) rfl (by decide +kernel) rfl rfl (Nat.le_of_ble_eq_true rfl) (by rw [e_8]; rfl) dX7_numbered_68 (fun H locs hP hD hS => ?_)
          refine lv_goto (tgt := 12) hx hb dX7_numbered_71 (by decide) ?_
          exact ih12 y1 y2 gS_8 H locs ls hf hP hD hS (lv_sub hl [0, 1, 2] rfl)
  unfold f_X7_numbered at hf
  obtain ⟨H, hH⟩ : ∃ H, H = s.heap := ⟨_, rfl⟩
  obtain ⟨locs, hlocs⟩ : ∃ locs : List Loc, locs = [] := ⟨_, rfl⟩
  have hS : va_S A s.heap H locs := by rw [hH, hlocs]; exact hS
  rw [← hH] at hP
  refine zheap hH hlocs ?_
  refine lv_aload_n hx hb dX7_numbered_0 rfl (lv_at hl 0 rfl) ?_
  refine va_get (D := (dC, dI)) (ci := 7) (v := .int (gS 14 0)) (C := RX7) (T := TX7) (N := 21) hx hb hts u_X7_numbered_X7 hown hK hP 0 rfl rfl 14 (by decide) (hts _ k_X7_numbered_1) (fun _ h9 => h9) rfl dX7_numbered_1 ?_
  refine lv_istore_n (lv' := [(2, .int (gS 14 0)), (0, .ref qS), (1, .int x1)]) hx hb dX7_numbered_4 rfl hl (by decide) rfl (fun ls hl => ?_)
  refine lv_aload_n hx hb dX7_numbered_5 rfl (lv_at hl 1 rfl) ?_
  refine va_get (D := (dC, dI)) (ci := 7) (v := .ref (aS 20)) (C := RX7) (T := TX7) (N := 21) hx hb hts u_X7_numbered_X7 hown hK hP 0 rfl rfl 20 (by decide) (hts _ k_X7_numbered_2) (fun _ h9 => h9) rfl dX7_numbered_6 ?_
  refine lv_iload_n hx hb dX7_numbered_9 rfl (lv_at hl 2 rfl) ?_
  refine lv_iconst (v := (0 : Int32)) hx hb dX7_numbered_10 (by decide) ?_
  obtain ⟨h_1, hf⟩ := zin_ex hf
  obtain ⟨gS_1, e_1, hf⟩ := zlet_ex hf
  refine z_iast (gs' := [(wX7 cI qS aS gS_1)]) hx hb hK hP hD hS 8 0 rfl rfl h_1 (by rw [e_1]; rfl) dX7_numbered_11 (fun H locs hP hD hS => ?_)
  exact w12 zfuel x1 (gS 14 0) gS_1 H locs ls hf hP hD hS (lv_sub hl [1, 2, 0] rfl)

def f_X7_numbersOf  (x0 : Int32) : Option (Int32) := (if x0 = (117 : Int32) then (some ((3 : Int32))) else (if x0 = (100 : Int32) then (some ((3 : Int32))) else (if x0 = (108 : Int32) then (some ((2 : Int32))) else (if x0 = (115 : Int32) then (some ((2 : Int32))) else (if x0 = (120 : Int32) then (some ((1 : Int32))) else (some ((0 : Int32))))))))
abbrev rm_X7_numbersOf : Room := { frames := 0, cells := 0, slots := 0, locals := 0 }
set_option maxHeartbeats 4000000 in
set_option maxRecDepth 100000 in
theorem c_X7_numbersOf (l : Launch) (dC : Nat → ClassId) (dI : Nat → Nat → Nat) (cI cC cO : ClassId)  (x0 : Int32) (R : Int32) (hf : f_X7_numbersOf x0 = some R) : cR l (dC, dI) (zT cI cC cO) yX7_numbersOf wsX7_numbersOf rm_X7_numbersOf [.int x0] [] (some (.int R)) := by
  refine zR_in (cc := cX7_numbersOf) (maxL := 1) (ret := (some .int)) (plainFor_of_name (by decide)) rfl (Nat.le_of_ble_eq_true rfl) ?_
  intro p e s m below meth c hx hb hml hr hlk hown hts hK hN hP ls hl
  have hl : lv_has ls 1 [(0, .int x0)] := hl
  unfold f_X7_numbersOf at hf
  refine lv_iload_n hx hb dX7_numbersOf_0 rfl (lv_at hl 0 rfl) ?_
  refine lv_bipush (v := (117 : Int32)) hx hb dX7_numbersOf_1 (by decide) ?_
  refine lv_icmp_eq (tgt := 12) hx hb dX7_numbersOf_3 (by decide) (fun c_1 => ?_) (fun c_1 => ?_)
  · have hf := zif_t hf c_1
    refine lv_iconst (v := (3 : Int32)) hx hb dX7_numbersOf_12 (by decide) ?_
    refine lv_goto (tgt := 43) hx hb dX7_numbersOf_13 (by decide) ?_
    exact zR_ret hx hb hr rfl hf hlk dX7_numbersOf_43
  · have hf := zif_f hf c_1
    refine lv_iload_n hx hb dX7_numbersOf_6 rfl (lv_at hl 0 rfl) ?_
    refine lv_bipush (v := (100 : Int32)) hx hb dX7_numbersOf_7 (by decide) ?_
    refine lv_icmp_ne (tgt := 16) hx hb dX7_numbersOf_9 (by decide) (fun c_2 => ?_) (fun c_2 => ?_)
    · have hf := zif_f hf c_2
      refine lv_iload_n hx hb dX7_numbersOf_16 rfl (lv_at hl 0 rfl) ?_
      refine lv_bipush (v := (108 : Int32)) hx hb dX7_numbersOf_17 (by decide) ?_
      refine lv_icmp_eq (tgt := 28) hx hb dX7_numbersOf_19 (by decide) (fun c_3 => ?_) (fun c_3 => ?_)
      · have hf := zif_t hf c_3
        refine lv_iconst (v := (2 : Int32)) hx hb dX7_numbersOf_28 (by decide) ?_
        refine lv_goto (tgt := 43) hx hb dX7_numbersOf_29 (by decide) ?_
        exact zR_ret hx hb hr rfl hf hlk dX7_numbersOf_43
      · have hf := zif_f hf c_3
        refine lv_iload_n hx hb dX7_numbersOf_22 rfl (lv_at hl 0 rfl) ?_
        refine lv_bipush (v := (115 : Int32)) hx hb dX7_numbersOf_23 (by decide) ?_
        refine lv_icmp_ne (tgt := 32) hx hb dX7_numbersOf_25 (by decide) (fun c_4 => ?_) (fun c_4 => ?_)
        · have hf := zif_f hf c_4
          refine lv_iload_n hx hb dX7_numbersOf_32 rfl (lv_at hl 0 rfl) ?_
          refine lv_bipush (v := (120 : Int32)) hx hb dX7_numbersOf_33 (by decide) ?_
          refine lv_icmp_ne (tgt := 42) hx hb dX7_numbersOf_35 (by decide) (fun c_5 => ?_) (fun c_5 => ?_)
          · have hf := zif_f hf c_5
            refine lv_iconst (v := (0 : Int32)) hx hb dX7_numbersOf_42 (by decide) ?_
            exact zR_ret hx hb hr rfl hf hlk dX7_numbersOf_43
          · have hf := zif_t hf c_5
            refine lv_iconst (v := (1 : Int32)) hx hb dX7_numbersOf_38 (by decide) ?_
            refine lv_goto (tgt := 43) hx hb dX7_numbersOf_39 (by decide) ?_
            exact zR_ret hx hb hr rfl hf hlk dX7_numbersOf_43
        · have hf := zif_t hf c_4
          refine lv_iconst (v := (2 : Int32)) hx hb dX7_numbersOf_28 (by decide) ?_
          refine lv_goto (tgt := 43) hx hb dX7_numbersOf_29 (by decide) ?_
          exact zR_ret hx hb hr rfl hf hlk dX7_numbersOf_43
    · have hf := zif_t hf c_2
      refine lv_iconst (v := (3 : Int32)) hx hb dX7_numbersOf_12 (by decide) ?_
      refine lv_goto (tgt := 43) hx hb dX7_numbersOf_13 (by decide) ?_
      exact zR_ret hx hb hr rfl hf hlk dX7_numbersOf_43

def f_X7_reads_98   (y2 : Int32) (gS : zG) : Option (Int32 × zG) := (if y2 = 0 then (some ((0 : Int32), gS)) else (zbind (f_X7_sign gS (59 : Int32)) (fun R16 => (if R16.1 = 0 then (some ((0 : Int32), R16.2)) else (some ((1 : Int32), R16.2))))))
def f_X7_reads_60_b   (k60 : Int32 → Int32 → Int32 → zG → Option (Int32 × zG)) (y1 : Int32) (y2 : Int32) (y3 : Int32) (gS : zG) : Option (Int32 × zG) := (if y1 ≤ y3 then (f_X7_reads_98    y2 gS) else (if y2 = 0 then (f_X7_reads_98    y2 gS) else (zbind (f_X7_sign gS (44 : Int32)) (fun R11 => (if R11.1 = 0 then (k60 y1 (0 : Int32) (y3 + (1 : Int32)) R11.2) else (zbind (f_X7_numbered R11.2 y3) (fun R13 => (if R13.1 = 0 then (k60 y1 (0 : Int32) (y3 + (1 : Int32)) R13.2) else (k60 y1 (1 : Int32) (y3 + (1 : Int32)) R13.2)))))))))
def f_X7_reads_60   : Nat → Int32 → Int32 → Int32 → zG → Option (Int32 × zG)
  | 0 => fun _ _ _ _ => none
  | n + 1 => f_X7_reads_60_b   (f_X7_reads_60   n)
def f_X7_reads_25   (s0 : Int32) (gS : zG) : Option (Int32 × zG) := (zlet (gup gS 19 0 s0) (fun gS_4 => (zbind (f_X7_numbersOf (gS_4 19 0)) (fun R5 => (if R5 = 0 then (some ((0 : Int32), gS_4)) else (zlet (gup gS_4 14 0 ((gS_4 14 0) + (1 : Int32))) (fun gS_7 => (zbind (f_X7_numbered gS_7 (0 : Int32)) (fun R8 => (f_X7_reads_60   zfuel R5 R8.1 (1 : Int32) R8.2))))))))))
def f_X7_reads (gS : zG)  : Option (Int32 × zG) := (zbind (f_X7_isAt gS (33 : Int32) (126 : Int32)) (fun R1 => (if R1 = 0 then (f_X7_reads_25    (0 : Int32) gS) else (zin (gS 14 0) 60 (f_X7_reads_25    (gS 6 (gS 14 0).toNatClampNeg) gS)))))
theorem u_X7_reads_X7 : ∀ w ∈ u_ws RX7 TX7 21, w ∈ wsX7_reads := fun w h => List.mem_cons_of_mem _ (List.mem_append_right _ h)
theorem k_X7_reads_1 : Cond.fieldLink RX7 22 "JoinedLightModel" "text" "[I" ∈ wsX7_reads := List.mem_of_getElem? (i := 1) rfl
theorem k_X7_reads_2 : Cond.fieldLink RX7 171 "JoinedLightModel" "spot" "I" ∈ wsX7_reads := List.mem_of_getElem? (i := 2) rfl
theorem k_X7_reads_3 : Cond.fieldLink RX7 177 "JoinedLightModel" "order" "I" ∈ wsX7_reads := List.mem_of_getElem? (i := 3) rfl
abbrev rm_X7_reads : Room := { frames := 3, cells := 0, slots := 0, locals := 66 }
set_option maxHeartbeats 4000000 in
set_option maxRecDepth 100000 in
theorem c_X7_reads (l : Launch) (dC : Nat → ClassId) (dI : Nat → Nat → Nat) (cI cC cO : ClassId) (qS : Nat) (aS : Nat → Nat) (gS : zG)  (R : Int32 × zG) (hf : f_X7_reads gS = some R) : cM l (dC, dI) (zT cI cC cO) yX7_reads wsX7_reads rm_X7_reads [.ref qS] [(wX7 cI qS aS gS)] [(wX7 cI qS aS R.2)] (some (.int R.1)) 0 0 := by
  refine zM_in (cc := cX7_reads) (maxL := 4) (ret := (some .boolean)) (plainFor_of_name (by decide)) rfl (Nat.le_of_ble_eq_true rfl) ?_
  intro p e s m below meth c hx hb hml hr hlk hown hts hK hN A hA hP hD hS ls hl
  have hl : lv_has ls 4 [(0, .ref qS)] := hl
  have w98 : ∀ (y2 : Int32) (gS : zG) (H : Heap) (locs : List Loc) (ls : Array Slot), f_X7_reads_98    y2 gS = some R → va_P (dC, dI) vwCl [(wX7 cI qS aS gS)].flatten H → va_D A [(wX7 cI qS aS gS)].flatten → va_S A s.heap H locs → lv_has ls 4 [(0, .ref qS), (2, .int y2)] → W p l e (headSpec wsX7_reads rm_X7_reads).room s m [.ref qS].toArray below meth c H locs 0 0 (MQ below (zqM (dC, dI) (some (.int R.1)) [(wX7 cI qS aS R.2)] A) [.ref qS].toArray s 0 0 A) (F0 m 98 ls []) := by
    intro y2 gS H locs ls hf hP hD hS hl
    unfold f_X7_reads_98 at hf
    refine lv_iload_n hx hb dX7_reads_98 rfl (lv_at hl 1 rfl) ?_
    refine lv_if_eq (tgt := 115) hx hb dX7_reads_99 (by decide) (fun c_15 => ?_) (fun c_15 => ?_)
    · have hf := zif_t hf c_15
      refine lv_iconst (v := (0 : Int32)) hx hb dX7_reads_115 (by decide) ?_
      exact zM_ret (gs := [(wX7 cI qS aS gS)]) hx hb hr rfl hP hD hS (by rw [← Option.some.inj hf]; exact ⟨rfl, rfl⟩) hlk dX7_reads_116
    · have hf := zif_f hf c_15
      refine lv_aload_n hx hb dX7_reads_102 rfl (lv_at hl 0 rfl) ?_
      refine lv_bipush (v := (59 : Int32)) hx hb dX7_reads_103 (by decide) ?_
      obtain ⟨R16, e_16, hf⟩ := zbind_ex hf
      refine z_callM (gs2 := [(wX7 cI qS aS R16.2)]) hP hD hS hA [0] [] rfl rfl rfl (show List.Perm [0] (List.range 1) from by decide) rfl (va_runV (As := [.int (59 : Int32)]) (rest := []) ⟨hx, hb, hml, hown, hts⟩ (c_X7_sign l dC dI cI cC cO qS aS gS (59 : Int32) R16 e_16 H.size) (cwV 1 hts gX7_reads_X7_sign rfl rfl rfl (by decide +kernel) ⟨Nat.le_of_ble_eq_true rfl, Nat.le_of_ble_eq_true rfl⟩) ⟨zpM_blind, va_recv hK hP (ci := 7) (q0 := 0) rfl rfl, z_useM hK hN hP hD [0] [] rfl (show List.Perm [0] (List.range 1) from by decide)⟩ rfl rfl hl.1 rfl (lv_room (Nat.le_of_ble_eq_true rfl)) dX7_reads_105 ⟨Nat.le_of_ble_eq_true rfl, Nat.le_of_ble_eq_true rfl⟩) (fun H locs hP hD hS => ?_)
      refine W.eq (g2 := F0 m 108 ls [.int R16.1]) rfl ?_
      refine lv_if_eq (tgt := 115) hx hb dX7_reads_108 (by decide) (fun c_17 => ?_) (fun c_17 => ?_)
      · have hf := zif_t hf c_17
        refine lv_iconst (v := (0 : Int32)) hx hb dX7_reads_115 (by decide) ?_
        exact zM_ret (gs := [(wX7 cI qS aS R16.2)]) hx hb hr rfl hP hD hS (by rw [← Option.some.inj hf]; exact ⟨rfl, rfl⟩) hlk dX7_reads_116
      · have hf := zif_f hf c_17
        refine lv_iconst (v := (1 : Int32)) hx hb dX7_reads_111 (by decide) ?_
        refine lv_goto (tgt := 116) hx hb dX7_reads_112 (by decide) ?_
        exact zM_ret (gs := [(wX7 cI qS aS R16.2)]) hx hb hr rfl hP hD hS (by rw [← Option.some.inj hf]; exact ⟨rfl, rfl⟩) hlk dX7_reads_116
  have w60 : ∀ (n60 : Nat) (y1 : Int32) (y2 : Int32) (y3 : Int32) (gS : zG) (H : Heap) (locs : List Loc) (ls : Array Slot), f_X7_reads_60   n60 y1 y2 y3 gS = some R → va_P (dC, dI) vwCl [(wX7 cI qS aS gS)].flatten H → va_D A [(wX7 cI qS aS gS)].flatten → va_S A s.heap H locs → lv_has ls 4 [(0, .ref qS), (1, .int y1), (2, .int y2), (3, .int y3)] → W p l e (headSpec wsX7_reads rm_X7_reads).room s m [.ref qS].toArray below meth c H locs 0 0 (MQ below (zqM (dC, dI) (some (.int R.1)) [(wX7 cI qS aS R.2)] A) [.ref qS].toArray s 0 0 A) (F0 m 60 ls []) := by
    intro n60
    induction n60 with
    | zero =>
      intro y1 y2 y3 gS H locs ls hf hP hD hS hl
      have hf : (none : Option (Int32 × zG)) = some R := hf
      cases hf
    | succ n60 ih60 =>
      intro y1 y2 y3 gS H locs ls hf hP hD hS hl
      have hf : f_X7_reads_60_b   (f_X7_reads_60   n60) y1 y2 y3 gS = some R := hf
      unfold f_X7_reads_60_b at hf
      refine lv_iload_n hx hb dX7_reads_60 rfl (lv_at hl 3 rfl) ?_
      refine lv_iload_n hx hb dX7_reads_61 rfl (lv_at hl 1 rfl) ?_
      refine lv_icmp_ge (tgt := 98) hx hb dX7_reads_62 (by decide) (fun c_9 => ?_) (fun c_9 => ?_)
      · have hf := zif_t hf c_9
        exact w98  y2 gS H locs ls hf hP hD hS (lv_sub hl [0, 2] rfl)
      · have hf := zif_f hf c_9
        refine lv_iload_n hx hb dX7_reads_65 rfl (lv_at hl 2 rfl) ?_
        refine lv_if_eq (tgt := 98) hx hb dX7_reads_66 (by decide) (fun c_10 => ?_) (fun c_10 => ?_)
        · have hf := zif_t hf c_10
          exact w98  y2 gS H locs ls hf hP hD hS (lv_sub hl [0, 2] rfl)
        · have hf := zif_f hf c_10
          refine lv_aload_n hx hb dX7_reads_69 rfl (lv_at hl 0 rfl) ?_
          refine lv_bipush (v := (44 : Int32)) hx hb dX7_reads_70 (by decide) ?_
          obtain ⟨R11, e_11, hf⟩ := zbind_ex hf
          refine z_callM (gs2 := [(wX7 cI qS aS R11.2)]) hP hD hS hA [0] [] rfl rfl rfl (show List.Perm [0] (List.range 1) from by decide) rfl (va_runV (As := [.int (44 : Int32)]) (rest := []) ⟨hx, hb, hml, hown, hts⟩ (c_X7_sign l dC dI cI cC cO qS aS gS (44 : Int32) R11 e_11 H.size) (cwV 1 hts gX7_reads_X7_sign rfl rfl rfl (by decide +kernel) ⟨Nat.le_of_ble_eq_true rfl, Nat.le_of_ble_eq_true rfl⟩) ⟨zpM_blind, va_recv hK hP (ci := 7) (q0 := 0) rfl rfl, z_useM hK hN hP hD [0] [] rfl (show List.Perm [0] (List.range 1) from by decide)⟩ rfl rfl hl.1 rfl (lv_room (Nat.le_of_ble_eq_true rfl)) dX7_reads_72 ⟨Nat.le_of_ble_eq_true rfl, Nat.le_of_ble_eq_true rfl⟩) (fun H locs hP hD hS => ?_)
          refine W.eq (g2 := F0 m 75 ls [.int R11.1]) rfl ?_
          refine lv_if_eq (tgt := 90) hx hb dX7_reads_75 (by decide) (fun c_12 => ?_) (fun c_12 => ?_)
          · have hf := zif_t hf c_12
            refine lv_iconst (v := (0 : Int32)) hx hb dX7_reads_90 (by decide) ?_
            refine lv_istore_n (lv' := [(2, .int (0 : Int32)), (0, .ref qS), (1, .int y1), (3, .int y3)]) hx hb dX7_reads_91 rfl hl (by decide) rfl (fun ls hl => ?_)
            refine lv_iinc (v := (y3 + (1 : Int32))) (lv' := [(3, .int (y3 + (1 : Int32))), (2, .int (0 : Int32)), (0, .ref qS), (1, .int y1)]) hx hb dX7_reads_92 hl (k := 3) rfl rfl (by decide) rfl (fun ls hl => ?_)
            refine lv_goto (tgt := 60) hx hb dX7_reads_95 (by decide) ?_
            exact ih60 y1 (0 : Int32) (y3 + (1 : Int32)) R11.2 H locs ls hf hP hD hS (lv_sub hl [2, 3, 1, 0] rfl)
          · have hf := zif_f hf c_12
            refine lv_aload_n hx hb dX7_reads_78 rfl (lv_at hl 0 rfl) ?_
            refine lv_iload_n hx hb dX7_reads_79 rfl (lv_at hl 3 rfl) ?_
            obtain ⟨R13, e_13, hf⟩ := zbind_ex hf
            refine z_callM (gs2 := [(wX7 cI qS aS R13.2)]) hP hD hS hA [0] [] rfl rfl rfl (show List.Perm [0] (List.range 1) from by decide) rfl (va_runV (As := [.int y3]) (rest := []) ⟨hx, hb, hml, hown, hts⟩ (c_X7_numbered l dC dI cI cC cO qS aS R11.2 y3 R13 e_13 H.size) (cwV 1 hts gX7_reads_X7_numbered rfl rfl rfl (by decide +kernel) ⟨Nat.le_of_ble_eq_true rfl, Nat.le_of_ble_eq_true rfl⟩) ⟨zpM_blind, va_recv hK hP (ci := 7) (q0 := 0) rfl rfl, z_useM hK hN hP hD [0] [] rfl (show List.Perm [0] (List.range 1) from by decide)⟩ rfl rfl hl.1 rfl (lv_room (Nat.le_of_ble_eq_true rfl)) dX7_reads_80 ⟨Nat.le_of_ble_eq_true rfl, Nat.le_of_ble_eq_true rfl⟩) (fun H locs hP hD hS => ?_)
            refine W.eq (g2 := F0 m 83 ls [.int R13.1]) rfl ?_
            refine lv_if_eq (tgt := 90) hx hb dX7_reads_83 (by decide) (fun c_14 => ?_) (fun c_14 => ?_)
            · have hf := zif_t hf c_14
              refine lv_iconst (v := (0 : Int32)) hx hb dX7_reads_90 (by decide) ?_
              refine lv_istore_n (lv' := [(2, .int (0 : Int32)), (0, .ref qS), (1, .int y1), (3, .int y3)]) hx hb dX7_reads_91 rfl hl (by decide) rfl (fun ls hl => ?_)
              refine lv_iinc (v := (y3 + (1 : Int32))) (lv' := [(3, .int (y3 + (1 : Int32))), (2, .int (0 : Int32)), (0, .ref qS), (1, .int y1)]) hx hb dX7_reads_92 hl (k := 3) rfl rfl (by decide) rfl (fun ls hl => ?_)
              refine lv_goto (tgt := 60) hx hb dX7_reads_95 (by decide) ?_
              exact ih60 y1 (0 : Int32) (y3 + (1 : Int32)) R13.2 H locs ls hf hP hD hS (lv_sub hl [2, 3, 1, 0] rfl)
            · have hf := zif_f hf c_14
              refine lv_iconst (v := (1 : Int32)) hx hb dX7_reads_86 (by decide) ?_
              refine lv_goto (tgt := 91) hx hb dX7_reads_87 (by decide) ?_
              refine lv_istore_n (lv' := [(2, .int (1 : Int32)), (0, .ref qS), (1, .int y1), (3, .int y3)]) hx hb dX7_reads_91 rfl hl (by decide) rfl (fun ls hl => ?_)
              refine lv_iinc (v := (y3 + (1 : Int32))) (lv' := [(3, .int (y3 + (1 : Int32))), (2, .int (1 : Int32)), (0, .ref qS), (1, .int y1)]) hx hb dX7_reads_92 hl (k := 3) rfl rfl (by decide) rfl (fun ls hl => ?_)
              refine lv_goto (tgt := 60) hx hb dX7_reads_95 (by decide) ?_
              exact ih60 y1 (1 : Int32) (y3 + (1 : Int32)) R13.2 H locs ls hf hP hD hS (lv_sub hl [2, 3, 1, 0] rfl)
  have w25 : ∀ (s0 : Int32) (gS : zG) (H : Heap) (locs : List Loc) (ls : Array Slot), f_X7_reads_25    s0 gS = some R → va_P (dC, dI) vwCl [(wX7 cI qS aS gS)].flatten H → va_D A [(wX7 cI qS aS gS)].flatten → va_S A s.heap H locs → lv_has ls 4 [(0, .ref qS)] → W p l e (headSpec wsX7_reads rm_X7_reads).room s m [.ref qS].toArray below meth c H locs 0 0 (MQ below (zqM (dC, dI) (some (.int R.1)) [(wX7 cI qS aS R.2)] A) [.ref qS].toArray s 0 0 A) (F0 m 25 ls [.int s0, .ref qS]) := by
    intro s0 gS H locs ls hf hP hD hS hl
    unfold f_X7_reads_25 at hf
    obtain ⟨gS_4, e_4, hf⟩ := zlet_ex hf
    refine z_put (gs' := [(wX7 cI qS aS gS_4)]) (D := (dC, dI)) (ci := 7) (ty := .int) (C := RX7) (T := TX7) (N := 21) hx hb hts u_X7_reads_X7 tyX7 tyX7_ok nmX7 hown hK hP hD hS 0 rfl rfl 19 (by decide) (hts _ k_X7_reads_3) (fun _ h9 => h9) rfl (by decide +kernel) rfl rfl (Nat.le_of_ble_eq_true rfl) (by rw [e_4]; rfl) dX7_reads_25 (fun H locs hP hD hS => ?_)
    refine lv_aload_n hx hb dX7_reads_28 rfl (lv_at hl 0 rfl) ?_
    refine va_get (D := (dC, dI)) (ci := 7) (v := .int (gS_4 19 0)) (C := RX7) (T := TX7) (N := 21) hx hb hts u_X7_reads_X7 hown hK hP 0 rfl rfl 19 (by decide) (hts _ k_X7_reads_3) (fun _ h9 => h9) rfl dX7_reads_29 ?_
    obtain ⟨R5, e_5, hf⟩ := zbind_ex hf
    refine z_callRi (va_runS (As := [.int (gS_4 19 0)]) (rest := []) ⟨hx, hb, hml, hown, hts⟩ (c_X7_numbersOf l dC dI cI cC cO  (gS_4 19 0) R5 e_5) (va_cwS 1 hts gX7_reads_X7_numbersOf rfl rfl rfl (by decide +kernel) ⟨Nat.le_of_ble_eq_true rfl, Nat.le_of_ble_eq_true rfl⟩) ⟨zpR_blind, z_useR hK hN hP [] rfl⟩ rfl rfl hl.1 rfl (lv_room (Nat.le_of_ble_eq_true rfl)) dX7_reads_32 ⟨Nat.le_of_ble_eq_true rfl, Nat.le_of_ble_eq_true rfl⟩) ?_
    refine lv_istore_n (lv' := [(1, .int R5), (0, .ref qS)]) hx hb dX7_reads_35 rfl hl (by decide) rfl (fun ls hl => ?_)
    refine lv_iload_n hx hb dX7_reads_36 rfl (lv_at hl 0 rfl) ?_
    refine lv_if_ne (tgt := 42) hx hb dX7_reads_37 (by decide) (fun c_6 => ?_) (fun c_6 => ?_)
    · have hf := zif_f hf c_6
      refine lv_aload_n hx hb dX7_reads_42 rfl (lv_at hl 1 rfl) ?_
      refine lv_dup hx hb dX7_reads_43 rfl ?_
      refine va_get (D := (dC, dI)) (ci := 7) (v := .int (gS_4 14 0)) (C := RX7) (T := TX7) (N := 21) hx hb hts u_X7_reads_X7 hown hK hP 0 rfl rfl 14 (by decide) (hts _ k_X7_reads_2) (fun _ h9 => h9) rfl dX7_reads_44 ?_
      refine lv_iconst (v := (1 : Int32)) hx hb dX7_reads_47 (by decide) ?_
      refine lv_iadd hx hb dX7_reads_48 ?_
      obtain ⟨gS_7, e_7, hf⟩ := zlet_ex hf
      refine z_put (gs' := [(wX7 cI qS aS gS_7)]) (D := (dC, dI)) (ci := 7) (ty := .int) (C := RX7) (T := TX7) (N := 21) hx hb hts u_X7_reads_X7 tyX7 tyX7_ok nmX7 hown hK hP hD hS 0 rfl rfl 14 (by decide) (hts _ k_X7_reads_2) (fun _ h9 => h9) rfl (by decide +kernel) rfl rfl (Nat.le_of_ble_eq_true rfl) (by rw [e_7]; rfl) dX7_reads_49 (fun H locs hP hD hS => ?_)
      refine lv_aload_n hx hb dX7_reads_52 rfl (lv_at hl 1 rfl) ?_
      refine lv_iconst (v := (0 : Int32)) hx hb dX7_reads_53 (by decide) ?_
      obtain ⟨R8, e_8, hf⟩ := zbind_ex hf
      refine z_callM (gs2 := [(wX7 cI qS aS R8.2)]) hP hD hS hA [0] [] rfl rfl rfl (show List.Perm [0] (List.range 1) from by decide) rfl (va_runV (As := [.int (0 : Int32)]) (rest := []) ⟨hx, hb, hml, hown, hts⟩ (c_X7_numbered l dC dI cI cC cO qS aS gS_7 (0 : Int32) R8 e_8 H.size) (cwV 1 hts gX7_reads_X7_numbered rfl rfl rfl (by decide +kernel) ⟨Nat.le_of_ble_eq_true rfl, Nat.le_of_ble_eq_true rfl⟩) ⟨zpM_blind, va_recv hK hP (ci := 7) (q0 := 0) rfl rfl, z_useM hK hN hP hD [0] [] rfl (show List.Perm [0] (List.range 1) from by decide)⟩ rfl rfl hl.1 rfl (lv_room (Nat.le_of_ble_eq_true rfl)) dX7_reads_54 ⟨Nat.le_of_ble_eq_true rfl, Nat.le_of_ble_eq_true rfl⟩) (fun H locs hP hD hS => ?_)
      refine W.eq (g2 := F0 m 57 ls [.int R8.1]) rfl ?_
      refine lv_istore_n (lv' := [(2, .int R8.1), (1, .int R5), (0, .ref qS)]) hx hb dX7_reads_57 rfl hl (by decide) rfl (fun ls hl => ?_)
      refine lv_iconst (v := (1 : Int32)) hx hb dX7_reads_58 (by decide) ?_
      refine lv_istore_n (lv' := [(3, .int (1 : Int32)), (2, .int R8.1), (1, .int R5), (0, .ref qS)]) hx hb dX7_reads_59 rfl hl (by decide) rfl (fun ls hl => ?_)
      exact w60 zfuel R5 R8.1 (1 : Int32) R8.2 H locs ls hf hP hD hS (lv_sub hl [3, 2, 1, 0] rfl)
    · have hf := zif_t hf c_6
      refine lv_iconst (v := (0 : Int32)) hx hb dX7_reads_40 (by decide) ?_
      exact zM_ret (gs := [(wX7 cI qS aS gS_4)]) hx hb hr rfl hP hD hS (by rw [← Option.some.inj hf]; exact ⟨rfl, rfl⟩) hlk dX7_reads_41
  unfold f_X7_reads at hf
  obtain ⟨H, hH⟩ : ∃ H, H = s.heap := ⟨_, rfl⟩
  obtain ⟨locs, hlocs⟩ : ∃ locs : List Loc, locs = [] := ⟨_, rfl⟩
  have hS : va_S A s.heap H locs := by rw [hH, hlocs]; exact hS
  rw [← hH] at hP
  refine zheap hH hlocs ?_
  refine lv_aload_n hx hb dX7_reads_0 rfl (lv_at hl 0 rfl) ?_
  refine lv_aload_n hx hb dX7_reads_1 rfl (lv_at hl 0 rfl) ?_
  refine lv_bipush (v := (33 : Int32)) hx hb dX7_reads_2 (by decide) ?_
  refine lv_bipush (v := (126 : Int32)) hx hb dX7_reads_4 (by decide) ?_
  obtain ⟨R1, e_1, hf⟩ := zbind_ex hf
  refine z_callRi (va_runV (As := [.int (33 : Int32), .int (126 : Int32)]) (rest := [.ref qS]) ⟨hx, hb, hml, hown, hts⟩ (c_X7_isAt l dC dI cI cC cO qS aS gS (33 : Int32) (126 : Int32) R1 e_1) (cwV 2 hts gX7_reads_X7_isAt rfl rfl rfl (by decide +kernel) ⟨Nat.le_of_ble_eq_true rfl, Nat.le_of_ble_eq_true rfl⟩) ⟨zpR_blind, va_recv hK hP (ci := 7) (q0 := 0) rfl rfl, z_useR hK hN hP [0] rfl⟩ rfl rfl hl.1 rfl (lv_room (Nat.le_of_ble_eq_true rfl)) dX7_reads_6 ⟨Nat.le_of_ble_eq_true rfl, Nat.le_of_ble_eq_true rfl⟩) ?_
  refine lv_if_eq (tgt := 24) hx hb dX7_reads_9 (by decide) (fun c_2 => ?_) (fun c_2 => ?_)
  · have hf := zif_t hf c_2
    refine lv_iconst (v := (0 : Int32)) hx hb dX7_reads_24 (by decide) ?_
    exact w25  (0 : Int32) gS H locs ls hf hP hD hS (lv_sub hl [0] rfl)
  · have hf := zif_f hf c_2
    refine lv_aload_n hx hb dX7_reads_12 rfl (lv_at hl 0 rfl) ?_
    refine va_get (D := (dC, dI)) (ci := 7) (v := .ref (aS 6)) (C := RX7) (T := TX7) (N := 21) hx hb hts u_X7_reads_X7 hown hK hP 0 rfl rfl 6 (by decide) (hts _ k_X7_reads_1) (fun _ h9 => h9) rfl dX7_reads_13 ?_
    refine lv_aload_n hx hb dX7_reads_16 rfl (lv_at hl 0 rfl) ?_
    refine va_get (D := (dC, dI)) (ci := 7) (v := .int (gS 14 0)) (C := RX7) (T := TX7) (N := 21) hx hb hts u_X7_reads_X7 hown hK hP 0 rfl rfl 14 (by decide) (hts _ k_X7_reads_2) (fun _ h9 => h9) rfl dX7_reads_17 ?_
    obtain ⟨h_3, hf⟩ := zin_ex hf
    refine va_iald hx hb hK hP 5 0 rfl rfl h_3 dX7_reads_20 ?_
    refine lv_goto (tgt := 25) hx hb dX7_reads_21 (by decide) ?_
    exact w25  (gS 6 (gS 14 0).toNatClampNeg) gS H locs ls hf hP hD hS (lv_sub hl [0] rfl)

def f_X7_calls (gS : zG)  : Option (Int32 × zG) := (if (gS 19 0) = (100 : Int32) then (zin (0 : Int32) 3 (zin (1 : Int32) 3 (zin (2 : Int32) 3 (zbind (f_X7_prism gS (gS 20 (0 : Int32).toNatClampNeg) (gS 20 (1 : Int32).toNatClampNeg) (gS 20 (2 : Int32).toNatClampNeg) (-1 : Int32)) (fun R5 => (some (R5.1, R5.2))))))) else (if (gS 19 0) = (108 : Int32) then (zin (0 : Int32) 3 (zin (1 : Int32) 3 (zbind (f_X7_line gS (gS 20 (0 : Int32).toNatClampNeg) (gS 20 (1 : Int32).toNatClampNeg)) (fun R9 => (some (R9.1, R9.2)))))) else (if (gS 19 0) = (115 : Int32) then (zin (0 : Int32) 3 (zin (1 : Int32) 3 (zin (1 : Int32) 3 (zbind (f_X7_slit gS (gS 20 (0 : Int32).toNatClampNeg) (-(gS 20 (1 : Int32).toNatClampNeg)) (gS 20 (1 : Int32).toNatClampNeg)) (fun R14 => (some (R14.1, R14.2))))))) else (if (gS 19 0) = (117 : Int32) then (zin (0 : Int32) 3 (zin (1 : Int32) 3 (zin (2 : Int32) 3 (zbind (f_X7_prism gS (gS 20 (0 : Int32).toNatClampNeg) (gS 20 (1 : Int32).toNatClampNeg) (gS 20 (2 : Int32).toNatClampNeg) (1 : Int32)) (fun R19 => (some (R19.1, R19.2))))))) else (zin (0 : Int32) 3 (zbind (f_X7_take gS (gS 20 (0 : Int32).toNatClampNeg)) (fun R21 => (some (R21.1, R21.2)))))))))
theorem u_X7_calls_X7 : ∀ w ∈ u_ws RX7 TX7 21, w ∈ wsX7_calls := fun w h => List.mem_cons_of_mem _ (List.mem_append_right _ h)
theorem k_X7_calls_1 : Cond.fieldLink RX7 177 "JoinedLightModel" "order" "I" ∈ wsX7_calls := List.mem_of_getElem? (i := 1) rfl
theorem k_X7_calls_2 : Cond.fieldLink RX7 31 "JoinedLightModel" "told" "[I" ∈ wsX7_calls := List.mem_of_getElem? (i := 2) rfl
abbrev rm_X7_calls : Room := { frames := 4, cells := 0, slots := 0, locals := 94 }
set_option maxHeartbeats 4000000 in
set_option maxRecDepth 100000 in
theorem c_X7_calls (l : Launch) (dC : Nat → ClassId) (dI : Nat → Nat → Nat) (cI cC cO : ClassId) (qS : Nat) (aS : Nat → Nat) (gS : zG)  (R : Int32 × zG) (hf : f_X7_calls gS = some R) : cM l (dC, dI) (zT cI cC cO) yX7_calls wsX7_calls rm_X7_calls [.ref qS] [(wX7 cI qS aS gS)] [(wX7 cI qS aS R.2)] (some (.int R.1)) 0 0 := by
  refine zM_in (cc := cX7_calls) (maxL := 1) (ret := (some .int)) (plainFor_of_name (by decide)) rfl (Nat.le_of_ble_eq_true rfl) ?_
  intro p e s m below meth c hx hb hml hr hlk hown hts hK hN A hA hP hD hS ls hl
  have hl : lv_has ls 1 [(0, .ref qS)] := hl
  unfold f_X7_calls at hf
  obtain ⟨H, hH⟩ : ∃ H, H = s.heap := ⟨_, rfl⟩
  obtain ⟨locs, hlocs⟩ : ∃ locs : List Loc, locs = [] := ⟨_, rfl⟩
  have hS : va_S A s.heap H locs := by rw [hH, hlocs]; exact hS
  rw [← hH] at hP
  refine zheap hH hlocs ?_
  refine lv_aload_n hx hb dX7_calls_0 rfl (lv_at hl 0 rfl) ?_
  refine va_get (D := (dC, dI)) (ci := 7) (v := .int (gS 19 0)) (C := RX7) (T := TX7) (N := 21) hx hb hts u_X7_calls_X7 hown hK hP 0 rfl rfl 19 (by decide) (hts _ k_X7_calls_1) (fun _ h9 => h9) rfl dX7_calls_1 ?_
  by_cases c_1 : (gS 19 0) = (100 : Int32)
  · have hf := zif_t hf c_1
    refine lv_lookup (tgt := 89) (off := 85) hx hb dX7_calls_4 (by decide +kernel) (by rw [c_1]; first | done | rfl) (by decide) ?_
    refine lv_aload_n hx hb dX7_calls_89 rfl (lv_at hl 0 rfl) ?_
    refine lv_aload_n hx hb dX7_calls_90 rfl (lv_at hl 0 rfl) ?_
    refine va_get (D := (dC, dI)) (ci := 7) (v := .ref (aS 20)) (C := RX7) (T := TX7) (N := 21) hx hb hts u_X7_calls_X7 hown hK hP 0 rfl rfl 20 (by decide) (hts _ k_X7_calls_2) (fun _ h9 => h9) rfl dX7_calls_91 ?_
    refine lv_iconst (v := (0 : Int32)) hx hb dX7_calls_94 (by decide) ?_
    obtain ⟨h_2, hf⟩ := zin_ex hf
    refine va_iald hx hb hK hP 8 0 rfl rfl h_2 dX7_calls_95 ?_
    refine lv_aload_n hx hb dX7_calls_96 rfl (lv_at hl 0 rfl) ?_
    refine va_get (D := (dC, dI)) (ci := 7) (v := .ref (aS 20)) (C := RX7) (T := TX7) (N := 21) hx hb hts u_X7_calls_X7 hown hK hP 0 rfl rfl 20 (by decide) (hts _ k_X7_calls_2) (fun _ h9 => h9) rfl dX7_calls_97 ?_
    refine lv_iconst (v := (1 : Int32)) hx hb dX7_calls_100 (by decide) ?_
    obtain ⟨h_3, hf⟩ := zin_ex hf
    refine va_iald hx hb hK hP 8 0 rfl rfl h_3 dX7_calls_101 ?_
    refine lv_aload_n hx hb dX7_calls_102 rfl (lv_at hl 0 rfl) ?_
    refine va_get (D := (dC, dI)) (ci := 7) (v := .ref (aS 20)) (C := RX7) (T := TX7) (N := 21) hx hb hts u_X7_calls_X7 hown hK hP 0 rfl rfl 20 (by decide) (hts _ k_X7_calls_2) (fun _ h9 => h9) rfl dX7_calls_103 ?_
    refine lv_iconst (v := (2 : Int32)) hx hb dX7_calls_106 (by decide) ?_
    obtain ⟨h_4, hf⟩ := zin_ex hf
    refine va_iald hx hb hK hP 8 0 rfl rfl h_4 dX7_calls_107 ?_
    refine lv_iconst (v := (-1 : Int32)) hx hb dX7_calls_108 (by decide) ?_
    obtain ⟨R5, e_5, hf⟩ := zbind_ex hf
    refine z_callM (gs2 := [(wX7 cI qS aS R5.2)]) hP hD hS hA [0] [] rfl rfl rfl (show List.Perm [0] (List.range 1) from by decide) rfl (va_runV (As := [.int (gS 20 (0 : Int32).toNatClampNeg), .int (gS 20 (1 : Int32).toNatClampNeg), .int (gS 20 (2 : Int32).toNatClampNeg), .int (-1 : Int32)]) (rest := []) ⟨hx, hb, hml, hown, hts⟩ (c_X7_prism l dC dI cI cC cO qS aS gS (gS 20 (0 : Int32).toNatClampNeg) (gS 20 (1 : Int32).toNatClampNeg) (gS 20 (2 : Int32).toNatClampNeg) (-1 : Int32) R5 e_5 H.size) (cwV 4 hts gX7_calls_X7_prism rfl rfl rfl (by decide +kernel) ⟨Nat.le_of_ble_eq_true rfl, Nat.le_of_ble_eq_true rfl⟩) ⟨zpM_blind, va_recv hK hP (ci := 7) (q0 := 0) rfl rfl, z_useM hK hN hP hD [0] [] rfl (show List.Perm [0] (List.range 1) from by decide)⟩ rfl rfl hl.1 rfl (lv_room (Nat.le_of_ble_eq_true rfl)) dX7_calls_109 ⟨Nat.le_of_ble_eq_true rfl, Nat.le_of_ble_eq_true rfl⟩) (fun H locs hP hD hS => ?_)
    refine W.eq (g2 := F0 m 112 ls [.int R5.1]) rfl ?_
    exact zM_ret (gs := [(wX7 cI qS aS R5.2)]) hx hb hr rfl hP hD hS (by rw [← Option.some.inj hf]; exact ⟨rfl, rfl⟩) hlk dX7_calls_112
  · have hf := zif_f hf c_1
    by_cases c_6 : (gS 19 0) = (108 : Int32)
    · have hf := zif_t hf c_6
      refine lv_lookup (tgt := 48) (off := 44) hx hb dX7_calls_4 (by decide +kernel) (by rw [c_6]; first | done | rfl) (by decide) ?_
      refine lv_aload_n hx hb dX7_calls_48 rfl (lv_at hl 0 rfl) ?_
      refine lv_aload_n hx hb dX7_calls_49 rfl (lv_at hl 0 rfl) ?_
      refine va_get (D := (dC, dI)) (ci := 7) (v := .ref (aS 20)) (C := RX7) (T := TX7) (N := 21) hx hb hts u_X7_calls_X7 hown hK hP 0 rfl rfl 20 (by decide) (hts _ k_X7_calls_2) (fun _ h9 => h9) rfl dX7_calls_50 ?_
      refine lv_iconst (v := (0 : Int32)) hx hb dX7_calls_53 (by decide) ?_
      obtain ⟨h_7, hf⟩ := zin_ex hf
      refine va_iald hx hb hK hP 8 0 rfl rfl h_7 dX7_calls_54 ?_
      refine lv_aload_n hx hb dX7_calls_55 rfl (lv_at hl 0 rfl) ?_
      refine va_get (D := (dC, dI)) (ci := 7) (v := .ref (aS 20)) (C := RX7) (T := TX7) (N := 21) hx hb hts u_X7_calls_X7 hown hK hP 0 rfl rfl 20 (by decide) (hts _ k_X7_calls_2) (fun _ h9 => h9) rfl dX7_calls_56 ?_
      refine lv_iconst (v := (1 : Int32)) hx hb dX7_calls_59 (by decide) ?_
      obtain ⟨h_8, hf⟩ := zin_ex hf
      refine va_iald hx hb hK hP 8 0 rfl rfl h_8 dX7_calls_60 ?_
      obtain ⟨R9, e_9, hf⟩ := zbind_ex hf
      refine z_callM (gs2 := [(wX7 cI qS aS R9.2)]) hP hD hS hA [0] [] rfl rfl rfl (show List.Perm [0] (List.range 1) from by decide) rfl (va_runV (As := [.int (gS 20 (0 : Int32).toNatClampNeg), .int (gS 20 (1 : Int32).toNatClampNeg)]) (rest := []) ⟨hx, hb, hml, hown, hts⟩ (c_X7_line l dC dI cI cC cO qS aS gS (gS 20 (0 : Int32).toNatClampNeg) (gS 20 (1 : Int32).toNatClampNeg) R9 e_9 H.size) (cwV 2 hts gX7_calls_X7_line rfl rfl rfl (by decide +kernel) ⟨Nat.le_of_ble_eq_true rfl, Nat.le_of_ble_eq_true rfl⟩) ⟨zpM_blind, va_recv hK hP (ci := 7) (q0 := 0) rfl rfl, z_useM hK hN hP hD [0] [] rfl (show List.Perm [0] (List.range 1) from by decide)⟩ rfl rfl hl.1 rfl (lv_room (Nat.le_of_ble_eq_true rfl)) dX7_calls_61 ⟨Nat.le_of_ble_eq_true rfl, Nat.le_of_ble_eq_true rfl⟩) (fun H locs hP hD hS => ?_)
      refine W.eq (g2 := F0 m 64 ls [.int R9.1]) rfl ?_
      exact zM_ret (gs := [(wX7 cI qS aS R9.2)]) hx hb hr rfl hP hD hS (by rw [← Option.some.inj hf]; exact ⟨rfl, rfl⟩) hlk dX7_calls_64
    · have hf := zif_f hf c_6
      by_cases c_10 : (gS 19 0) = (115 : Int32)
      · have hf := zif_t hf c_10
        refine lv_lookup (tgt := 113) (off := 109) hx hb dX7_calls_4 (by decide +kernel) (by rw [c_10]; first | done | rfl) (by decide) ?_
        refine lv_aload_n hx hb dX7_calls_113 rfl (lv_at hl 0 rfl) ?_
        refine lv_aload_n hx hb dX7_calls_114 rfl (lv_at hl 0 rfl) ?_
        refine va_get (D := (dC, dI)) (ci := 7) (v := .ref (aS 20)) (C := RX7) (T := TX7) (N := 21) hx hb hts u_X7_calls_X7 hown hK hP 0 rfl rfl 20 (by decide) (hts _ k_X7_calls_2) (fun _ h9 => h9) rfl dX7_calls_115 ?_
        refine lv_iconst (v := (0 : Int32)) hx hb dX7_calls_118 (by decide) ?_
        obtain ⟨h_11, hf⟩ := zin_ex hf
        refine va_iald hx hb hK hP 8 0 rfl rfl h_11 dX7_calls_119 ?_
        refine lv_aload_n hx hb dX7_calls_120 rfl (lv_at hl 0 rfl) ?_
        refine va_get (D := (dC, dI)) (ci := 7) (v := .ref (aS 20)) (C := RX7) (T := TX7) (N := 21) hx hb hts u_X7_calls_X7 hown hK hP 0 rfl rfl 20 (by decide) (hts _ k_X7_calls_2) (fun _ h9 => h9) rfl dX7_calls_121 ?_
        refine lv_iconst (v := (1 : Int32)) hx hb dX7_calls_124 (by decide) ?_
        obtain ⟨h_12, hf⟩ := zin_ex hf
        refine va_iald hx hb hK hP 8 0 rfl rfl h_12 dX7_calls_125 ?_
        refine lv_ineg hx hb dX7_calls_126 ?_
        refine lv_aload_n hx hb dX7_calls_127 rfl (lv_at hl 0 rfl) ?_
        refine va_get (D := (dC, dI)) (ci := 7) (v := .ref (aS 20)) (C := RX7) (T := TX7) (N := 21) hx hb hts u_X7_calls_X7 hown hK hP 0 rfl rfl 20 (by decide) (hts _ k_X7_calls_2) (fun _ h9 => h9) rfl dX7_calls_128 ?_
        refine lv_iconst (v := (1 : Int32)) hx hb dX7_calls_131 (by decide) ?_
        obtain ⟨h_13, hf⟩ := zin_ex hf
        refine va_iald hx hb hK hP 8 0 rfl rfl h_13 dX7_calls_132 ?_
        obtain ⟨R14, e_14, hf⟩ := zbind_ex hf
        refine z_callM (gs2 := [(wX7 cI qS aS R14.2)]) hP hD hS hA [0] [] rfl rfl rfl (show List.Perm [0] (List.range 1) from by decide) rfl (va_runV (As := [.int (gS 20 (0 : Int32).toNatClampNeg), .int (-(gS 20 (1 : Int32).toNatClampNeg)), .int (gS 20 (1 : Int32).toNatClampNeg)]) (rest := []) ⟨hx, hb, hml, hown, hts⟩ (c_X7_slit l dC dI cI cC cO qS aS gS (gS 20 (0 : Int32).toNatClampNeg) (-(gS 20 (1 : Int32).toNatClampNeg)) (gS 20 (1 : Int32).toNatClampNeg) R14 e_14 H.size) (cwV 3 hts gX7_calls_X7_slit rfl rfl rfl (by decide +kernel) ⟨Nat.le_of_ble_eq_true rfl, Nat.le_of_ble_eq_true rfl⟩) ⟨zpM_blind, va_recv hK hP (ci := 7) (q0 := 0) rfl rfl, z_useM hK hN hP hD [0] [] rfl (show List.Perm [0] (List.range 1) from by decide)⟩ rfl rfl hl.1 rfl (lv_room (Nat.le_of_ble_eq_true rfl)) dX7_calls_133 ⟨Nat.le_of_ble_eq_true rfl, Nat.le_of_ble_eq_true rfl⟩) (fun H locs hP hD hS => ?_)
        refine W.eq (g2 := F0 m 136 ls [.int R14.1]) rfl ?_
        exact zM_ret (gs := [(wX7 cI qS aS R14.2)]) hx hb hr rfl hP hD hS (by rw [← Option.some.inj hf]; exact ⟨rfl, rfl⟩) hlk dX7_calls_136
      · have hf := zif_f hf c_10
        by_cases c_15 : (gS 19 0) = (117 : Int32)
        · have hf := zif_t hf c_15
          refine lv_lookup (tgt := 65) (off := 61) hx hb dX7_calls_4 (by decide +kernel) (by rw [c_15]; first | done | rfl) (by decide) ?_
          refine lv_aload_n hx hb dX7_calls_65 rfl (lv_at hl 0 rfl) ?_
          refine lv_aload_n hx hb dX7_calls_66 rfl (lv_at hl 0 rfl) ?_
          refine va_get (D := (dC, dI)) (ci := 7) (v := .ref (aS 20)) (C := RX7) (T := TX7) (N := 21) hx hb hts u_X7_calls_X7 hown hK hP 0 rfl rfl 20 (by decide) (hts _ k_X7_calls_2) (fun _ h9 => h9) rfl dX7_calls_67 ?_
          refine lv_iconst (v := (0 : Int32)) hx hb dX7_calls_70 (by decide) ?_
          obtain ⟨h_16, hf⟩ := zin_ex hf
          refine va_iald hx hb hK hP 8 0 rfl rfl h_16 dX7_calls_71 ?_
          refine lv_aload_n hx hb dX7_calls_72 rfl (lv_at hl 0 rfl) ?_
          refine va_get (D := (dC, dI)) (ci := 7) (v := .ref (aS 20)) (C := RX7) (T := TX7) (N := 21) hx hb hts u_X7_calls_X7 hown hK hP 0 rfl rfl 20 (by decide) (hts _ k_X7_calls_2) (fun _ h9 => h9) rfl dX7_calls_73 ?_
          refine lv_iconst (v := (1 : Int32)) hx hb dX7_calls_76 (by decide) ?_
          obtain ⟨h_17, hf⟩ := zin_ex hf
          refine va_iald hx hb hK hP 8 0 rfl rfl h_17 dX7_calls_77 ?_
          refine lv_aload_n hx hb dX7_calls_78 rfl (lv_at hl 0 rfl) ?_
          refine va_get (D := (dC, dI)) (ci := 7) (v := .ref (aS 20)) (C := RX7) (T := TX7) (N := 21) hx hb hts u_X7_calls_X7 hown hK hP 0 rfl rfl 20 (by decide) (hts _ k_X7_calls_2) (fun _ h9 => h9) rfl dX7_calls_79 ?_
          refine lv_iconst (v := (2 : Int32)) hx hb dX7_calls_82 (by decide) ?_
          obtain ⟨h_18, hf⟩ := zin_ex hf
          refine va_iald hx hb hK hP 8 0 rfl rfl h_18 dX7_calls_83 ?_
          refine lv_iconst (v := (1 : Int32)) hx hb dX7_calls_84 (by decide) ?_
          obtain ⟨R19, e_19, hf⟩ := zbind_ex hf
          refine z_callM (gs2 := [(wX7 cI qS aS R19.2)]) hP hD hS hA [0] [] rfl rfl rfl (show List.Perm [0] (List.range 1) from by decide) rfl (va_runV (As := [.int (gS 20 (0 : Int32).toNatClampNeg), .int (gS 20 (1 : Int32).toNatClampNeg), .int (gS 20 (2 : Int32).toNatClampNeg), .int (1 : Int32)]) (rest := []) ⟨hx, hb, hml, hown, hts⟩ (c_X7_prism l dC dI cI cC cO qS aS gS (gS 20 (0 : Int32).toNatClampNeg) (gS 20 (1 : Int32).toNatClampNeg) (gS 20 (2 : Int32).toNatClampNeg) (1 : Int32) R19 e_19 H.size) (cwV 4 hts gX7_calls_X7_prism rfl rfl rfl (by decide +kernel) ⟨Nat.le_of_ble_eq_true rfl, Nat.le_of_ble_eq_true rfl⟩) ⟨zpM_blind, va_recv hK hP (ci := 7) (q0 := 0) rfl rfl, z_useM hK hN hP hD [0] [] rfl (show List.Perm [0] (List.range 1) from by decide)⟩ rfl rfl hl.1 rfl (lv_room (Nat.le_of_ble_eq_true rfl)) dX7_calls_85 ⟨Nat.le_of_ble_eq_true rfl, Nat.le_of_ble_eq_true rfl⟩) (fun H locs hP hD hS => ?_)
          refine W.eq (g2 := F0 m 88 ls [.int R19.1]) rfl ?_
          exact zM_ret (gs := [(wX7 cI qS aS R19.2)]) hx hb hr rfl hP hD hS (by rw [← Option.some.inj hf]; exact ⟨rfl, rfl⟩) hlk dX7_calls_88
        · have hf := zif_f hf c_15
          refine lv_lookup (tgt := 137) (off := 133) hx hb dX7_calls_4 (by decide +kernel) (by show Op.lookupswitch.offset [((100 : Int), (85 : Int)), ((108 : Int), (44 : Int)), ((115 : Int), (109 : Int)), ((117 : Int), (61 : Int))] _ _ = _; rw [lv_osw (a := 100) c_1 (by decide)]; rw [lv_osw (a := 108) c_6 (by decide)]; rw [lv_osw (a := 115) c_10 (by decide)]; rw [lv_osw (a := 117) c_15 (by decide)]; first | done | rfl) (by decide) ?_
          refine lv_aload_n hx hb dX7_calls_137 rfl (lv_at hl 0 rfl) ?_
          refine lv_aload_n hx hb dX7_calls_138 rfl (lv_at hl 0 rfl) ?_
          refine va_get (D := (dC, dI)) (ci := 7) (v := .ref (aS 20)) (C := RX7) (T := TX7) (N := 21) hx hb hts u_X7_calls_X7 hown hK hP 0 rfl rfl 20 (by decide) (hts _ k_X7_calls_2) (fun _ h9 => h9) rfl dX7_calls_139 ?_
          refine lv_iconst (v := (0 : Int32)) hx hb dX7_calls_142 (by decide) ?_
          obtain ⟨h_20, hf⟩ := zin_ex hf
          refine va_iald hx hb hK hP 8 0 rfl rfl h_20 dX7_calls_143 ?_
          obtain ⟨R21, e_21, hf⟩ := zbind_ex hf
          refine z_callM (gs2 := [(wX7 cI qS aS R21.2)]) hP hD hS hA [0] [] rfl rfl rfl (show List.Perm [0] (List.range 1) from by decide) rfl (va_runV (As := [.int (gS 20 (0 : Int32).toNatClampNeg)]) (rest := []) ⟨hx, hb, hml, hown, hts⟩ (c_X7_take l dC dI cI cC cO qS aS gS (gS 20 (0 : Int32).toNatClampNeg) R21 e_21 H.size) (cwV 1 hts gX7_calls_X7_take rfl rfl rfl (by decide +kernel) ⟨Nat.le_of_ble_eq_true rfl, Nat.le_of_ble_eq_true rfl⟩) ⟨zpM_blind, va_recv hK hP (ci := 7) (q0 := 0) rfl rfl, z_useM hK hN hP hD [0] [] rfl (show List.Perm [0] (List.range 1) from by decide)⟩ rfl rfl hl.1 rfl (lv_room (Nat.le_of_ble_eq_true rfl)) dX7_calls_144 ⟨Nat.le_of_ble_eq_true rfl, Nat.le_of_ble_eq_true rfl⟩) (fun H locs hP hD hS => ?_)
          refine W.eq (g2 := F0 m 147 ls [.int R21.1]) rfl ?_
          exact zM_ret (gs := [(wX7 cI qS aS R21.2)]) hx hb hr rfl hP hD hS (by rw [← Option.some.inj hf]; exact ⟨rfl, rfl⟩) hlk dX7_calls_147

def f_X7_plays_124   (y1 : Int32) (gS : zG) : Option (Int32 × zG) := (zlet (gup gS 5 0 (0 : Int32)) (fun gS_11 => (zbl y1 (some (y1, gS_11)))))
def f_X7_plays_108  (k22 : Int32 → zG → Option (Int32 × zG)) (y1 : Int32) (s0 : Int32) (gS : zG) : Option (Int32 × zG) := (zlet (gup gS 17 0 s0) (fun gS_18 => (zlet (gup gS_18 18 0 ((gS_18 18 0) + (1 : Int32))) (fun gS_19 => (k22 y1 gS_19)))))
def f_X7_plays_87  (k22 : Int32 → zG → Option (Int32 × zG)) (y1 : Int32) (y2 : Int32) (y3 : Int32) (s0 : Int32) (gS : zG) : Option (Int32 × zG) := (zlet (gup gS 16 0 s0) (fun gS_16 => (if y2 = 0 then (f_X7_plays_108  k22  y1 ((gS_16 14 0) - (gS_16 15 0)) gS_16) else (f_X7_plays_108  k22  y1 y3 gS_16))))
def f_X7_plays_76  (k22 : Int32 → zG → Option (Int32 × zG)) (y2 : Int32) (y3 : Int32) (s0 : Int32) (gS : zG) : Option (Int32 × zG) := (if y2 = 0 then (f_X7_plays_87  k22  s0 y2 y3 (1 : Int32) gS) else (f_X7_plays_87  k22  s0 y2 y3 (2 : Int32) gS))
def f_X7_plays_75  (k22 : Int32 → zG → Option (Int32 × zG)) (y2 : Int32) (y3 : Int32) (gS : zG) : Option (Int32 × zG) := (f_X7_plays_76  k22  y2 y3 (0 : Int32) gS)
def f_X7_plays_62  (k22 : Int32 → zG → Option (Int32 × zG)) (y2 : Int32) (s0 : Int32) (gS : zG) : Option (Int32 × zG) := (if y2 = 0 then (f_X7_plays_75  k22  y2 s0 gS) else (if s0 < 0 then (f_X7_plays_75  k22  y2 s0 gS) else (f_X7_plays_76  k22  y2 s0 (1 : Int32) gS)))
def f_X7_plays_22_b   (k22 : Int32 → zG → Option (Int32 × zG)) (y1 : Int32) (gS : zG) : Option (Int32 × zG) := (if (gS 7 0) ≤ (gS 14 0) then (f_X7_plays_124    y1 gS) else (if y1 = 0 then (f_X7_plays_124    y1 gS) else (zlet (gup gS 15 0 (gS 14 0)) (fun gS_7 => (zbind (f_X7_reads gS_7) (fun R8 => (if R8.1 = 0 then (f_X7_plays_62  k22  R8.1 (0 : Int32) R8.2) else (zbind (f_X7_calls R8.2) (fun R10 => (f_X7_plays_62  k22  R8.1 R10.1 R10.2))))))))))
def f_X7_plays_22   : Nat → Int32 → zG → Option (Int32 × zG)
  | 0 => fun _ _ => none
  | n + 1 => f_X7_plays_22_b   (f_X7_plays_22   n)
def f_X7_plays (gS : zG)  : Option (Int32 × zG) := (zlet (gup gS 5 0 (1 : Int32)) (fun gS_1 => (zlet (gup gS_1 14 0 (0 : Int32)) (fun gS_2 => (zlet (gup gS_2 15 0 (0 : Int32)) (fun gS_3 => (zlet (gup gS_3 18 0 (0 : Int32)) (fun gS_4 => (f_X7_plays_22   zfuel (1 : Int32) gS_4)))))))))
theorem u_X7_plays_X7 : ∀ w ∈ u_ws RX7 TX7 21, w ∈ wsX7_plays := fun w h => List.mem_cons_of_mem _ (List.mem_append_right _ h)
theorem k_X7_plays_1 : Cond.fieldLink RX7 34 "JoinedLightModel" "runs" "Z" ∈ wsX7_plays := List.mem_of_getElem? (i := 1) rfl
theorem k_X7_plays_2 : Cond.fieldLink RX7 171 "JoinedLightModel" "spot" "I" ∈ wsX7_plays := List.mem_of_getElem? (i := 2) rfl
theorem k_X7_plays_3 : Cond.fieldLink RX7 203 "JoinedLightModel" "from" "I" ∈ wsX7_plays := List.mem_of_getElem? (i := 3) rfl
theorem k_X7_plays_4 : Cond.fieldLink RX7 206 "JoinedLightModel" "orders" "I" ∈ wsX7_plays := List.mem_of_getElem? (i := 4) rfl
theorem k_X7_plays_5 : Cond.fieldLink RX7 168 "JoinedLightModel" "typed" "I" ∈ wsX7_plays := List.mem_of_getElem? (i := 5) rfl
theorem k_X7_plays_6 : Cond.fieldLink RX7 215 "JoinedLightModel" "reason" "I" ∈ wsX7_plays := List.mem_of_getElem? (i := 6) rfl
theorem k_X7_plays_7 : Cond.fieldLink RX7 218 "JoinedLightModel" "cause" "I" ∈ wsX7_plays := List.mem_of_getElem? (i := 7) rfl
abbrev rm_X7_plays : Room := { frames := 5, cells := 0, slots := 0, locals := 114 }
set_option maxHeartbeats 4000000 in
set_option maxRecDepth 100000 in
theorem c_X7_plays (l : Launch) (dC : Nat → ClassId) (dI : Nat → Nat → Nat) (cI cC cO : ClassId) (qS : Nat) (aS : Nat → Nat) (gS : zG)  (R : Int32 × zG) (hf : f_X7_plays gS = some R) : cM l (dC, dI) (zT cI cC cO) yX7_plays wsX7_plays rm_X7_plays [.ref qS] [(wX7 cI qS aS gS)] [(wX7 cI qS aS R.2)] (some (.int R.1)) 0 0 := by
  refine zM_in (cc := cX7_plays) (maxL := 4) (ret := (some .boolean)) (plainFor_of_name (by decide)) rfl (Nat.le_of_ble_eq_true rfl) ?_
  intro p e s m below meth c hx hb hml hr hlk hown hts hK hN A hA hP hD hS ls hl
  have hl : lv_has ls 4 [(0, .ref qS)] := hl
  have w124 : ∀ (y1 : Int32) (gS : zG) (H : Heap) (locs : List Loc) (ls : Array Slot), f_X7_plays_124    y1 gS = some R → va_P (dC, dI) vwCl [(wX7 cI qS aS gS)].flatten H → va_D A [(wX7 cI qS aS gS)].flatten → va_S A s.heap H locs → lv_has ls 4 [(0, .ref qS), (1, .int y1)] → W p l e (headSpec wsX7_plays rm_X7_plays).room s m [.ref qS].toArray below meth c H locs 0 0 (MQ below (zqM (dC, dI) (some (.int R.1)) [(wX7 cI qS aS R.2)] A) [.ref qS].toArray s 0 0 A) (F0 m 124 ls []) := by
    intro y1 gS H locs ls hf hP hD hS hl
    unfold f_X7_plays_124 at hf
    refine lv_aload_n hx hb dX7_plays_124 rfl (lv_at hl 0 rfl) ?_
    refine lv_iconst (v := (0 : Int32)) hx hb dX7_plays_125 (by decide) ?_
    obtain ⟨gS_11, e_11, hf⟩ := zlet_ex hf
    refine z_put (gs' := [(wX7 cI qS aS gS_11)]) (D := (dC, dI)) (ci := 7) (ty := .boolean) (C := RX7) (T := TX7) (N := 21) hx hb hts u_X7_plays_X7 tyX7 tyX7_ok nmX7 hown hK hP hD hS 0 rfl rfl 5 (by decide) (hts _ k_X7_plays_1) (fun _ h9 => h9) rfl (by decide +kernel) rfl rfl (Nat.le_of_ble_eq_true rfl) (by rw [e_11]; rfl) dX7_plays_126 (fun H locs hP hD hS => ?_)
    refine lv_iload_n hx hb dX7_plays_129 rfl (lv_at hl 1 rfl) ?_
    obtain ⟨h_12, hf⟩ := zbl_ex hf
    exact zM_ret (gs := [(wX7 cI qS aS gS_11)]) hx hb hr h_12 hP hD hS (by rw [← Option.some.inj hf]; exact ⟨rfl, rfl⟩) hlk dX7_plays_130
  have w22 : ∀ (n22 : Nat) (y1 : Int32) (gS : zG) (H : Heap) (locs : List Loc) (ls : Array Slot), f_X7_plays_22   n22 y1 gS = some R → va_P (dC, dI) vwCl [(wX7 cI qS aS gS)].flatten H → va_D A [(wX7 cI qS aS gS)].flatten → va_S A s.heap H locs → lv_has ls 4 [(0, .ref qS), (1, .int y1)] → W p l e (headSpec wsX7_plays rm_X7_plays).room s m [.ref qS].toArray below meth c H locs 0 0 (MQ below (zqM (dC, dI) (some (.int R.1)) [(wX7 cI qS aS R.2)] A) [.ref qS].toArray s 0 0 A) (F0 m 22 ls []) := by
    intro n22
    induction n22 with
    | zero =>
      intro y1 gS H locs ls hf hP hD hS hl
      have hf : (none : Option (Int32 × zG)) = some R := hf
      cases hf
    | succ n22 ih22 =>
      have w108 : ∀ (y1 : Int32) (s0 : Int32) (gS : zG) (H : Heap) (locs : List Loc) (ls : Array Slot), f_X7_plays_108  (f_X7_plays_22   n22)  y1 s0 gS = some R → va_P (dC, dI) vwCl [(wX7 cI qS aS gS)].flatten H → va_D A [(wX7 cI qS aS gS)].flatten → va_S A s.heap H locs → lv_has ls 4 [(0, .ref qS), (1, .int y1)] → W p l e (headSpec wsX7_plays rm_X7_plays).room s m [.ref qS].toArray below meth c H locs 0 0 (MQ below (zqM (dC, dI) (some (.int R.1)) [(wX7 cI qS aS R.2)] A) [.ref qS].toArray s 0 0 A) (F0 m 108 ls [.int s0, .ref qS]) := by
        intro y1 s0 gS H locs ls hf hP hD hS hl
        unfold f_X7_plays_108 at hf
        obtain ⟨gS_18, e_18, hf⟩ := zlet_ex hf
        refine z_put (gs' := [(wX7 cI qS aS gS_18)]) (D := (dC, dI)) (ci := 7) (ty := .int) (C := RX7) (T := TX7) (N := 21) hx hb hts u_X7_plays_X7 tyX7 tyX7_ok nmX7 hown hK hP hD hS 0 rfl rfl 17 (by decide) (hts _ k_X7_plays_7) (fun _ h9 => h9) rfl (by decide +kernel) rfl rfl (Nat.le_of_ble_eq_true rfl) (by rw [e_18]; rfl) dX7_plays_108 (fun H locs hP hD hS => ?_)
        refine lv_aload_n hx hb dX7_plays_111 rfl (lv_at hl 0 rfl) ?_
        refine lv_dup hx hb dX7_plays_112 rfl ?_
        refine va_get (D := (dC, dI)) (ci := 7) (v := .int (gS_18 18 0)) (C := RX7) (T := TX7) (N := 21) hx hb hts u_X7_plays_X7 hown hK hP 0 rfl rfl 18 (by decide) (hts _ k_X7_plays_4) (fun _ h9 => h9) rfl dX7_plays_113 ?_
        refine lv_iconst (v := (1 : Int32)) hx hb dX7_plays_116 (by decide) ?_
        refine lv_iadd hx hb dX7_plays_117 ?_
        obtain ⟨gS_19, e_19, hf⟩ := zlet_ex hf
        refine z_put (gs' := [(wX7 cI qS aS gS_19)]) (D := (dC, dI)) (ci := 7) (ty := .int) (C := RX7) (T := TX7) (N := 21) hx hb hts u_X7_plays_X7 tyX7 tyX7_ok nmX7 hown hK hP hD hS 0 rfl rfl 18 (by decide) (hts _ k_X7_plays_4) (fun _ h9 => h9) rfl (by decide +kernel) rfl rfl (Nat.le_of_ble_eq_true rfl) (by rw [e_19]; rfl) dX7_plays_118 (fun H locs hP hD hS => ?_)
        refine lv_goto (tgt := 22) hx hb dX7_plays_121 (by decide) ?_
        exact ih22 y1 gS_19 H locs ls hf hP hD hS (lv_sub hl [0, 1] rfl)
      have w87 : ∀ (y1 : Int32) (y2 : Int32) (y3 : Int32) (s0 : Int32) (gS : zG) (H : Heap) (locs : List Loc) (ls : Array Slot), f_X7_plays_87  (f_X7_plays_22   n22)  y1 y2 y3 s0 gS = some R → va_P (dC, dI) vwCl [(wX7 cI qS aS gS)].flatten H → va_D A [(wX7 cI qS aS gS)].flatten → va_S A s.heap H locs → lv_has ls 4 [(0, .ref qS), (1, .int y1), (2, .int y2), (3, .int y3)] → W p l e (headSpec wsX7_plays rm_X7_plays).room s m [.ref qS].toArray below meth c H locs 0 0 (MQ below (zqM (dC, dI) (some (.int R.1)) [(wX7 cI qS aS R.2)] A) [.ref qS].toArray s 0 0 A) (F0 m 87 ls [.int s0, .ref qS]) := by
        intro y1 y2 y3 s0 gS H locs ls hf hP hD hS hl
        unfold f_X7_plays_87 at hf
        obtain ⟨gS_16, e_16, hf⟩ := zlet_ex hf
        refine z_put (gs' := [(wX7 cI qS aS gS_16)]) (D := (dC, dI)) (ci := 7) (ty := .int) (C := RX7) (T := TX7) (N := 21) hx hb hts u_X7_plays_X7 tyX7 tyX7_ok nmX7 hown hK hP hD hS 0 rfl rfl 16 (by decide) (hts _ k_X7_plays_6) (fun _ h9 => h9) rfl (by decide +kernel) rfl rfl (Nat.le_of_ble_eq_true rfl) (by rw [e_16]; rfl) dX7_plays_87 (fun H locs hP hD hS => ?_)
        refine lv_aload_n hx hb dX7_plays_90 rfl (lv_at hl 0 rfl) ?_
        refine lv_iload_n hx hb dX7_plays_91 rfl (lv_at hl 2 rfl) ?_
        refine lv_if_eq (tgt := 99) hx hb dX7_plays_92 (by decide) (fun c_17 => ?_) (fun c_17 => ?_)
        · have hf := zif_t hf c_17
          refine lv_aload_n hx hb dX7_plays_99 rfl (lv_at hl 0 rfl) ?_
          refine va_get (D := (dC, dI)) (ci := 7) (v := .int (gS_16 14 0)) (C := RX7) (T := TX7) (N := 21) hx hb hts u_X7_plays_X7 hown hK hP 0 rfl rfl 14 (by decide) (hts _ k_X7_plays_2) (fun _ h9 => h9) rfl dX7_plays_100 ?_
          refine lv_aload_n hx hb dX7_plays_103 rfl (lv_at hl 0 rfl) ?_
          refine va_get (D := (dC, dI)) (ci := 7) (v := .int (gS_16 15 0)) (C := RX7) (T := TX7) (N := 21) hx hb hts u_X7_plays_X7 hown hK hP 0 rfl rfl 15 (by decide) (hts _ k_X7_plays_3) (fun _ h9 => h9) rfl dX7_plays_104 ?_
          refine lv_isub hx hb dX7_plays_107 ?_
          exact w108  y1 ((gS_16 14 0) - (gS_16 15 0)) gS_16 H locs ls hf hP hD hS (lv_sub hl [0, 1] rfl)
        · have hf := zif_f hf c_17
          refine lv_iload_n hx hb dX7_plays_95 rfl (lv_at hl 3 rfl) ?_
          refine lv_goto (tgt := 108) hx hb dX7_plays_96 (by decide) ?_
          exact w108  y1 y3 gS_16 H locs ls hf hP hD hS (lv_sub hl [0, 1] rfl)
      have w76 : ∀ (y2 : Int32) (y3 : Int32) (s0 : Int32) (gS : zG) (H : Heap) (locs : List Loc) (ls : Array Slot), f_X7_plays_76  (f_X7_plays_22   n22)  y2 y3 s0 gS = some R → va_P (dC, dI) vwCl [(wX7 cI qS aS gS)].flatten H → va_D A [(wX7 cI qS aS gS)].flatten → va_S A s.heap H locs → lv_has ls 4 [(0, .ref qS), (2, .int y2), (3, .int y3)] → W p l e (headSpec wsX7_plays rm_X7_plays).room s m [.ref qS].toArray below meth c H locs 0 0 (MQ below (zqM (dC, dI) (some (.int R.1)) [(wX7 cI qS aS R.2)] A) [.ref qS].toArray s 0 0 A) (F0 m 76 ls [.int s0]) := by
        intro y2 y3 s0 gS H locs ls hf hP hD hS hl
        unfold f_X7_plays_76 at hf
        refine lv_istore_n (lv' := [(1, .int s0), (0, .ref qS), (2, .int y2), (3, .int y3)]) hx hb dX7_plays_76 rfl hl (by decide) rfl (fun ls hl => ?_)
        refine lv_aload_n hx hb dX7_plays_77 rfl (lv_at hl 1 rfl) ?_
        refine lv_iload_n hx hb dX7_plays_78 rfl (lv_at hl 2 rfl) ?_
        refine lv_if_eq (tgt := 86) hx hb dX7_plays_79 (by decide) (fun c_15 => ?_) (fun c_15 => ?_)
        · have hf := zif_t hf c_15
          refine lv_iconst (v := (1 : Int32)) hx hb dX7_plays_86 (by decide) ?_
          exact w87  s0 y2 y3 (1 : Int32) gS H locs ls hf hP hD hS (lv_sub hl [1, 0, 2, 3] rfl)
        · have hf := zif_f hf c_15
          refine lv_iconst (v := (2 : Int32)) hx hb dX7_plays_82 (by decide) ?_
          refine lv_goto (tgt := 87) hx hb dX7_plays_83 (by decide) ?_
          exact w87  s0 y2 y3 (2 : Int32) gS H locs ls hf hP hD hS (lv_sub hl [1, 0, 2, 3] rfl)
      have w75 : ∀ (y2 : Int32) (y3 : Int32) (gS : zG) (H : Heap) (locs : List Loc) (ls : Array Slot), f_X7_plays_75  (f_X7_plays_22   n22)  y2 y3 gS = some R → va_P (dC, dI) vwCl [(wX7 cI qS aS gS)].flatten H → va_D A [(wX7 cI qS aS gS)].flatten → va_S A s.heap H locs → lv_has ls 4 [(0, .ref qS), (2, .int y2), (3, .int y3)] → W p l e (headSpec wsX7_plays rm_X7_plays).room s m [.ref qS].toArray below meth c H locs 0 0 (MQ below (zqM (dC, dI) (some (.int R.1)) [(wX7 cI qS aS R.2)] A) [.ref qS].toArray s 0 0 A) (F0 m 75 ls []) := by
        intro y2 y3 gS H locs ls hf hP hD hS hl
        unfold f_X7_plays_75 at hf
        refine lv_iconst (v := (0 : Int32)) hx hb dX7_plays_75 (by decide) ?_
        exact w76  y2 y3 (0 : Int32) gS H locs ls hf hP hD hS (lv_sub hl [0, 1, 2] rfl)
      have w62 : ∀ (y2 : Int32) (s0 : Int32) (gS : zG) (H : Heap) (locs : List Loc) (ls : Array Slot), f_X7_plays_62  (f_X7_plays_22   n22)  y2 s0 gS = some R → va_P (dC, dI) vwCl [(wX7 cI qS aS gS)].flatten H → va_D A [(wX7 cI qS aS gS)].flatten → va_S A s.heap H locs → lv_has ls 4 [(0, .ref qS), (2, .int y2)] → W p l e (headSpec wsX7_plays rm_X7_plays).room s m [.ref qS].toArray below meth c H locs 0 0 (MQ below (zqM (dC, dI) (some (.int R.1)) [(wX7 cI qS aS R.2)] A) [.ref qS].toArray s 0 0 A) (F0 m 62 ls [.int s0]) := by
        intro y2 s0 gS H locs ls hf hP hD hS hl
        unfold f_X7_plays_62 at hf
        refine lv_istore_n (lv' := [(3, .int s0), (0, .ref qS), (2, .int y2)]) hx hb dX7_plays_62 rfl hl (by decide) rfl (fun ls hl => ?_)
        refine lv_iload_n hx hb dX7_plays_63 rfl (lv_at hl 2 rfl) ?_
        refine lv_if_eq (tgt := 75) hx hb dX7_plays_64 (by decide) (fun c_13 => ?_) (fun c_13 => ?_)
        · have hf := zif_t hf c_13
          exact w75  y2 s0 gS H locs ls hf hP hD hS (lv_sub hl [1, 2, 0] rfl)
        · have hf := zif_f hf c_13
          refine lv_iload_n hx hb dX7_plays_67 rfl (lv_at hl 0 rfl) ?_
          refine lv_if_lt (tgt := 75) hx hb dX7_plays_68 (by decide) (fun c_14 => ?_) (fun c_14 => ?_)
          · have hf := zif_t hf c_14
            exact w75  y2 s0 gS H locs ls hf hP hD hS (lv_sub hl [1, 2, 0] rfl)
          · have hf := zif_f hf c_14
            refine lv_iconst (v := (1 : Int32)) hx hb dX7_plays_71 (by decide) ?_
            refine lv_goto (tgt := 76) hx hb dX7_plays_72 (by decide) ?_
            exact w76  y2 s0 (1 : Int32) gS H locs ls hf hP hD hS (lv_sub hl [1, 2, 0] rfl)
      intro y1 gS H locs ls hf hP hD hS hl
      have hf : f_X7_plays_22_b   (f_X7_plays_22   n22) y1 gS = some R := hf
      unfold f_X7_plays_22_b at hf
      refine lv_aload_n hx hb dX7_plays_22 rfl (lv_at hl 0 rfl) ?_
      refine va_get (D := (dC, dI)) (ci := 7) (v := .int (gS 14 0)) (C := RX7) (T := TX7) (N := 21) hx hb hts u_X7_plays_X7 hown hK hP 0 rfl rfl 14 (by decide) (hts _ k_X7_plays_2) (fun _ h9 => h9) rfl dX7_plays_23 ?_
      refine lv_aload_n hx hb dX7_plays_26 rfl (lv_at hl 0 rfl) ?_
      refine va_get (D := (dC, dI)) (ci := 7) (v := .int (gS 7 0)) (C := RX7) (T := TX7) (N := 21) hx hb hts u_X7_plays_X7 hown hK hP 0 rfl rfl 7 (by decide) (hts _ k_X7_plays_5) (fun _ h9 => h9) rfl dX7_plays_27 ?_
      refine lv_icmp_ge (tgt := 124) hx hb dX7_plays_30 (by decide) (fun c_5 => ?_) (fun c_5 => ?_)
      · have hf := zif_t hf c_5
        exact w124  y1 gS H locs ls hf hP hD hS (lv_sub hl [0, 1] rfl)
      · have hf := zif_f hf c_5
        refine lv_iload_n hx hb dX7_plays_33 rfl (lv_at hl 1 rfl) ?_
        refine lv_if_eq (tgt := 124) hx hb dX7_plays_34 (by decide) (fun c_6 => ?_) (fun c_6 => ?_)
        · have hf := zif_t hf c_6
          exact w124  y1 gS H locs ls hf hP hD hS (lv_sub hl [0, 1] rfl)
        · have hf := zif_f hf c_6
          refine lv_aload_n hx hb dX7_plays_37 rfl (lv_at hl 0 rfl) ?_
          refine lv_aload_n hx hb dX7_plays_38 rfl (lv_at hl 0 rfl) ?_
          refine va_get (D := (dC, dI)) (ci := 7) (v := .int (gS 14 0)) (C := RX7) (T := TX7) (N := 21) hx hb hts u_X7_plays_X7 hown hK hP 0 rfl rfl 14 (by decide) (hts _ k_X7_plays_2) (fun _ h9 => h9) rfl dX7_plays_39 ?_
          obtain ⟨gS_7, e_7, hf⟩ := zlet_ex hf
          refine z_put (gs' := [(wX7 cI qS aS gS_7)]) (D := (dC, dI)) (ci := 7) (ty := .int) (C := RX7) (T := TX7) (N := 21) hx hb hts u_X7_plays_X7 tyX7 tyX7_ok nmX7 hown hK hP hD hS 0 rfl rfl 15 (by decide) (hts _ k_X7_plays_3) (fun _ h9 => h9) rfl (by decide +kernel) rfl rfl (Nat.le_of_ble_eq_true rfl) (by rw [e_7]; rfl) dX7_plays_42 (fun H locs hP hD hS => ?_)
          refine lv_aload_n hx hb dX7_plays_45 rfl (lv_at hl 0 rfl) ?_
          obtain ⟨R8, e_8, hf⟩ := zbind_ex hf
          refine z_callM (gs2 := [(wX7 cI qS aS R8.2)]) hP hD hS hA [0] [] rfl rfl rfl (show List.Perm [0] (List.range 1) from by decide) rfl (va_runV (As := []) (rest := []) ⟨hx, hb, hml, hown, hts⟩ (c_X7_reads l dC dI cI cC cO qS aS gS_7  R8 e_8 H.size) (cwV 0 hts gX7_plays_X7_reads rfl rfl rfl (by decide +kernel) ⟨Nat.le_of_ble_eq_true rfl, Nat.le_of_ble_eq_true rfl⟩) ⟨zpM_blind, va_recv hK hP (ci := 7) (q0 := 0) rfl rfl, z_useM hK hN hP hD [0] [] rfl (show List.Perm [0] (List.range 1) from by decide)⟩ rfl rfl hl.1 rfl (lv_room (Nat.le_of_ble_eq_true rfl)) dX7_plays_46 ⟨Nat.le_of_ble_eq_true rfl, Nat.le_of_ble_eq_true rfl⟩) (fun H locs hP hD hS => ?_)
          refine W.eq (g2 := F0 m 49 ls [.int R8.1]) rfl ?_
          refine lv_istore_n (lv' := [(2, .int R8.1), (0, .ref qS), (1, .int y1)]) hx hb dX7_plays_49 rfl hl (by decide) rfl (fun ls hl => ?_)
          refine lv_iload_n hx hb dX7_plays_50 rfl (lv_at hl 0 rfl) ?_
          refine lv_if_eq (tgt := 61) hx hb dX7_plays_51 (by decide) (fun c_9 => ?_) (fun c_9 => ?_)
          · have hf := zif_t hf c_9
            refine lv_iconst (v := (0 : Int32)) hx hb dX7_plays_61 (by decide) ?_
            exact w62  R8.1 (0 : Int32) R8.2 H locs ls hf hP hD hS (lv_sub hl [1, 0] rfl)
          · have hf := zif_f hf c_9
            refine lv_aload_n hx hb dX7_plays_54 rfl (lv_at hl 1 rfl) ?_
            obtain ⟨R10, e_10, hf⟩ := zbind_ex hf
            refine z_callM (gs2 := [(wX7 cI qS aS R10.2)]) hP hD hS hA [0] [] rfl rfl rfl (show List.Perm [0] (List.range 1) from by decide) rfl (va_runV (As := []) (rest := []) ⟨hx, hb, hml, hown, hts⟩ (c_X7_calls l dC dI cI cC cO qS aS R8.2  R10 e_10 H.size) (cwV 0 hts gX7_plays_X7_calls rfl rfl rfl (by decide +kernel) ⟨Nat.le_of_ble_eq_true rfl, Nat.le_of_ble_eq_true rfl⟩) ⟨zpM_blind, va_recv hK hP (ci := 7) (q0 := 0) rfl rfl, z_useM hK hN hP hD [0] [] rfl (show List.Perm [0] (List.range 1) from by decide)⟩ rfl rfl hl.1 rfl (lv_room (Nat.le_of_ble_eq_true rfl)) dX7_plays_55 ⟨Nat.le_of_ble_eq_true rfl, Nat.le_of_ble_eq_true rfl⟩) (fun H locs hP hD hS => ?_)
            refine W.eq (g2 := F0 m 58 ls [.int R10.1]) rfl ?_
            refine lv_goto (tgt := 62) hx hb dX7_plays_58 (by decide) ?_
            exact w62  R8.1 R10.1 R10.2 H locs ls hf hP hD hS (lv_sub hl [1, 0] rfl)
  unfold f_X7_plays at hf
  obtain ⟨H, hH⟩ : ∃ H, H = s.heap := ⟨_, rfl⟩
  obtain ⟨locs, hlocs⟩ : ∃ locs : List Loc, locs = [] := ⟨_, rfl⟩
  have hS : va_S A s.heap H locs := by rw [hH, hlocs]; exact hS
  rw [← hH] at hP
  refine zheap hH hlocs ?_
  refine lv_aload_n hx hb dX7_plays_0 rfl (lv_at hl 0 rfl) ?_
  refine lv_iconst (v := (1 : Int32)) hx hb dX7_plays_1 (by decide) ?_
  obtain ⟨gS_1, e_1, hf⟩ := zlet_ex hf
  refine z_put (gs' := [(wX7 cI qS aS gS_1)]) (D := (dC, dI)) (ci := 7) (ty := .boolean) (C := RX7) (T := TX7) (N := 21) hx hb hts u_X7_plays_X7 tyX7 tyX7_ok nmX7 hown hK hP hD hS 0 rfl rfl 5 (by decide) (hts _ k_X7_plays_1) (fun _ h9 => h9) rfl (by decide +kernel) rfl rfl (Nat.le_of_ble_eq_true rfl) (by rw [e_1]; rfl) dX7_plays_2 (fun H locs hP hD hS => ?_)
  refine lv_aload_n hx hb dX7_plays_5 rfl (lv_at hl 0 rfl) ?_
  refine lv_iconst (v := (0 : Int32)) hx hb dX7_plays_6 (by decide) ?_
  obtain ⟨gS_2, e_2, hf⟩ := zlet_ex hf
  refine z_put (gs' := [(wX7 cI qS aS gS_2)]) (D := (dC, dI)) (ci := 7) (ty := .int) (C := RX7) (T := TX7) (N := 21) hx hb hts u_X7_plays_X7 tyX7 tyX7_ok nmX7 hown hK hP hD hS 0 rfl rfl 14 (by decide) (hts _ k_X7_plays_2) (fun _ h9 => h9) rfl (by decide +kernel) rfl rfl (Nat.le_of_ble_eq_true rfl) (by rw [e_2]; rfl) dX7_plays_7 (fun H locs hP hD hS => ?_)
  refine lv_aload_n hx hb dX7_plays_10 rfl (lv_at hl 0 rfl) ?_
  refine lv_iconst (v := (0 : Int32)) hx hb dX7_plays_11 (by decide) ?_
  obtain ⟨gS_3, e_3, hf⟩ := zlet_ex hf
  refine z_put (gs' := [(wX7 cI qS aS gS_3)]) (D := (dC, dI)) (ci := 7) (ty := .int) (C := RX7) (T := TX7) (N := 21) hx hb hts u_X7_plays_X7 tyX7 tyX7_ok nmX7 hown hK hP hD hS 0 rfl rfl 15 (by decide) (hts _ k_X7_plays_3) (fun _ h9 => h9) rfl (by decide +kernel) rfl rfl (Nat.le_of_ble_eq_true rfl) (by rw [e_3]; rfl) dX7_plays_12 (fun H locs hP hD hS => ?_)
  refine lv_aload_n hx hb dX7_plays_15 rfl (lv_at hl 0 rfl) ?_
  refine lv_iconst (v := (0 : Int32)) hx hb dX7_plays_16 (by decide) ?_
  obtain ⟨gS_4, e_4, hf⟩ := zlet_ex hf
  refine z_put (gs' := [(wX7 cI qS aS gS_4)]) (D := (dC, dI)) (ci := 7) (ty := .int) (C := RX7) (T := TX7) (N := 21) hx hb hts u_X7_plays_X7 tyX7 tyX7_ok nmX7 hown hK hP hD hS 0 rfl rfl 18 (by decide) (hts _ k_X7_plays_4) (fun _ h9 => h9) rfl (by decide +kernel) rfl rfl (Nat.le_of_ble_eq_true rfl) (by rw [e_4]; rfl) dX7_plays_17 (fun H locs hP hD hS => ?_)
  refine lv_iconst (v := (1 : Int32)) hx hb dX7_plays_20 (by decide) ?_
  refine lv_istore_n (lv' := [(1, .int (1 : Int32)), (0, .ref qS)]) hx hb dX7_plays_21 rfl hl (by decide) rfl (fun ls hl => ?_)
  exact w22 zfuel (1 : Int32) gS_4 H locs ls hf hP hD hS (lv_sub hl [1, 0] rfl)

def f_X7_fault (gS : zG) (x1 : Int32) : Option (Int32 × zG) := (zbind (f_X7_in x1 (0 : Int32) (2 : Int32)) (fun R1 => (if R1 = 0 then (some ((-1000000001 : Int32), gS)) else (zbind (f_X7_copies_0_2 gS) (fun R3 => (zbind (f_X7_plays R3) (fun R4 => (zbind (f_X7_copies_2_0 R4.2) (fun R5 => (if R4.1 = 0 then (if x1 = 0 then (some ((R5 15 0), R5)) else (if x1 = (1 : Int32) then (some ((R5 16 0), R5)) else (some ((R5 17 0), R5)))) else (some ((-1000000004 : Int32), R5))))))))))))
theorem u_X7_fault_X7 : ∀ w ∈ u_ws RX7 TX7 21, w ∈ wsX7_fault := fun w h => List.mem_cons_of_mem _ (List.mem_append_right _ h)
theorem k_X7_fault_2 : Cond.fieldLink RX7 7 "JoinedLightModel" "s" "[I" ∈ wsX7_fault := List.mem_of_getElem? (i := 2) rfl
theorem k_X7_fault_3 : Cond.fieldLink RX7 16 "JoinedLightModel" "held" "[I" ∈ wsX7_fault := List.mem_of_getElem? (i := 3) rfl
theorem k_X7_fault_7 : Cond.fieldLink RX7 218 "JoinedLightModel" "cause" "I" ∈ wsX7_fault := List.mem_of_getElem? (i := 7) rfl
theorem k_X7_fault_6 : Cond.fieldLink RX7 215 "JoinedLightModel" "reason" "I" ∈ wsX7_fault := List.mem_of_getElem? (i := 6) rfl
theorem k_X7_fault_5 : Cond.fieldLink RX7 203 "JoinedLightModel" "from" "I" ∈ wsX7_fault := List.mem_of_getElem? (i := 5) rfl
theorem k_X7_fault_4 : Cond.constant RX7 46 (-1000000004) ∈ wsX7_fault := List.mem_of_getElem? (i := 4) rfl
theorem k_X7_fault_1 : Cond.constant RX7 51 (-1000000001) ∈ wsX7_fault := List.mem_of_getElem? (i := 1) rfl
abbrev rm_X7_fault : Room := { frames := 6, cells := 0, slots := 0, locals := 137 }
set_option maxHeartbeats 4000000 in
set_option maxRecDepth 100000 in
theorem c_X7_fault (l : Launch) (dC : Nat → ClassId) (dI : Nat → Nat → Nat) (cI cC cO : ClassId) (qS : Nat) (aS : Nat → Nat) (gS : zG) (x1 : Int32) (R : Int32 × zG) (hf : f_X7_fault gS x1 = some R) : cM l (dC, dI) (zT cI cC cO) yX7_fault wsX7_fault rm_X7_fault [.ref qS, .int x1] [(wX7 cI qS aS gS)] [(wX7 cI qS aS R.2)] (some (.int R.1)) 0 0 := by
  refine zM_in (cc := cX7_fault) (maxL := 3) (ret := (some .int)) (plainFor_of_name (by decide)) rfl (Nat.le_of_ble_eq_true rfl) ?_
  intro p e s m below meth c hx hb hml hr hlk hown hts hK hN A hA hP hD hS ls hl
  have hl : lv_has ls 3 [(0, .ref qS), (1, .int x1)] := hl
  unfold f_X7_fault at hf
  obtain ⟨H, hH⟩ : ∃ H, H = s.heap := ⟨_, rfl⟩
  obtain ⟨locs, hlocs⟩ : ∃ locs : List Loc, locs = [] := ⟨_, rfl⟩
  have hS : va_S A s.heap H locs := by rw [hH, hlocs]; exact hS
  rw [← hH] at hP
  refine zheap hH hlocs ?_
  refine lv_iload_n hx hb dX7_fault_0 rfl (lv_at hl 1 rfl) ?_
  refine lv_iconst (v := (0 : Int32)) hx hb dX7_fault_1 (by decide) ?_
  refine lv_iconst (v := (2 : Int32)) hx hb dX7_fault_2 (by decide) ?_
  obtain ⟨R1, e_1, hf⟩ := zbind_ex hf
  refine z_callRi (va_runS (As := [.int x1, .int (0 : Int32), .int (2 : Int32)]) (rest := []) ⟨hx, hb, hml, hown, hts⟩ (c_X7_in l dC dI cI cC cO  x1 (0 : Int32) (2 : Int32) R1 e_1) (va_cwS 3 hts gX7_fault_X7_in rfl rfl rfl (by decide +kernel) ⟨Nat.le_of_ble_eq_true rfl, Nat.le_of_ble_eq_true rfl⟩) ⟨zpR_blind, z_useR hK hN hP [] rfl⟩ rfl rfl hl.1 rfl (lv_room (Nat.le_of_ble_eq_true rfl)) dX7_fault_3 ⟨Nat.le_of_ble_eq_true rfl, Nat.le_of_ble_eq_true rfl⟩) ?_
  refine lv_if_ne (tgt := 12) hx hb dX7_fault_6 (by decide) (fun c_2 => ?_) (fun c_2 => ?_)
  · have hf := zif_f hf c_2
    refine lv_aload_n hx hb dX7_fault_12 rfl (lv_at hl 0 rfl) ?_
    refine va_get (D := (dC, dI)) (ci := 7) (v := .ref (aS 0)) (C := RX7) (T := TX7) (N := 21) hx hb hts u_X7_fault_X7 hown hK hP 0 rfl rfl 0 (by decide) (hts _ k_X7_fault_2) (fun _ h9 => h9) rfl dX7_fault_13 ?_
    refine lv_aload_n hx hb dX7_fault_16 rfl (lv_at hl 0 rfl) ?_
    refine va_get (D := (dC, dI)) (ci := 7) (v := .ref (aS 2)) (C := RX7) (T := TX7) (N := 21) hx hb hts u_X7_fault_X7 hown hK hP 0 rfl rfl 2 (by decide) (hts _ k_X7_fault_3) (fun _ h9 => h9) rfl dX7_fault_17 ?_
    obtain ⟨R3, e_3, hf⟩ := zbind_ex hf
    refine z_callM (gs2 := [(wX7 cI qS aS R3)]) hP hD hS hA [0] [] rfl rfl rfl (show List.Perm [0] (List.range 1) from by decide) rfl (va_runS (As := [.ref (aS 0), .ref (aS 2)]) (rest := []) ⟨hx, hb, hml, hown, hts⟩ (c_X7_copies_0_2 l dC dI cI cC cO qS aS gS  R3 e_3 H.size) (va_cwS 2 hts gX7_fault_X7_copies rfl rfl rfl (by decide +kernel) ⟨Nat.le_of_ble_eq_true rfl, Nat.le_of_ble_eq_true rfl⟩) ⟨zpM_blind, z_useM hK hN hP hD [0] [] rfl (show List.Perm [0] (List.range 1) from by decide)⟩ rfl rfl hl.1 rfl (lv_room (Nat.le_of_ble_eq_true rfl)) dX7_fault_20 ⟨Nat.le_of_ble_eq_true rfl, Nat.le_of_ble_eq_true rfl⟩) (fun H locs hP hD hS => ?_)
    refine W.eq (g2 := F0 m 23 ls []) rfl ?_
    refine lv_aload_n hx hb dX7_fault_23 rfl (lv_at hl 0 rfl) ?_
    obtain ⟨R4, e_4, hf⟩ := zbind_ex hf
    refine z_callM (gs2 := [(wX7 cI qS aS R4.2)]) hP hD hS hA [0] [] rfl rfl rfl (show List.Perm [0] (List.range 1) from by decide) rfl (va_runV (As := []) (rest := []) ⟨hx, hb, hml, hown, hts⟩ (c_X7_plays l dC dI cI cC cO qS aS R3  R4 e_4 H.size) (cwV 0 hts gX7_fault_X7_plays rfl rfl rfl (by decide +kernel) ⟨Nat.le_of_ble_eq_true rfl, Nat.le_of_ble_eq_true rfl⟩) ⟨zpM_blind, va_recv hK hP (ci := 7) (q0 := 0) rfl rfl, z_useM hK hN hP hD [0] [] rfl (show List.Perm [0] (List.range 1) from by decide)⟩ rfl rfl hl.1 rfl (lv_room (Nat.le_of_ble_eq_true rfl)) dX7_fault_24 ⟨Nat.le_of_ble_eq_true rfl, Nat.le_of_ble_eq_true rfl⟩) (fun H locs hP hD hS => ?_)
    refine W.eq (g2 := F0 m 27 ls [.int R4.1]) rfl ?_
    refine lv_istore_n (lv' := [(2, .int R4.1), (0, .ref qS), (1, .int x1)]) hx hb dX7_fault_27 rfl hl (by decide) rfl (fun ls hl => ?_)
    refine lv_aload_n hx hb dX7_fault_28 rfl (lv_at hl 1 rfl) ?_
    refine va_get (D := (dC, dI)) (ci := 7) (v := .ref (aS 2)) (C := RX7) (T := TX7) (N := 21) hx hb hts u_X7_fault_X7 hown hK hP 0 rfl rfl 2 (by decide) (hts _ k_X7_fault_3) (fun _ h9 => h9) rfl dX7_fault_29 ?_
    refine lv_aload_n hx hb dX7_fault_32 rfl (lv_at hl 1 rfl) ?_
    refine va_get (D := (dC, dI)) (ci := 7) (v := .ref (aS 0)) (C := RX7) (T := TX7) (N := 21) hx hb hts u_X7_fault_X7 hown hK hP 0 rfl rfl 0 (by decide) (hts _ k_X7_fault_2) (fun _ h9 => h9) rfl dX7_fault_33 ?_
    obtain ⟨R5, e_5, hf⟩ := zbind_ex hf
    refine z_callM (gs2 := [(wX7 cI qS aS R5)]) hP hD hS hA [0] [] rfl rfl rfl (show List.Perm [0] (List.range 1) from by decide) rfl (va_runS (As := [.ref (aS 2), .ref (aS 0)]) (rest := []) ⟨hx, hb, hml, hown, hts⟩ (c_X7_copies_2_0 l dC dI cI cC cO qS aS R4.2  R5 e_5 H.size) (va_cwS 2 hts gX7_fault_X7_copies rfl rfl rfl (by decide +kernel) ⟨Nat.le_of_ble_eq_true rfl, Nat.le_of_ble_eq_true rfl⟩) ⟨zpM_blind, z_useM hK hN hP hD [0] [] rfl (show List.Perm [0] (List.range 1) from by decide)⟩ rfl rfl hl.1 rfl (lv_room (Nat.le_of_ble_eq_true rfl)) dX7_fault_36 ⟨Nat.le_of_ble_eq_true rfl, Nat.le_of_ble_eq_true rfl⟩) (fun H locs hP hD hS => ?_)
    refine W.eq (g2 := F0 m 39 ls []) rfl ?_
    refine lv_iload_n hx hb dX7_fault_39 rfl (lv_at hl 0 rfl) ?_
    refine lv_if_eq (tgt := 48) hx hb dX7_fault_40 (by decide) (fun c_6 => ?_) (fun c_6 => ?_)
    · have hf := zif_t hf c_6
      refine lv_iload_n hx hb dX7_fault_48 rfl (lv_at hl 2 rfl) ?_
      refine lv_if_ne (tgt := 59) hx hb dX7_fault_49 (by decide) (fun c_7 => ?_) (fun c_7 => ?_)
      · have hf := zif_f hf c_7
        refine lv_iload_n hx hb dX7_fault_59 rfl (lv_at hl 2 rfl) ?_
        refine lv_iconst (v := (1 : Int32)) hx hb dX7_fault_60 (by decide) ?_
        refine lv_icmp_ne (tgt := 71) hx hb dX7_fault_61 (by decide) (fun c_8 => ?_) (fun c_8 => ?_)
        · have hf := zif_f hf c_8
          refine lv_aload_n hx hb dX7_fault_71 rfl (lv_at hl 1 rfl) ?_
          refine va_get (D := (dC, dI)) (ci := 7) (v := .int (R5 17 0)) (C := RX7) (T := TX7) (N := 21) hx hb hts u_X7_fault_X7 hown hK hP 0 rfl rfl 17 (by decide) (hts _ k_X7_fault_7) (fun _ h9 => h9) rfl dX7_fault_72 ?_
          exact zM_ret (gs := [(wX7 cI qS aS R5)]) hx hb hr rfl hP hD hS (by rw [← Option.some.inj hf]; exact ⟨rfl, rfl⟩) hlk dX7_fault_75
        · have hf := zif_t hf c_8
          refine lv_aload_n hx hb dX7_fault_64 rfl (lv_at hl 1 rfl) ?_
          refine va_get (D := (dC, dI)) (ci := 7) (v := .int (R5 16 0)) (C := RX7) (T := TX7) (N := 21) hx hb hts u_X7_fault_X7 hown hK hP 0 rfl rfl 16 (by decide) (hts _ k_X7_fault_6) (fun _ h9 => h9) rfl dX7_fault_65 ?_
          refine lv_goto (tgt := 75) hx hb dX7_fault_68 (by decide) ?_
          exact zM_ret (gs := [(wX7 cI qS aS R5)]) hx hb hr rfl hP hD hS (by rw [← Option.some.inj hf]; exact ⟨rfl, rfl⟩) hlk dX7_fault_75
      · have hf := zif_t hf c_7
        refine lv_aload_n hx hb dX7_fault_52 rfl (lv_at hl 1 rfl) ?_
        refine va_get (D := (dC, dI)) (ci := 7) (v := .int (R5 15 0)) (C := RX7) (T := TX7) (N := 21) hx hb hts u_X7_fault_X7 hown hK hP 0 rfl rfl 15 (by decide) (hts _ k_X7_fault_5) (fun _ h9 => h9) rfl dX7_fault_53 ?_
        refine lv_goto (tgt := 75) hx hb dX7_fault_56 (by decide) ?_
        exact zM_ret (gs := [(wX7 cI qS aS R5)]) hx hb hr rfl hP hD hS (by rw [← Option.some.inj hf]; exact ⟨rfl, rfl⟩) hlk dX7_fault_75
    · have hf := zif_f hf c_6
      refine lv_ldc (v := (-1000000004 : Int32)) hx hb hown (hts _ k_X7_fault_4) dX7_fault_43 ?_
      refine lv_goto (tgt := 75) hx hb dX7_fault_45 (by decide) ?_
      exact zM_ret (gs := [(wX7 cI qS aS R5)]) hx hb hr rfl hP hD hS (by rw [← Option.some.inj hf]; exact ⟨rfl, rfl⟩) hlk dX7_fault_75
  · have hf := zif_t hf c_2
    refine lv_ldc (v := (-1000000001 : Int32)) hx hb hown (hts _ k_X7_fault_1) dX7_fault_9 ?_
    exact zM_ret (gs := [(wX7 cI qS aS gS)]) hx hb hr rfl hP hD hS (by rw [← Option.some.inj hf]; exact ⟨rfl, rfl⟩) hlk dX7_fault_11

def f_X7_play (gS : zG)  : Option (Int32 × zG) := (zbind (f_X7_copies_0_2 gS) (fun R1 => (zbind (f_X7_plays R1) (fun R2 => (zbind (f_X7_copies_2_0 R2.2) (fun R3 => (if R2.1 = 0 then (some ((-1000000002 : Int32), R3)) else (zbind (f_X7_changes R3) (fun R5 => (zbind (f_X7_plays R5) (fun R6 => (if R6.1 = 0 then (some ((-1000000004 : Int32), R6.2)) else (some ((R6.2 18 0), R6.2))))))))))))))
theorem u_X7_play_X7 : ∀ w ∈ u_ws RX7 TX7 21, w ∈ wsX7_play := fun w h => List.mem_cons_of_mem _ (List.mem_append_right _ h)
theorem k_X7_play_1 : Cond.fieldLink RX7 7 "JoinedLightModel" "s" "[I" ∈ wsX7_play := List.mem_of_getElem? (i := 1) rfl
theorem k_X7_play_2 : Cond.fieldLink RX7 16 "JoinedLightModel" "held" "[I" ∈ wsX7_play := List.mem_of_getElem? (i := 2) rfl
theorem k_X7_play_5 : Cond.constant RX7 46 (-1000000004) ∈ wsX7_play := List.mem_of_getElem? (i := 5) rfl
theorem k_X7_play_4 : Cond.fieldLink RX7 206 "JoinedLightModel" "orders" "I" ∈ wsX7_play := List.mem_of_getElem? (i := 4) rfl
theorem k_X7_play_3 : Cond.constant RX7 67 (-1000000002) ∈ wsX7_play := List.mem_of_getElem? (i := 3) rfl
abbrev rm_X7_play : Room := { frames := 6, cells := 0, slots := 0, locals := 137 }
set_option maxHeartbeats 4000000 in
set_option maxRecDepth 100000 in
theorem c_X7_play (l : Launch) (dC : Nat → ClassId) (dI : Nat → Nat → Nat) (cI cC cO : ClassId) (qS : Nat) (aS : Nat → Nat) (gS : zG)  (R : Int32 × zG) (hf : f_X7_play gS = some R) : cM l (dC, dI) (zT cI cC cO) yX7_play wsX7_play rm_X7_play [.ref qS] [(wX7 cI qS aS gS)] [(wX7 cI qS aS R.2)] (some (.int R.1)) 0 0 := by
  refine zM_in (cc := cX7_play) (maxL := 2) (ret := (some .int)) (plainFor_of_name (by decide)) rfl (Nat.le_of_ble_eq_true rfl) ?_
  intro p e s m below meth c hx hb hml hr hlk hown hts hK hN A hA hP hD hS ls hl
  have hl : lv_has ls 2 [(0, .ref qS)] := hl
  unfold f_X7_play at hf
  obtain ⟨H, hH⟩ : ∃ H, H = s.heap := ⟨_, rfl⟩
  obtain ⟨locs, hlocs⟩ : ∃ locs : List Loc, locs = [] := ⟨_, rfl⟩
  have hS : va_S A s.heap H locs := by rw [hH, hlocs]; exact hS
  rw [← hH] at hP
  refine zheap hH hlocs ?_
  refine lv_aload_n hx hb dX7_play_0 rfl (lv_at hl 0 rfl) ?_
  refine va_get (D := (dC, dI)) (ci := 7) (v := .ref (aS 0)) (C := RX7) (T := TX7) (N := 21) hx hb hts u_X7_play_X7 hown hK hP 0 rfl rfl 0 (by decide) (hts _ k_X7_play_1) (fun _ h9 => h9) rfl dX7_play_1 ?_
  refine lv_aload_n hx hb dX7_play_4 rfl (lv_at hl 0 rfl) ?_
  refine va_get (D := (dC, dI)) (ci := 7) (v := .ref (aS 2)) (C := RX7) (T := TX7) (N := 21) hx hb hts u_X7_play_X7 hown hK hP 0 rfl rfl 2 (by decide) (hts _ k_X7_play_2) (fun _ h9 => h9) rfl dX7_play_5 ?_
  obtain ⟨R1, e_1, hf⟩ := zbind_ex hf
  refine z_callM (gs2 := [(wX7 cI qS aS R1)]) hP hD hS hA [0] [] rfl rfl rfl (show List.Perm [0] (List.range 1) from by decide) rfl (va_runS (As := [.ref (aS 0), .ref (aS 2)]) (rest := []) ⟨hx, hb, hml, hown, hts⟩ (c_X7_copies_0_2 l dC dI cI cC cO qS aS gS  R1 e_1 H.size) (va_cwS 2 hts gX7_play_X7_copies rfl rfl rfl (by decide +kernel) ⟨Nat.le_of_ble_eq_true rfl, Nat.le_of_ble_eq_true rfl⟩) ⟨zpM_blind, z_useM hK hN hP hD [0] [] rfl (show List.Perm [0] (List.range 1) from by decide)⟩ rfl rfl hl.1 rfl (lv_room (Nat.le_of_ble_eq_true rfl)) dX7_play_8 ⟨Nat.le_of_ble_eq_true rfl, Nat.le_of_ble_eq_true rfl⟩) (fun H locs hP hD hS => ?_)
  refine W.eq (g2 := F0 m 11 ls []) rfl ?_
  refine lv_aload_n hx hb dX7_play_11 rfl (lv_at hl 0 rfl) ?_
  obtain ⟨R2, e_2, hf⟩ := zbind_ex hf
  refine z_callM (gs2 := [(wX7 cI qS aS R2.2)]) hP hD hS hA [0] [] rfl rfl rfl (show List.Perm [0] (List.range 1) from by decide) rfl (va_runV (As := []) (rest := []) ⟨hx, hb, hml, hown, hts⟩ (c_X7_plays l dC dI cI cC cO qS aS R1  R2 e_2 H.size) (cwV 0 hts gX7_play_X7_plays rfl rfl rfl (by decide +kernel) ⟨Nat.le_of_ble_eq_true rfl, Nat.le_of_ble_eq_true rfl⟩) ⟨zpM_blind, va_recv hK hP (ci := 7) (q0 := 0) rfl rfl, z_useM hK hN hP hD [0] [] rfl (show List.Perm [0] (List.range 1) from by decide)⟩ rfl rfl hl.1 rfl (lv_room (Nat.le_of_ble_eq_true rfl)) dX7_play_12 ⟨Nat.le_of_ble_eq_true rfl, Nat.le_of_ble_eq_true rfl⟩) (fun H locs hP hD hS => ?_)
  refine W.eq (g2 := F0 m 15 ls [.int R2.1]) rfl ?_
  refine lv_istore_n (lv' := [(1, .int R2.1), (0, .ref qS)]) hx hb dX7_play_15 rfl hl (by decide) rfl (fun ls hl => ?_)
  refine lv_aload_n hx hb dX7_play_16 rfl (lv_at hl 1 rfl) ?_
  refine va_get (D := (dC, dI)) (ci := 7) (v := .ref (aS 2)) (C := RX7) (T := TX7) (N := 21) hx hb hts u_X7_play_X7 hown hK hP 0 rfl rfl 2 (by decide) (hts _ k_X7_play_2) (fun _ h9 => h9) rfl dX7_play_17 ?_
  refine lv_aload_n hx hb dX7_play_20 rfl (lv_at hl 1 rfl) ?_
  refine va_get (D := (dC, dI)) (ci := 7) (v := .ref (aS 0)) (C := RX7) (T := TX7) (N := 21) hx hb hts u_X7_play_X7 hown hK hP 0 rfl rfl 0 (by decide) (hts _ k_X7_play_1) (fun _ h9 => h9) rfl dX7_play_21 ?_
  obtain ⟨R3, e_3, hf⟩ := zbind_ex hf
  refine z_callM (gs2 := [(wX7 cI qS aS R3)]) hP hD hS hA [0] [] rfl rfl rfl (show List.Perm [0] (List.range 1) from by decide) rfl (va_runS (As := [.ref (aS 2), .ref (aS 0)]) (rest := []) ⟨hx, hb, hml, hown, hts⟩ (c_X7_copies_2_0 l dC dI cI cC cO qS aS R2.2  R3 e_3 H.size) (va_cwS 2 hts gX7_play_X7_copies rfl rfl rfl (by decide +kernel) ⟨Nat.le_of_ble_eq_true rfl, Nat.le_of_ble_eq_true rfl⟩) ⟨zpM_blind, z_useM hK hN hP hD [0] [] rfl (show List.Perm [0] (List.range 1) from by decide)⟩ rfl rfl hl.1 rfl (lv_room (Nat.le_of_ble_eq_true rfl)) dX7_play_24 ⟨Nat.le_of_ble_eq_true rfl, Nat.le_of_ble_eq_true rfl⟩) (fun H locs hP hD hS => ?_)
  refine W.eq (g2 := F0 m 27 ls []) rfl ?_
  refine lv_iload_n hx hb dX7_play_27 rfl (lv_at hl 0 rfl) ?_
  refine lv_if_ne (tgt := 34) hx hb dX7_play_28 (by decide) (fun c_4 => ?_) (fun c_4 => ?_)
  · have hf := zif_f hf c_4
    refine lv_aload_n hx hb dX7_play_34 rfl (lv_at hl 1 rfl) ?_
    obtain ⟨R5, e_5, hf⟩ := zbind_ex hf
    refine z_callM (gs2 := [(wX7 cI qS aS R5)]) hP hD hS hA [0] [] rfl rfl rfl (show List.Perm [0] (List.range 1) from by decide) rfl (va_runV (As := []) (rest := []) ⟨hx, hb, hml, hown, hts⟩ (c_X7_changes l dC dI cI cC cO qS aS R3  R5 e_5 H.size) (cwV 0 hts gX7_play_X7_changes rfl rfl rfl (by decide +kernel) ⟨Nat.le_of_ble_eq_true rfl, Nat.le_of_ble_eq_true rfl⟩) ⟨zpM_blind, va_recv hK hP (ci := 7) (q0 := 0) rfl rfl, z_useM hK hN hP hD [0] [] rfl (show List.Perm [0] (List.range 1) from by decide)⟩ rfl rfl hl.1 rfl (lv_room (Nat.le_of_ble_eq_true rfl)) dX7_play_35 ⟨Nat.le_of_ble_eq_true rfl, Nat.le_of_ble_eq_true rfl⟩) (fun H locs hP hD hS => ?_)
    refine W.eq (g2 := F0 m 38 ls []) rfl ?_
    refine lv_aload_n hx hb dX7_play_38 rfl (lv_at hl 1 rfl) ?_
    obtain ⟨R6, e_6, hf⟩ := zbind_ex hf
    refine z_callM (gs2 := [(wX7 cI qS aS R6.2)]) hP hD hS hA [0] [] rfl rfl rfl (show List.Perm [0] (List.range 1) from by decide) rfl (va_runV (As := []) (rest := []) ⟨hx, hb, hml, hown, hts⟩ (c_X7_plays l dC dI cI cC cO qS aS R5  R6 e_6 H.size) (cwV 0 hts gX7_play_X7_plays rfl rfl rfl (by decide +kernel) ⟨Nat.le_of_ble_eq_true rfl, Nat.le_of_ble_eq_true rfl⟩) ⟨zpM_blind, va_recv hK hP (ci := 7) (q0 := 0) rfl rfl, z_useM hK hN hP hD [0] [] rfl (show List.Perm [0] (List.range 1) from by decide)⟩ rfl rfl hl.1 rfl (lv_room (Nat.le_of_ble_eq_true rfl)) dX7_play_39 ⟨Nat.le_of_ble_eq_true rfl, Nat.le_of_ble_eq_true rfl⟩) (fun H locs hP hD hS => ?_)
    refine W.eq (g2 := F0 m 42 ls [.int R6.1]) rfl ?_
    refine lv_if_eq (tgt := 52) hx hb dX7_play_42 (by decide) (fun c_7 => ?_) (fun c_7 => ?_)
    · have hf := zif_t hf c_7
      refine lv_ldc (v := (-1000000004 : Int32)) hx hb hown (hts _ k_X7_play_5) dX7_play_52 ?_
      exact zM_ret (gs := [(wX7 cI qS aS R6.2)]) hx hb hr rfl hP hD hS (by rw [← Option.some.inj hf]; exact ⟨rfl, rfl⟩) hlk dX7_play_54
    · have hf := zif_f hf c_7
      refine lv_aload_n hx hb dX7_play_45 rfl (lv_at hl 1 rfl) ?_
      refine va_get (D := (dC, dI)) (ci := 7) (v := .int (R6.2 18 0)) (C := RX7) (T := TX7) (N := 21) hx hb hts u_X7_play_X7 hown hK hP 0 rfl rfl 18 (by decide) (hts _ k_X7_play_4) (fun _ h9 => h9) rfl dX7_play_46 ?_
      refine lv_goto (tgt := 54) hx hb dX7_play_49 (by decide) ?_
      exact zM_ret (gs := [(wX7 cI qS aS R6.2)]) hx hb hr rfl hP hD hS (by rw [← Option.some.inj hf]; exact ⟨rfl, rfl⟩) hlk dX7_play_54
  · have hf := zif_t hf c_4
    refine lv_ldc (v := (-1000000002 : Int32)) hx hb hown (hts _ k_X7_play_3) dX7_play_31 ?_
    exact zM_ret (gs := [(wX7 cI qS aS R3)]) hx hb hr rfl hP hD hS (by rw [← Option.some.inj hf]; exact ⟨rfl, rfl⟩) hlk dX7_play_33
