def f_X0_copyFrom (gS : zG) (gP1 : zG)  : Option (zG) := (zlet (gset gS 0 (va_cpy (gP1 0) (gS 0) 0 0 8)) (fun gS_1 => (zlet (gset gS_1 1 (va_cpy (gP1 1) (gS_1 1) 0 0 8)) (fun gS_2 => (zlet (gup gS_2 2 0 (gP1 2 0)) (fun gS_3 => (zlet (gset gS_3 3 (va_cpy (gP1 3) (gS_3 3) 0 0 8)) (fun gS_4 => (zlet (gset gS_4 4 (va_cpy (gP1 4) (gS_4 4) 0 0 8)) (fun gS_5 => (zlet (gset gS_5 5 (va_cpy (gP1 5) (gS_5 5) 0 0 8)) (fun gS_6 => (zlet (gset gS_6 6 (va_cpy (gP1 6) (gS_6 6) 0 0 8)) (fun gS_7 => (zlet (gset gS_7 7 (va_cpy (gP1 7) (gS_7 7) 0 0 8)) (fun gS_8 => (zlet (gup gS_8 8 0 (gP1 8 0)) (fun gS_9 => (zlet (gup gS_9 9 0 (gP1 9 0)) (fun gS_10 => (some (gS_10))))))))))))))))))))))
theorem u_X0_copyFrom_X0 : ∀ w ∈ u_ws RX0 TX0 10, w ∈ wsX0_copyFrom := fun w h => List.mem_cons_of_mem _ (List.mem_append_right _ h)
theorem k_X0_copyFrom_1 : Cond.fieldLink RX0 9 "JoinedLight$Bench" "colours" "[I" ∈ wsX0_copyFrom := List.mem_of_getElem? (i := 1) rfl
theorem k_X0_copyFrom_2 : Cond.methodLink RX0 43 arraycopyName ∈ wsX0_copyFrom := List.mem_of_getElem? (i := 2) rfl
theorem k_X0_copyFrom_3 : Cond.native arraycopyName ∈ wsX0_copyFrom := List.mem_of_getElem? (i := 3) rfl
theorem k_X0_copyFrom_4 : Cond.static arraycopyName ∈ wsX0_copyFrom := List.mem_of_getElem? (i := 4) rfl
theorem k_X0_copyFrom_5 : Cond.initialized "java/lang/System" ∈ wsX0_copyFrom := List.mem_of_getElem? (i := 5) rfl
theorem k_X0_copyFrom_6 : Cond.fieldLink RX0 15 "JoinedLight$Bench" "lights" "[I" ∈ wsX0_copyFrom := List.mem_of_getElem? (i := 6) rfl
theorem k_X0_copyFrom_7 : Cond.fieldLink RX0 18 "JoinedLight$Bench" "lineCount" "I" ∈ wsX0_copyFrom := List.mem_of_getElem? (i := 7) rfl
theorem k_X0_copyFrom_8 : Cond.fieldLink RX0 22 "JoinedLight$Bench" "places" "[I" ∈ wsX0_copyFrom := List.mem_of_getElem? (i := 8) rfl
theorem k_X0_copyFrom_9 : Cond.fieldLink RX0 25 "JoinedLight$Bench" "kinds" "[I" ∈ wsX0_copyFrom := List.mem_of_getElem? (i := 9) rfl
theorem k_X0_copyFrom_10 : Cond.fieldLink RX0 28 "JoinedLight$Bench" "firsts" "[I" ∈ wsX0_copyFrom := List.mem_of_getElem? (i := 10) rfl
theorem k_X0_copyFrom_11 : Cond.fieldLink RX0 31 "JoinedLight$Bench" "seconds" "[I" ∈ wsX0_copyFrom := List.mem_of_getElem? (i := 11) rfl
theorem k_X0_copyFrom_12 : Cond.fieldLink RX0 34 "JoinedLight$Bench" "turns" "[I" ∈ wsX0_copyFrom := List.mem_of_getElem? (i := 12) rfl
theorem k_X0_copyFrom_13 : Cond.fieldLink RX0 37 "JoinedLight$Bench" "thingCount" "I" ∈ wsX0_copyFrom := List.mem_of_getElem? (i := 13) rfl
theorem k_X0_copyFrom_14 : Cond.fieldLink RX0 40 "JoinedLight$Bench" "cellWidth" "I" ∈ wsX0_copyFrom := List.mem_of_getElem? (i := 14) rfl
abbrev rm_X0_copyFrom : Room := { frames := 1, cells := 0, slots := 0, locals := 40 }
set_option maxHeartbeats 4000000 in
set_option maxRecDepth 100000 in
theorem c_X0_copyFrom (l : Launch) (dC : Nat → ClassId) (dI : Nat → Nat → Nat) (cI cC cO : ClassId) (qS : Nat) (aS : Nat → Nat) (gS : zG) (qP1 : Nat) (aP1 : Nat → Nat) (gP1 : zG)  (R : zG) (hf : f_X0_copyFrom gS gP1 = some R) : cM l (dC, dI) (zT cI cC cO) yX0_copyFrom wsX0_copyFrom rm_X0_copyFrom [.ref qS, .ref qP1] [(wX0 cI qS aS gS), (wX0 cI qP1 aP1 gP1)] [(wX0 cI qS aS R), (wX0 cI qP1 aP1 gP1)] none 0 0 := by
  refine zM_in (cc := cX0_copyFrom) (maxL := 2) (ret := none) (plainFor_of_name (by decide)) rfl (Nat.le_of_ble_eq_true rfl) ?_
  intro p e s m below meth c hx hb hml hr hlk hown hts hK hN A hA hP hD hS ls hl
  have hl : lv_has ls 2 [(0, .ref qS), (1, .ref qP1)] := hl
  unfold f_X0_copyFrom at hf
  obtain ⟨H, hH⟩ : ∃ H, H = s.heap := ⟨_, rfl⟩
  obtain ⟨locs, hlocs⟩ : ∃ locs : List Loc, locs = [] := ⟨_, rfl⟩
  have hS : va_S A s.heap H locs := by rw [hH, hlocs]; exact hS
  rw [← hH] at hP
  refine zheap hH hlocs ?_
  refine lv_aload_n hx hb dX0_copyFrom_0 rfl (lv_at hl 1 rfl) ?_
  refine va_get (D := (dC, dI)) (ci := 0) (v := .ref (aP1 0)) (C := RX0) (T := TX0) (N := 10) hx hb hts u_X0_copyFrom_X0 hown hK hP 8 rfl rfl 0 (by decide) (hts _ k_X0_copyFrom_1) (fun _ h9 => h9) rfl dX0_copyFrom_1 ?_
  refine lv_iconst (v := (0 : Int32)) hx hb dX0_copyFrom_4 (by decide) ?_
  refine lv_aload_n hx hb dX0_copyFrom_5 rfl (lv_at hl 0 rfl) ?_
  refine va_get (D := (dC, dI)) (ci := 0) (v := .ref (aS 0)) (C := RX0) (T := TX0) (N := 10) hx hb hts u_X0_copyFrom_X0 hown hK hP 0 rfl rfl 0 (by decide) (hts _ k_X0_copyFrom_1) (fun _ h9 => h9) rfl dX0_copyFrom_6 ?_
  refine lv_iconst (v := (0 : Int32)) hx hb dX0_copyFrom_9 (by decide) ?_
  refine lv_bipush (v := (8 : Int32)) hx hb dX0_copyFrom_10 (by decide) ?_
  obtain ⟨gS_1, e_1, hf⟩ := zlet_ex hf
  refine z_copyi (gs' := [(wX0 cI qS aS gS_1), (wX0 cI qP1 aP1 gP1)]) hx hb (hml.trans hl.1.symm) hown (hts _ k_X0_copyFrom_2) (hts _ k_X0_copyFrom_3) (hts _ k_X0_copyFrom_4) (hts _ k_X0_copyFrom_5) hK hP hD hS 9 1 0 0 rfl rfl rfl rfl rfl (by decide) (by decide) (by decide) (by decide) (by decide) (fun _ _ => rfl) (Nat.le_of_ble_eq_true rfl) (Nat.le_of_ble_eq_true rfl) (by rw [e_1]; rfl) dX0_copyFrom_12 (fun H locs hP hD hS => ?_)
  refine lv_aload_n hx hb dX0_copyFrom_15 rfl (lv_at hl 1 rfl) ?_
  refine va_get (D := (dC, dI)) (ci := 0) (v := .ref (aP1 1)) (C := RX0) (T := TX0) (N := 10) hx hb hts u_X0_copyFrom_X0 hown hK hP 8 rfl rfl 1 (by decide) (hts _ k_X0_copyFrom_6) (fun _ h9 => h9) rfl dX0_copyFrom_16 ?_
  refine lv_iconst (v := (0 : Int32)) hx hb dX0_copyFrom_19 (by decide) ?_
  refine lv_aload_n hx hb dX0_copyFrom_20 rfl (lv_at hl 0 rfl) ?_
  refine va_get (D := (dC, dI)) (ci := 0) (v := .ref (aS 1)) (C := RX0) (T := TX0) (N := 10) hx hb hts u_X0_copyFrom_X0 hown hK hP 0 rfl rfl 1 (by decide) (hts _ k_X0_copyFrom_6) (fun _ h9 => h9) rfl dX0_copyFrom_21 ?_
  refine lv_iconst (v := (0 : Int32)) hx hb dX0_copyFrom_24 (by decide) ?_
  refine lv_bipush (v := (8 : Int32)) hx hb dX0_copyFrom_25 (by decide) ?_
  obtain ⟨gS_2, e_2, hf⟩ := zlet_ex hf
  refine z_copyi (gs' := [(wX0 cI qS aS gS_2), (wX0 cI qP1 aP1 gP1)]) hx hb (hml.trans hl.1.symm) hown (hts _ k_X0_copyFrom_2) (hts _ k_X0_copyFrom_3) (hts _ k_X0_copyFrom_4) (hts _ k_X0_copyFrom_5) hK hP hD hS 10 2 0 0 rfl rfl rfl rfl rfl (by decide) (by decide) (by decide) (by decide) (by decide) (fun _ _ => rfl) (Nat.le_of_ble_eq_true rfl) (Nat.le_of_ble_eq_true rfl) (by rw [e_2]; rfl) dX0_copyFrom_27 (fun H locs hP hD hS => ?_)
  refine lv_aload_n hx hb dX0_copyFrom_30 rfl (lv_at hl 0 rfl) ?_
  refine lv_aload_n hx hb dX0_copyFrom_31 rfl (lv_at hl 1 rfl) ?_
  refine va_get (D := (dC, dI)) (ci := 0) (v := .int (gP1 2 0)) (C := RX0) (T := TX0) (N := 10) hx hb hts u_X0_copyFrom_X0 hown hK hP 8 rfl rfl 2 (by decide) (hts _ k_X0_copyFrom_7) (fun _ h9 => h9) rfl dX0_copyFrom_32 ?_
  obtain ⟨gS_3, e_3, hf⟩ := zlet_ex hf
  refine z_put (gs' := [(wX0 cI qS aS gS_3), (wX0 cI qP1 aP1 gP1)]) (D := (dC, dI)) (ci := 0) (ty := .int) (C := RX0) (T := TX0) (N := 10) hx hb hts u_X0_copyFrom_X0 tyX0 tyX0_ok nmX0 hown hK hP hD hS 0 rfl rfl 2 (by decide) (hts _ k_X0_copyFrom_7) (fun _ h9 => h9) rfl (by decide +kernel) rfl rfl (Nat.le_of_ble_eq_true rfl) (by rw [e_3]; rfl) dX0_copyFrom_35 (fun H locs hP hD hS => ?_)
  refine lv_aload_n hx hb dX0_copyFrom_38 rfl (lv_at hl 1 rfl) ?_
  refine va_get (D := (dC, dI)) (ci := 0) (v := .ref (aP1 3)) (C := RX0) (T := TX0) (N := 10) hx hb hts u_X0_copyFrom_X0 hown hK hP 8 rfl rfl 3 (by decide) (hts _ k_X0_copyFrom_8) (fun _ h9 => h9) rfl dX0_copyFrom_39 ?_
  refine lv_iconst (v := (0 : Int32)) hx hb dX0_copyFrom_42 (by decide) ?_
  refine lv_aload_n hx hb dX0_copyFrom_43 rfl (lv_at hl 0 rfl) ?_
  refine va_get (D := (dC, dI)) (ci := 0) (v := .ref (aS 3)) (C := RX0) (T := TX0) (N := 10) hx hb hts u_X0_copyFrom_X0 hown hK hP 0 rfl rfl 3 (by decide) (hts _ k_X0_copyFrom_8) (fun _ h9 => h9) rfl dX0_copyFrom_44 ?_
  refine lv_iconst (v := (0 : Int32)) hx hb dX0_copyFrom_47 (by decide) ?_
  refine lv_bipush (v := (8 : Int32)) hx hb dX0_copyFrom_48 (by decide) ?_
  obtain ⟨gS_4, e_4, hf⟩ := zlet_ex hf
  refine z_copyi (gs' := [(wX0 cI qS aS gS_4), (wX0 cI qP1 aP1 gP1)]) hx hb (hml.trans hl.1.symm) hown (hts _ k_X0_copyFrom_2) (hts _ k_X0_copyFrom_3) (hts _ k_X0_copyFrom_4) (hts _ k_X0_copyFrom_5) hK hP hD hS 11 3 0 0 rfl rfl rfl rfl rfl (by decide) (by decide) (by decide) (by decide) (by decide) (fun _ _ => rfl) (Nat.le_of_ble_eq_true rfl) (Nat.le_of_ble_eq_true rfl) (by rw [e_4]; rfl) dX0_copyFrom_50 (fun H locs hP hD hS => ?_)
  refine lv_aload_n hx hb dX0_copyFrom_53 rfl (lv_at hl 1 rfl) ?_
  refine va_get (D := (dC, dI)) (ci := 0) (v := .ref (aP1 4)) (C := RX0) (T := TX0) (N := 10) hx hb hts u_X0_copyFrom_X0 hown hK hP 8 rfl rfl 4 (by decide) (hts _ k_X0_copyFrom_9) (fun _ h9 => h9) rfl dX0_copyFrom_54 ?_
  refine lv_iconst (v := (0 : Int32)) hx hb dX0_copyFrom_57 (by decide) ?_
  refine lv_aload_n hx hb dX0_copyFrom_58 rfl (lv_at hl 0 rfl) ?_
  refine va_get (D := (dC, dI)) (ci := 0) (v := .ref (aS 4)) (C := RX0) (T := TX0) (N := 10) hx hb hts u_X0_copyFrom_X0 hown hK hP 0 rfl rfl 4 (by decide) (hts _ k_X0_copyFrom_9) (fun _ h9 => h9) rfl dX0_copyFrom_59 ?_
  refine lv_iconst (v := (0 : Int32)) hx hb dX0_copyFrom_62 (by decide) ?_
  refine lv_bipush (v := (8 : Int32)) hx hb dX0_copyFrom_63 (by decide) ?_
  obtain ⟨gS_5, e_5, hf⟩ := zlet_ex hf
  refine z_copyi (gs' := [(wX0 cI qS aS gS_5), (wX0 cI qP1 aP1 gP1)]) hx hb (hml.trans hl.1.symm) hown (hts _ k_X0_copyFrom_2) (hts _ k_X0_copyFrom_3) (hts _ k_X0_copyFrom_4) (hts _ k_X0_copyFrom_5) hK hP hD hS 12 4 0 0 rfl rfl rfl rfl rfl (by decide) (by decide) (by decide) (by decide) (by decide) (fun _ _ => rfl) (Nat.le_of_ble_eq_true rfl) (Nat.le_of_ble_eq_true rfl) (by rw [e_5]; rfl) dX0_copyFrom_65 (fun H locs hP hD hS => ?_)
  refine lv_aload_n hx hb dX0_copyFrom_68 rfl (lv_at hl 1 rfl) ?_
  refine va_get (D := (dC, dI)) (ci := 0) (v := .ref (aP1 5)) (C := RX0) (T := TX0) (N := 10) hx hb hts u_X0_copyFrom_X0 hown hK hP 8 rfl rfl 5 (by decide) (hts _ k_X0_copyFrom_10) (fun _ h9 => h9) rfl dX0_copyFrom_69 ?_
  refine lv_iconst (v := (0 : Int32)) hx hb dX0_copyFrom_72 (by decide) ?_
  refine lv_aload_n hx hb dX0_copyFrom_73 rfl (lv_at hl 0 rfl) ?_
  refine va_get (D := (dC, dI)) (ci := 0) (v := .ref (aS 5)) (C := RX0) (T := TX0) (N := 10) hx hb hts u_X0_copyFrom_X0 hown hK hP 0 rfl rfl 5 (by decide) (hts _ k_X0_copyFrom_10) (fun _ h9 => h9) rfl dX0_copyFrom_74 ?_
  refine lv_iconst (v := (0 : Int32)) hx hb dX0_copyFrom_77 (by decide) ?_
  refine lv_bipush (v := (8 : Int32)) hx hb dX0_copyFrom_78 (by decide) ?_
  obtain ⟨gS_6, e_6, hf⟩ := zlet_ex hf
  refine z_copyi (gs' := [(wX0 cI qS aS gS_6), (wX0 cI qP1 aP1 gP1)]) hx hb (hml.trans hl.1.symm) hown (hts _ k_X0_copyFrom_2) (hts _ k_X0_copyFrom_3) (hts _ k_X0_copyFrom_4) (hts _ k_X0_copyFrom_5) hK hP hD hS 13 5 0 0 rfl rfl rfl rfl rfl (by decide) (by decide) (by decide) (by decide) (by decide) (fun _ _ => rfl) (Nat.le_of_ble_eq_true rfl) (Nat.le_of_ble_eq_true rfl) (by rw [e_6]; rfl) dX0_copyFrom_80 (fun H locs hP hD hS => ?_)
  refine lv_aload_n hx hb dX0_copyFrom_83 rfl (lv_at hl 1 rfl) ?_
  refine va_get (D := (dC, dI)) (ci := 0) (v := .ref (aP1 6)) (C := RX0) (T := TX0) (N := 10) hx hb hts u_X0_copyFrom_X0 hown hK hP 8 rfl rfl 6 (by decide) (hts _ k_X0_copyFrom_11) (fun _ h9 => h9) rfl dX0_copyFrom_84 ?_
  refine lv_iconst (v := (0 : Int32)) hx hb dX0_copyFrom_87 (by decide) ?_
  refine lv_aload_n hx hb dX0_copyFrom_88 rfl (lv_at hl 0 rfl) ?_
  refine va_get (D := (dC, dI)) (ci := 0) (v := .ref (aS 6)) (C := RX0) (T := TX0) (N := 10) hx hb hts u_X0_copyFrom_X0 hown hK hP 0 rfl rfl 6 (by decide) (hts _ k_X0_copyFrom_11) (fun _ h9 => h9) rfl dX0_copyFrom_89 ?_
  refine lv_iconst (v := (0 : Int32)) hx hb dX0_copyFrom_92 (by decide) ?_
  refine lv_bipush (v := (8 : Int32)) hx hb dX0_copyFrom_93 (by decide) ?_
  obtain ⟨gS_7, e_7, hf⟩ := zlet_ex hf
  refine z_copyi (gs' := [(wX0 cI qS aS gS_7), (wX0 cI qP1 aP1 gP1)]) hx hb (hml.trans hl.1.symm) hown (hts _ k_X0_copyFrom_2) (hts _ k_X0_copyFrom_3) (hts _ k_X0_copyFrom_4) (hts _ k_X0_copyFrom_5) hK hP hD hS 14 6 0 0 rfl rfl rfl rfl rfl (by decide) (by decide) (by decide) (by decide) (by decide) (fun _ _ => rfl) (Nat.le_of_ble_eq_true rfl) (Nat.le_of_ble_eq_true rfl) (by rw [e_7]; rfl) dX0_copyFrom_95 (fun H locs hP hD hS => ?_)
  refine lv_aload_n hx hb dX0_copyFrom_98 rfl (lv_at hl 1 rfl) ?_
  refine va_get (D := (dC, dI)) (ci := 0) (v := .ref (aP1 7)) (C := RX0) (T := TX0) (N := 10) hx hb hts u_X0_copyFrom_X0 hown hK hP 8 rfl rfl 7 (by decide) (hts _ k_X0_copyFrom_12) (fun _ h9 => h9) rfl dX0_copyFrom_99 ?_
  refine lv_iconst (v := (0 : Int32)) hx hb dX0_copyFrom_102 (by decide) ?_
  refine lv_aload_n hx hb dX0_copyFrom_103 rfl (lv_at hl 0 rfl) ?_
  refine va_get (D := (dC, dI)) (ci := 0) (v := .ref (aS 7)) (C := RX0) (T := TX0) (N := 10) hx hb hts u_X0_copyFrom_X0 hown hK hP 0 rfl rfl 7 (by decide) (hts _ k_X0_copyFrom_12) (fun _ h9 => h9) rfl dX0_copyFrom_104 ?_
  refine lv_iconst (v := (0 : Int32)) hx hb dX0_copyFrom_107 (by decide) ?_
  refine lv_bipush (v := (8 : Int32)) hx hb dX0_copyFrom_108 (by decide) ?_
  obtain ⟨gS_8, e_8, hf⟩ := zlet_ex hf
  refine z_copyi (gs' := [(wX0 cI qS aS gS_8), (wX0 cI qP1 aP1 gP1)]) hx hb (hml.trans hl.1.symm) hown (hts _ k_X0_copyFrom_2) (hts _ k_X0_copyFrom_3) (hts _ k_X0_copyFrom_4) (hts _ k_X0_copyFrom_5) hK hP hD hS 15 7 0 0 rfl rfl rfl rfl rfl (by decide) (by decide) (by decide) (by decide) (by decide) (fun _ _ => rfl) (Nat.le_of_ble_eq_true rfl) (Nat.le_of_ble_eq_true rfl) (by rw [e_8]; rfl) dX0_copyFrom_110 (fun H locs hP hD hS => ?_)
  refine lv_aload_n hx hb dX0_copyFrom_113 rfl (lv_at hl 0 rfl) ?_
  refine lv_aload_n hx hb dX0_copyFrom_114 rfl (lv_at hl 1 rfl) ?_
  refine va_get (D := (dC, dI)) (ci := 0) (v := .int (gP1 8 0)) (C := RX0) (T := TX0) (N := 10) hx hb hts u_X0_copyFrom_X0 hown hK hP 8 rfl rfl 8 (by decide) (hts _ k_X0_copyFrom_13) (fun _ h9 => h9) rfl dX0_copyFrom_115 ?_
  obtain ⟨gS_9, e_9, hf⟩ := zlet_ex hf
  refine z_put (gs' := [(wX0 cI qS aS gS_9), (wX0 cI qP1 aP1 gP1)]) (D := (dC, dI)) (ci := 0) (ty := .int) (C := RX0) (T := TX0) (N := 10) hx hb hts u_X0_copyFrom_X0 tyX0 tyX0_ok nmX0 hown hK hP hD hS 0 rfl rfl 8 (by decide) (hts _ k_X0_copyFrom_13) (fun _ h9 => h9) rfl (by decide +kernel) rfl rfl (Nat.le_of_ble_eq_true rfl) (by rw [e_9]; rfl) dX0_copyFrom_118 (fun H locs hP hD hS => ?_)
  refine lv_aload_n hx hb dX0_copyFrom_121 rfl (lv_at hl 0 rfl) ?_
  refine lv_aload_n hx hb dX0_copyFrom_122 rfl (lv_at hl 1 rfl) ?_
  refine va_get (D := (dC, dI)) (ci := 0) (v := .int (gP1 9 0)) (C := RX0) (T := TX0) (N := 10) hx hb hts u_X0_copyFrom_X0 hown hK hP 8 rfl rfl 9 (by decide) (hts _ k_X0_copyFrom_14) (fun _ h9 => h9) rfl dX0_copyFrom_123 ?_
  obtain ⟨gS_10, e_10, hf⟩ := zlet_ex hf
  refine z_put (gs' := [(wX0 cI qS aS gS_10), (wX0 cI qP1 aP1 gP1)]) (D := (dC, dI)) (ci := 0) (ty := .int) (C := RX0) (T := TX0) (N := 10) hx hb hts u_X0_copyFrom_X0 tyX0 tyX0_ok nmX0 hown hK hP hD hS 0 rfl rfl 9 (by decide) (hts _ k_X0_copyFrom_14) (fun _ h9 => h9) rfl (by decide +kernel) rfl rfl (Nat.le_of_ble_eq_true rfl) (by rw [e_10]; rfl) dX0_copyFrom_126 (fun H locs hP hD hS => ?_)
  exact zM_vret (gs := [(wX0 cI qS aS gS_10), (wX0 cI qP1 aP1 gP1)]) hx hb hr hP hD hS (by rw [← Option.some.inj hf]; exact ⟨rfl, rfl⟩) hlk dX0_copyFrom_129

def f_X0_hasLine (gS : zG) (x1 : Int32) : Option (Int32) := (if x1 < 0 then (some ((0 : Int32))) else (if (gS 2 0) ≤ x1 then (some ((0 : Int32))) else (if (8 : Int32) ≤ x1 then (some ((0 : Int32))) else (some ((1 : Int32))))))
theorem u_X0_hasLine_X0 : ∀ w ∈ u_ws RX0 TX0 10, w ∈ wsX0_hasLine := fun w h => List.mem_cons_of_mem _ (List.mem_append_right _ h)
theorem k_X0_hasLine_1 : Cond.fieldLink RX0 18 "JoinedLight$Bench" "lineCount" "I" ∈ wsX0_hasLine := List.mem_of_getElem? (i := 1) rfl
abbrev rm_X0_hasLine : Room := { frames := 0, cells := 0, slots := 0, locals := 0 }
set_option maxHeartbeats 4000000 in
set_option maxRecDepth 100000 in
theorem c_X0_hasLine (l : Launch) (dC : Nat → ClassId) (dI : Nat → Nat → Nat) (cI cC cO : ClassId) (qS : Nat) (aS : Nat → Nat) (gS : zG) (x1 : Int32) (R : Int32) (hf : f_X0_hasLine gS x1 = some R) : cR l (dC, dI) (zT cI cC cO) yX0_hasLine wsX0_hasLine rm_X0_hasLine [.ref qS, .int x1] [(wX0 cI qS aS gS)] (some (.int R)) := by
  refine zR_in (cc := cX0_hasLine) (maxL := 2) (ret := (some .boolean)) (plainFor_of_name (by decide)) rfl (Nat.le_of_ble_eq_true rfl) ?_
  intro p e s m below meth c hx hb hml hr hlk hown hts hK hN hP ls hl
  have hl : lv_has ls 2 [(0, .ref qS), (1, .int x1)] := hl
  unfold f_X0_hasLine at hf
  refine lv_iload_n hx hb dX0_hasLine_0 rfl (lv_at hl 1 rfl) ?_
  refine lv_if_lt (tgt := 22) hx hb dX0_hasLine_1 (by decide) (fun c_1 => ?_) (fun c_1 => ?_)
  · have hf := zif_t hf c_1
    refine lv_iconst (v := (0 : Int32)) hx hb dX0_hasLine_22 (by decide) ?_
    exact zR_ret hx hb hr rfl hf hlk dX0_hasLine_23
  · have hf := zif_f hf c_1
    refine lv_iload_n hx hb dX0_hasLine_4 rfl (lv_at hl 1 rfl) ?_
    refine lv_aload_n hx hb dX0_hasLine_5 rfl (lv_at hl 0 rfl) ?_
    refine va_get (D := (dC, dI)) (ci := 0) (v := .int (gS 2 0)) (C := RX0) (T := TX0) (N := 10) hx hb hts u_X0_hasLine_X0 hown hK hP 0 rfl rfl 2 (by decide) (hts _ k_X0_hasLine_1) (fun _ h9 => h9) rfl dX0_hasLine_6 ?_
    refine lv_icmp_ge (tgt := 22) hx hb dX0_hasLine_9 (by decide) (fun c_2 => ?_) (fun c_2 => ?_)
    · have hf := zif_t hf c_2
      refine lv_iconst (v := (0 : Int32)) hx hb dX0_hasLine_22 (by decide) ?_
      exact zR_ret hx hb hr rfl hf hlk dX0_hasLine_23
    · have hf := zif_f hf c_2
      refine lv_iload_n hx hb dX0_hasLine_12 rfl (lv_at hl 1 rfl) ?_
      refine lv_bipush (v := (8 : Int32)) hx hb dX0_hasLine_13 (by decide) ?_
      refine lv_icmp_ge (tgt := 22) hx hb dX0_hasLine_15 (by decide) (fun c_3 => ?_) (fun c_3 => ?_)
      · have hf := zif_t hf c_3
        refine lv_iconst (v := (0 : Int32)) hx hb dX0_hasLine_22 (by decide) ?_
        exact zR_ret hx hb hr rfl hf hlk dX0_hasLine_23
      · have hf := zif_f hf c_3
        refine lv_iconst (v := (1 : Int32)) hx hb dX0_hasLine_18 (by decide) ?_
        refine lv_goto (tgt := 23) hx hb dX0_hasLine_19 (by decide) ?_
        exact zR_ret hx hb hr rfl hf hlk dX0_hasLine_23

def f_X0_hasThing (gS : zG) (x1 : Int32) : Option (Int32) := (if x1 < 0 then (some ((0 : Int32))) else (if (gS 8 0) ≤ x1 then (some ((0 : Int32))) else (if (8 : Int32) ≤ x1 then (some ((0 : Int32))) else (some ((1 : Int32))))))
theorem u_X0_hasThing_X0 : ∀ w ∈ u_ws RX0 TX0 10, w ∈ wsX0_hasThing := fun w h => List.mem_cons_of_mem _ (List.mem_append_right _ h)
theorem k_X0_hasThing_1 : Cond.fieldLink RX0 37 "JoinedLight$Bench" "thingCount" "I" ∈ wsX0_hasThing := List.mem_of_getElem? (i := 1) rfl
abbrev rm_X0_hasThing : Room := { frames := 0, cells := 0, slots := 0, locals := 0 }
set_option maxHeartbeats 4000000 in
set_option maxRecDepth 100000 in
theorem c_X0_hasThing (l : Launch) (dC : Nat → ClassId) (dI : Nat → Nat → Nat) (cI cC cO : ClassId) (qS : Nat) (aS : Nat → Nat) (gS : zG) (x1 : Int32) (R : Int32) (hf : f_X0_hasThing gS x1 = some R) : cR l (dC, dI) (zT cI cC cO) yX0_hasThing wsX0_hasThing rm_X0_hasThing [.ref qS, .int x1] [(wX0 cI qS aS gS)] (some (.int R)) := by
  refine zR_in (cc := cX0_hasThing) (maxL := 2) (ret := (some .boolean)) (plainFor_of_name (by decide)) rfl (Nat.le_of_ble_eq_true rfl) ?_
  intro p e s m below meth c hx hb hml hr hlk hown hts hK hN hP ls hl
  have hl : lv_has ls 2 [(0, .ref qS), (1, .int x1)] := hl
  unfold f_X0_hasThing at hf
  refine lv_iload_n hx hb dX0_hasThing_0 rfl (lv_at hl 1 rfl) ?_
  refine lv_if_lt (tgt := 22) hx hb dX0_hasThing_1 (by decide) (fun c_1 => ?_) (fun c_1 => ?_)
  · have hf := zif_t hf c_1
    refine lv_iconst (v := (0 : Int32)) hx hb dX0_hasThing_22 (by decide) ?_
    exact zR_ret hx hb hr rfl hf hlk dX0_hasThing_23
  · have hf := zif_f hf c_1
    refine lv_iload_n hx hb dX0_hasThing_4 rfl (lv_at hl 1 rfl) ?_
    refine lv_aload_n hx hb dX0_hasThing_5 rfl (lv_at hl 0 rfl) ?_
    refine va_get (D := (dC, dI)) (ci := 0) (v := .int (gS 8 0)) (C := RX0) (T := TX0) (N := 10) hx hb hts u_X0_hasThing_X0 hown hK hP 0 rfl rfl 8 (by decide) (hts _ k_X0_hasThing_1) (fun _ h9 => h9) rfl dX0_hasThing_6 ?_
    refine lv_icmp_ge (tgt := 22) hx hb dX0_hasThing_9 (by decide) (fun c_2 => ?_) (fun c_2 => ?_)
    · have hf := zif_t hf c_2
      refine lv_iconst (v := (0 : Int32)) hx hb dX0_hasThing_22 (by decide) ?_
      exact zR_ret hx hb hr rfl hf hlk dX0_hasThing_23
    · have hf := zif_f hf c_2
      refine lv_iload_n hx hb dX0_hasThing_12 rfl (lv_at hl 1 rfl) ?_
      refine lv_bipush (v := (8 : Int32)) hx hb dX0_hasThing_13 (by decide) ?_
      refine lv_icmp_ge (tgt := 22) hx hb dX0_hasThing_15 (by decide) (fun c_3 => ?_) (fun c_3 => ?_)
      · have hf := zif_t hf c_3
        refine lv_iconst (v := (0 : Int32)) hx hb dX0_hasThing_22 (by decide) ?_
        exact zR_ret hx hb hr rfl hf hlk dX0_hasThing_23
      · have hf := zif_f hf c_3
        refine lv_iconst (v := (1 : Int32)) hx hb dX0_hasThing_18 (by decide) ?_
        refine lv_goto (tgt := 23) hx hb dX0_hasThing_19 (by decide) ?_
        exact zR_ret hx hb hr rfl hf hlk dX0_hasThing_23

def f_X0_indexOf_2_b (gS : zG)  (k2 : Int32 → Int32 → Option (Int32)) (y1 : Int32) (y2 : Int32) : Option (Int32) := (if (8 : Int32) ≤ y2 then (some ((-1 : Int32))) else (zbind (f_X0_hasThing gS y2) (fun R2 => (if R2 = 0 then (some ((-1 : Int32))) else (zin y2 8 (if (gS 3 y2.toNatClampNeg) = y1 then (some (y2)) else (k2 y1 (y2 + (1 : Int32)))))))))
def f_X0_indexOf_2 (gS : zG)  : Nat → Int32 → Int32 → Option (Int32)
  | 0 => fun _ _ => none
  | n + 1 => f_X0_indexOf_2_b gS  (f_X0_indexOf_2 gS  n)
def f_X0_indexOf (gS : zG) (x1 : Int32) : Option (Int32) := (f_X0_indexOf_2 gS  zfuel x1 (0 : Int32))
theorem u_X0_indexOf_X0 : ∀ w ∈ u_ws RX0 TX0 10, w ∈ wsX0_indexOf := fun w h => List.mem_cons_of_mem _ (List.mem_append_right _ h)
theorem k_X0_indexOf_1 : Cond.fieldLink RX0 22 "JoinedLight$Bench" "places" "[I" ∈ wsX0_indexOf := List.mem_of_getElem? (i := 1) rfl
abbrev rm_X0_indexOf : Room := { frames := 1, cells := 0, slots := 0, locals := 21 }
set_option maxHeartbeats 4000000 in
set_option maxRecDepth 100000 in
theorem c_X0_indexOf (l : Launch) (dC : Nat → ClassId) (dI : Nat → Nat → Nat) (cI cC cO : ClassId) (qS : Nat) (aS : Nat → Nat) (gS : zG) (x1 : Int32) (R : Int32) (hf : f_X0_indexOf gS x1 = some R) : cR l (dC, dI) (zT cI cC cO) yX0_indexOf wsX0_indexOf rm_X0_indexOf [.ref qS, .int x1] [(wX0 cI qS aS gS)] (some (.int R)) := by
  refine zR_in (cc := cX0_indexOf) (maxL := 3) (ret := (some .int)) (plainFor_of_name (by decide)) rfl (Nat.le_of_ble_eq_true rfl) ?_
  intro p e s m below meth c hx hb hml hr hlk hown hts hK hN hP ls hl
  have hl : lv_has ls 3 [(0, .ref qS), (1, .int x1)] := hl
  have w2 : ∀ (n2 : Nat) (y1 : Int32) (y2 : Int32) (ls : Array Slot), f_X0_indexOf_2 gS  n2 y1 y2 = some R → lv_has ls 3 [(0, .ref qS), (1, .int y1), (2, .int y2)] → W p l e (headSpec wsX0_indexOf rm_X0_indexOf).room s m [.ref qS, .int x1].toArray below meth c s.heap [] 0 0 (MQ below (zqR (some (.int R))) [.ref qS, .int x1].toArray s 0 0 (fun _ => False)) (F0 m 2 ls []) := by
    intro n2
    induction n2 with
    | zero =>
      intro y1 y2 ls hf hl
      have hf : (none : Option (Int32)) = some R := hf
      cases hf
    | succ n2 ih2 =>
      intro y1 y2 ls hf hl
      have hf : f_X0_indexOf_2_b gS  (f_X0_indexOf_2 gS  n2) y1 y2 = some R := hf
      unfold f_X0_indexOf_2_b at hf
      refine lv_iload_n hx hb dX0_indexOf_2 rfl (lv_at hl 2 rfl) ?_
      refine lv_bipush (v := (8 : Int32)) hx hb dX0_indexOf_3 (by decide) ?_
      refine lv_icmp_ge (tgt := 34) hx hb dX0_indexOf_5 (by decide) (fun c_1 => ?_) (fun c_1 => ?_)
      · have hf := zif_t hf c_1
        refine lv_iconst (v := (-1 : Int32)) hx hb dX0_indexOf_34 (by decide) ?_
        exact zR_ret hx hb hr rfl hf hlk dX0_indexOf_35
      · have hf := zif_f hf c_1
        refine lv_aload_n hx hb dX0_indexOf_8 rfl (lv_at hl 0 rfl) ?_
        refine lv_iload_n hx hb dX0_indexOf_9 rfl (lv_at hl 2 rfl) ?_
        obtain ⟨R2, e_2, hf⟩ := zbind_ex hf
        refine z_callRi (va_runV (As := [.int y2]) (rest := []) ⟨hx, hb, hml, hown, hts⟩ (c_X0_hasThing l dC dI cI cC cO qS aS gS y2 R2 e_2) (cwV 1 hts gX0_indexOf_X0_hasThing rfl rfl rfl (by decide +kernel) ⟨Nat.le_of_ble_eq_true rfl, Nat.le_of_ble_eq_true rfl⟩) ⟨zpR_blind, va_recv hK hP (ci := 0) (q0 := 0) rfl rfl, z_useR hK hN hP [0] rfl⟩ rfl rfl hl.1 rfl (lv_room (Nat.le_of_ble_eq_true rfl)) dX0_indexOf_10 ⟨Nat.le_of_ble_eq_true rfl, Nat.le_of_ble_eq_true rfl⟩) ?_
        refine lv_if_eq (tgt := 34) hx hb dX0_indexOf_13 (by decide) (fun c_3 => ?_) (fun c_3 => ?_)
        · have hf := zif_t hf c_3
          refine lv_iconst (v := (-1 : Int32)) hx hb dX0_indexOf_34 (by decide) ?_
          exact zR_ret hx hb hr rfl hf hlk dX0_indexOf_35
        · have hf := zif_f hf c_3
          refine lv_aload_n hx hb dX0_indexOf_16 rfl (lv_at hl 0 rfl) ?_
          refine va_get (D := (dC, dI)) (ci := 0) (v := .ref (aS 3)) (C := RX0) (T := TX0) (N := 10) hx hb hts u_X0_indexOf_X0 hown hK hP 0 rfl rfl 3 (by decide) (hts _ k_X0_indexOf_1) (fun _ h9 => h9) rfl dX0_indexOf_17 ?_
          refine lv_iload_n hx hb dX0_indexOf_20 rfl (lv_at hl 2 rfl) ?_
          obtain ⟨h_4, hf⟩ := zin_ex hf
          refine va_iald hx hb hK hP 3 0 rfl rfl h_4 dX0_indexOf_21 ?_
          refine lv_iload_n hx hb dX0_indexOf_22 rfl (lv_at hl 1 rfl) ?_
          refine lv_icmp_ne (tgt := 28) hx hb dX0_indexOf_23 (by decide) (fun c_5 => ?_) (fun c_5 => ?_)
          · have hf := zif_f hf c_5
            refine lv_iinc (v := (y2 + (1 : Int32))) (lv' := [(2, .int (y2 + (1 : Int32))), (0, .ref qS), (1, .int y1)]) hx hb dX0_indexOf_28 hl (k := 2) rfl rfl (by decide) rfl (fun ls hl => ?_)
            refine lv_goto (tgt := 2) hx hb dX0_indexOf_31 (by decide) ?_
            exact ih2 y1 (y2 + (1 : Int32)) ls hf (lv_sub hl [1, 2, 0] rfl)
          · have hf := zif_t hf c_5
            refine lv_iload_n hx hb dX0_indexOf_26 rfl (lv_at hl 2 rfl) ?_
            exact zR_ret hx hb hr rfl hf hlk dX0_indexOf_27
  unfold f_X0_indexOf at hf
  refine lv_iconst (v := (0 : Int32)) hx hb dX0_indexOf_0 (by decide) ?_
  refine lv_istore_n (lv' := [(2, .int (0 : Int32)), (0, .ref qS), (1, .int x1)]) hx hb dX0_indexOf_1 rfl hl (by decide) rfl (fun ls hl => ?_)
  exact w2 zfuel x1 (0 : Int32) ls hf (lv_sub hl [1, 2, 0] rfl)

def f_X0_thingsAhead_2_b (gS : zG)  (k2 : Int32 → Int32 → Option (Int32)) (y1 : Int32) (y2 : Int32) : Option (Int32) := (if (8 : Int32) ≤ y2 then (some (y2)) else (zbind (f_X0_hasThing gS y2) (fun R2 => (if R2 = 0 then (some (y2)) else (zin y2 8 (if y1 ≤ (gS 3 y2.toNatClampNeg) then (some (y2)) else (k2 y1 (y2 + (1 : Int32)))))))))
def f_X0_thingsAhead_2 (gS : zG)  : Nat → Int32 → Int32 → Option (Int32)
  | 0 => fun _ _ => none
  | n + 1 => f_X0_thingsAhead_2_b gS  (f_X0_thingsAhead_2 gS  n)
def f_X0_thingsAhead (gS : zG) (x1 : Int32) : Option (Int32) := (f_X0_thingsAhead_2 gS  zfuel x1 (0 : Int32))
theorem u_X0_thingsAhead_X0 : ∀ w ∈ u_ws RX0 TX0 10, w ∈ wsX0_thingsAhead := fun w h => List.mem_cons_of_mem _ (List.mem_append_right _ h)
theorem k_X0_thingsAhead_1 : Cond.fieldLink RX0 22 "JoinedLight$Bench" "places" "[I" ∈ wsX0_thingsAhead := List.mem_of_getElem? (i := 1) rfl
abbrev rm_X0_thingsAhead : Room := { frames := 1, cells := 0, slots := 0, locals := 21 }
set_option maxHeartbeats 4000000 in
set_option maxRecDepth 100000 in
theorem c_X0_thingsAhead (l : Launch) (dC : Nat → ClassId) (dI : Nat → Nat → Nat) (cI cC cO : ClassId) (qS : Nat) (aS : Nat → Nat) (gS : zG) (x1 : Int32) (R : Int32) (hf : f_X0_thingsAhead gS x1 = some R) : cR l (dC, dI) (zT cI cC cO) yX0_thingsAhead wsX0_thingsAhead rm_X0_thingsAhead [.ref qS, .int x1] [(wX0 cI qS aS gS)] (some (.int R)) := by
  refine zR_in (cc := cX0_thingsAhead) (maxL := 3) (ret := (some .int)) (plainFor_of_name (by decide)) rfl (Nat.le_of_ble_eq_true rfl) ?_
  intro p e s m below meth c hx hb hml hr hlk hown hts hK hN hP ls hl
  have hl : lv_has ls 3 [(0, .ref qS), (1, .int x1)] := hl
  have w2 : ∀ (n2 : Nat) (y1 : Int32) (y2 : Int32) (ls : Array Slot), f_X0_thingsAhead_2 gS  n2 y1 y2 = some R → lv_has ls 3 [(0, .ref qS), (1, .int y1), (2, .int y2)] → W p l e (headSpec wsX0_thingsAhead rm_X0_thingsAhead).room s m [.ref qS, .int x1].toArray below meth c s.heap [] 0 0 (MQ below (zqR (some (.int R))) [.ref qS, .int x1].toArray s 0 0 (fun _ => False)) (F0 m 2 ls []) := by
    intro n2
    induction n2 with
    | zero =>
      intro y1 y2 ls hf hl
      have hf : (none : Option (Int32)) = some R := hf
      cases hf
    | succ n2 ih2 =>
      intro y1 y2 ls hf hl
      have hf : f_X0_thingsAhead_2_b gS  (f_X0_thingsAhead_2 gS  n2) y1 y2 = some R := hf
      unfold f_X0_thingsAhead_2_b at hf
      refine lv_iload_n hx hb dX0_thingsAhead_2 rfl (lv_at hl 2 rfl) ?_
      refine lv_bipush (v := (8 : Int32)) hx hb dX0_thingsAhead_3 (by decide) ?_
      refine lv_icmp_ge (tgt := 32) hx hb dX0_thingsAhead_5 (by decide) (fun c_1 => ?_) (fun c_1 => ?_)
      · have hf := zif_t hf c_1
        refine lv_iload_n hx hb dX0_thingsAhead_32 rfl (lv_at hl 2 rfl) ?_
        exact zR_ret hx hb hr rfl hf hlk dX0_thingsAhead_33
      · have hf := zif_f hf c_1
        refine lv_aload_n hx hb dX0_thingsAhead_8 rfl (lv_at hl 0 rfl) ?_
        refine lv_iload_n hx hb dX0_thingsAhead_9 rfl (lv_at hl 2 rfl) ?_
        obtain ⟨R2, e_2, hf⟩ := zbind_ex hf
        refine z_callRi (va_runV (As := [.int y2]) (rest := []) ⟨hx, hb, hml, hown, hts⟩ (c_X0_hasThing l dC dI cI cC cO qS aS gS y2 R2 e_2) (cwV 1 hts gX0_thingsAhead_X0_hasThing rfl rfl rfl (by decide +kernel) ⟨Nat.le_of_ble_eq_true rfl, Nat.le_of_ble_eq_true rfl⟩) ⟨zpR_blind, va_recv hK hP (ci := 0) (q0 := 0) rfl rfl, z_useR hK hN hP [0] rfl⟩ rfl rfl hl.1 rfl (lv_room (Nat.le_of_ble_eq_true rfl)) dX0_thingsAhead_10 ⟨Nat.le_of_ble_eq_true rfl, Nat.le_of_ble_eq_true rfl⟩) ?_
        refine lv_if_eq (tgt := 32) hx hb dX0_thingsAhead_13 (by decide) (fun c_3 => ?_) (fun c_3 => ?_)
        · have hf := zif_t hf c_3
          refine lv_iload_n hx hb dX0_thingsAhead_32 rfl (lv_at hl 2 rfl) ?_
          exact zR_ret hx hb hr rfl hf hlk dX0_thingsAhead_33
        · have hf := zif_f hf c_3
          refine lv_aload_n hx hb dX0_thingsAhead_16 rfl (lv_at hl 0 rfl) ?_
          refine va_get (D := (dC, dI)) (ci := 0) (v := .ref (aS 3)) (C := RX0) (T := TX0) (N := 10) hx hb hts u_X0_thingsAhead_X0 hown hK hP 0 rfl rfl 3 (by decide) (hts _ k_X0_thingsAhead_1) (fun _ h9 => h9) rfl dX0_thingsAhead_17 ?_
          refine lv_iload_n hx hb dX0_thingsAhead_20 rfl (lv_at hl 2 rfl) ?_
          obtain ⟨h_4, hf⟩ := zin_ex hf
          refine va_iald hx hb hK hP 3 0 rfl rfl h_4 dX0_thingsAhead_21 ?_
          refine lv_iload_n hx hb dX0_thingsAhead_22 rfl (lv_at hl 1 rfl) ?_
          refine lv_icmp_ge (tgt := 32) hx hb dX0_thingsAhead_23 (by decide) (fun c_5 => ?_) (fun c_5 => ?_)
          · have hf := zif_t hf c_5
            refine lv_iload_n hx hb dX0_thingsAhead_32 rfl (lv_at hl 2 rfl) ?_
            exact zR_ret hx hb hr rfl hf hlk dX0_thingsAhead_33
          · have hf := zif_f hf c_5
            refine lv_iinc (v := (y2 + (1 : Int32))) (lv' := [(2, .int (y2 + (1 : Int32))), (0, .ref qS), (1, .int y1)]) hx hb dX0_thingsAhead_26 hl (k := 2) rfl rfl (by decide) rfl (fun ls hl => ?_)
            refine lv_goto (tgt := 2) hx hb dX0_thingsAhead_29 (by decide) ?_
            exact ih2 y1 (y2 + (1 : Int32)) ls hf (lv_sub hl [1, 2, 0] rfl)
  unfold f_X0_thingsAhead at hf
  refine lv_iconst (v := (0 : Int32)) hx hb dX0_thingsAhead_0 (by decide) ?_
  refine lv_istore_n (lv' := [(2, .int (0 : Int32)), (0, .ref qS), (1, .int x1)]) hx hb dX0_thingsAhead_1 rfl hl (by decide) rfl (fun ls hl => ?_)
  exact w2 zfuel x1 (0 : Int32) ls hf (lv_sub hl [1, 2, 0] rfl)

def f_X0_cellOf (gS : zG) (x1 : Int32) : Option (Int32) := (if (gS 9 0) ≤ 0 then (some ((0 : Int32))) else (zbind (f_J9_floorDiv_7cf53 x1 (gS 9 0)) (fun R2 => (some (R2)))))
theorem u_X0_cellOf_X0 : ∀ w ∈ u_ws RX0 TX0 10, w ∈ wsX0_cellOf := fun w h => List.mem_cons_of_mem _ (List.mem_append_right _ h)
theorem k_X0_cellOf_1 : Cond.fieldLink RX0 40 "JoinedLight$Bench" "cellWidth" "I" ∈ wsX0_cellOf := List.mem_of_getElem? (i := 1) rfl
abbrev rm_X0_cellOf : Room := { frames := 1, cells := 0, slots := 0, locals := 22 }
set_option maxHeartbeats 4000000 in
set_option maxRecDepth 100000 in
theorem c_X0_cellOf (l : Launch) (dC : Nat → ClassId) (dI : Nat → Nat → Nat) (cI cC cO : ClassId) (qS : Nat) (aS : Nat → Nat) (gS : zG) (x1 : Int32) (R : Int32) (hf : f_X0_cellOf gS x1 = some R) : cR l (dC, dI) (zT cI cC cO) yX0_cellOf wsX0_cellOf rm_X0_cellOf [.ref qS, .int x1] [(wX0 cI qS aS gS)] (some (.int R)) := by
  refine zR_in (cc := cX0_cellOf) (maxL := 2) (ret := (some .int)) (plainFor_of_name (by decide)) rfl (Nat.le_of_ble_eq_true rfl) ?_
  intro p e s m below meth c hx hb hml hr hlk hown hts hK hN hP ls hl
  have hl : lv_has ls 2 [(0, .ref qS), (1, .int x1)] := hl
  unfold f_X0_cellOf at hf
  refine lv_aload_n hx hb dX0_cellOf_0 rfl (lv_at hl 0 rfl) ?_
  refine va_get (D := (dC, dI)) (ci := 0) (v := .int (gS 9 0)) (C := RX0) (T := TX0) (N := 10) hx hb hts u_X0_cellOf_X0 hown hK hP 0 rfl rfl 9 (by decide) (hts _ k_X0_cellOf_1) (fun _ h9 => h9) rfl dX0_cellOf_1 ?_
  refine lv_if_le (tgt := 18) hx hb dX0_cellOf_4 (by decide) (fun c_1 => ?_) (fun c_1 => ?_)
  · have hf := zif_t hf c_1
    refine lv_iconst (v := (0 : Int32)) hx hb dX0_cellOf_18 (by decide) ?_
    exact zR_ret hx hb hr rfl hf hlk dX0_cellOf_19
  · have hf := zif_f hf c_1
    refine lv_iload_n hx hb dX0_cellOf_7 rfl (lv_at hl 1 rfl) ?_
    refine lv_aload_n hx hb dX0_cellOf_8 rfl (lv_at hl 0 rfl) ?_
    refine va_get (D := (dC, dI)) (ci := 0) (v := .int (gS 9 0)) (C := RX0) (T := TX0) (N := 10) hx hb hts u_X0_cellOf_X0 hown hK hP 0 rfl rfl 9 (by decide) (hts _ k_X0_cellOf_1) (fun _ h9 => h9) rfl dX0_cellOf_9 ?_
    obtain ⟨R2, e_2, hf⟩ := zbind_ex hf
    refine z_callRi (va_runS (As := [.int x1, .int (gS 9 0)]) (rest := []) ⟨hx, hb, hml, hown, hts⟩ (c_J9_floorDiv_7cf53 l dC dI cI cC cO  x1 (gS 9 0) R2 e_2) (va_cwS 2 hts gX0_cellOf_J9_floorDiv_7cf53 rfl rfl rfl (by decide +kernel) ⟨Nat.le_of_ble_eq_true rfl, Nat.le_of_ble_eq_true rfl⟩) ⟨zpR_blind, z_useR hK hN hP [] rfl⟩ rfl rfl hl.1 rfl (lv_room (Nat.le_of_ble_eq_true rfl)) dX0_cellOf_12 ⟨Nat.le_of_ble_eq_true rfl, Nat.le_of_ble_eq_true rfl⟩) ?_
    refine lv_goto (tgt := 19) hx hb dX0_cellOf_15 (by decide) ?_
    exact zR_ret hx hb hr rfl hf hlk dX0_cellOf_19

def f_X0_lightOfAll_4_b (gS : zG)  (k4 : Int32 → Int32 → Option (Int32)) (y1 : Int32) (y2 : Int32) : Option (Int32) := (if (8 : Int32) ≤ y2 then (some (y1)) else (zbind (f_X0_hasLine gS y2) (fun R2 => (if R2 = 0 then (some (y1)) else (zin y2 8 (k4 (y1 + (gS 1 y2.toNatClampNeg)) (y2 + (1 : Int32))))))))
def f_X0_lightOfAll_4 (gS : zG)  : Nat → Int32 → Int32 → Option (Int32)
  | 0 => fun _ _ => none
  | n + 1 => f_X0_lightOfAll_4_b gS  (f_X0_lightOfAll_4 gS  n)
def f_X0_lightOfAll (gS : zG)  : Option (Int32) := (f_X0_lightOfAll_4 gS  zfuel (0 : Int32) (0 : Int32))
theorem u_X0_lightOfAll_X0 : ∀ w ∈ u_ws RX0 TX0 10, w ∈ wsX0_lightOfAll := fun w h => List.mem_cons_of_mem _ (List.mem_append_right _ h)
theorem k_X0_lightOfAll_1 : Cond.fieldLink RX0 15 "JoinedLight$Bench" "lights" "[I" ∈ wsX0_lightOfAll := List.mem_of_getElem? (i := 1) rfl
abbrev rm_X0_lightOfAll : Room := { frames := 1, cells := 0, slots := 0, locals := 21 }
set_option maxHeartbeats 4000000 in
set_option maxRecDepth 100000 in
theorem c_X0_lightOfAll (l : Launch) (dC : Nat → ClassId) (dI : Nat → Nat → Nat) (cI cC cO : ClassId) (qS : Nat) (aS : Nat → Nat) (gS : zG)  (R : Int32) (hf : f_X0_lightOfAll gS = some R) : cR l (dC, dI) (zT cI cC cO) yX0_lightOfAll wsX0_lightOfAll rm_X0_lightOfAll [.ref qS] [(wX0 cI qS aS gS)] (some (.int R)) := by
  refine zR_in (cc := cX0_lightOfAll) (maxL := 3) (ret := (some .int)) (plainFor_of_name (by decide)) rfl (Nat.le_of_ble_eq_true rfl) ?_
  intro p e s m below meth c hx hb hml hr hlk hown hts hK hN hP ls hl
  have hl : lv_has ls 3 [(0, .ref qS)] := hl
  have w4 : ∀ (n4 : Nat) (y1 : Int32) (y2 : Int32) (ls : Array Slot), f_X0_lightOfAll_4 gS  n4 y1 y2 = some R → lv_has ls 3 [(0, .ref qS), (1, .int y1), (2, .int y2)] → W p l e (headSpec wsX0_lightOfAll rm_X0_lightOfAll).room s m [.ref qS].toArray below meth c s.heap [] 0 0 (MQ below (zqR (some (.int R))) [.ref qS].toArray s 0 0 (fun _ => False)) (F0 m 4 ls []) := by
    intro n4
    induction n4 with
    | zero =>
      intro y1 y2 ls hf hl
      have hf : (none : Option (Int32)) = some R := hf
      cases hf
    | succ n4 ih4 =>
      intro y1 y2 ls hf hl
      have hf : f_X0_lightOfAll_4_b gS  (f_X0_lightOfAll_4 gS  n4) y1 y2 = some R := hf
      unfold f_X0_lightOfAll_4_b at hf
      refine lv_iload_n hx hb dX0_lightOfAll_4 rfl (lv_at hl 2 rfl) ?_
      refine lv_bipush (v := (8 : Int32)) hx hb dX0_lightOfAll_5 (by decide) ?_
      refine lv_icmp_ge (tgt := 33) hx hb dX0_lightOfAll_7 (by decide) (fun c_1 => ?_) (fun c_1 => ?_)
      · have hf := zif_t hf c_1
        refine lv_iload_n hx hb dX0_lightOfAll_33 rfl (lv_at hl 1 rfl) ?_
        exact zR_ret hx hb hr rfl hf hlk dX0_lightOfAll_34
      · have hf := zif_f hf c_1
        refine lv_aload_n hx hb dX0_lightOfAll_10 rfl (lv_at hl 0 rfl) ?_
        refine lv_iload_n hx hb dX0_lightOfAll_11 rfl (lv_at hl 2 rfl) ?_
        obtain ⟨R2, e_2, hf⟩ := zbind_ex hf
        refine z_callRi (va_runV (As := [.int y2]) (rest := []) ⟨hx, hb, hml, hown, hts⟩ (c_X0_hasLine l dC dI cI cC cO qS aS gS y2 R2 e_2) (cwV 1 hts gX0_lightOfAll_X0_hasLine rfl rfl rfl (by decide +kernel) ⟨Nat.le_of_ble_eq_true rfl, Nat.le_of_ble_eq_true rfl⟩) ⟨zpR_blind, va_recv hK hP (ci := 0) (q0 := 0) rfl rfl, z_useR hK hN hP [0] rfl⟩ rfl rfl hl.1 rfl (lv_room (Nat.le_of_ble_eq_true rfl)) dX0_lightOfAll_12 ⟨Nat.le_of_ble_eq_true rfl, Nat.le_of_ble_eq_true rfl⟩) ?_
        refine lv_if_eq (tgt := 33) hx hb dX0_lightOfAll_15 (by decide) (fun c_3 => ?_) (fun c_3 => ?_)
        · have hf := zif_t hf c_3
          refine lv_iload_n hx hb dX0_lightOfAll_33 rfl (lv_at hl 1 rfl) ?_
          exact zR_ret hx hb hr rfl hf hlk dX0_lightOfAll_34
        · have hf := zif_f hf c_3
          refine lv_iload_n hx hb dX0_lightOfAll_18 rfl (lv_at hl 1 rfl) ?_
          refine lv_aload_n hx hb dX0_lightOfAll_19 rfl (lv_at hl 0 rfl) ?_
          refine va_get (D := (dC, dI)) (ci := 0) (v := .ref (aS 1)) (C := RX0) (T := TX0) (N := 10) hx hb hts u_X0_lightOfAll_X0 hown hK hP 0 rfl rfl 1 (by decide) (hts _ k_X0_lightOfAll_1) (fun _ h9 => h9) rfl dX0_lightOfAll_20 ?_
          refine lv_iload_n hx hb dX0_lightOfAll_23 rfl (lv_at hl 2 rfl) ?_
          obtain ⟨h_4, hf⟩ := zin_ex hf
          refine va_iald hx hb hK hP 2 0 rfl rfl h_4 dX0_lightOfAll_24 ?_
          refine lv_iadd hx hb dX0_lightOfAll_25 ?_
          refine lv_istore_n (lv' := [(1, .int (y1 + (gS 1 y2.toNatClampNeg))), (0, .ref qS), (2, .int y2)]) hx hb dX0_lightOfAll_26 rfl hl (by decide) rfl (fun ls hl => ?_)
          refine lv_iinc (v := (y2 + (1 : Int32))) (lv' := [(2, .int (y2 + (1 : Int32))), (1, .int (y1 + (gS 1 y2.toNatClampNeg))), (0, .ref qS)]) hx hb dX0_lightOfAll_27 hl (k := 2) rfl rfl (by decide) rfl (fun ls hl => ?_)
          refine lv_goto (tgt := 4) hx hb dX0_lightOfAll_30 (by decide) ?_
          exact ih4 (y1 + (gS 1 y2.toNatClampNeg)) (y2 + (1 : Int32)) ls hf (lv_sub hl [2, 1, 0] rfl)
  unfold f_X0_lightOfAll at hf
  refine lv_iconst (v := (0 : Int32)) hx hb dX0_lightOfAll_0 (by decide) ?_
  refine lv_istore_n (lv' := [(1, .int (0 : Int32)), (0, .ref qS)]) hx hb dX0_lightOfAll_1 rfl hl (by decide) rfl (fun ls hl => ?_)
  refine lv_iconst (v := (0 : Int32)) hx hb dX0_lightOfAll_2 (by decide) ?_
  refine lv_istore_n (lv' := [(2, .int (0 : Int32)), (1, .int (0 : Int32)), (0, .ref qS)]) hx hb dX0_lightOfAll_3 rfl hl (by decide) rfl (fun ls hl => ?_)
  exact w4 zfuel (0 : Int32) (0 : Int32) ls hf (lv_sub hl [2, 1, 0] rfl)

def f_X6_within  (x0 : Int32) (x1 : Int32) (x2 : Int32) : Option (Int32) := (if x0 < x1 then (some ((0 : Int32))) else (if x2 < x0 then (some ((0 : Int32))) else (some ((1 : Int32)))))
abbrev rm_X6_within : Room := { frames := 0, cells := 0, slots := 0, locals := 0 }
set_option maxHeartbeats 4000000 in
set_option maxRecDepth 100000 in
theorem c_X6_within (l : Launch) (dC : Nat → ClassId) (dI : Nat → Nat → Nat) (cI cC cO : ClassId)  (x0 : Int32) (x1 : Int32) (x2 : Int32) (R : Int32) (hf : f_X6_within x0 x1 x2 = some R) : cR l (dC, dI) (zT cI cC cO) yX6_within wsX6_within rm_X6_within [.int x0, .int x1, .int x2] [] (some (.int R)) := by
  refine zR_in (cc := cX6_within) (maxL := 3) (ret := (some .boolean)) (plainFor_of_name (by decide)) rfl (Nat.le_of_ble_eq_true rfl) ?_
  intro p e s m below meth c hx hb hml hr hlk hown hts hK hN hP ls hl
  have hl : lv_has ls 3 [(0, .int x0), (1, .int x1), (2, .int x2)] := hl
  unfold f_X6_within at hf
  refine lv_iload_n hx hb dX6_within_0 rfl (lv_at hl 0 rfl) ?_
  refine lv_iload_n hx hb dX6_within_1 rfl (lv_at hl 1 rfl) ?_
  refine lv_icmp_lt (tgt := 14) hx hb dX6_within_2 (by decide) (fun c_1 => ?_) (fun c_1 => ?_)
  · have hf := zif_t hf c_1
    refine lv_iconst (v := (0 : Int32)) hx hb dX6_within_14 (by decide) ?_
    exact zR_ret hx hb hr rfl hf hlk dX6_within_15
  · have hf := zif_f hf c_1
    refine lv_iload_n hx hb dX6_within_5 rfl (lv_at hl 0 rfl) ?_
    refine lv_iload_n hx hb dX6_within_6 rfl (lv_at hl 2 rfl) ?_
    refine lv_icmp_gt (tgt := 14) hx hb dX6_within_7 (by decide) (fun c_2 => ?_) (fun c_2 => ?_)
    · have hf := zif_t hf c_2
      refine lv_iconst (v := (0 : Int32)) hx hb dX6_within_14 (by decide) ?_
      exact zR_ret hx hb hr rfl hf hlk dX6_within_15
    · have hf := zif_f hf c_2
      refine lv_iconst (v := (1 : Int32)) hx hb dX6_within_10 (by decide) ?_
      refine lv_goto (tgt := 15) hx hb dX6_within_11 (by decide) ?_
      exact zR_ret hx hb hr rfl hf hlk dX6_within_15

def f_X0_addLine (gS : zG) (x1 : Int32) (x2 : Int32) : Option (Int32 × zG) := (zbind (f_X6_within x1 (380 : Int32) (780 : Int32)) (fun R1 => (if R1 = 0 then (some ((-1000000001 : Int32), gS)) else (zbind (f_X6_within x2 (1 : Int32) (999 : Int32)) (fun R3 => (if R3 = 0 then (some ((-1000000001 : Int32), gS)) else (if (gS 2 0) < 0 then (some ((-1000000003 : Int32), gS)) else (if (gS 2 0) < (8 : Int32) then (zin (gS 2 0) 8 (zlet (gup gS 0 (gS 2 0).toNatClampNeg x1) (fun gS_7 => (zin (gS 2 0) 8 (zlet (gup gS_7 1 (gS 2 0).toNatClampNeg x2) (fun gS_8 => (zlet (gup gS_8 2 0 ((gS 2 0) + (1 : Int32))) (fun gS_9 => (some ((gS 2 0), gS_9)))))))))) else (some ((-1000000003 : Int32), gS))))))))))
theorem u_X0_addLine_X0 : ∀ w ∈ u_ws RX0 TX0 10, w ∈ wsX0_addLine := fun w h => List.mem_cons_of_mem _ (List.mem_append_right _ h)
theorem k_X0_addLine_7 : Cond.initialized RX6 ∈ wsX0_addLine := List.mem_of_getElem? (i := 7) rfl
theorem k_X0_addLine_6 : Cond.static yX6_within ∈ wsX0_addLine := List.mem_of_getElem? (i := 6) rfl
theorem k_X0_addLine_1 : Cond.constant RX0 66 (-1000000001) ∈ wsX0_addLine := List.mem_of_getElem? (i := 1) rfl
theorem k_X0_addLine_2 : Cond.fieldLink RX0 18 "JoinedLight$Bench" "lineCount" "I" ∈ wsX0_addLine := List.mem_of_getElem? (i := 2) rfl
theorem k_X0_addLine_3 : Cond.constant RX0 67 (-1000000003) ∈ wsX0_addLine := List.mem_of_getElem? (i := 3) rfl
theorem k_X0_addLine_4 : Cond.fieldLink RX0 9 "JoinedLight$Bench" "colours" "[I" ∈ wsX0_addLine := List.mem_of_getElem? (i := 4) rfl
theorem k_X0_addLine_5 : Cond.fieldLink RX0 15 "JoinedLight$Bench" "lights" "[I" ∈ wsX0_addLine := List.mem_of_getElem? (i := 5) rfl
abbrev rm_X0_addLine : Room := { frames := 1, cells := 0, slots := 0, locals := 22 }
set_option maxHeartbeats 4000000 in
set_option maxRecDepth 100000 in
theorem c_X0_addLine (l : Launch) (dC : Nat → ClassId) (dI : Nat → Nat → Nat) (cI cC cO : ClassId) (qS : Nat) (aS : Nat → Nat) (gS : zG) (x1 : Int32) (x2 : Int32) (R : Int32 × zG) (hf : f_X0_addLine gS x1 x2 = some R) : cM l (dC, dI) (zT cI cC cO) yX0_addLine wsX0_addLine rm_X0_addLine [.ref qS, .int x1, .int x2] [(wX0 cI qS aS gS)] [(wX0 cI qS aS R.2)] (some (.int R.1)) 0 0 := by
  refine zM_in (cc := cX0_addLine) (maxL := 4) (ret := (some .int)) (plainFor_of_name (by decide)) rfl (Nat.le_of_ble_eq_true rfl) ?_
  intro p e s m below meth c hx hb hml hr hlk hown hts hK hN A hA hP hD hS ls hl
  have hl : lv_has ls 4 [(0, .ref qS), (1, .int x1), (2, .int x2)] := hl
  unfold f_X0_addLine at hf
  obtain ⟨H, hH⟩ : ∃ H, H = s.heap := ⟨_, rfl⟩
  obtain ⟨locs, hlocs⟩ : ∃ locs : List Loc, locs = [] := ⟨_, rfl⟩
  have hS : va_S A s.heap H locs := by rw [hH, hlocs]; exact hS
  rw [← hH] at hP
  refine zheap hH hlocs ?_
  refine lv_iload_n hx hb dX0_addLine_0 rfl (lv_at hl 1 rfl) ?_
  refine lv_sipush (v := (380 : Int32)) hx hb dX0_addLine_1 (by decide) ?_
  refine lv_sipush (v := (780 : Int32)) hx hb dX0_addLine_4 (by decide) ?_
  obtain ⟨R1, e_1, hf⟩ := zbind_ex hf
  refine z_callRi (va_runSN (As := [.int x1, .int (380 : Int32), .int (780 : Int32)]) (rest := []) ⟨hx, hb, hml, hown, hts⟩ (c_X6_within l dC dI cI cC cO  x1 (380 : Int32) (780 : Int32) R1 e_1) ⟨va_cnB 3 hts gX0_addLine_X6_within_n62 rfl rfl rfl hN.1 (hts _ k_X0_addLine_7) (by decide +kernel) ⟨Nat.le_of_ble_eq_true rfl, Nat.le_of_ble_eq_true rfl⟩, (hts _ k_X0_addLine_6), trivial⟩ ⟨zpR_blind, z_useR hK hN hP [] rfl⟩ rfl rfl hl.1 rfl (lv_room (Nat.le_of_ble_eq_true rfl)) dX0_addLine_7 ⟨Nat.le_of_ble_eq_true rfl, Nat.le_of_ble_eq_true rfl⟩) ?_
  refine lv_if_eq (tgt := 24) hx hb dX0_addLine_10 (by decide) (fun c_2 => ?_) (fun c_2 => ?_)
  · have hf := zif_t hf c_2
    refine lv_ldc (v := (-1000000001 : Int32)) hx hb hown (hts _ k_X0_addLine_1) dX0_addLine_24 ?_
    exact zM_ret (gs := [(wX0 cI qS aS gS)]) hx hb hr rfl hP hD hS (by rw [← Option.some.inj hf]; exact ⟨rfl, rfl⟩) hlk dX0_addLine_26
  · have hf := zif_f hf c_2
    refine lv_iload_n hx hb dX0_addLine_13 rfl (lv_at hl 2 rfl) ?_
    refine lv_iconst (v := (1 : Int32)) hx hb dX0_addLine_14 (by decide) ?_
    refine lv_sipush (v := (999 : Int32)) hx hb dX0_addLine_15 (by decide) ?_
    obtain ⟨R3, e_3, hf⟩ := zbind_ex hf
    refine z_callRi (va_runSN (As := [.int x2, .int (1 : Int32), .int (999 : Int32)]) (rest := []) ⟨hx, hb, hml, hown, hts⟩ (c_X6_within l dC dI cI cC cO  x2 (1 : Int32) (999 : Int32) R3 e_3) ⟨va_cnB 3 hts gX0_addLine_X6_within_n62 rfl rfl rfl hN.1 (hts _ k_X0_addLine_7) (by decide +kernel) ⟨Nat.le_of_ble_eq_true rfl, Nat.le_of_ble_eq_true rfl⟩, (hts _ k_X0_addLine_6), trivial⟩ ⟨zpR_blind, z_useR hK hN hP [] rfl⟩ rfl rfl hl.1 rfl (lv_room (Nat.le_of_ble_eq_true rfl)) dX0_addLine_18 ⟨Nat.le_of_ble_eq_true rfl, Nat.le_of_ble_eq_true rfl⟩) ?_
    refine lv_if_ne (tgt := 27) hx hb dX0_addLine_21 (by decide) (fun c_4 => ?_) (fun c_4 => ?_)
    · have hf := zif_f hf c_4
      refine lv_aload_n hx hb dX0_addLine_27 rfl (lv_at hl 0 rfl) ?_
      refine va_get (D := (dC, dI)) (ci := 0) (v := .int (gS 2 0)) (C := RX0) (T := TX0) (N := 10) hx hb hts u_X0_addLine_X0 hown hK hP 0 rfl rfl 2 (by decide) (hts _ k_X0_addLine_2) (fun _ h9 => h9) rfl dX0_addLine_28 ?_
      refine lv_istore_n (lv' := [(3, .int (gS 2 0)), (0, .ref qS), (1, .int x1), (2, .int x2)]) hx hb dX0_addLine_31 rfl hl (by decide) rfl (fun ls hl => ?_)
      refine lv_iload_n hx hb dX0_addLine_32 rfl (lv_at hl 0 rfl) ?_
      refine lv_if_lt (tgt := 42) hx hb dX0_addLine_33 (by decide) (fun c_5 => ?_) (fun c_5 => ?_)
      · have hf := zif_t hf c_5
        refine lv_ldc (v := (-1000000003 : Int32)) hx hb hown (hts _ k_X0_addLine_3) dX0_addLine_42 ?_
        exact zM_ret (gs := [(wX0 cI qS aS gS)]) hx hb hr rfl hP hD hS (by rw [← Option.some.inj hf]; exact ⟨rfl, rfl⟩) hlk dX0_addLine_44
      · have hf := zif_f hf c_5
        refine lv_iload_n hx hb dX0_addLine_36 rfl (lv_at hl 0 rfl) ?_
        refine lv_bipush (v := (8 : Int32)) hx hb dX0_addLine_37 (by decide) ?_
        refine lv_icmp_lt (tgt := 45) hx hb dX0_addLine_39 (by decide) (fun c_6 => ?_) (fun c_6 => ?_)
        · have hf := zif_t hf c_6
          refine lv_aload_n hx hb dX0_addLine_45 rfl (lv_at hl 1 rfl) ?_
          refine va_get (D := (dC, dI)) (ci := 0) (v := .ref (aS 0)) (C := RX0) (T := TX0) (N := 10) hx hb hts u_X0_addLine_X0 hown hK hP 0 rfl rfl 0 (by decide) (hts _ k_X0_addLine_4) (fun _ h9 => h9) rfl dX0_addLine_46 ?_
          refine lv_iload_n hx hb dX0_addLine_49 rfl (lv_at hl 0 rfl) ?_
          refine lv_iload_n hx hb dX0_addLine_50 rfl (lv_at hl 2 rfl) ?_
          obtain ⟨h_7, hf⟩ := zin_ex hf
          obtain ⟨gS_7, e_7, hf⟩ := zlet_ex hf
          refine z_iast (gs' := [(wX0 cI qS aS gS_7)]) hx hb hK hP hD hS 1 0 rfl rfl h_7 (by rw [e_7]; rfl) dX0_addLine_51 (fun H locs hP hD hS => ?_)
          refine lv_aload_n hx hb dX0_addLine_52 rfl (lv_at hl 1 rfl) ?_
          refine va_get (D := (dC, dI)) (ci := 0) (v := .ref (aS 1)) (C := RX0) (T := TX0) (N := 10) hx hb hts u_X0_addLine_X0 hown hK hP 0 rfl rfl 1 (by decide) (hts _ k_X0_addLine_5) (fun _ h9 => h9) rfl dX0_addLine_53 ?_
          refine lv_iload_n hx hb dX0_addLine_56 rfl (lv_at hl 0 rfl) ?_
          refine lv_iload_n hx hb dX0_addLine_57 rfl (lv_at hl 3 rfl) ?_
          obtain ⟨h_8, hf⟩ := zin_ex hf
          obtain ⟨gS_8, e_8, hf⟩ := zlet_ex hf
          refine z_iast (gs' := [(wX0 cI qS aS gS_8)]) hx hb hK hP hD hS 2 0 rfl rfl h_8 (by rw [e_8]; rfl) dX0_addLine_58 (fun H locs hP hD hS => ?_)
          refine lv_aload_n hx hb dX0_addLine_59 rfl (lv_at hl 1 rfl) ?_
          refine lv_iload_n hx hb dX0_addLine_60 rfl (lv_at hl 0 rfl) ?_
          refine lv_iconst (v := (1 : Int32)) hx hb dX0_addLine_61 (by decide) ?_
          refine lv_iadd hx hb dX0_addLine_62 ?_
          obtain ⟨gS_9, e_9, hf⟩ := zlet_ex hf
          refine z_put (gs' := [(wX0 cI qS aS gS_9)]) (D := (dC, dI)) (ci := 0) (ty := .int) (C := RX0) (T := TX0) (N := 10) hx hb hts u_X0_addLine_X0 tyX0 tyX0_ok nmX0 hown hK hP hD hS 0 rfl rfl 2 (by decide) (hts _ k_X0_addLine_2) (fun _ h9 => h9) rfl (by decide +kernel) rfl rfl (Nat.le_of_ble_eq_true rfl) (by rw [e_9]; rfl) dX0_addLine_63 (fun H locs hP hD hS => ?_)
          refine lv_iload_n hx hb dX0_addLine_66 rfl (lv_at hl 0 rfl) ?_
          exact zM_ret (gs := [(wX0 cI qS aS gS_9)]) hx hb hr rfl hP hD hS (by rw [← Option.some.inj hf]; exact ⟨rfl, rfl⟩) hlk dX0_addLine_67
        · have hf := zif_f hf c_6
          refine lv_ldc (v := (-1000000003 : Int32)) hx hb hown (hts _ k_X0_addLine_3) dX0_addLine_42 ?_
          exact zM_ret (gs := [(wX0 cI qS aS gS)]) hx hb hr rfl hP hD hS (by rw [← Option.some.inj hf]; exact ⟨rfl, rfl⟩) hlk dX0_addLine_44
    · have hf := zif_t hf c_4
      refine lv_ldc (v := (-1000000001 : Int32)) hx hb hown (hts _ k_X0_addLine_1) dX0_addLine_24 ?_
      exact zM_ret (gs := [(wX0 cI qS aS gS)]) hx hb hr rfl hP hD hS (by rw [← Option.some.inj hf]; exact ⟨rfl, rfl⟩) hlk dX0_addLine_26

def f_X0_changeLight (gS : zG) (x1 : Int32) (x2 : Int32) : Option (Int32 × zG) := (zbind (f_X0_hasLine gS x1) (fun R1 => (if R1 = 0 then (some ((-1000000001 : Int32), gS)) else (zbind (f_X6_within x2 (1 : Int32) (999 : Int32)) (fun R3 => (if R3 = 0 then (some ((-1000000001 : Int32), gS)) else (zin x1 8 (zin x1 8 (zlet (gup gS 1 x1.toNatClampNeg x2) (fun gS_6 => (some ((gS 1 x1.toNatClampNeg), gS_6))))))))))))
theorem u_X0_changeLight_X0 : ∀ w ∈ u_ws RX0 TX0 10, w ∈ wsX0_changeLight := fun w h => List.mem_cons_of_mem _ (List.mem_append_right _ h)
theorem k_X0_changeLight_1 : Cond.constant RX0 66 (-1000000001) ∈ wsX0_changeLight := List.mem_of_getElem? (i := 1) rfl
theorem k_X0_changeLight_10 : Cond.initialized RX6 ∈ wsX0_changeLight := List.mem_of_getElem? (i := 10) rfl
theorem k_X0_changeLight_9 : Cond.static yX6_within ∈ wsX0_changeLight := List.mem_of_getElem? (i := 9) rfl
theorem k_X0_changeLight_2 : Cond.fieldLink RX0 15 "JoinedLight$Bench" "lights" "[I" ∈ wsX0_changeLight := List.mem_of_getElem? (i := 2) rfl
abbrev rm_X0_changeLight : Room := { frames := 1, cells := 0, slots := 0, locals := 22 }
set_option maxHeartbeats 4000000 in
set_option maxRecDepth 100000 in
theorem c_X0_changeLight (l : Launch) (dC : Nat → ClassId) (dI : Nat → Nat → Nat) (cI cC cO : ClassId) (qS : Nat) (aS : Nat → Nat) (gS : zG) (x1 : Int32) (x2 : Int32) (R : Int32 × zG) (hf : f_X0_changeLight gS x1 x2 = some R) : cM l (dC, dI) (zT cI cC cO) yX0_changeLight wsX0_changeLight rm_X0_changeLight [.ref qS, .int x1, .int x2] [(wX0 cI qS aS gS)] [(wX0 cI qS aS R.2)] (some (.int R.1)) 0 0 := by
  refine zM_in (cc := cX0_changeLight) (maxL := 4) (ret := (some .int)) (plainFor_of_name (by decide)) rfl (Nat.le_of_ble_eq_true rfl) ?_
  intro p e s m below meth c hx hb hml hr hlk hown hts hK hN A hA hP hD hS ls hl
  have hl : lv_has ls 4 [(0, .ref qS), (1, .int x1), (2, .int x2)] := hl
  unfold f_X0_changeLight at hf
  obtain ⟨H, hH⟩ : ∃ H, H = s.heap := ⟨_, rfl⟩
  obtain ⟨locs, hlocs⟩ : ∃ locs : List Loc, locs = [] := ⟨_, rfl⟩
  have hS : va_S A s.heap H locs := by rw [hH, hlocs]; exact hS
  rw [← hH] at hP
  refine zheap hH hlocs ?_
  refine lv_aload_n hx hb dX0_changeLight_0 rfl (lv_at hl 0 rfl) ?_
  refine lv_iload_n hx hb dX0_changeLight_1 rfl (lv_at hl 1 rfl) ?_
  obtain ⟨R1, e_1, hf⟩ := zbind_ex hf
  refine z_callRi (va_runV (As := [.int x1]) (rest := []) ⟨hx, hb, hml, hown, hts⟩ (c_X0_hasLine l dC dI cI cC cO qS aS gS x1 R1 e_1) (cwV 1 hts gX0_changeLight_X0_hasLine rfl rfl rfl (by decide +kernel) ⟨Nat.le_of_ble_eq_true rfl, Nat.le_of_ble_eq_true rfl⟩) ⟨zpR_blind, va_recv hK hP (ci := 0) (q0 := 0) rfl rfl, z_useR hK hN hP [0] rfl⟩ rfl rfl hl.1 rfl (lv_room (Nat.le_of_ble_eq_true rfl)) dX0_changeLight_2 ⟨Nat.le_of_ble_eq_true rfl, Nat.le_of_ble_eq_true rfl⟩) ?_
  refine lv_if_eq (tgt := 19) hx hb dX0_changeLight_5 (by decide) (fun c_2 => ?_) (fun c_2 => ?_)
  · have hf := zif_t hf c_2
    refine lv_ldc (v := (-1000000001 : Int32)) hx hb hown (hts _ k_X0_changeLight_1) dX0_changeLight_19 ?_
    exact zM_ret (gs := [(wX0 cI qS aS gS)]) hx hb hr rfl hP hD hS (by rw [← Option.some.inj hf]; exact ⟨rfl, rfl⟩) hlk dX0_changeLight_21
  · have hf := zif_f hf c_2
    refine lv_iload_n hx hb dX0_changeLight_8 rfl (lv_at hl 2 rfl) ?_
    refine lv_iconst (v := (1 : Int32)) hx hb dX0_changeLight_9 (by decide) ?_
    refine lv_sipush (v := (999 : Int32)) hx hb dX0_changeLight_10 (by decide) ?_
    obtain ⟨R3, e_3, hf⟩ := zbind_ex hf
    refine z_callRi (va_runSN (As := [.int x2, .int (1 : Int32), .int (999 : Int32)]) (rest := []) ⟨hx, hb, hml, hown, hts⟩ (c_X6_within l dC dI cI cC cO  x2 (1 : Int32) (999 : Int32) R3 e_3) ⟨va_cnB 3 hts gX0_changeLight_X6_within_n62 rfl rfl rfl hN.1 (hts _ k_X0_changeLight_10) (by decide +kernel) ⟨Nat.le_of_ble_eq_true rfl, Nat.le_of_ble_eq_true rfl⟩, (hts _ k_X0_changeLight_9), trivial⟩ ⟨zpR_blind, z_useR hK hN hP [] rfl⟩ rfl rfl hl.1 rfl (lv_room (Nat.le_of_ble_eq_true rfl)) dX0_changeLight_13 ⟨Nat.le_of_ble_eq_true rfl, Nat.le_of_ble_eq_true rfl⟩) ?_
    refine lv_if_ne (tgt := 22) hx hb dX0_changeLight_16 (by decide) (fun c_4 => ?_) (fun c_4 => ?_)
    · have hf := zif_f hf c_4
      refine lv_aload_n hx hb dX0_changeLight_22 rfl (lv_at hl 0 rfl) ?_
      refine va_get (D := (dC, dI)) (ci := 0) (v := .ref (aS 1)) (C := RX0) (T := TX0) (N := 10) hx hb hts u_X0_changeLight_X0 hown hK hP 0 rfl rfl 1 (by decide) (hts _ k_X0_changeLight_2) (fun _ h9 => h9) rfl dX0_changeLight_23 ?_
      refine lv_iload_n hx hb dX0_changeLight_26 rfl (lv_at hl 1 rfl) ?_
      obtain ⟨h_5, hf⟩ := zin_ex hf
      refine va_iald hx hb hK hP 2 0 rfl rfl h_5 dX0_changeLight_27 ?_
      refine lv_istore_n (lv' := [(3, .int (gS 1 x1.toNatClampNeg)), (0, .ref qS), (1, .int x1), (2, .int x2)]) hx hb dX0_changeLight_28 rfl hl (by decide) rfl (fun ls hl => ?_)
      refine lv_aload_n hx hb dX0_changeLight_29 rfl (lv_at hl 1 rfl) ?_
      refine va_get (D := (dC, dI)) (ci := 0) (v := .ref (aS 1)) (C := RX0) (T := TX0) (N := 10) hx hb hts u_X0_changeLight_X0 hown hK hP 0 rfl rfl 1 (by decide) (hts _ k_X0_changeLight_2) (fun _ h9 => h9) rfl dX0_changeLight_30 ?_
      refine lv_iload_n hx hb dX0_changeLight_33 rfl (lv_at hl 2 rfl) ?_
      refine lv_iload_n hx hb dX0_changeLight_34 rfl (lv_at hl 3 rfl) ?_
      obtain ⟨h_6, hf⟩ := zin_ex hf
      obtain ⟨gS_6, e_6, hf⟩ := zlet_ex hf
      refine z_iast (gs' := [(wX0 cI qS aS gS_6)]) hx hb hK hP hD hS 2 0 rfl rfl h_6 (by rw [e_6]; rfl) dX0_changeLight_35 (fun H locs hP hD hS => ?_)
      refine lv_iload_n hx hb dX0_changeLight_36 rfl (lv_at hl 0 rfl) ?_
      exact zM_ret (gs := [(wX0 cI qS aS gS_6)]) hx hb hr rfl hP hD hS (by rw [← Option.some.inj hf]; exact ⟨rfl, rfl⟩) hlk dX0_changeLight_37
    · have hf := zif_t hf c_4
      refine lv_ldc (v := (-1000000001 : Int32)) hx hb hown (hts _ k_X0_changeLight_1) dX0_changeLight_19 ?_
      exact zM_ret (gs := [(wX0 cI qS aS gS)]) hx hb hr rfl hP hD hS (by rw [← Option.some.inj hf]; exact ⟨rfl, rfl⟩) hlk dX0_changeLight_21

def f_X0_copyThing (gS : zG) (x1 : Int32) (x2 : Int32) : Option (zG) := (zbind (f_X6_within x1 (0 : Int32) (7 : Int32)) (fun R1 => (if R1 = 0 then (some (gS)) else (zbind (f_X6_within x2 (0 : Int32) (7 : Int32)) (fun R3 => (if R3 = 0 then (some (gS)) else (zin x1 8 (zin x2 8 (zlet (gup gS 3 x2.toNatClampNeg (gS 3 x1.toNatClampNeg)) (fun gS_6 => (zin x1 8 (zin x2 8 (zlet (gup gS_6 4 x2.toNatClampNeg (gS_6 4 x1.toNatClampNeg)) (fun gS_8 => (zin x1 8 (zin x2 8 (zlet (gup gS_8 5 x2.toNatClampNeg (gS_8 5 x1.toNatClampNeg)) (fun gS_10 => (zin x1 8 (zin x2 8 (zlet (gup gS_10 6 x2.toNatClampNeg (gS_10 6 x1.toNatClampNeg)) (fun gS_12 => (zin x1 8 (zin x2 8 (zlet (gup gS_12 7 x2.toNatClampNeg (gS_12 7 x1.toNatClampNeg)) (fun gS_14 => (some (gS_14))))))))))))))))))))))))))))
theorem u_X0_copyThing_X0 : ∀ w ∈ u_ws RX0 TX0 10, w ∈ wsX0_copyThing := fun w h => List.mem_cons_of_mem _ (List.mem_append_right _ h)
theorem k_X0_copyThing_7 : Cond.initialized RX6 ∈ wsX0_copyThing := List.mem_of_getElem? (i := 7) rfl
theorem k_X0_copyThing_6 : Cond.static yX6_within ∈ wsX0_copyThing := List.mem_of_getElem? (i := 6) rfl
theorem k_X0_copyThing_1 : Cond.fieldLink RX0 22 "JoinedLight$Bench" "places" "[I" ∈ wsX0_copyThing := List.mem_of_getElem? (i := 1) rfl
theorem k_X0_copyThing_2 : Cond.fieldLink RX0 25 "JoinedLight$Bench" "kinds" "[I" ∈ wsX0_copyThing := List.mem_of_getElem? (i := 2) rfl
theorem k_X0_copyThing_3 : Cond.fieldLink RX0 28 "JoinedLight$Bench" "firsts" "[I" ∈ wsX0_copyThing := List.mem_of_getElem? (i := 3) rfl
theorem k_X0_copyThing_4 : Cond.fieldLink RX0 31 "JoinedLight$Bench" "seconds" "[I" ∈ wsX0_copyThing := List.mem_of_getElem? (i := 4) rfl
theorem k_X0_copyThing_5 : Cond.fieldLink RX0 34 "JoinedLight$Bench" "turns" "[I" ∈ wsX0_copyThing := List.mem_of_getElem? (i := 5) rfl
abbrev rm_X0_copyThing : Room := { frames := 1, cells := 0, slots := 0, locals := 22 }
set_option maxHeartbeats 4000000 in
set_option maxRecDepth 100000 in
theorem c_X0_copyThing (l : Launch) (dC : Nat → ClassId) (dI : Nat → Nat → Nat) (cI cC cO : ClassId) (qS : Nat) (aS : Nat → Nat) (gS : zG) (x1 : Int32) (x2 : Int32) (R : zG) (hf : f_X0_copyThing gS x1 x2 = some R) : cM l (dC, dI) (zT cI cC cO) yX0_copyThing wsX0_copyThing rm_X0_copyThing [.ref qS, .int x1, .int x2] [(wX0 cI qS aS gS)] [(wX0 cI qS aS R)] none 0 0 := by
  refine zM_in (cc := cX0_copyThing) (maxL := 3) (ret := none) (plainFor_of_name (by decide)) rfl (Nat.le_of_ble_eq_true rfl) ?_
  intro p e s m below meth c hx hb hml hr hlk hown hts hK hN A hA hP hD hS ls hl
  have hl : lv_has ls 3 [(0, .ref qS), (1, .int x1), (2, .int x2)] := hl
  unfold f_X0_copyThing at hf
  obtain ⟨H, hH⟩ : ∃ H, H = s.heap := ⟨_, rfl⟩
  obtain ⟨locs, hlocs⟩ : ∃ locs : List Loc, locs = [] := ⟨_, rfl⟩
  have hS : va_S A s.heap H locs := by rw [hH, hlocs]; exact hS
  rw [← hH] at hP
  refine zheap hH hlocs ?_
  refine lv_iload_n hx hb dX0_copyThing_0 rfl (lv_at hl 1 rfl) ?_
  refine lv_iconst (v := (0 : Int32)) hx hb dX0_copyThing_1 (by decide) ?_
  refine lv_bipush (v := (7 : Int32)) hx hb dX0_copyThing_2 (by decide) ?_
  obtain ⟨R1, e_1, hf⟩ := zbind_ex hf
  refine z_callRi (va_runSN (As := [.int x1, .int (0 : Int32), .int (7 : Int32)]) (rest := []) ⟨hx, hb, hml, hown, hts⟩ (c_X6_within l dC dI cI cC cO  x1 (0 : Int32) (7 : Int32) R1 e_1) ⟨va_cnB 3 hts gX0_copyThing_X6_within_n62 rfl rfl rfl hN.1 (hts _ k_X0_copyThing_7) (by decide +kernel) ⟨Nat.le_of_ble_eq_true rfl, Nat.le_of_ble_eq_true rfl⟩, (hts _ k_X0_copyThing_6), trivial⟩ ⟨zpR_blind, z_useR hK hN hP [] rfl⟩ rfl rfl hl.1 rfl (lv_room (Nat.le_of_ble_eq_true rfl)) dX0_copyThing_4 ⟨Nat.le_of_ble_eq_true rfl, Nat.le_of_ble_eq_true rfl⟩) ?_
  refine lv_if_eq (tgt := 20) hx hb dX0_copyThing_7 (by decide) (fun c_2 => ?_) (fun c_2 => ?_)
  · have hf := zif_t hf c_2
    exact zM_vret (gs := [(wX0 cI qS aS gS)]) hx hb hr hP hD hS (by rw [← Option.some.inj hf]; exact ⟨rfl, rfl⟩) hlk dX0_copyThing_20
  · have hf := zif_f hf c_2
    refine lv_iload_n hx hb dX0_copyThing_10 rfl (lv_at hl 2 rfl) ?_
    refine lv_iconst (v := (0 : Int32)) hx hb dX0_copyThing_11 (by decide) ?_
    refine lv_bipush (v := (7 : Int32)) hx hb dX0_copyThing_12 (by decide) ?_
    obtain ⟨R3, e_3, hf⟩ := zbind_ex hf
    refine z_callRi (va_runSN (As := [.int x2, .int (0 : Int32), .int (7 : Int32)]) (rest := []) ⟨hx, hb, hml, hown, hts⟩ (c_X6_within l dC dI cI cC cO  x2 (0 : Int32) (7 : Int32) R3 e_3) ⟨va_cnB 3 hts gX0_copyThing_X6_within_n62 rfl rfl rfl hN.1 (hts _ k_X0_copyThing_7) (by decide +kernel) ⟨Nat.le_of_ble_eq_true rfl, Nat.le_of_ble_eq_true rfl⟩, (hts _ k_X0_copyThing_6), trivial⟩ ⟨zpR_blind, z_useR hK hN hP [] rfl⟩ rfl rfl hl.1 rfl (lv_room (Nat.le_of_ble_eq_true rfl)) dX0_copyThing_14 ⟨Nat.le_of_ble_eq_true rfl, Nat.le_of_ble_eq_true rfl⟩) ?_
    refine lv_if_ne (tgt := 21) hx hb dX0_copyThing_17 (by decide) (fun c_4 => ?_) (fun c_4 => ?_)
    · have hf := zif_f hf c_4
      refine lv_aload_n hx hb dX0_copyThing_21 rfl (lv_at hl 0 rfl) ?_
      refine va_get (D := (dC, dI)) (ci := 0) (v := .ref (aS 3)) (C := RX0) (T := TX0) (N := 10) hx hb hts u_X0_copyThing_X0 hown hK hP 0 rfl rfl 3 (by decide) (hts _ k_X0_copyThing_1) (fun _ h9 => h9) rfl dX0_copyThing_22 ?_
      refine lv_iload_n hx hb dX0_copyThing_25 rfl (lv_at hl 2 rfl) ?_
      refine lv_aload_n hx hb dX0_copyThing_26 rfl (lv_at hl 0 rfl) ?_
      refine va_get (D := (dC, dI)) (ci := 0) (v := .ref (aS 3)) (C := RX0) (T := TX0) (N := 10) hx hb hts u_X0_copyThing_X0 hown hK hP 0 rfl rfl 3 (by decide) (hts _ k_X0_copyThing_1) (fun _ h9 => h9) rfl dX0_copyThing_27 ?_
      refine lv_iload_n hx hb dX0_copyThing_30 rfl (lv_at hl 1 rfl) ?_
      obtain ⟨h_5, hf⟩ := zin_ex hf
      refine va_iald hx hb hK hP 3 0 rfl rfl h_5 dX0_copyThing_31 ?_
      obtain ⟨h_6, hf⟩ := zin_ex hf
      obtain ⟨gS_6, e_6, hf⟩ := zlet_ex hf
      refine z_iast (gs' := [(wX0 cI qS aS gS_6)]) hx hb hK hP hD hS 3 0 rfl rfl h_6 (by rw [e_6]; rfl) dX0_copyThing_32 (fun H locs hP hD hS => ?_)
      refine lv_aload_n hx hb dX0_copyThing_33 rfl (lv_at hl 0 rfl) ?_
      refine va_get (D := (dC, dI)) (ci := 0) (v := .ref (aS 4)) (C := RX0) (T := TX0) (N := 10) hx hb hts u_X0_copyThing_X0 hown hK hP 0 rfl rfl 4 (by decide) (hts _ k_X0_copyThing_2) (fun _ h9 => h9) rfl dX0_copyThing_34 ?_
      refine lv_iload_n hx hb dX0_copyThing_37 rfl (lv_at hl 2 rfl) ?_
      refine lv_aload_n hx hb dX0_copyThing_38 rfl (lv_at hl 0 rfl) ?_
      refine va_get (D := (dC, dI)) (ci := 0) (v := .ref (aS 4)) (C := RX0) (T := TX0) (N := 10) hx hb hts u_X0_copyThing_X0 hown hK hP 0 rfl rfl 4 (by decide) (hts _ k_X0_copyThing_2) (fun _ h9 => h9) rfl dX0_copyThing_39 ?_
      refine lv_iload_n hx hb dX0_copyThing_42 rfl (lv_at hl 1 rfl) ?_
      obtain ⟨h_7, hf⟩ := zin_ex hf
      refine va_iald hx hb hK hP 4 0 rfl rfl h_7 dX0_copyThing_43 ?_
      obtain ⟨h_8, hf⟩ := zin_ex hf
      obtain ⟨gS_8, e_8, hf⟩ := zlet_ex hf
      refine z_iast (gs' := [(wX0 cI qS aS gS_8)]) hx hb hK hP hD hS 4 0 rfl rfl h_8 (by rw [e_8]; rfl) dX0_copyThing_44 (fun H locs hP hD hS => ?_)
      refine lv_aload_n hx hb dX0_copyThing_45 rfl (lv_at hl 0 rfl) ?_
      refine va_get (D := (dC, dI)) (ci := 0) (v := .ref (aS 5)) (C := RX0) (T := TX0) (N := 10) hx hb hts u_X0_copyThing_X0 hown hK hP 0 rfl rfl 5 (by decide) (hts _ k_X0_copyThing_3) (fun _ h9 => h9) rfl dX0_copyThing_46 ?_
      refine lv_iload_n hx hb dX0_copyThing_49 rfl (lv_at hl 2 rfl) ?_
      refine lv_aload_n hx hb dX0_copyThing_50 rfl (lv_at hl 0 rfl) ?_
      refine va_get (D := (dC, dI)) (ci := 0) (v := .ref (aS 5)) (C := RX0) (T := TX0) (N := 10) hx hb hts u_X0_copyThing_X0 hown hK hP 0 rfl rfl 5 (by decide) (hts _ k_X0_copyThing_3) (fun _ h9 => h9) rfl dX0_copyThing_51 ?_
      refine lv_iload_n hx hb dX0_copyThing_54 rfl (lv_at hl 1 rfl) ?_
      obtain ⟨h_9, hf⟩ := zin_ex hf
      refine va_iald hx hb hK hP 5 0 rfl rfl h_9 dX0_copyThing_55 ?_
      obtain ⟨h_10, hf⟩ := zin_ex hf
      obtain ⟨gS_10, e_10, hf⟩ := zlet_ex hf
      refine z_iast (gs' := [(wX0 cI qS aS gS_10)]) hx hb hK hP hD hS 5 0 rfl rfl h_10 (by rw [e_10]; rfl) dX0_copyThing_56 (fun H locs hP hD hS => ?_)
      refine lv_aload_n hx hb dX0_copyThing_57 rfl (lv_at hl 0 rfl) ?_
      refine va_get (D := (dC, dI)) (ci := 0) (v := .ref (aS 6)) (C := RX0) (T := TX0) (N := 10) hx hb hts u_X0_copyThing_X0 hown hK hP 0 rfl rfl 6 (by decide) (hts _ k_X0_copyThing_4) (fun _ h9 => h9) rfl dX0_copyThing_58 ?_
      refine lv_iload_n hx hb dX0_copyThing_61 rfl (lv_at hl 2 rfl) ?_
      refine lv_aload_n hx hb dX0_copyThing_62 rfl (lv_at hl 0 rfl) ?_
      refine va_get (D := (dC, dI)) (ci := 0) (v := .ref (aS 6)) (C := RX0) (T := TX0) (N := 10) hx hb hts u_X0_copyThing_X0 hown hK hP 0 rfl rfl 6 (by decide) (hts _ k_X0_copyThing_4) (fun _ h9 => h9) rfl dX0_copyThing_63 ?_
      refine lv_iload_n hx hb dX0_copyThing_66 rfl (lv_at hl 1 rfl) ?_
      obtain ⟨h_11, hf⟩ := zin_ex hf
      refine va_iald hx hb hK hP 6 0 rfl rfl h_11 dX0_copyThing_67 ?_
      obtain ⟨h_12, hf⟩ := zin_ex hf
      obtain ⟨gS_12, e_12, hf⟩ := zlet_ex hf
      refine z_iast (gs' := [(wX0 cI qS aS gS_12)]) hx hb hK hP hD hS 6 0 rfl rfl h_12 (by rw [e_12]; rfl) dX0_copyThing_68 (fun H locs hP hD hS => ?_)
      refine lv_aload_n hx hb dX0_copyThing_69 rfl (lv_at hl 0 rfl) ?_
      refine va_get (D := (dC, dI)) (ci := 0) (v := .ref (aS 7)) (C := RX0) (T := TX0) (N := 10) hx hb hts u_X0_copyThing_X0 hown hK hP 0 rfl rfl 7 (by decide) (hts _ k_X0_copyThing_5) (fun _ h9 => h9) rfl dX0_copyThing_70 ?_
      refine lv_iload_n hx hb dX0_copyThing_73 rfl (lv_at hl 2 rfl) ?_
      refine lv_aload_n hx hb dX0_copyThing_74 rfl (lv_at hl 0 rfl) ?_
      refine va_get (D := (dC, dI)) (ci := 0) (v := .ref (aS 7)) (C := RX0) (T := TX0) (N := 10) hx hb hts u_X0_copyThing_X0 hown hK hP 0 rfl rfl 7 (by decide) (hts _ k_X0_copyThing_5) (fun _ h9 => h9) rfl dX0_copyThing_75 ?_
      refine lv_iload_n hx hb dX0_copyThing_78 rfl (lv_at hl 1 rfl) ?_
      obtain ⟨h_13, hf⟩ := zin_ex hf
      refine va_iald hx hb hK hP 7 0 rfl rfl h_13 dX0_copyThing_79 ?_
      obtain ⟨h_14, hf⟩ := zin_ex hf
      obtain ⟨gS_14, e_14, hf⟩ := zlet_ex hf
      refine z_iast (gs' := [(wX0 cI qS aS gS_14)]) hx hb hK hP hD hS 7 0 rfl rfl h_14 (by rw [e_14]; rfl) dX0_copyThing_80 (fun H locs hP hD hS => ?_)
      exact zM_vret (gs := [(wX0 cI qS aS gS_14)]) hx hb hr hP hD hS (by rw [← Option.some.inj hf]; exact ⟨rfl, rfl⟩) hlk dX0_copyThing_81
    · have hf := zif_t hf c_4
      exact zM_vret (gs := [(wX0 cI qS aS gS)]) hx hb hr hP hD hS (by rw [← Option.some.inj hf]; exact ⟨rfl, rfl⟩) hlk dX0_copyThing_20

def f_X0_addThing_43_b   (k43 : Int32 → Int32 → Int32 → Int32 → Int32 → Int32 → Int32 → zG → Option (Int32 × zG)) (y1 : Int32) (y2 : Int32) (y3 : Int32) (y4 : Int32) (y5 : Int32) (y6 : Int32) (y7 : Int32) (gS : zG) : Option (Int32 × zG) := (if y7 ≤ y6 then (zin y6 8 (zlet (gup gS 3 y6.toNatClampNeg y1) (fun gS_7 => (zin y6 8 (zlet (gup gS_7 4 y6.toNatClampNeg y2) (fun gS_8 => (zin y6 8 (zlet (gup gS_8 5 y6.toNatClampNeg y3) (fun gS_9 => (zin y6 8 (zlet (gup gS_9 6 y6.toNatClampNeg y4) (fun gS_10 => (zin y6 8 (zlet (gup gS_10 7 y6.toNatClampNeg y5) (fun gS_11 => (zlet (gup gS_11 8 0 ((gS_11 8 0) + (1 : Int32))) (fun gS_12 => (some ((gS_12 8 0), gS_12))))))))))))))))))) else (zbind (f_X0_copyThing gS (y7 - (1 : Int32)) y7) (fun R13 => (k43 y1 y2 y3 y4 y5 y6 (y7 + (-1 : Int32)) R13))))
def f_X0_addThing_43   : Nat → Int32 → Int32 → Int32 → Int32 → Int32 → Int32 → Int32 → zG → Option (Int32 × zG)
  | 0 => fun _ _ _ _ _ _ _ _ => none
  | n + 1 => f_X0_addThing_43_b   (f_X0_addThing_43   n)
def f_X0_addThing (gS : zG) (x1 : Int32) (x2 : Int32) (x3 : Int32) (x4 : Int32) (x5 : Int32) : Option (Int32 × zG) := (zbind (f_X0_indexOf gS x1) (fun R1 => (if R1 < 0 then (zbind (f_X0_thingsAhead gS x1) (fun R3 => (if (8 : Int32) ≤ (gS 8 0) then (some ((-1000000003 : Int32), gS)) else (if R3 < (8 : Int32) then (f_X0_addThing_43   zfuel x1 x2 x3 x4 x5 R3 (gS 8 0) gS) else (some ((-1000000003 : Int32), gS)))))) else (some ((-1000000002 : Int32), gS)))))
theorem u_X0_addThing_X0 : ∀ w ∈ u_ws RX0 TX0 10, w ∈ wsX0_addThing := fun w h => List.mem_cons_of_mem _ (List.mem_append_right _ h)
theorem k_X0_addThing_2 : Cond.fieldLink RX0 37 "JoinedLight$Bench" "thingCount" "I" ∈ wsX0_addThing := List.mem_of_getElem? (i := 2) rfl
theorem k_X0_addThing_3 : Cond.constant RX0 67 (-1000000003) ∈ wsX0_addThing := List.mem_of_getElem? (i := 3) rfl
theorem k_X0_addThing_1 : Cond.constant RX0 76 (-1000000002) ∈ wsX0_addThing := List.mem_of_getElem? (i := 1) rfl
theorem k_X0_addThing_4 : Cond.fieldLink RX0 22 "JoinedLight$Bench" "places" "[I" ∈ wsX0_addThing := List.mem_of_getElem? (i := 4) rfl
theorem k_X0_addThing_5 : Cond.fieldLink RX0 25 "JoinedLight$Bench" "kinds" "[I" ∈ wsX0_addThing := List.mem_of_getElem? (i := 5) rfl
theorem k_X0_addThing_6 : Cond.fieldLink RX0 28 "JoinedLight$Bench" "firsts" "[I" ∈ wsX0_addThing := List.mem_of_getElem? (i := 6) rfl
theorem k_X0_addThing_7 : Cond.fieldLink RX0 31 "JoinedLight$Bench" "seconds" "[I" ∈ wsX0_addThing := List.mem_of_getElem? (i := 7) rfl
theorem k_X0_addThing_8 : Cond.fieldLink RX0 34 "JoinedLight$Bench" "turns" "[I" ∈ wsX0_addThing := List.mem_of_getElem? (i := 8) rfl
abbrev rm_X0_addThing : Room := { frames := 2, cells := 0, slots := 0, locals := 44 }
set_option maxHeartbeats 4000000 in
set_option maxRecDepth 100000 in
theorem c_X0_addThing (l : Launch) (dC : Nat → ClassId) (dI : Nat → Nat → Nat) (cI cC cO : ClassId) (qS : Nat) (aS : Nat → Nat) (gS : zG) (x1 : Int32) (x2 : Int32) (x3 : Int32) (x4 : Int32) (x5 : Int32) (R : Int32 × zG) (hf : f_X0_addThing gS x1 x2 x3 x4 x5 = some R) : cM l (dC, dI) (zT cI cC cO) yX0_addThing wsX0_addThing rm_X0_addThing [.ref qS, .int x1, .int x2, .int x3, .int x4, .int x5] [(wX0 cI qS aS gS)] [(wX0 cI qS aS R.2)] (some (.int R.1)) 0 0 := by
  refine zM_in (cc := cX0_addThing) (maxL := 8) (ret := (some .int)) (plainFor_of_name (by decide)) rfl (Nat.le_of_ble_eq_true rfl) ?_
  intro p e s m below meth c hx hb hml hr hlk hown hts hK hN A hA hP hD hS ls hl
  have hl : lv_has ls 8 [(0, .ref qS), (1, .int x1), (2, .int x2), (3, .int x3), (4, .int x4), (5, .int x5)] := hl
  have w43 : ∀ (n43 : Nat) (y1 : Int32) (y2 : Int32) (y3 : Int32) (y4 : Int32) (y5 : Int32) (y6 : Int32) (y7 : Int32) (gS : zG) (H : Heap) (locs : List Loc) (ls : Array Slot), f_X0_addThing_43   n43 y1 y2 y3 y4 y5 y6 y7 gS = some R → va_P (dC, dI) vwCl [(wX0 cI qS aS gS)].flatten H → va_D A [(wX0 cI qS aS gS)].flatten → va_S A s.heap H locs → lv_has ls 8 [(0, .ref qS), (1, .int y1), (2, .int y2), (3, .int y3), (4, .int y4), (5, .int y5), (6, .int y6), (7, .int y7)] → W p l e (headSpec wsX0_addThing rm_X0_addThing).room s m [.ref qS, .int x1, .int x2, .int x3, .int x4, .int x5].toArray below meth c H locs 0 0 (MQ below (zqM (dC, dI) (some (.int R.1)) [(wX0 cI qS aS R.2)] A) [.ref qS, .int x1, .int x2, .int x3, .int x4, .int x5].toArray s 0 0 A) (F0 m 43 ls []) := by
    intro n43
    induction n43 with
    | zero =>
      intro y1 y2 y3 y4 y5 y6 y7 gS H locs ls hf hP hD hS hl
      have hf : (none : Option (Int32 × zG)) = some R := hf
      cases hf
    | succ n43 ih43 =>
      intro y1 y2 y3 y4 y5 y6 y7 gS H locs ls hf hP hD hS hl
      have hf : f_X0_addThing_43_b   (f_X0_addThing_43   n43) y1 y2 y3 y4 y5 y6 y7 gS = some R := hf
      unfold f_X0_addThing_43_b at hf
      refine lv_iload hx hb dX0_addThing_43 (lv_at hl 7 rfl) ?_
      refine lv_iload hx hb dX0_addThing_45 (lv_at hl 6 rfl) ?_
      refine lv_icmp_le (tgt := 66) hx hb dX0_addThing_47 (by decide) (fun c_6 => ?_) (fun c_6 => ?_)
      · have hf := zif_t hf c_6
        refine lv_aload_n hx hb dX0_addThing_66 rfl (lv_at hl 0 rfl) ?_
        refine va_get (D := (dC, dI)) (ci := 0) (v := .ref (aS 3)) (C := RX0) (T := TX0) (N := 10) hx hb hts u_X0_addThing_X0 hown hK hP 0 rfl rfl 3 (by decide) (hts _ k_X0_addThing_4) (fun _ h9 => h9) rfl dX0_addThing_67 ?_
        refine lv_iload hx hb dX0_addThing_70 (lv_at hl 6 rfl) ?_
        refine lv_iload_n hx hb dX0_addThing_72 rfl (lv_at hl 1 rfl) ?_
        obtain ⟨h_7, hf⟩ := zin_ex hf
        obtain ⟨gS_7, e_7, hf⟩ := zlet_ex hf
        refine z_iast (gs' := [(wX0 cI qS aS gS_7)]) hx hb hK hP hD hS 3 0 rfl rfl h_7 (by rw [e_7]; rfl) dX0_addThing_73 (fun H locs hP hD hS => ?_)
        refine lv_aload_n hx hb dX0_addThing_74 rfl (lv_at hl 0 rfl) ?_
        refine va_get (D := (dC, dI)) (ci := 0) (v := .ref (aS 4)) (C := RX0) (T := TX0) (N := 10) hx hb hts u_X0_addThing_X0 hown hK hP 0 rfl rfl 4 (by decide) (hts _ k_X0_addThing_5) (fun _ h9 => h9) rfl dX0_addThing_75 ?_
        refine lv_iload hx hb dX0_addThing_78 (lv_at hl 6 rfl) ?_
        refine lv_iload_n hx hb dX0_addThing_80 rfl (lv_at hl 2 rfl) ?_
        obtain ⟨h_8, hf⟩ := zin_ex hf
        obtain ⟨gS_8, e_8, hf⟩ := zlet_ex hf
        refine z_iast (gs' := [(wX0 cI qS aS gS_8)]) hx hb hK hP hD hS 4 0 rfl rfl h_8 (by rw [e_8]; rfl) dX0_addThing_81 (fun H locs hP hD hS => ?_)
        refine lv_aload_n hx hb dX0_addThing_82 rfl (lv_at hl 0 rfl) ?_
        refine va_get (D := (dC, dI)) (ci := 0) (v := .ref (aS 5)) (C := RX0) (T := TX0) (N := 10) hx hb hts u_X0_addThing_X0 hown hK hP 0 rfl rfl 5 (by decide) (hts _ k_X0_addThing_6) (fun _ h9 => h9) rfl dX0_addThing_83 ?_
        refine lv_iload hx hb dX0_addThing_86 (lv_at hl 6 rfl) ?_
        refine lv_iload_n hx hb dX0_addThing_88 rfl (lv_at hl 3 rfl) ?_
        obtain ⟨h_9, hf⟩ := zin_ex hf
        obtain ⟨gS_9, e_9, hf⟩ := zlet_ex hf
        refine z_iast (gs' := [(wX0 cI qS aS gS_9)]) hx hb hK hP hD hS 5 0 rfl rfl h_9 (by rw [e_9]; rfl) dX0_addThing_89 (fun H locs hP hD hS => ?_)
        refine lv_aload_n hx hb dX0_addThing_90 rfl (lv_at hl 0 rfl) ?_
        refine va_get (D := (dC, dI)) (ci := 0) (v := .ref (aS 6)) (C := RX0) (T := TX0) (N := 10) hx hb hts u_X0_addThing_X0 hown hK hP 0 rfl rfl 6 (by decide) (hts _ k_X0_addThing_7) (fun _ h9 => h9) rfl dX0_addThing_91 ?_
        refine lv_iload hx hb dX0_addThing_94 (lv_at hl 6 rfl) ?_
        refine lv_iload hx hb dX0_addThing_96 (lv_at hl 4 rfl) ?_
        obtain ⟨h_10, hf⟩ := zin_ex hf
        obtain ⟨gS_10, e_10, hf⟩ := zlet_ex hf
        refine z_iast (gs' := [(wX0 cI qS aS gS_10)]) hx hb hK hP hD hS 6 0 rfl rfl h_10 (by rw [e_10]; rfl) dX0_addThing_98 (fun H locs hP hD hS => ?_)
        refine lv_aload_n hx hb dX0_addThing_99 rfl (lv_at hl 0 rfl) ?_
        refine va_get (D := (dC, dI)) (ci := 0) (v := .ref (aS 7)) (C := RX0) (T := TX0) (N := 10) hx hb hts u_X0_addThing_X0 hown hK hP 0 rfl rfl 7 (by decide) (hts _ k_X0_addThing_8) (fun _ h9 => h9) rfl dX0_addThing_100 ?_
        refine lv_iload hx hb dX0_addThing_103 (lv_at hl 6 rfl) ?_
        refine lv_iload hx hb dX0_addThing_105 (lv_at hl 5 rfl) ?_
        obtain ⟨h_11, hf⟩ := zin_ex hf
        obtain ⟨gS_11, e_11, hf⟩ := zlet_ex hf
        refine z_iast (gs' := [(wX0 cI qS aS gS_11)]) hx hb hK hP hD hS 7 0 rfl rfl h_11 (by rw [e_11]; rfl) dX0_addThing_107 (fun H locs hP hD hS => ?_)
        refine lv_aload_n hx hb dX0_addThing_108 rfl (lv_at hl 0 rfl) ?_
        refine lv_dup hx hb dX0_addThing_109 rfl ?_
        refine va_get (D := (dC, dI)) (ci := 0) (v := .int (gS_11 8 0)) (C := RX0) (T := TX0) (N := 10) hx hb hts u_X0_addThing_X0 hown hK hP 0 rfl rfl 8 (by decide) (hts _ k_X0_addThing_2) (fun _ h9 => h9) rfl dX0_addThing_110 ?_
        refine lv_iconst (v := (1 : Int32)) hx hb dX0_addThing_113 (by decide) ?_
        refine lv_iadd hx hb dX0_addThing_114 ?_
        obtain ⟨gS_12, e_12, hf⟩ := zlet_ex hf
        refine z_put (gs' := [(wX0 cI qS aS gS_12)]) (D := (dC, dI)) (ci := 0) (ty := .int) (C := RX0) (T := TX0) (N := 10) hx hb hts u_X0_addThing_X0 tyX0 tyX0_ok nmX0 hown hK hP hD hS 0 rfl rfl 8 (by decide) (hts _ k_X0_addThing_2) (fun _ h9 => h9) rfl (by decide +kernel) rfl rfl (Nat.le_of_ble_eq_true rfl) (by rw [e_12]; rfl) dX0_addThing_115 (fun H locs hP hD hS => ?_)
        refine lv_aload_n hx hb dX0_addThing_118 rfl (lv_at hl 0 rfl) ?_
        refine va_get (D := (dC, dI)) (ci := 0) (v := .int (gS_12 8 0)) (C := RX0) (T := TX0) (N := 10) hx hb hts u_X0_addThing_X0 hown hK hP 0 rfl rfl 8 (by decide) (hts _ k_X0_addThing_2) (fun _ h9 => h9) rfl dX0_addThing_119 ?_
        exact zM_ret (gs := [(wX0 cI qS aS gS_12)]) hx hb hr rfl hP hD hS (by rw [← Option.some.inj hf]; exact ⟨rfl, rfl⟩) hlk dX0_addThing_122
      · have hf := zif_f hf c_6
        refine lv_aload_n hx hb dX0_addThing_50 rfl (lv_at hl 0 rfl) ?_
        refine lv_iload hx hb dX0_addThing_51 (lv_at hl 7 rfl) ?_
        refine lv_iconst (v := (1 : Int32)) hx hb dX0_addThing_53 (by decide) ?_
        refine lv_isub hx hb dX0_addThing_54 ?_
        refine lv_iload hx hb dX0_addThing_55 (lv_at hl 7 rfl) ?_
        obtain ⟨R13, e_13, hf⟩ := zbind_ex hf
        refine z_callM (gs2 := [(wX0 cI qS aS R13)]) hP hD hS hA [0] [] rfl rfl rfl (show List.Perm [0] (List.range 1) from by decide) rfl (va_runV (As := [.int (y7 - (1 : Int32)), .int y7]) (rest := []) ⟨hx, hb, hml, hown, hts⟩ (c_X0_copyThing l dC dI cI cC cO qS aS gS (y7 - (1 : Int32)) y7 R13 e_13 H.size) (cwV 2 hts gX0_addThing_X0_copyThing rfl rfl rfl (by decide +kernel) ⟨Nat.le_of_ble_eq_true rfl, Nat.le_of_ble_eq_true rfl⟩) ⟨zpM_blind, va_recv hK hP (ci := 0) (q0 := 0) rfl rfl, z_useM hK hN hP hD [0] [] rfl (show List.Perm [0] (List.range 1) from by decide)⟩ rfl rfl hl.1 rfl (lv_room (Nat.le_of_ble_eq_true rfl)) dX0_addThing_57 ⟨Nat.le_of_ble_eq_true rfl, Nat.le_of_ble_eq_true rfl⟩) (fun H locs hP hD hS => ?_)
        refine W.eq (g2 := F0 m 60 ls []) rfl ?_
        refine lv_iinc (v := (y7 + (-1 : Int32))) (lv' := [(7, .int (y7 + (-1 : Int32))), (0, .ref qS), (1, .int y1), (2, .int y2), (3, .int y3), (4, .int y4), (5, .int y5), (6, .int y6)]) hx hb dX0_addThing_60 hl (k := 7) rfl rfl (by decide) rfl (fun ls hl => ?_)
        refine lv_goto (tgt := 43) hx hb dX0_addThing_63 (by decide) ?_
        exact ih43 y1 y2 y3 y4 y5 y6 (y7 + (-1 : Int32)) R13 H locs ls hf hP hD hS (lv_sub hl [1, 2, 3, 4, 5, 6, 7, 0] rfl)
  unfold f_X0_addThing at hf
  obtain ⟨H, hH⟩ : ∃ H, H = s.heap := ⟨_, rfl⟩
  obtain ⟨locs, hlocs⟩ : ∃ locs : List Loc, locs = [] := ⟨_, rfl⟩
  have hS : va_S A s.heap H locs := by rw [hH, hlocs]; exact hS
  rw [← hH] at hP
  refine zheap hH hlocs ?_
  refine lv_aload_n hx hb dX0_addThing_0 rfl (lv_at hl 0 rfl) ?_
  refine lv_iload_n hx hb dX0_addThing_1 rfl (lv_at hl 1 rfl) ?_
  obtain ⟨R1, e_1, hf⟩ := zbind_ex hf
  refine z_callRi (va_runV (As := [.int x1]) (rest := []) ⟨hx, hb, hml, hown, hts⟩ (c_X0_indexOf l dC dI cI cC cO qS aS gS x1 R1 e_1) (cwV 1 hts gX0_addThing_X0_indexOf rfl rfl rfl (by decide +kernel) ⟨Nat.le_of_ble_eq_true rfl, Nat.le_of_ble_eq_true rfl⟩) ⟨zpR_blind, va_recv hK hP (ci := 0) (q0 := 0) rfl rfl, z_useR hK hN hP [0] rfl⟩ rfl rfl hl.1 rfl (lv_room (Nat.le_of_ble_eq_true rfl)) dX0_addThing_2 ⟨Nat.le_of_ble_eq_true rfl, Nat.le_of_ble_eq_true rfl⟩) ?_
  refine lv_if_lt (tgt := 11) hx hb dX0_addThing_5 (by decide) (fun c_2 => ?_) (fun c_2 => ?_)
  · have hf := zif_t hf c_2
    refine lv_aload_n hx hb dX0_addThing_11 rfl (lv_at hl 0 rfl) ?_
    refine lv_iload_n hx hb dX0_addThing_12 rfl (lv_at hl 1 rfl) ?_
    obtain ⟨R3, e_3, hf⟩ := zbind_ex hf
    refine z_callRi (va_runV (As := [.int x1]) (rest := []) ⟨hx, hb, hml, hown, hts⟩ (c_X0_thingsAhead l dC dI cI cC cO qS aS gS x1 R3 e_3) (cwV 1 hts gX0_addThing_X0_thingsAhead rfl rfl rfl (by decide +kernel) ⟨Nat.le_of_ble_eq_true rfl, Nat.le_of_ble_eq_true rfl⟩) ⟨zpR_blind, va_recv hK hP (ci := 0) (q0 := 0) rfl rfl, z_useR hK hN hP [0] rfl⟩ rfl rfl hl.1 rfl (lv_room (Nat.le_of_ble_eq_true rfl)) dX0_addThing_13 ⟨Nat.le_of_ble_eq_true rfl, Nat.le_of_ble_eq_true rfl⟩) ?_
    refine lv_istore (lv' := [(6, .int R3), (0, .ref qS), (1, .int x1), (2, .int x2), (3, .int x3), (4, .int x4), (5, .int x5)]) hx hb dX0_addThing_16 hl (by decide) rfl (fun ls hl => ?_)
    refine lv_aload_n hx hb dX0_addThing_18 rfl (lv_at hl 1 rfl) ?_
    refine va_get (D := (dC, dI)) (ci := 0) (v := .int (gS 8 0)) (C := RX0) (T := TX0) (N := 10) hx hb hts u_X0_addThing_X0 hown hK hP 0 rfl rfl 8 (by decide) (hts _ k_X0_addThing_2) (fun _ h9 => h9) rfl dX0_addThing_19 ?_
    refine lv_bipush (v := (8 : Int32)) hx hb dX0_addThing_22 (by decide) ?_
    refine lv_icmp_ge (tgt := 34) hx hb dX0_addThing_24 (by decide) (fun c_4 => ?_) (fun c_4 => ?_)
    · have hf := zif_t hf c_4
      refine lv_ldc (v := (-1000000003 : Int32)) hx hb hown (hts _ k_X0_addThing_3) dX0_addThing_34 ?_
      exact zM_ret (gs := [(wX0 cI qS aS gS)]) hx hb hr rfl hP hD hS (by rw [← Option.some.inj hf]; exact ⟨rfl, rfl⟩) hlk dX0_addThing_36
    · have hf := zif_f hf c_4
      refine lv_iload hx hb dX0_addThing_27 (lv_at hl 0 rfl) ?_
      refine lv_bipush (v := (8 : Int32)) hx hb dX0_addThing_29 (by decide) ?_
      refine lv_icmp_lt (tgt := 37) hx hb dX0_addThing_31 (by decide) (fun c_5 => ?_) (fun c_5 => ?_)
      · have hf := zif_t hf c_5
        refine lv_aload_n hx hb dX0_addThing_37 rfl (lv_at hl 1 rfl) ?_
        refine va_get (D := (dC, dI)) (ci := 0) (v := .int (gS 8 0)) (C := RX0) (T := TX0) (N := 10) hx hb hts u_X0_addThing_X0 hown hK hP 0 rfl rfl 8 (by decide) (hts _ k_X0_addThing_2) (fun _ h9 => h9) rfl dX0_addThing_38 ?_
        refine lv_istore (lv' := [(7, .int (gS 8 0)), (6, .int R3), (0, .ref qS), (1, .int x1), (2, .int x2), (3, .int x3), (4, .int x4), (5, .int x5)]) hx hb dX0_addThing_41 hl (by decide) rfl (fun ls hl => ?_)
        exact w43 zfuel x1 x2 x3 x4 x5 R3 (gS 8 0) gS H locs ls hf hP hD hS (lv_sub hl [2, 3, 4, 5, 6, 7, 1, 0] rfl)
      · have hf := zif_f hf c_5
        refine lv_ldc (v := (-1000000003 : Int32)) hx hb hown (hts _ k_X0_addThing_3) dX0_addThing_34 ?_
        exact zM_ret (gs := [(wX0 cI qS aS gS)]) hx hb hr rfl hP hD hS (by rw [← Option.some.inj hf]; exact ⟨rfl, rfl⟩) hlk dX0_addThing_36
  · have hf := zif_f hf c_2
    refine lv_ldc (v := (-1000000002 : Int32)) hx hb hown (hts _ k_X0_addThing_1) dX0_addThing_8 ?_
    exact zM_ret (gs := [(wX0 cI qS aS gS)]) hx hb hr rfl hP hD hS (by rw [← Option.some.inj hf]; exact ⟨rfl, rfl⟩) hlk dX0_addThing_10

def f_X0_addPrism_26   (y1 : Int32) (y2 : Int32) (y3 : Int32) (y4 : Int32) (s0 : Int32) (gS : zG) : Option (Int32 × zG) := (if s0 = 0 then (some ((-1000000001 : Int32), gS)) else (zbind (f_X6_within y1 (1 : Int32) (999 : Int32)) (fun R6 => (if R6 = 0 then (some ((-1000000001 : Int32), gS)) else (zbind (f_X6_within y3 (1 : Int32) (99 : Int32)) (fun R8 => (if R8 = 0 then (some ((-1000000001 : Int32), gS)) else (zbind (f_X0_addThing gS y1 (0 : Int32) y2 y3 y4) (fun R10 => (some (R10.1, R10.2)))))))))))
def f_X0_addPrism_25   (y1 : Int32) (y2 : Int32) (y3 : Int32) (y4 : Int32) (gS : zG) : Option (Int32 × zG) := (f_X0_addPrism_26    y1 y2 y3 y4 (0 : Int32) gS)
def f_X0_addPrism_21   (y1 : Int32) (y2 : Int32) (y3 : Int32) (y4 : Int32) (gS : zG) : Option (Int32 × zG) := (f_X0_addPrism_26    y1 y2 y3 y4 (1 : Int32) gS)
def f_X0_addPrism (gS : zG) (x1 : Int32) (x2 : Int32) (x3 : Int32) (x4 : Int32) : Option (Int32 × zG) := (zbind (f_X6_within x2 (0 : Int32) (1 : Int32)) (fun R1 => (if R1 = 0 then (f_X0_addPrism_25    x1 x2 x3 x4 gS) else (if x4 = (1 : Int32) then (f_X0_addPrism_21    x1 x2 x3 x4 gS) else (if x4 = (-1 : Int32) then (f_X0_addPrism_21    x1 x2 x3 x4 gS) else (f_X0_addPrism_25    x1 x2 x3 x4 gS))))))
theorem k_X0_addPrism_3 : Cond.initialized RX6 ∈ wsX0_addPrism := List.mem_of_getElem? (i := 3) rfl
theorem k_X0_addPrism_2 : Cond.static yX6_within ∈ wsX0_addPrism := List.mem_of_getElem? (i := 2) rfl
theorem k_X0_addPrism_1 : Cond.constant RX0 66 (-1000000001) ∈ wsX0_addPrism := List.mem_of_getElem? (i := 1) rfl
abbrev rm_X0_addPrism : Room := { frames := 3, cells := 0, slots := 0, locals := 71 }
set_option maxHeartbeats 4000000 in
set_option maxRecDepth 100000 in
theorem c_X0_addPrism (l : Launch) (dC : Nat → ClassId) (dI : Nat → Nat → Nat) (cI cC cO : ClassId) (qS : Nat) (aS : Nat → Nat) (gS : zG) (x1 : Int32) (x2 : Int32) (x3 : Int32) (x4 : Int32) (R : Int32 × zG) (hf : f_X0_addPrism gS x1 x2 x3 x4 = some R) : cM l (dC, dI) (zT cI cC cO) yX0_addPrism wsX0_addPrism rm_X0_addPrism [.ref qS, .int x1, .int x2, .int x3, .int x4] [(wX0 cI qS aS gS)] [(wX0 cI qS aS R.2)] (some (.int R.1)) 0 0 := by
  refine zM_in (cc := cX0_addPrism) (maxL := 6) (ret := (some .int)) (plainFor_of_name (by decide)) rfl (Nat.le_of_ble_eq_true rfl) ?_
  intro p e s m below meth c hx hb hml hr hlk hown hts hK hN A hA hP hD hS ls hl
  have hl : lv_has ls 6 [(0, .ref qS), (1, .int x1), (2, .int x2), (3, .int x3), (4, .int x4)] := hl
  have w26 : ∀ (y1 : Int32) (y2 : Int32) (y3 : Int32) (y4 : Int32) (s0 : Int32) (gS : zG) (H : Heap) (locs : List Loc) (ls : Array Slot), f_X0_addPrism_26    y1 y2 y3 y4 s0 gS = some R → va_P (dC, dI) vwCl [(wX0 cI qS aS gS)].flatten H → va_D A [(wX0 cI qS aS gS)].flatten → va_S A s.heap H locs → lv_has ls 6 [(0, .ref qS), (1, .int y1), (2, .int y2), (3, .int y3), (4, .int y4)] → W p l e (headSpec wsX0_addPrism rm_X0_addPrism).room s m [.ref qS, .int x1, .int x2, .int x3, .int x4].toArray below meth c H locs 0 0 (MQ below (zqM (dC, dI) (some (.int R.1)) [(wX0 cI qS aS R.2)] A) [.ref qS, .int x1, .int x2, .int x3, .int x4].toArray s 0 0 A) (F0 m 26 ls [.int s0]) := by
    intro y1 y2 y3 y4 s0 gS H locs ls hf hP hD hS hl
    unfold f_X0_addPrism_26 at hf
    refine lv_istore (lv' := [(5, .int s0), (0, .ref qS), (1, .int y1), (2, .int y2), (3, .int y3), (4, .int y4)]) hx hb dX0_addPrism_26 hl (by decide) rfl (fun ls hl => ?_)
    refine lv_iload hx hb dX0_addPrism_28 (lv_at hl 0 rfl) ?_
    refine lv_if_eq (tgt := 54) hx hb dX0_addPrism_30 (by decide) (fun c_5 => ?_) (fun c_5 => ?_)
    · have hf := zif_t hf c_5
      refine lv_ldc (v := (-1000000001 : Int32)) hx hb hown (hts _ k_X0_addPrism_1) dX0_addPrism_54 ?_
      exact zM_ret (gs := [(wX0 cI qS aS gS)]) hx hb hr rfl hP hD hS (by rw [← Option.some.inj hf]; exact ⟨rfl, rfl⟩) hlk dX0_addPrism_56
    · have hf := zif_f hf c_5
      refine lv_iload_n hx hb dX0_addPrism_33 rfl (lv_at hl 2 rfl) ?_
      refine lv_iconst (v := (1 : Int32)) hx hb dX0_addPrism_34 (by decide) ?_
      refine lv_sipush (v := (999 : Int32)) hx hb dX0_addPrism_35 (by decide) ?_
      obtain ⟨R6, e_6, hf⟩ := zbind_ex hf
      refine z_callRi (va_runSN (As := [.int y1, .int (1 : Int32), .int (999 : Int32)]) (rest := []) ⟨hx, hb, hml, hown, hts⟩ (c_X6_within l dC dI cI cC cO  y1 (1 : Int32) (999 : Int32) R6 e_6) ⟨va_cnB 3 hts gX0_addPrism_X6_within_n62 rfl rfl rfl hN.1 (hts _ k_X0_addPrism_3) (by decide +kernel) ⟨Nat.le_of_ble_eq_true rfl, Nat.le_of_ble_eq_true rfl⟩, (hts _ k_X0_addPrism_2), trivial⟩ ⟨zpR_blind, z_useR hK hN hP [] rfl⟩ rfl rfl hl.1 rfl (lv_room (Nat.le_of_ble_eq_true rfl)) dX0_addPrism_38 ⟨Nat.le_of_ble_eq_true rfl, Nat.le_of_ble_eq_true rfl⟩) ?_
      refine lv_if_eq (tgt := 54) hx hb dX0_addPrism_41 (by decide) (fun c_7 => ?_) (fun c_7 => ?_)
      · have hf := zif_t hf c_7
        refine lv_ldc (v := (-1000000001 : Int32)) hx hb hown (hts _ k_X0_addPrism_1) dX0_addPrism_54 ?_
        exact zM_ret (gs := [(wX0 cI qS aS gS)]) hx hb hr rfl hP hD hS (by rw [← Option.some.inj hf]; exact ⟨rfl, rfl⟩) hlk dX0_addPrism_56
      · have hf := zif_f hf c_7
        refine lv_iload_n hx hb dX0_addPrism_44 rfl (lv_at hl 4 rfl) ?_
        refine lv_iconst (v := (1 : Int32)) hx hb dX0_addPrism_45 (by decide) ?_
        refine lv_bipush (v := (99 : Int32)) hx hb dX0_addPrism_46 (by decide) ?_
        obtain ⟨R8, e_8, hf⟩ := zbind_ex hf
        refine z_callRi (va_runSN (As := [.int y3, .int (1 : Int32), .int (99 : Int32)]) (rest := []) ⟨hx, hb, hml, hown, hts⟩ (c_X6_within l dC dI cI cC cO  y3 (1 : Int32) (99 : Int32) R8 e_8) ⟨va_cnB 3 hts gX0_addPrism_X6_within_n62 rfl rfl rfl hN.1 (hts _ k_X0_addPrism_3) (by decide +kernel) ⟨Nat.le_of_ble_eq_true rfl, Nat.le_of_ble_eq_true rfl⟩, (hts _ k_X0_addPrism_2), trivial⟩ ⟨zpR_blind, z_useR hK hN hP [] rfl⟩ rfl rfl hl.1 rfl (lv_room (Nat.le_of_ble_eq_true rfl)) dX0_addPrism_48 ⟨Nat.le_of_ble_eq_true rfl, Nat.le_of_ble_eq_true rfl⟩) ?_
        refine lv_if_ne (tgt := 57) hx hb dX0_addPrism_51 (by decide) (fun c_9 => ?_) (fun c_9 => ?_)
        · have hf := zif_f hf c_9
          refine lv_aload_n hx hb dX0_addPrism_57 rfl (lv_at hl 1 rfl) ?_
          refine lv_iload_n hx hb dX0_addPrism_58 rfl (lv_at hl 2 rfl) ?_
          refine lv_iconst (v := (0 : Int32)) hx hb dX0_addPrism_59 (by decide) ?_
          refine lv_iload_n hx hb dX0_addPrism_60 rfl (lv_at hl 3 rfl) ?_
          refine lv_iload_n hx hb dX0_addPrism_61 rfl (lv_at hl 4 rfl) ?_
          refine lv_iload hx hb dX0_addPrism_62 (lv_at hl 5 rfl) ?_
          obtain ⟨R10, e_10, hf⟩ := zbind_ex hf
          refine z_callM (gs2 := [(wX0 cI qS aS R10.2)]) hP hD hS hA [0] [] rfl rfl rfl (show List.Perm [0] (List.range 1) from by decide) rfl (va_runV (As := [.int y1, .int (0 : Int32), .int y2, .int y3, .int y4]) (rest := []) ⟨hx, hb, hml, hown, hts⟩ (c_X0_addThing l dC dI cI cC cO qS aS gS y1 (0 : Int32) y2 y3 y4 R10 e_10 H.size) (cwV 5 hts gX0_addPrism_X0_addThing rfl rfl rfl (by decide +kernel) ⟨Nat.le_of_ble_eq_true rfl, Nat.le_of_ble_eq_true rfl⟩) ⟨zpM_blind, va_recv hK hP (ci := 0) (q0 := 0) rfl rfl, z_useM hK hN hP hD [0] [] rfl (show List.Perm [0] (List.range 1) from by decide)⟩ rfl rfl hl.1 rfl (lv_room (Nat.le_of_ble_eq_true rfl)) dX0_addPrism_64 ⟨Nat.le_of_ble_eq_true rfl, Nat.le_of_ble_eq_true rfl⟩) (fun H locs hP hD hS => ?_)
          refine W.eq (g2 := F0 m 67 ls [.int R10.1]) rfl ?_
          exact zM_ret (gs := [(wX0 cI qS aS R10.2)]) hx hb hr rfl hP hD hS (by rw [← Option.some.inj hf]; exact ⟨rfl, rfl⟩) hlk dX0_addPrism_67
        · have hf := zif_t hf c_9
          refine lv_ldc (v := (-1000000001 : Int32)) hx hb hown (hts _ k_X0_addPrism_1) dX0_addPrism_54 ?_
          exact zM_ret (gs := [(wX0 cI qS aS gS)]) hx hb hr rfl hP hD hS (by rw [← Option.some.inj hf]; exact ⟨rfl, rfl⟩) hlk dX0_addPrism_56
  have w25 : ∀ (y1 : Int32) (y2 : Int32) (y3 : Int32) (y4 : Int32) (gS : zG) (H : Heap) (locs : List Loc) (ls : Array Slot), f_X0_addPrism_25    y1 y2 y3 y4 gS = some R → va_P (dC, dI) vwCl [(wX0 cI qS aS gS)].flatten H → va_D A [(wX0 cI qS aS gS)].flatten → va_S A s.heap H locs → lv_has ls 6 [(0, .ref qS), (1, .int y1), (2, .int y2), (3, .int y3), (4, .int y4)] → W p l e (headSpec wsX0_addPrism rm_X0_addPrism).room s m [.ref qS, .int x1, .int x2, .int x3, .int x4].toArray below meth c H locs 0 0 (MQ below (zqM (dC, dI) (some (.int R.1)) [(wX0 cI qS aS R.2)] A) [.ref qS, .int x1, .int x2, .int x3, .int x4].toArray s 0 0 A) (F0 m 25 ls []) := by
    intro y1 y2 y3 y4 gS H locs ls hf hP hD hS hl
    unfold f_X0_addPrism_25 at hf
    refine lv_iconst (v := (0 : Int32)) hx hb dX0_addPrism_25 (by decide) ?_
    exact w26  y1 y2 y3 y4 (0 : Int32) gS H locs ls hf hP hD hS (lv_sub hl [0, 1, 2, 3, 4] rfl)
  have w21 : ∀ (y1 : Int32) (y2 : Int32) (y3 : Int32) (y4 : Int32) (gS : zG) (H : Heap) (locs : List Loc) (ls : Array Slot), f_X0_addPrism_21    y1 y2 y3 y4 gS = some R → va_P (dC, dI) vwCl [(wX0 cI qS aS gS)].flatten H → va_D A [(wX0 cI qS aS gS)].flatten → va_S A s.heap H locs → lv_has ls 6 [(0, .ref qS), (1, .int y1), (2, .int y2), (3, .int y3), (4, .int y4)] → W p l e (headSpec wsX0_addPrism rm_X0_addPrism).room s m [.ref qS, .int x1, .int x2, .int x3, .int x4].toArray below meth c H locs 0 0 (MQ below (zqM (dC, dI) (some (.int R.1)) [(wX0 cI qS aS R.2)] A) [.ref qS, .int x1, .int x2, .int x3, .int x4].toArray s 0 0 A) (F0 m 21 ls []) := by
    intro y1 y2 y3 y4 gS H locs ls hf hP hD hS hl
    unfold f_X0_addPrism_21 at hf
    refine lv_iconst (v := (1 : Int32)) hx hb dX0_addPrism_21 (by decide) ?_
    refine lv_goto (tgt := 26) hx hb dX0_addPrism_22 (by decide) ?_
    exact w26  y1 y2 y3 y4 (1 : Int32) gS H locs ls hf hP hD hS (lv_sub hl [0, 1, 2, 3, 4] rfl)
  unfold f_X0_addPrism at hf
  obtain ⟨H, hH⟩ : ∃ H, H = s.heap := ⟨_, rfl⟩
  obtain ⟨locs, hlocs⟩ : ∃ locs : List Loc, locs = [] := ⟨_, rfl⟩
  have hS : va_S A s.heap H locs := by rw [hH, hlocs]; exact hS
  rw [← hH] at hP
  refine zheap hH hlocs ?_
  refine lv_iload_n hx hb dX0_addPrism_0 rfl (lv_at hl 2 rfl) ?_
  refine lv_iconst (v := (0 : Int32)) hx hb dX0_addPrism_1 (by decide) ?_
  refine lv_iconst (v := (1 : Int32)) hx hb dX0_addPrism_2 (by decide) ?_
  obtain ⟨R1, e_1, hf⟩ := zbind_ex hf
  refine z_callRi (va_runSN (As := [.int x2, .int (0 : Int32), .int (1 : Int32)]) (rest := []) ⟨hx, hb, hml, hown, hts⟩ (c_X6_within l dC dI cI cC cO  x2 (0 : Int32) (1 : Int32) R1 e_1) ⟨va_cnB 3 hts gX0_addPrism_X6_within_n62 rfl rfl rfl hN.1 (hts _ k_X0_addPrism_3) (by decide +kernel) ⟨Nat.le_of_ble_eq_true rfl, Nat.le_of_ble_eq_true rfl⟩, (hts _ k_X0_addPrism_2), trivial⟩ ⟨zpR_blind, z_useR hK hN hP [] rfl⟩ rfl rfl hl.1 rfl (lv_room (Nat.le_of_ble_eq_true rfl)) dX0_addPrism_3 ⟨Nat.le_of_ble_eq_true rfl, Nat.le_of_ble_eq_true rfl⟩) ?_
  refine lv_if_eq (tgt := 25) hx hb dX0_addPrism_6 (by decide) (fun c_2 => ?_) (fun c_2 => ?_)
  · have hf := zif_t hf c_2
    exact w25  x1 x2 x3 x4 gS H locs ls hf hP hD hS (lv_sub hl [0, 1, 2, 3, 4] rfl)
  · have hf := zif_f hf c_2
    refine lv_iload hx hb dX0_addPrism_9 (lv_at hl 4 rfl) ?_
    refine lv_iconst (v := (1 : Int32)) hx hb dX0_addPrism_11 (by decide) ?_
    refine lv_icmp_eq (tgt := 21) hx hb dX0_addPrism_12 (by decide) (fun c_3 => ?_) (fun c_3 => ?_)
    · have hf := zif_t hf c_3
      exact w21  x1 x2 x3 x4 gS H locs ls hf hP hD hS (lv_sub hl [0, 1, 2, 3, 4] rfl)
    · have hf := zif_f hf c_3
      refine lv_iload hx hb dX0_addPrism_15 (lv_at hl 4 rfl) ?_
      refine lv_iconst (v := (-1 : Int32)) hx hb dX0_addPrism_17 (by decide) ?_
      refine lv_icmp_ne (tgt := 25) hx hb dX0_addPrism_18 (by decide) (fun c_4 => ?_) (fun c_4 => ?_)
      · have hf := zif_f hf c_4
        exact w25  x1 x2 x3 x4 gS H locs ls hf hP hD hS (lv_sub hl [0, 1, 2, 3, 4] rfl)
      · have hf := zif_t hf c_4
        exact w21  x1 x2 x3 x4 gS H locs ls hf hP hD hS (lv_sub hl [0, 1, 2, 3, 4] rfl)

def f_X0_addSlit_29   (y1 : Int32) (y2 : Int32) (y3 : Int32) (s0 : Int32) (gS : zG) : Option (Int32 × zG) := (if s0 = 0 then (some ((-1000000001 : Int32), gS)) else (zbind (f_X6_within y1 (1 : Int32) (999 : Int32)) (fun R6 => (if R6 = 0 then (some ((-1000000001 : Int32), gS)) else (zbind (f_X0_addThing gS y1 (1 : Int32) y2 y3 (1 : Int32)) (fun R8 => (some (R8.1, R8.2))))))))
def f_X0_addSlit_28   (y1 : Int32) (y2 : Int32) (y3 : Int32) (gS : zG) : Option (Int32 × zG) := (f_X0_addSlit_29    y1 y2 y3 (0 : Int32) gS)
def f_X0_addSlit (gS : zG) (x1 : Int32) (x2 : Int32) (x3 : Int32) : Option (Int32 × zG) := (zbind (f_X6_within x2 (-9999 : Int32) (9999 : Int32)) (fun R1 => (if R1 = 0 then (f_X0_addSlit_28    x1 x2 x3 gS) else (zbind (f_X6_within x3 x2 (9999 : Int32)) (fun R3 => (if R3 = 0 then (f_X0_addSlit_28    x1 x2 x3 gS) else (f_X0_addSlit_29    x1 x2 x3 (1 : Int32) gS)))))))
theorem k_X0_addSlit_3 : Cond.initialized RX6 ∈ wsX0_addSlit := List.mem_of_getElem? (i := 3) rfl
theorem k_X0_addSlit_2 : Cond.static yX6_within ∈ wsX0_addSlit := List.mem_of_getElem? (i := 2) rfl
theorem k_X0_addSlit_1 : Cond.constant RX0 66 (-1000000001) ∈ wsX0_addSlit := List.mem_of_getElem? (i := 1) rfl
abbrev rm_X0_addSlit : Room := { frames := 3, cells := 0, slots := 0, locals := 71 }
set_option maxHeartbeats 4000000 in
set_option maxRecDepth 100000 in
theorem c_X0_addSlit (l : Launch) (dC : Nat → ClassId) (dI : Nat → Nat → Nat) (cI cC cO : ClassId) (qS : Nat) (aS : Nat → Nat) (gS : zG) (x1 : Int32) (x2 : Int32) (x3 : Int32) (R : Int32 × zG) (hf : f_X0_addSlit gS x1 x2 x3 = some R) : cM l (dC, dI) (zT cI cC cO) yX0_addSlit wsX0_addSlit rm_X0_addSlit [.ref qS, .int x1, .int x2, .int x3] [(wX0 cI qS aS gS)] [(wX0 cI qS aS R.2)] (some (.int R.1)) 0 0 := by
  refine zM_in (cc := cX0_addSlit) (maxL := 5) (ret := (some .int)) (plainFor_of_name (by decide)) rfl (Nat.le_of_ble_eq_true rfl) ?_
  intro p e s m below meth c hx hb hml hr hlk hown hts hK hN A hA hP hD hS ls hl
  have hl : lv_has ls 5 [(0, .ref qS), (1, .int x1), (2, .int x2), (3, .int x3)] := hl
  have w29 : ∀ (y1 : Int32) (y2 : Int32) (y3 : Int32) (s0 : Int32) (gS : zG) (H : Heap) (locs : List Loc) (ls : Array Slot), f_X0_addSlit_29    y1 y2 y3 s0 gS = some R → va_P (dC, dI) vwCl [(wX0 cI qS aS gS)].flatten H → va_D A [(wX0 cI qS aS gS)].flatten → va_S A s.heap H locs → lv_has ls 5 [(0, .ref qS), (1, .int y1), (2, .int y2), (3, .int y3)] → W p l e (headSpec wsX0_addSlit rm_X0_addSlit).room s m [.ref qS, .int x1, .int x2, .int x3].toArray below meth c H locs 0 0 (MQ below (zqM (dC, dI) (some (.int R.1)) [(wX0 cI qS aS R.2)] A) [.ref qS, .int x1, .int x2, .int x3].toArray s 0 0 A) (F0 m 29 ls [.int s0]) := by
    intro y1 y2 y3 s0 gS H locs ls hf hP hD hS hl
    unfold f_X0_addSlit_29 at hf
    refine lv_istore (lv' := [(4, .int s0), (0, .ref qS), (1, .int y1), (2, .int y2), (3, .int y3)]) hx hb dX0_addSlit_29 hl (by decide) rfl (fun ls hl => ?_)
    refine lv_iload hx hb dX0_addSlit_31 (lv_at hl 0 rfl) ?_
    refine lv_if_eq (tgt := 47) hx hb dX0_addSlit_33 (by decide) (fun c_5 => ?_) (fun c_5 => ?_)
    · have hf := zif_t hf c_5
      refine lv_ldc (v := (-1000000001 : Int32)) hx hb hown (hts _ k_X0_addSlit_1) dX0_addSlit_47 ?_
      exact zM_ret (gs := [(wX0 cI qS aS gS)]) hx hb hr rfl hP hD hS (by rw [← Option.some.inj hf]; exact ⟨rfl, rfl⟩) hlk dX0_addSlit_49
    · have hf := zif_f hf c_5
      refine lv_iload_n hx hb dX0_addSlit_36 rfl (lv_at hl 2 rfl) ?_
      refine lv_iconst (v := (1 : Int32)) hx hb dX0_addSlit_37 (by decide) ?_
      refine lv_sipush (v := (999 : Int32)) hx hb dX0_addSlit_38 (by decide) ?_
      obtain ⟨R6, e_6, hf⟩ := zbind_ex hf
      refine z_callRi (va_runSN (As := [.int y1, .int (1 : Int32), .int (999 : Int32)]) (rest := []) ⟨hx, hb, hml, hown, hts⟩ (c_X6_within l dC dI cI cC cO  y1 (1 : Int32) (999 : Int32) R6 e_6) ⟨va_cnB 3 hts gX0_addSlit_X6_within_n62 rfl rfl rfl hN.1 (hts _ k_X0_addSlit_3) (by decide +kernel) ⟨Nat.le_of_ble_eq_true rfl, Nat.le_of_ble_eq_true rfl⟩, (hts _ k_X0_addSlit_2), trivial⟩ ⟨zpR_blind, z_useR hK hN hP [] rfl⟩ rfl rfl hl.1 rfl (lv_room (Nat.le_of_ble_eq_true rfl)) dX0_addSlit_41 ⟨Nat.le_of_ble_eq_true rfl, Nat.le_of_ble_eq_true rfl⟩) ?_
      refine lv_if_ne (tgt := 50) hx hb dX0_addSlit_44 (by decide) (fun c_7 => ?_) (fun c_7 => ?_)
      · have hf := zif_f hf c_7
        refine lv_aload_n hx hb dX0_addSlit_50 rfl (lv_at hl 1 rfl) ?_
        refine lv_iload_n hx hb dX0_addSlit_51 rfl (lv_at hl 2 rfl) ?_
        refine lv_iconst (v := (1 : Int32)) hx hb dX0_addSlit_52 (by decide) ?_
        refine lv_iload_n hx hb dX0_addSlit_53 rfl (lv_at hl 3 rfl) ?_
        refine lv_iload_n hx hb dX0_addSlit_54 rfl (lv_at hl 4 rfl) ?_
        refine lv_iconst (v := (1 : Int32)) hx hb dX0_addSlit_55 (by decide) ?_
        obtain ⟨R8, e_8, hf⟩ := zbind_ex hf
        refine z_callM (gs2 := [(wX0 cI qS aS R8.2)]) hP hD hS hA [0] [] rfl rfl rfl (show List.Perm [0] (List.range 1) from by decide) rfl (va_runV (As := [.int y1, .int (1 : Int32), .int y2, .int y3, .int (1 : Int32)]) (rest := []) ⟨hx, hb, hml, hown, hts⟩ (c_X0_addThing l dC dI cI cC cO qS aS gS y1 (1 : Int32) y2 y3 (1 : Int32) R8 e_8 H.size) (cwV 5 hts gX0_addSlit_X0_addThing rfl rfl rfl (by decide +kernel) ⟨Nat.le_of_ble_eq_true rfl, Nat.le_of_ble_eq_true rfl⟩) ⟨zpM_blind, va_recv hK hP (ci := 0) (q0 := 0) rfl rfl, z_useM hK hN hP hD [0] [] rfl (show List.Perm [0] (List.range 1) from by decide)⟩ rfl rfl hl.1 rfl (lv_room (Nat.le_of_ble_eq_true rfl)) dX0_addSlit_56 ⟨Nat.le_of_ble_eq_true rfl, Nat.le_of_ble_eq_true rfl⟩) (fun H locs hP hD hS => ?_)
        refine W.eq (g2 := F0 m 59 ls [.int R8.1]) rfl ?_
        exact zM_ret (gs := [(wX0 cI qS aS R8.2)]) hx hb hr rfl hP hD hS (by rw [← Option.some.inj hf]; exact ⟨rfl, rfl⟩) hlk dX0_addSlit_59
      · have hf := zif_t hf c_7
        refine lv_ldc (v := (-1000000001 : Int32)) hx hb hown (hts _ k_X0_addSlit_1) dX0_addSlit_47 ?_
        exact zM_ret (gs := [(wX0 cI qS aS gS)]) hx hb hr rfl hP hD hS (by rw [← Option.some.inj hf]; exact ⟨rfl, rfl⟩) hlk dX0_addSlit_49
  have w28 : ∀ (y1 : Int32) (y2 : Int32) (y3 : Int32) (gS : zG) (H : Heap) (locs : List Loc) (ls : Array Slot), f_X0_addSlit_28    y1 y2 y3 gS = some R → va_P (dC, dI) vwCl [(wX0 cI qS aS gS)].flatten H → va_D A [(wX0 cI qS aS gS)].flatten → va_S A s.heap H locs → lv_has ls 5 [(0, .ref qS), (1, .int y1), (2, .int y2), (3, .int y3)] → W p l e (headSpec wsX0_addSlit rm_X0_addSlit).room s m [.ref qS, .int x1, .int x2, .int x3].toArray below meth c H locs 0 0 (MQ below (zqM (dC, dI) (some (.int R.1)) [(wX0 cI qS aS R.2)] A) [.ref qS, .int x1, .int x2, .int x3].toArray s 0 0 A) (F0 m 28 ls []) := by
    intro y1 y2 y3 gS H locs ls hf hP hD hS hl
    unfold f_X0_addSlit_28 at hf
    refine lv_iconst (v := (0 : Int32)) hx hb dX0_addSlit_28 (by decide) ?_
    exact w29  y1 y2 y3 (0 : Int32) gS H locs ls hf hP hD hS (lv_sub hl [0, 1, 2, 3] rfl)
  unfold f_X0_addSlit at hf
  obtain ⟨H, hH⟩ : ∃ H, H = s.heap := ⟨_, rfl⟩
  obtain ⟨locs, hlocs⟩ : ∃ locs : List Loc, locs = [] := ⟨_, rfl⟩
  have hS : va_S A s.heap H locs := by rw [hH, hlocs]; exact hS
  rw [← hH] at hP
  refine zheap hH hlocs ?_
  refine lv_iload_n hx hb dX0_addSlit_0 rfl (lv_at hl 2 rfl) ?_
  refine lv_sipush (v := (-9999 : Int32)) hx hb dX0_addSlit_1 (by decide) ?_
  refine lv_sipush (v := (9999 : Int32)) hx hb dX0_addSlit_4 (by decide) ?_
  obtain ⟨R1, e_1, hf⟩ := zbind_ex hf
  refine z_callRi (va_runSN (As := [.int x2, .int (-9999 : Int32), .int (9999 : Int32)]) (rest := []) ⟨hx, hb, hml, hown, hts⟩ (c_X6_within l dC dI cI cC cO  x2 (-9999 : Int32) (9999 : Int32) R1 e_1) ⟨va_cnB 3 hts gX0_addSlit_X6_within_n62 rfl rfl rfl hN.1 (hts _ k_X0_addSlit_3) (by decide +kernel) ⟨Nat.le_of_ble_eq_true rfl, Nat.le_of_ble_eq_true rfl⟩, (hts _ k_X0_addSlit_2), trivial⟩ ⟨zpR_blind, z_useR hK hN hP [] rfl⟩ rfl rfl hl.1 rfl (lv_room (Nat.le_of_ble_eq_true rfl)) dX0_addSlit_7 ⟨Nat.le_of_ble_eq_true rfl, Nat.le_of_ble_eq_true rfl⟩) ?_
  refine lv_if_eq (tgt := 28) hx hb dX0_addSlit_10 (by decide) (fun c_2 => ?_) (fun c_2 => ?_)
  · have hf := zif_t hf c_2
    exact w28  x1 x2 x3 gS H locs ls hf hP hD hS (lv_sub hl [0, 1, 2, 3] rfl)
  · have hf := zif_f hf c_2
    refine lv_iload_n hx hb dX0_addSlit_13 rfl (lv_at hl 3 rfl) ?_
    refine lv_iload_n hx hb dX0_addSlit_14 rfl (lv_at hl 2 rfl) ?_
    refine lv_sipush (v := (9999 : Int32)) hx hb dX0_addSlit_15 (by decide) ?_
    obtain ⟨R3, e_3, hf⟩ := zbind_ex hf
    refine z_callRi (va_runSN (As := [.int x3, .int x2, .int (9999 : Int32)]) (rest := []) ⟨hx, hb, hml, hown, hts⟩ (c_X6_within l dC dI cI cC cO  x3 x2 (9999 : Int32) R3 e_3) ⟨va_cnB 3 hts gX0_addSlit_X6_within_n62 rfl rfl rfl hN.1 (hts _ k_X0_addSlit_3) (by decide +kernel) ⟨Nat.le_of_ble_eq_true rfl, Nat.le_of_ble_eq_true rfl⟩, (hts _ k_X0_addSlit_2), trivial⟩ ⟨zpR_blind, z_useR hK hN hP [] rfl⟩ rfl rfl hl.1 rfl (lv_room (Nat.le_of_ble_eq_true rfl)) dX0_addSlit_18 ⟨Nat.le_of_ble_eq_true rfl, Nat.le_of_ble_eq_true rfl⟩) ?_
    refine lv_if_eq (tgt := 28) hx hb dX0_addSlit_21 (by decide) (fun c_4 => ?_) (fun c_4 => ?_)
    · have hf := zif_t hf c_4
      exact w28  x1 x2 x3 gS H locs ls hf hP hD hS (lv_sub hl [0, 1, 2, 3] rfl)
    · have hf := zif_f hf c_4
      refine lv_iconst (v := (1 : Int32)) hx hb dX0_addSlit_24 (by decide) ?_
      refine lv_goto (tgt := 29) hx hb dX0_addSlit_25 (by decide) ?_
      exact w29  x1 x2 x3 (1 : Int32) gS H locs ls hf hP hD hS (lv_sub hl [0, 1, 2, 3] rfl)

def f_X0_removeThing_49   (gS : zG) : Option (Int32 × zG) := (zlet (gup gS 8 0 ((gS 8 0) - (1 : Int32))) (fun gS_8 => (some ((gS_8 8 0), gS_8))))
def f_X0_removeThing_21_b   (k21 : Int32 → zG → Option (Int32 × zG)) (y3 : Int32) (gS : zG) : Option (Int32 × zG) := (if (8 : Int32) ≤ y3 then (f_X0_removeThing_49    gS) else (zbind (f_X0_hasThing gS y3) (fun R5 => (if R5 = 0 then (f_X0_removeThing_49    gS) else (zbind (f_X0_copyThing gS y3 (y3 - (1 : Int32))) (fun R7 => (k21 (y3 + (1 : Int32)) R7)))))))
def f_X0_removeThing_21   : Nat → Int32 → zG → Option (Int32 × zG)
  | 0 => fun _ _ => none
  | n + 1 => f_X0_removeThing_21_b   (f_X0_removeThing_21   n)
def f_X0_removeThing (gS : zG) (x1 : Int32) : Option (Int32 × zG) := (zbind (f_X0_indexOf gS x1) (fun R1 => (zbind (f_X0_hasThing gS R1) (fun R2 => (if R2 = 0 then (some ((-1000000001 : Int32), gS)) else (f_X0_removeThing_21   zfuel (R1 + (1 : Int32)) gS))))))
theorem u_X0_removeThing_X0 : ∀ w ∈ u_ws RX0 TX0 10, w ∈ wsX0_removeThing := fun w h => List.mem_cons_of_mem _ (List.mem_append_right _ h)
theorem k_X0_removeThing_1 : Cond.constant RX0 66 (-1000000001) ∈ wsX0_removeThing := List.mem_of_getElem? (i := 1) rfl
theorem k_X0_removeThing_2 : Cond.fieldLink RX0 37 "JoinedLight$Bench" "thingCount" "I" ∈ wsX0_removeThing := List.mem_of_getElem? (i := 2) rfl
abbrev rm_X0_removeThing : Room := { frames := 2, cells := 0, slots := 0, locals := 44 }
set_option maxHeartbeats 4000000 in
set_option maxRecDepth 100000 in
theorem c_X0_removeThing (l : Launch) (dC : Nat → ClassId) (dI : Nat → Nat → Nat) (cI cC cO : ClassId) (qS : Nat) (aS : Nat → Nat) (gS : zG) (x1 : Int32) (R : Int32 × zG) (hf : f_X0_removeThing gS x1 = some R) : cM l (dC, dI) (zT cI cC cO) yX0_removeThing wsX0_removeThing rm_X0_removeThing [.ref qS, .int x1] [(wX0 cI qS aS gS)] [(wX0 cI qS aS R.2)] (some (.int R.1)) 0 0 := by
  refine zM_in (cc := cX0_removeThing) (maxL := 4) (ret := (some .int)) (plainFor_of_name (by decide)) rfl (Nat.le_of_ble_eq_true rfl) ?_
  intro p e s m below meth c hx hb hml hr hlk hown hts hK hN A hA hP hD hS ls hl
  have hl : lv_has ls 4 [(0, .ref qS), (1, .int x1)] := hl
  have w49 : ∀ (gS : zG) (H : Heap) (locs : List Loc) (ls : Array Slot), f_X0_removeThing_49    gS = some R → va_P (dC, dI) vwCl [(wX0 cI qS aS gS)].flatten H → va_D A [(wX0 cI qS aS gS)].flatten → va_S A s.heap H locs → lv_has ls 4 [(0, .ref qS)] → W p l e (headSpec wsX0_removeThing rm_X0_removeThing).room s m [.ref qS, .int x1].toArray below meth c H locs 0 0 (MQ below (zqM (dC, dI) (some (.int R.1)) [(wX0 cI qS aS R.2)] A) [.ref qS, .int x1].toArray s 0 0 A) (F0 m 49 ls []) := by
    intro gS H locs ls hf hP hD hS hl
    unfold f_X0_removeThing_49 at hf
    refine lv_aload_n hx hb dX0_removeThing_49 rfl (lv_at hl 0 rfl) ?_
    refine lv_dup hx hb dX0_removeThing_50 rfl ?_
    refine va_get (D := (dC, dI)) (ci := 0) (v := .int (gS 8 0)) (C := RX0) (T := TX0) (N := 10) hx hb hts u_X0_removeThing_X0 hown hK hP 0 rfl rfl 8 (by decide) (hts _ k_X0_removeThing_2) (fun _ h9 => h9) rfl dX0_removeThing_51 ?_
    refine lv_iconst (v := (1 : Int32)) hx hb dX0_removeThing_54 (by decide) ?_
    refine lv_isub hx hb dX0_removeThing_55 ?_
    obtain ⟨gS_8, e_8, hf⟩ := zlet_ex hf
    refine z_put (gs' := [(wX0 cI qS aS gS_8)]) (D := (dC, dI)) (ci := 0) (ty := .int) (C := RX0) (T := TX0) (N := 10) hx hb hts u_X0_removeThing_X0 tyX0 tyX0_ok nmX0 hown hK hP hD hS 0 rfl rfl 8 (by decide) (hts _ k_X0_removeThing_2) (fun _ h9 => h9) rfl (by decide +kernel) rfl rfl (Nat.le_of_ble_eq_true rfl) (by rw [e_8]; rfl) dX0_removeThing_56 (fun H locs hP hD hS => ?_)
    refine lv_aload_n hx hb dX0_removeThing_59 rfl (lv_at hl 0 rfl) ?_
    refine va_get (D := (dC, dI)) (ci := 0) (v := .int (gS_8 8 0)) (C := RX0) (T := TX0) (N := 10) hx hb hts u_X0_removeThing_X0 hown hK hP 0 rfl rfl 8 (by decide) (hts _ k_X0_removeThing_2) (fun _ h9 => h9) rfl dX0_removeThing_60 ?_
    exact zM_ret (gs := [(wX0 cI qS aS gS_8)]) hx hb hr rfl hP hD hS (by rw [← Option.some.inj hf]; exact ⟨rfl, rfl⟩) hlk dX0_removeThing_63
  have w21 : ∀ (n21 : Nat) (y3 : Int32) (gS : zG) (H : Heap) (locs : List Loc) (ls : Array Slot), f_X0_removeThing_21   n21 y3 gS = some R → va_P (dC, dI) vwCl [(wX0 cI qS aS gS)].flatten H → va_D A [(wX0 cI qS aS gS)].flatten → va_S A s.heap H locs → lv_has ls 4 [(0, .ref qS), (3, .int y3)] → W p l e (headSpec wsX0_removeThing rm_X0_removeThing).room s m [.ref qS, .int x1].toArray below meth c H locs 0 0 (MQ below (zqM (dC, dI) (some (.int R.1)) [(wX0 cI qS aS R.2)] A) [.ref qS, .int x1].toArray s 0 0 A) (F0 m 21 ls []) := by
    intro n21
    induction n21 with
    | zero =>
      intro y3 gS H locs ls hf hP hD hS hl
      have hf : (none : Option (Int32 × zG)) = some R := hf
      cases hf
    | succ n21 ih21 =>
      intro y3 gS H locs ls hf hP hD hS hl
      have hf : f_X0_removeThing_21_b   (f_X0_removeThing_21   n21) y3 gS = some R := hf
      unfold f_X0_removeThing_21_b at hf
      refine lv_iload_n hx hb dX0_removeThing_21 rfl (lv_at hl 1 rfl) ?_
      refine lv_bipush (v := (8 : Int32)) hx hb dX0_removeThing_22 (by decide) ?_
      refine lv_icmp_ge (tgt := 49) hx hb dX0_removeThing_24 (by decide) (fun c_4 => ?_) (fun c_4 => ?_)
      · have hf := zif_t hf c_4
        exact w49  gS H locs ls hf hP hD hS (lv_sub hl [0] rfl)
      · have hf := zif_f hf c_4
        refine lv_aload_n hx hb dX0_removeThing_27 rfl (lv_at hl 0 rfl) ?_
        refine lv_iload_n hx hb dX0_removeThing_28 rfl (lv_at hl 1 rfl) ?_
        obtain ⟨R5, e_5, hf⟩ := zbind_ex hf
        refine z_callRi (va_runV (As := [.int y3]) (rest := []) ⟨hx, hb, hml, hown, hts⟩ (c_X0_hasThing l dC dI cI cC cO qS aS gS y3 R5 e_5) (cwV 1 hts gX0_removeThing_X0_hasThing rfl rfl rfl (by decide +kernel) ⟨Nat.le_of_ble_eq_true rfl, Nat.le_of_ble_eq_true rfl⟩) ⟨zpR_blind, va_recv hK hP (ci := 0) (q0 := 0) rfl rfl, z_useR hK hN hP [0] rfl⟩ rfl rfl hl.1 rfl (lv_room (Nat.le_of_ble_eq_true rfl)) dX0_removeThing_29 ⟨Nat.le_of_ble_eq_true rfl, Nat.le_of_ble_eq_true rfl⟩) ?_
        refine lv_if_eq (tgt := 49) hx hb dX0_removeThing_32 (by decide) (fun c_6 => ?_) (fun c_6 => ?_)
        · have hf := zif_t hf c_6
          exact w49  gS H locs ls hf hP hD hS (lv_sub hl [0] rfl)
        · have hf := zif_f hf c_6
          refine lv_aload_n hx hb dX0_removeThing_35 rfl (lv_at hl 0 rfl) ?_
          refine lv_iload_n hx hb dX0_removeThing_36 rfl (lv_at hl 1 rfl) ?_
          refine lv_iload_n hx hb dX0_removeThing_37 rfl (lv_at hl 1 rfl) ?_
          refine lv_iconst (v := (1 : Int32)) hx hb dX0_removeThing_38 (by decide) ?_
          refine lv_isub hx hb dX0_removeThing_39 ?_
          obtain ⟨R7, e_7, hf⟩ := zbind_ex hf
          refine z_callM (gs2 := [(wX0 cI qS aS R7)]) hP hD hS hA [0] [] rfl rfl rfl (show List.Perm [0] (List.range 1) from by decide) rfl (va_runV (As := [.int y3, .int (y3 - (1 : Int32))]) (rest := []) ⟨hx, hb, hml, hown, hts⟩ (c_X0_copyThing l dC dI cI cC cO qS aS gS y3 (y3 - (1 : Int32)) R7 e_7 H.size) (cwV 2 hts gX0_removeThing_X0_copyThing rfl rfl rfl (by decide +kernel) ⟨Nat.le_of_ble_eq_true rfl, Nat.le_of_ble_eq_true rfl⟩) ⟨zpM_blind, va_recv hK hP (ci := 0) (q0 := 0) rfl rfl, z_useM hK hN hP hD [0] [] rfl (show List.Perm [0] (List.range 1) from by decide)⟩ rfl rfl hl.1 rfl (lv_room (Nat.le_of_ble_eq_true rfl)) dX0_removeThing_40 ⟨Nat.le_of_ble_eq_true rfl, Nat.le_of_ble_eq_true rfl⟩) (fun H locs hP hD hS => ?_)
          refine W.eq (g2 := F0 m 43 ls []) rfl ?_
          refine lv_iinc (v := (y3 + (1 : Int32))) (lv' := [(3, .int (y3 + (1 : Int32))), (0, .ref qS)]) hx hb dX0_removeThing_43 hl (k := 1) rfl rfl (by decide) rfl (fun ls hl => ?_)
          refine lv_goto (tgt := 21) hx hb dX0_removeThing_46 (by decide) ?_
          exact ih21 (y3 + (1 : Int32)) R7 H locs ls hf hP hD hS (lv_sub hl [1, 0] rfl)
  unfold f_X0_removeThing at hf
  obtain ⟨H, hH⟩ : ∃ H, H = s.heap := ⟨_, rfl⟩
  obtain ⟨locs, hlocs⟩ : ∃ locs : List Loc, locs = [] := ⟨_, rfl⟩
  have hS : va_S A s.heap H locs := by rw [hH, hlocs]; exact hS
  rw [← hH] at hP
  refine zheap hH hlocs ?_
  refine lv_aload_n hx hb dX0_removeThing_0 rfl (lv_at hl 0 rfl) ?_
  refine lv_iload_n hx hb dX0_removeThing_1 rfl (lv_at hl 1 rfl) ?_
  obtain ⟨R1, e_1, hf⟩ := zbind_ex hf
  refine z_callRi (va_runV (As := [.int x1]) (rest := []) ⟨hx, hb, hml, hown, hts⟩ (c_X0_indexOf l dC dI cI cC cO qS aS gS x1 R1 e_1) (cwV 1 hts gX0_removeThing_X0_indexOf rfl rfl rfl (by decide +kernel) ⟨Nat.le_of_ble_eq_true rfl, Nat.le_of_ble_eq_true rfl⟩) ⟨zpR_blind, va_recv hK hP (ci := 0) (q0 := 0) rfl rfl, z_useR hK hN hP [0] rfl⟩ rfl rfl hl.1 rfl (lv_room (Nat.le_of_ble_eq_true rfl)) dX0_removeThing_2 ⟨Nat.le_of_ble_eq_true rfl, Nat.le_of_ble_eq_true rfl⟩) ?_
  refine lv_istore_n (lv' := [(2, .int R1), (0, .ref qS), (1, .int x1)]) hx hb dX0_removeThing_5 rfl hl (by decide) rfl (fun ls hl => ?_)
  refine lv_aload_n hx hb dX0_removeThing_6 rfl (lv_at hl 1 rfl) ?_
  refine lv_iload_n hx hb dX0_removeThing_7 rfl (lv_at hl 0 rfl) ?_
  obtain ⟨R2, e_2, hf⟩ := zbind_ex hf
  refine z_callRi (va_runV (As := [.int R1]) (rest := []) ⟨hx, hb, hml, hown, hts⟩ (c_X0_hasThing l dC dI cI cC cO qS aS gS R1 R2 e_2) (cwV 1 hts gX0_removeThing_X0_hasThing rfl rfl rfl (by decide +kernel) ⟨Nat.le_of_ble_eq_true rfl, Nat.le_of_ble_eq_true rfl⟩) ⟨zpR_blind, va_recv hK hP (ci := 0) (q0 := 0) rfl rfl, z_useR hK hN hP [0] rfl⟩ rfl rfl hl.1 rfl (lv_room (Nat.le_of_ble_eq_true rfl)) dX0_removeThing_8 ⟨Nat.le_of_ble_eq_true rfl, Nat.le_of_ble_eq_true rfl⟩) ?_
  refine lv_if_ne (tgt := 17) hx hb dX0_removeThing_11 (by decide) (fun c_3 => ?_) (fun c_3 => ?_)
  · have hf := zif_f hf c_3
    refine lv_iload_n hx hb dX0_removeThing_17 rfl (lv_at hl 0 rfl) ?_
    refine lv_iconst (v := (1 : Int32)) hx hb dX0_removeThing_18 (by decide) ?_
    refine lv_iadd hx hb dX0_removeThing_19 ?_
    refine lv_istore_n (lv' := [(3, .int (R1 + (1 : Int32))), (2, .int R1), (0, .ref qS), (1, .int x1)]) hx hb dX0_removeThing_20 rfl hl (by decide) rfl (fun ls hl => ?_)
    exact w21 zfuel (R1 + (1 : Int32)) gS H locs ls hf hP hD hS (lv_sub hl [2, 0] rfl)
  · have hf := zif_t hf c_3
    refine lv_ldc (v := (-1000000001 : Int32)) hx hb hown (hts _ k_X0_removeThing_1) dX0_removeThing_14 ?_
    exact zM_ret (gs := [(wX0 cI qS aS gS)]) hx hb hr rfl hP hD hS (by rw [← Option.some.inj hf]; exact ⟨rfl, rfl⟩) hlk dX0_removeThing_16

def f_X0_moveThing (gS : zG) (x1 : Int32) (x2 : Int32) : Option (Int32 × zG) := (zbind (f_X0_indexOf gS x1) (fun R1 => (zbind (f_X0_hasThing gS R1) (fun R2 => (if R2 = 0 then (some ((-1000000001 : Int32), gS)) else (zbind (f_X6_within x2 (1 : Int32) (999 : Int32)) (fun R4 => (if R4 = 0 then (some ((-1000000001 : Int32), gS)) else (zbind (f_X0_indexOf gS x2) (fun R6 => (if R6 < 0 then (zin R1 8 (zin R1 8 (zin R1 8 (zin R1 8 (zbind (f_X0_removeThing gS x1) (fun R12 => (zbind (f_X0_addThing R12.2 x2 (gS 4 R1.toNatClampNeg) (gS 5 R1.toNatClampNeg) (gS 6 R1.toNatClampNeg) (gS 7 R1.toNatClampNeg)) (fun R13 => (zbind (f_X0_thingsAhead R13.2 x2) (fun R14 => (some (R14, R13.2)))))))))))) else (some ((-1000000002 : Int32), gS)))))))))))))
theorem u_X0_moveThing_X0 : ∀ w ∈ u_ws RX0 TX0 10, w ∈ wsX0_moveThing := fun w h => List.mem_cons_of_mem _ (List.mem_append_right _ h)
theorem k_X0_moveThing_1 : Cond.constant RX0 66 (-1000000001) ∈ wsX0_moveThing := List.mem_of_getElem? (i := 1) rfl
theorem k_X0_moveThing_19 : Cond.initialized RX6 ∈ wsX0_moveThing := List.mem_of_getElem? (i := 19) rfl
theorem k_X0_moveThing_18 : Cond.static yX6_within ∈ wsX0_moveThing := List.mem_of_getElem? (i := 18) rfl
theorem k_X0_moveThing_3 : Cond.fieldLink RX0 25 "JoinedLight$Bench" "kinds" "[I" ∈ wsX0_moveThing := List.mem_of_getElem? (i := 3) rfl
theorem k_X0_moveThing_4 : Cond.fieldLink RX0 28 "JoinedLight$Bench" "firsts" "[I" ∈ wsX0_moveThing := List.mem_of_getElem? (i := 4) rfl
theorem k_X0_moveThing_5 : Cond.fieldLink RX0 31 "JoinedLight$Bench" "seconds" "[I" ∈ wsX0_moveThing := List.mem_of_getElem? (i := 5) rfl
theorem k_X0_moveThing_6 : Cond.fieldLink RX0 34 "JoinedLight$Bench" "turns" "[I" ∈ wsX0_moveThing := List.mem_of_getElem? (i := 6) rfl
theorem k_X0_moveThing_2 : Cond.constant RX0 76 (-1000000002) ∈ wsX0_moveThing := List.mem_of_getElem? (i := 2) rfl
abbrev rm_X0_moveThing : Room := { frames := 3, cells := 0, slots := 0, locals := 71 }
set_option maxHeartbeats 4000000 in
set_option maxRecDepth 100000 in
theorem c_X0_moveThing (l : Launch) (dC : Nat → ClassId) (dI : Nat → Nat → Nat) (cI cC cO : ClassId) (qS : Nat) (aS : Nat → Nat) (gS : zG) (x1 : Int32) (x2 : Int32) (R : Int32 × zG) (hf : f_X0_moveThing gS x1 x2 = some R) : cM l (dC, dI) (zT cI cC cO) yX0_moveThing wsX0_moveThing rm_X0_moveThing [.ref qS, .int x1, .int x2] [(wX0 cI qS aS gS)] [(wX0 cI qS aS R.2)] (some (.int R.1)) 0 0 := by
  refine zM_in (cc := cX0_moveThing) (maxL := 8) (ret := (some .int)) (plainFor_of_name (by decide)) rfl (Nat.le_of_ble_eq_true rfl) ?_
  intro p e s m below meth c hx hb hml hr hlk hown hts hK hN A hA hP hD hS ls hl
  have hl : lv_has ls 8 [(0, .ref qS), (1, .int x1), (2, .int x2)] := hl
  unfold f_X0_moveThing at hf
  obtain ⟨H, hH⟩ : ∃ H, H = s.heap := ⟨_, rfl⟩
  obtain ⟨locs, hlocs⟩ : ∃ locs : List Loc, locs = [] := ⟨_, rfl⟩
  have hS : va_S A s.heap H locs := by rw [hH, hlocs]; exact hS
  rw [← hH] at hP
  refine zheap hH hlocs ?_
  refine lv_aload_n hx hb dX0_moveThing_0 rfl (lv_at hl 0 rfl) ?_
  refine lv_iload_n hx hb dX0_moveThing_1 rfl (lv_at hl 1 rfl) ?_
  obtain ⟨R1, e_1, hf⟩ := zbind_ex hf
  refine z_callRi (va_runV (As := [.int x1]) (rest := []) ⟨hx, hb, hml, hown, hts⟩ (c_X0_indexOf l dC dI cI cC cO qS aS gS x1 R1 e_1) (cwV 1 hts gX0_moveThing_X0_indexOf rfl rfl rfl (by decide +kernel) ⟨Nat.le_of_ble_eq_true rfl, Nat.le_of_ble_eq_true rfl⟩) ⟨zpR_blind, va_recv hK hP (ci := 0) (q0 := 0) rfl rfl, z_useR hK hN hP [0] rfl⟩ rfl rfl hl.1 rfl (lv_room (Nat.le_of_ble_eq_true rfl)) dX0_moveThing_2 ⟨Nat.le_of_ble_eq_true rfl, Nat.le_of_ble_eq_true rfl⟩) ?_
  refine lv_istore_n (lv' := [(3, .int R1), (0, .ref qS), (1, .int x1), (2, .int x2)]) hx hb dX0_moveThing_5 rfl hl (by decide) rfl (fun ls hl => ?_)
  refine lv_aload_n hx hb dX0_moveThing_6 rfl (lv_at hl 1 rfl) ?_
  refine lv_iload_n hx hb dX0_moveThing_7 rfl (lv_at hl 0 rfl) ?_
  obtain ⟨R2, e_2, hf⟩ := zbind_ex hf
  refine z_callRi (va_runV (As := [.int R1]) (rest := []) ⟨hx, hb, hml, hown, hts⟩ (c_X0_hasThing l dC dI cI cC cO qS aS gS R1 R2 e_2) (cwV 1 hts gX0_moveThing_X0_hasThing rfl rfl rfl (by decide +kernel) ⟨Nat.le_of_ble_eq_true rfl, Nat.le_of_ble_eq_true rfl⟩) ⟨zpR_blind, va_recv hK hP (ci := 0) (q0 := 0) rfl rfl, z_useR hK hN hP [0] rfl⟩ rfl rfl hl.1 rfl (lv_room (Nat.le_of_ble_eq_true rfl)) dX0_moveThing_8 ⟨Nat.le_of_ble_eq_true rfl, Nat.le_of_ble_eq_true rfl⟩) ?_
  refine lv_if_eq (tgt := 25) hx hb dX0_moveThing_11 (by decide) (fun c_3 => ?_) (fun c_3 => ?_)
  · have hf := zif_t hf c_3
    refine lv_ldc (v := (-1000000001 : Int32)) hx hb hown (hts _ k_X0_moveThing_1) dX0_moveThing_25 ?_
    exact zM_ret (gs := [(wX0 cI qS aS gS)]) hx hb hr rfl hP hD hS (by rw [← Option.some.inj hf]; exact ⟨rfl, rfl⟩) hlk dX0_moveThing_27
  · have hf := zif_f hf c_3
    refine lv_iload_n hx hb dX0_moveThing_14 rfl (lv_at hl 3 rfl) ?_
    refine lv_iconst (v := (1 : Int32)) hx hb dX0_moveThing_15 (by decide) ?_
    refine lv_sipush (v := (999 : Int32)) hx hb dX0_moveThing_16 (by decide) ?_
    obtain ⟨R4, e_4, hf⟩ := zbind_ex hf
    refine z_callRi (va_runSN (As := [.int x2, .int (1 : Int32), .int (999 : Int32)]) (rest := []) ⟨hx, hb, hml, hown, hts⟩ (c_X6_within l dC dI cI cC cO  x2 (1 : Int32) (999 : Int32) R4 e_4) ⟨va_cnB 3 hts gX0_moveThing_X6_within_n62 rfl rfl rfl hN.1 (hts _ k_X0_moveThing_19) (by decide +kernel) ⟨Nat.le_of_ble_eq_true rfl, Nat.le_of_ble_eq_true rfl⟩, (hts _ k_X0_moveThing_18), trivial⟩ ⟨zpR_blind, z_useR hK hN hP [] rfl⟩ rfl rfl hl.1 rfl (lv_room (Nat.le_of_ble_eq_true rfl)) dX0_moveThing_19 ⟨Nat.le_of_ble_eq_true rfl, Nat.le_of_ble_eq_true rfl⟩) ?_
    refine lv_if_ne (tgt := 28) hx hb dX0_moveThing_22 (by decide) (fun c_5 => ?_) (fun c_5 => ?_)
    · have hf := zif_f hf c_5
      refine lv_aload_n hx hb dX0_moveThing_28 rfl (lv_at hl 1 rfl) ?_
      refine lv_iload_n hx hb dX0_moveThing_29 rfl (lv_at hl 3 rfl) ?_
      obtain ⟨R6, e_6, hf⟩ := zbind_ex hf
      refine z_callRi (va_runV (As := [.int x2]) (rest := []) ⟨hx, hb, hml, hown, hts⟩ (c_X0_indexOf l dC dI cI cC cO qS aS gS x2 R6 e_6) (cwV 1 hts gX0_moveThing_X0_indexOf rfl rfl rfl (by decide +kernel) ⟨Nat.le_of_ble_eq_true rfl, Nat.le_of_ble_eq_true rfl⟩) ⟨zpR_blind, va_recv hK hP (ci := 0) (q0 := 0) rfl rfl, z_useR hK hN hP [0] rfl⟩ rfl rfl hl.1 rfl (lv_room (Nat.le_of_ble_eq_true rfl)) dX0_moveThing_30 ⟨Nat.le_of_ble_eq_true rfl, Nat.le_of_ble_eq_true rfl⟩) ?_
      refine lv_if_lt (tgt := 39) hx hb dX0_moveThing_33 (by decide) (fun c_7 => ?_) (fun c_7 => ?_)
      · have hf := zif_t hf c_7
        refine lv_aload_n hx hb dX0_moveThing_39 rfl (lv_at hl 1 rfl) ?_
        refine va_get (D := (dC, dI)) (ci := 0) (v := .ref (aS 4)) (C := RX0) (T := TX0) (N := 10) hx hb hts u_X0_moveThing_X0 hown hK hP 0 rfl rfl 4 (by decide) (hts _ k_X0_moveThing_3) (fun _ h9 => h9) rfl dX0_moveThing_40 ?_
        refine lv_iload_n hx hb dX0_moveThing_43 rfl (lv_at hl 0 rfl) ?_
        obtain ⟨h_8, hf⟩ := zin_ex hf
        refine va_iald hx hb hK hP 4 0 rfl rfl h_8 dX0_moveThing_44 ?_
        refine lv_istore (lv' := [(4, .int (gS 4 R1.toNatClampNeg)), (3, .int R1), (0, .ref qS), (1, .int x1), (2, .int x2)]) hx hb dX0_moveThing_45 hl (by decide) rfl (fun ls hl => ?_)
        refine lv_aload_n hx hb dX0_moveThing_47 rfl (lv_at hl 2 rfl) ?_
        refine va_get (D := (dC, dI)) (ci := 0) (v := .ref (aS 5)) (C := RX0) (T := TX0) (N := 10) hx hb hts u_X0_moveThing_X0 hown hK hP 0 rfl rfl 5 (by decide) (hts _ k_X0_moveThing_4) (fun _ h9 => h9) rfl dX0_moveThing_48 ?_
        refine lv_iload_n hx hb dX0_moveThing_51 rfl (lv_at hl 1 rfl) ?_
        obtain ⟨h_9, hf⟩ := zin_ex hf
        refine va_iald hx hb hK hP 5 0 rfl rfl h_9 dX0_moveThing_52 ?_
        refine lv_istore (lv' := [(5, .int (gS 5 R1.toNatClampNeg)), (4, .int (gS 4 R1.toNatClampNeg)), (3, .int R1), (0, .ref qS), (1, .int x1), (2, .int x2)]) hx hb dX0_moveThing_53 hl (by decide) rfl (fun ls hl => ?_)
        refine lv_aload_n hx hb dX0_moveThing_55 rfl (lv_at hl 3 rfl) ?_
        refine va_get (D := (dC, dI)) (ci := 0) (v := .ref (aS 6)) (C := RX0) (T := TX0) (N := 10) hx hb hts u_X0_moveThing_X0 hown hK hP 0 rfl rfl 6 (by decide) (hts _ k_X0_moveThing_5) (fun _ h9 => h9) rfl dX0_moveThing_56 ?_
        refine lv_iload_n hx hb dX0_moveThing_59 rfl (lv_at hl 2 rfl) ?_
        obtain ⟨h_10, hf⟩ := zin_ex hf
        refine va_iald hx hb hK hP 6 0 rfl rfl h_10 dX0_moveThing_60 ?_
        refine lv_istore (lv' := [(6, .int (gS 6 R1.toNatClampNeg)), (5, .int (gS 5 R1.toNatClampNeg)), (4, .int (gS 4 R1.toNatClampNeg)), (3, .int R1), (0, .ref qS), (1, .int x1), (2, .int x2)]) hx hb dX0_moveThing_61 hl (by decide) rfl (fun ls hl => ?_)
        refine lv_aload_n hx hb dX0_moveThing_63 rfl (lv_at hl 4 rfl) ?_
        refine va_get (D := (dC, dI)) (ci := 0) (v := .ref (aS 7)) (C := RX0) (T := TX0) (N := 10) hx hb hts u_X0_moveThing_X0 hown hK hP 0 rfl rfl 7 (by decide) (hts _ k_X0_moveThing_6) (fun _ h9 => h9) rfl dX0_moveThing_64 ?_
        refine lv_iload_n hx hb dX0_moveThing_67 rfl (lv_at hl 3 rfl) ?_
        obtain ⟨h_11, hf⟩ := zin_ex hf
        refine va_iald hx hb hK hP 7 0 rfl rfl h_11 dX0_moveThing_68 ?_
        refine lv_istore (lv' := [(7, .int (gS 7 R1.toNatClampNeg)), (6, .int (gS 6 R1.toNatClampNeg)), (5, .int (gS 5 R1.toNatClampNeg)), (4, .int (gS 4 R1.toNatClampNeg)), (3, .int R1), (0, .ref qS), (1, .int x1), (2, .int x2)]) hx hb dX0_moveThing_69 hl (by decide) rfl (fun ls hl => ?_)
        refine lv_aload_n hx hb dX0_moveThing_71 rfl (lv_at hl 5 rfl) ?_
        refine lv_iload_n hx hb dX0_moveThing_72 rfl (lv_at hl 6 rfl) ?_
        obtain ⟨R12, e_12, hf⟩ := zbind_ex hf
        refine z_callM (gs2 := [(wX0 cI qS aS R12.2)]) hP hD hS hA [0] [] rfl rfl rfl (show List.Perm [0] (List.range 1) from by decide) rfl (va_runV (As := [.int x1]) (rest := []) ⟨hx, hb, hml, hown, hts⟩ (c_X0_removeThing l dC dI cI cC cO qS aS gS x1 R12 e_12 H.size) (cwV 1 hts gX0_moveThing_X0_removeThing rfl rfl rfl (by decide +kernel) ⟨Nat.le_of_ble_eq_true rfl, Nat.le_of_ble_eq_true rfl⟩) ⟨zpM_blind, va_recv hK hP (ci := 0) (q0 := 0) rfl rfl, z_useM hK hN hP hD [0] [] rfl (show List.Perm [0] (List.range 1) from by decide)⟩ rfl rfl hl.1 rfl (lv_room (Nat.le_of_ble_eq_true rfl)) dX0_moveThing_73 ⟨Nat.le_of_ble_eq_true rfl, Nat.le_of_ble_eq_true rfl⟩) (fun H locs hP hD hS => ?_)
        refine W.eq (g2 := F0 m 76 ls [.int R12.1]) rfl ?_
        refine lv_pop hx hb dX0_moveThing_76 rfl ?_
        refine lv_aload_n hx hb dX0_moveThing_77 rfl (lv_at hl 5 rfl) ?_
        refine lv_iload_n hx hb dX0_moveThing_78 rfl (lv_at hl 7 rfl) ?_
        refine lv_iload hx hb dX0_moveThing_79 (lv_at hl 3 rfl) ?_
        refine lv_iload hx hb dX0_moveThing_81 (lv_at hl 2 rfl) ?_
        refine lv_iload hx hb dX0_moveThing_83 (lv_at hl 1 rfl) ?_
        refine lv_iload hx hb dX0_moveThing_85 (lv_at hl 0 rfl) ?_
        obtain ⟨R13, e_13, hf⟩ := zbind_ex hf
        refine z_callM (gs2 := [(wX0 cI qS aS R13.2)]) hP hD hS hA [0] [] rfl rfl rfl (show List.Perm [0] (List.range 1) from by decide) rfl (va_runV (As := [.int x2, .int (gS 4 R1.toNatClampNeg), .int (gS 5 R1.toNatClampNeg), .int (gS 6 R1.toNatClampNeg), .int (gS 7 R1.toNatClampNeg)]) (rest := []) ⟨hx, hb, hml, hown, hts⟩ (c_X0_addThing l dC dI cI cC cO qS aS R12.2 x2 (gS 4 R1.toNatClampNeg) (gS 5 R1.toNatClampNeg) (gS 6 R1.toNatClampNeg) (gS 7 R1.toNatClampNeg) R13 e_13 H.size) (cwV 5 hts gX0_moveThing_X0_addThing rfl rfl rfl (by decide +kernel) ⟨Nat.le_of_ble_eq_true rfl, Nat.le_of_ble_eq_true rfl⟩) ⟨zpM_blind, va_recv hK hP (ci := 0) (q0 := 0) rfl rfl, z_useM hK hN hP hD [0] [] rfl (show List.Perm [0] (List.range 1) from by decide)⟩ rfl rfl hl.1 rfl (lv_room (Nat.le_of_ble_eq_true rfl)) dX0_moveThing_87 ⟨Nat.le_of_ble_eq_true rfl, Nat.le_of_ble_eq_true rfl⟩) (fun H locs hP hD hS => ?_)
        refine W.eq (g2 := F0 m 90 ls [.int R13.1]) rfl ?_
        refine lv_pop hx hb dX0_moveThing_90 rfl ?_
        refine lv_aload_n hx hb dX0_moveThing_91 rfl (lv_at hl 5 rfl) ?_
        refine lv_iload_n hx hb dX0_moveThing_92 rfl (lv_at hl 7 rfl) ?_
        obtain ⟨R14, e_14, hf⟩ := zbind_ex hf
        refine z_callRi (va_runV (As := [.int x2]) (rest := []) ⟨hx, hb, hml, hown, hts⟩ (c_X0_thingsAhead l dC dI cI cC cO qS aS R13.2 x2 R14 e_14) (cwV 1 hts gX0_moveThing_X0_thingsAhead rfl rfl rfl (by decide +kernel) ⟨Nat.le_of_ble_eq_true rfl, Nat.le_of_ble_eq_true rfl⟩) ⟨zpR_blind, va_recv hK hP (ci := 0) (q0 := 0) rfl rfl, z_useR hK hN hP [0] rfl⟩ rfl rfl hl.1 rfl (lv_room (Nat.le_of_ble_eq_true rfl)) dX0_moveThing_93 ⟨Nat.le_of_ble_eq_true rfl, Nat.le_of_ble_eq_true rfl⟩) ?_
        exact zM_ret (gs := [(wX0 cI qS aS R13.2)]) hx hb hr rfl hP hD hS (by rw [← Option.some.inj hf]; exact ⟨rfl, rfl⟩) hlk dX0_moveThing_96
      · have hf := zif_f hf c_7
        refine lv_ldc (v := (-1000000002 : Int32)) hx hb hown (hts _ k_X0_moveThing_2) dX0_moveThing_36 ?_
        exact zM_ret (gs := [(wX0 cI qS aS gS)]) hx hb hr rfl hP hD hS (by rw [← Option.some.inj hf]; exact ⟨rfl, rfl⟩) hlk dX0_moveThing_38
    · have hf := zif_t hf c_5
      refine lv_ldc (v := (-1000000001 : Int32)) hx hb hown (hts _ k_X0_moveThing_1) dX0_moveThing_25 ?_
      exact zM_ret (gs := [(wX0 cI qS aS gS)]) hx hb hr rfl hP hD hS (by rw [← Option.some.inj hf]; exact ⟨rfl, rfl⟩) hlk dX0_moveThing_27

def f_X0_changeSetting (gS : zG) (x1 : Int32) (x2 : Int32) : Option (Int32 × zG) := (if x1 = 0 then (zbind (f_X6_within x2 (1 : Int32) (500 : Int32)) (fun R2 => (if R2 = 0 then (some ((-1000000001 : Int32), gS)) else (zlet (gup gS 9 0 x2) (fun gS_4 => (some ((gS 9 0), gS_4))))))) else (some ((-1000000001 : Int32), gS)))
theorem u_X0_changeSetting_X0 : ∀ w ∈ u_ws RX0 TX0 10, w ∈ wsX0_changeSetting := fun w h => List.mem_cons_of_mem _ (List.mem_append_right _ h)
theorem k_X0_changeSetting_1 : Cond.constant RX0 66 (-1000000001) ∈ wsX0_changeSetting := List.mem_of_getElem? (i := 1) rfl
theorem k_X0_changeSetting_4 : Cond.initialized RX6 ∈ wsX0_changeSetting := List.mem_of_getElem? (i := 4) rfl
theorem k_X0_changeSetting_3 : Cond.static yX6_within ∈ wsX0_changeSetting := List.mem_of_getElem? (i := 3) rfl
theorem k_X0_changeSetting_2 : Cond.fieldLink RX0 40 "JoinedLight$Bench" "cellWidth" "I" ∈ wsX0_changeSetting := List.mem_of_getElem? (i := 2) rfl
abbrev rm_X0_changeSetting : Room := { frames := 1, cells := 0, slots := 0, locals := 22 }
set_option maxHeartbeats 4000000 in
set_option maxRecDepth 100000 in
theorem c_X0_changeSetting (l : Launch) (dC : Nat → ClassId) (dI : Nat → Nat → Nat) (cI cC cO : ClassId) (qS : Nat) (aS : Nat → Nat) (gS : zG) (x1 : Int32) (x2 : Int32) (R : Int32 × zG) (hf : f_X0_changeSetting gS x1 x2 = some R) : cM l (dC, dI) (zT cI cC cO) yX0_changeSetting wsX0_changeSetting rm_X0_changeSetting [.ref qS, .int x1, .int x2] [(wX0 cI qS aS gS)] [(wX0 cI qS aS R.2)] (some (.int R.1)) 0 0 := by
  refine zM_in (cc := cX0_changeSetting) (maxL := 4) (ret := (some .int)) (plainFor_of_name (by decide)) rfl (Nat.le_of_ble_eq_true rfl) ?_
  intro p e s m below meth c hx hb hml hr hlk hown hts hK hN A hA hP hD hS ls hl
  have hl : lv_has ls 4 [(0, .ref qS), (1, .int x1), (2, .int x2)] := hl
  unfold f_X0_changeSetting at hf
  obtain ⟨H, hH⟩ : ∃ H, H = s.heap := ⟨_, rfl⟩
  obtain ⟨locs, hlocs⟩ : ∃ locs : List Loc, locs = [] := ⟨_, rfl⟩
  have hS : va_S A s.heap H locs := by rw [hH, hlocs]; exact hS
  rw [← hH] at hP
  refine zheap hH hlocs ?_
  refine lv_iload_n hx hb dX0_changeSetting_0 rfl (lv_at hl 1 rfl) ?_
  refine lv_if_ne (tgt := 15) hx hb dX0_changeSetting_1 (by decide) (fun c_1 => ?_) (fun c_1 => ?_)
  · have hf := zif_f hf c_1
    refine lv_ldc (v := (-1000000001 : Int32)) hx hb hown (hts _ k_X0_changeSetting_1) dX0_changeSetting_15 ?_
    exact zM_ret (gs := [(wX0 cI qS aS gS)]) hx hb hr rfl hP hD hS (by rw [← Option.some.inj hf]; exact ⟨rfl, rfl⟩) hlk dX0_changeSetting_17
  · have hf := zif_t hf c_1
    refine lv_iload_n hx hb dX0_changeSetting_4 rfl (lv_at hl 2 rfl) ?_
    refine lv_iconst (v := (1 : Int32)) hx hb dX0_changeSetting_5 (by decide) ?_
    refine lv_sipush (v := (500 : Int32)) hx hb dX0_changeSetting_6 (by decide) ?_
    obtain ⟨R2, e_2, hf⟩ := zbind_ex hf
    refine z_callRi (va_runSN (As := [.int x2, .int (1 : Int32), .int (500 : Int32)]) (rest := []) ⟨hx, hb, hml, hown, hts⟩ (c_X6_within l dC dI cI cC cO  x2 (1 : Int32) (500 : Int32) R2 e_2) ⟨va_cnB 3 hts gX0_changeSetting_X6_within_n62 rfl rfl rfl hN.1 (hts _ k_X0_changeSetting_4) (by decide +kernel) ⟨Nat.le_of_ble_eq_true rfl, Nat.le_of_ble_eq_true rfl⟩, (hts _ k_X0_changeSetting_3), trivial⟩ ⟨zpR_blind, z_useR hK hN hP [] rfl⟩ rfl rfl hl.1 rfl (lv_room (Nat.le_of_ble_eq_true rfl)) dX0_changeSetting_9 ⟨Nat.le_of_ble_eq_true rfl, Nat.le_of_ble_eq_true rfl⟩) ?_
    refine lv_if_ne (tgt := 18) hx hb dX0_changeSetting_12 (by decide) (fun c_3 => ?_) (fun c_3 => ?_)
    · have hf := zif_f hf c_3
      refine lv_aload_n hx hb dX0_changeSetting_18 rfl (lv_at hl 0 rfl) ?_
      refine va_get (D := (dC, dI)) (ci := 0) (v := .int (gS 9 0)) (C := RX0) (T := TX0) (N := 10) hx hb hts u_X0_changeSetting_X0 hown hK hP 0 rfl rfl 9 (by decide) (hts _ k_X0_changeSetting_2) (fun _ h9 => h9) rfl dX0_changeSetting_19 ?_
      refine lv_istore_n (lv' := [(3, .int (gS 9 0)), (0, .ref qS), (1, .int x1), (2, .int x2)]) hx hb dX0_changeSetting_22 rfl hl (by decide) rfl (fun ls hl => ?_)
      refine lv_aload_n hx hb dX0_changeSetting_23 rfl (lv_at hl 1 rfl) ?_
      refine lv_iload_n hx hb dX0_changeSetting_24 rfl (lv_at hl 3 rfl) ?_
      obtain ⟨gS_4, e_4, hf⟩ := zlet_ex hf
      refine z_put (gs' := [(wX0 cI qS aS gS_4)]) (D := (dC, dI)) (ci := 0) (ty := .int) (C := RX0) (T := TX0) (N := 10) hx hb hts u_X0_changeSetting_X0 tyX0 tyX0_ok nmX0 hown hK hP hD hS 0 rfl rfl 9 (by decide) (hts _ k_X0_changeSetting_2) (fun _ h9 => h9) rfl (by decide +kernel) rfl rfl (Nat.le_of_ble_eq_true rfl) (by rw [e_4]; rfl) dX0_changeSetting_25 (fun H locs hP hD hS => ?_)
      refine lv_iload_n hx hb dX0_changeSetting_28 rfl (lv_at hl 0 rfl) ?_
      exact zM_ret (gs := [(wX0 cI qS aS gS_4)]) hx hb hr rfl hP hD hS (by rw [← Option.some.inj hf]; exact ⟨rfl, rfl⟩) hlk dX0_changeSetting_29
    · have hf := zif_t hf c_3
      refine lv_ldc (v := (-1000000001 : Int32)) hx hb hown (hts _ k_X0_changeSetting_1) dX0_changeSetting_15 ?_
      exact zM_ret (gs := [(wX0 cI qS aS gS)]) hx hb hr rfl hP hD hS (by rw [← Option.some.inj hf]; exact ⟨rfl, rfl⟩) hlk dX0_changeSetting_17

def f_X6_bendingOf  (x0 : Int32) (x1 : Int32) : Option (Int32) := (if x0 = 0 then (zbind (f_J9_floorDiv_7cf53 ((780 : Int32) - x1) (8 : Int32)) (fun R3 => (some (((500 : Int32) + R3))))) else (zbind (f_J9_floorDiv_7cf53 ((780 : Int32) - x1) (3 : Int32)) (fun R2 => (some (((600 : Int32) + R2))))))
abbrev rm_X6_bendingOf : Room := { frames := 1, cells := 0, slots := 0, locals := 22 }
set_option maxHeartbeats 4000000 in
set_option maxRecDepth 100000 in
theorem c_X6_bendingOf (l : Launch) (dC : Nat → ClassId) (dI : Nat → Nat → Nat) (cI cC cO : ClassId)  (x0 : Int32) (x1 : Int32) (R : Int32) (hf : f_X6_bendingOf x0 x1 = some R) : cR l (dC, dI) (zT cI cC cO) yX6_bendingOf wsX6_bendingOf rm_X6_bendingOf [.int x0, .int x1] [] (some (.int R)) := by
  refine zR_in (cc := cX6_bendingOf) (maxL := 3) (ret := (some .int)) (plainFor_of_name (by decide)) rfl (Nat.le_of_ble_eq_true rfl) ?_
  intro p e s m below meth c hx hb hml hr hlk hown hts hK hN hP ls hl
  have hl : lv_has ls 3 [(0, .int x0), (1, .int x1)] := hl
  unfold f_X6_bendingOf at hf
  refine lv_sipush (v := (780 : Int32)) hx hb dX6_bendingOf_0 (by decide) ?_
  refine lv_iload_n hx hb dX6_bendingOf_3 rfl (lv_at hl 1 rfl) ?_
  refine lv_isub hx hb dX6_bendingOf_4 ?_
  refine lv_istore_n (lv' := [(2, .int ((780 : Int32) - x1)), (0, .int x0), (1, .int x1)]) hx hb dX6_bendingOf_5 rfl hl (by decide) rfl (fun ls hl => ?_)
  refine lv_iload_n hx hb dX6_bendingOf_6 rfl (lv_at hl 1 rfl) ?_
  refine lv_if_ne (tgt := 23) hx hb dX6_bendingOf_7 (by decide) (fun c_1 => ?_) (fun c_1 => ?_)
  · have hf := zif_f hf c_1
    refine lv_sipush (v := (600 : Int32)) hx hb dX6_bendingOf_23 (by decide) ?_
    refine lv_iload_n hx hb dX6_bendingOf_26 rfl (lv_at hl 0 rfl) ?_
    refine lv_iconst (v := (3 : Int32)) hx hb dX6_bendingOf_27 (by decide) ?_
    obtain ⟨R2, e_2, hf⟩ := zbind_ex hf
    refine z_callRi (va_runS (As := [.int ((780 : Int32) - x1), .int (3 : Int32)]) (rest := [.int (600 : Int32)]) ⟨hx, hb, hml, hown, hts⟩ (c_J9_floorDiv_7cf53 l dC dI cI cC cO  ((780 : Int32) - x1) (3 : Int32) R2 e_2) (va_cwS 2 hts gX6_bendingOf_J9_floorDiv_7cf53 rfl rfl rfl (by decide +kernel) ⟨Nat.le_of_ble_eq_true rfl, Nat.le_of_ble_eq_true rfl⟩) ⟨zpR_blind, z_useR hK hN hP [] rfl⟩ rfl rfl hl.1 rfl (lv_room (Nat.le_of_ble_eq_true rfl)) dX6_bendingOf_28 ⟨Nat.le_of_ble_eq_true rfl, Nat.le_of_ble_eq_true rfl⟩) ?_
    refine lv_iadd hx hb dX6_bendingOf_31 ?_
    exact zR_ret hx hb hr rfl hf hlk dX6_bendingOf_32
  · have hf := zif_t hf c_1
    refine lv_sipush (v := (500 : Int32)) hx hb dX6_bendingOf_10 (by decide) ?_
    refine lv_iload_n hx hb dX6_bendingOf_13 rfl (lv_at hl 0 rfl) ?_
    refine lv_bipush (v := (8 : Int32)) hx hb dX6_bendingOf_14 (by decide) ?_
    obtain ⟨R3, e_3, hf⟩ := zbind_ex hf
    refine z_callRi (va_runS (As := [.int ((780 : Int32) - x1), .int (8 : Int32)]) (rest := [.int (500 : Int32)]) ⟨hx, hb, hml, hown, hts⟩ (c_J9_floorDiv_7cf53 l dC dI cI cC cO  ((780 : Int32) - x1) (8 : Int32) R3 e_3) (va_cwS 2 hts gX6_bendingOf_J9_floorDiv_7cf53 rfl rfl rfl (by decide +kernel) ⟨Nat.le_of_ble_eq_true rfl, Nat.le_of_ble_eq_true rfl⟩) ⟨zpR_blind, z_useR hK hN hP [] rfl⟩ rfl rfl hl.1 rfl (lv_room (Nat.le_of_ble_eq_true rfl)) dX6_bendingOf_16 ⟨Nat.le_of_ble_eq_true rfl, Nat.le_of_ble_eq_true rfl⟩) ?_
    refine lv_iadd hx hb dX6_bendingOf_19 ?_
    refine lv_goto (tgt := 32) hx hb dX6_bendingOf_20 (by decide) ?_
    exact zR_ret hx hb hr rfl hf hlk dX6_bendingOf_32

def f_X0_bendAt (gS : zG) (x1 : Int32) (x2 : Int32) : Option (Int32) := (zbind (f_X0_hasThing gS x1) (fun R1 => (if R1 = 0 then (some ((0 : Int32))) else (zin x1 8 (if (gS 4 x1.toNatClampNeg) = 0 then (zin x1 8 (zin x1 8 (zbind (f_X6_bendingOf (gS 5 x1.toNatClampNeg) x2) (fun R7 => (zbind (f_J9_floorDiv_7cf53 ((gS 6 x1.toNatClampNeg) * R7) (100 : Int32)) (fun R8 => (zin x1 8 (if (gS 7 x1.toNatClampNeg) = (1 : Int32) then (some (R8)) else (some ((-R8))))))))))) else (some ((0 : Int32))))))))
theorem u_X0_bendAt_X0 : ∀ w ∈ u_ws RX0 TX0 10, w ∈ wsX0_bendAt := fun w h => List.mem_cons_of_mem _ (List.mem_append_right _ h)
theorem k_X0_bendAt_1 : Cond.fieldLink RX0 25 "JoinedLight$Bench" "kinds" "[I" ∈ wsX0_bendAt := List.mem_of_getElem? (i := 1) rfl
theorem k_X0_bendAt_2 : Cond.fieldLink RX0 31 "JoinedLight$Bench" "seconds" "[I" ∈ wsX0_bendAt := List.mem_of_getElem? (i := 2) rfl
theorem k_X0_bendAt_3 : Cond.fieldLink RX0 28 "JoinedLight$Bench" "firsts" "[I" ∈ wsX0_bendAt := List.mem_of_getElem? (i := 3) rfl
theorem k_X0_bendAt_12 : Cond.initialized RX6 ∈ wsX0_bendAt := List.mem_of_getElem? (i := 12) rfl
theorem k_X0_bendAt_11 : Cond.static yX6_bendingOf ∈ wsX0_bendAt := List.mem_of_getElem? (i := 11) rfl
theorem k_X0_bendAt_4 : Cond.fieldLink RX0 34 "JoinedLight$Bench" "turns" "[I" ∈ wsX0_bendAt := List.mem_of_getElem? (i := 4) rfl
abbrev rm_X0_bendAt : Room := { frames := 2, cells := 0, slots := 0, locals := 44 }
set_option maxHeartbeats 4000000 in
set_option maxRecDepth 100000 in
theorem c_X0_bendAt (l : Launch) (dC : Nat → ClassId) (dI : Nat → Nat → Nat) (cI cC cO : ClassId) (qS : Nat) (aS : Nat → Nat) (gS : zG) (x1 : Int32) (x2 : Int32) (R : Int32) (hf : f_X0_bendAt gS x1 x2 = some R) : cR l (dC, dI) (zT cI cC cO) yX0_bendAt wsX0_bendAt rm_X0_bendAt [.ref qS, .int x1, .int x2] [(wX0 cI qS aS gS)] (some (.int R)) := by
  refine zR_in (cc := cX0_bendAt) (maxL := 4) (ret := (some .int)) (plainFor_of_name (by decide)) rfl (Nat.le_of_ble_eq_true rfl) ?_
  intro p e s m below meth c hx hb hml hr hlk hown hts hK hN hP ls hl
  have hl : lv_has ls 4 [(0, .ref qS), (1, .int x1), (2, .int x2)] := hl
  unfold f_X0_bendAt at hf
  refine lv_aload_n hx hb dX0_bendAt_0 rfl (lv_at hl 0 rfl) ?_
  refine lv_iload_n hx hb dX0_bendAt_1 rfl (lv_at hl 1 rfl) ?_
  obtain ⟨R1, e_1, hf⟩ := zbind_ex hf
  refine z_callRi (va_runV (As := [.int x1]) (rest := []) ⟨hx, hb, hml, hown, hts⟩ (c_X0_hasThing l dC dI cI cC cO qS aS gS x1 R1 e_1) (cwV 1 hts gX0_bendAt_X0_hasThing rfl rfl rfl (by decide +kernel) ⟨Nat.le_of_ble_eq_true rfl, Nat.le_of_ble_eq_true rfl⟩) ⟨zpR_blind, va_recv hK hP (ci := 0) (q0 := 0) rfl rfl, z_useR hK hN hP [0] rfl⟩ rfl rfl hl.1 rfl (lv_room (Nat.le_of_ble_eq_true rfl)) dX0_bendAt_2 ⟨Nat.le_of_ble_eq_true rfl, Nat.le_of_ble_eq_true rfl⟩) ?_
  refine lv_if_eq (tgt := 17) hx hb dX0_bendAt_5 (by decide) (fun c_2 => ?_) (fun c_2 => ?_)
  · have hf := zif_t hf c_2
    refine lv_iconst (v := (0 : Int32)) hx hb dX0_bendAt_17 (by decide) ?_
    exact zR_ret hx hb hr rfl hf hlk dX0_bendAt_18
  · have hf := zif_f hf c_2
    refine lv_aload_n hx hb dX0_bendAt_8 rfl (lv_at hl 0 rfl) ?_
    refine va_get (D := (dC, dI)) (ci := 0) (v := .ref (aS 4)) (C := RX0) (T := TX0) (N := 10) hx hb hts u_X0_bendAt_X0 hown hK hP 0 rfl rfl 4 (by decide) (hts _ k_X0_bendAt_1) (fun _ h9 => h9) rfl dX0_bendAt_9 ?_
    refine lv_iload_n hx hb dX0_bendAt_12 rfl (lv_at hl 1 rfl) ?_
    obtain ⟨h_3, hf⟩ := zin_ex hf
    refine va_iald hx hb hK hP 4 0 rfl rfl h_3 dX0_bendAt_13 ?_
    refine lv_if_eq (tgt := 19) hx hb dX0_bendAt_14 (by decide) (fun c_4 => ?_) (fun c_4 => ?_)
    · have hf := zif_t hf c_4
      refine lv_aload_n hx hb dX0_bendAt_19 rfl (lv_at hl 0 rfl) ?_
      refine va_get (D := (dC, dI)) (ci := 0) (v := .ref (aS 6)) (C := RX0) (T := TX0) (N := 10) hx hb hts u_X0_bendAt_X0 hown hK hP 0 rfl rfl 6 (by decide) (hts _ k_X0_bendAt_2) (fun _ h9 => h9) rfl dX0_bendAt_20 ?_
      refine lv_iload_n hx hb dX0_bendAt_23 rfl (lv_at hl 1 rfl) ?_
      obtain ⟨h_5, hf⟩ := zin_ex hf
      refine va_iald hx hb hK hP 6 0 rfl rfl h_5 dX0_bendAt_24 ?_
      refine lv_aload_n hx hb dX0_bendAt_25 rfl (lv_at hl 0 rfl) ?_
      refine va_get (D := (dC, dI)) (ci := 0) (v := .ref (aS 5)) (C := RX0) (T := TX0) (N := 10) hx hb hts u_X0_bendAt_X0 hown hK hP 0 rfl rfl 5 (by decide) (hts _ k_X0_bendAt_3) (fun _ h9 => h9) rfl dX0_bendAt_26 ?_
      refine lv_iload_n hx hb dX0_bendAt_29 rfl (lv_at hl 1 rfl) ?_
      obtain ⟨h_6, hf⟩ := zin_ex hf
      refine va_iald hx hb hK hP 5 0 rfl rfl h_6 dX0_bendAt_30 ?_
      refine lv_iload_n hx hb dX0_bendAt_31 rfl (lv_at hl 2 rfl) ?_
      obtain ⟨R7, e_7, hf⟩ := zbind_ex hf
      refine z_callRi (va_runSN (As := [.int (gS 5 x1.toNatClampNeg), .int x2]) (rest := [.int (gS 6 x1.toNatClampNeg)]) ⟨hx, hb, hml, hown, hts⟩ (c_X6_bendingOf l dC dI cI cC cO  (gS 5 x1.toNatClampNeg) x2 R7 e_7) ⟨va_cnB 2 hts gX0_bendAt_X6_bendingOf_n87 rfl rfl rfl hN.2.1 (hts _ k_X0_bendAt_12) (by decide +kernel) ⟨Nat.le_of_ble_eq_true rfl, Nat.le_of_ble_eq_true rfl⟩, (hts _ k_X0_bendAt_11), trivial⟩ ⟨zpR_blind, z_useR hK hN hP [] rfl⟩ rfl rfl hl.1 rfl (lv_room (Nat.le_of_ble_eq_true rfl)) dX0_bendAt_32 ⟨Nat.le_of_ble_eq_true rfl, Nat.le_of_ble_eq_true rfl⟩) ?_
      refine lv_imul hx hb dX0_bendAt_35 ?_
      refine lv_bipush (v := (100 : Int32)) hx hb dX0_bendAt_36 (by decide) ?_
      obtain ⟨R8, e_8, hf⟩ := zbind_ex hf
      refine z_callRi (va_runS (As := [.int ((gS 6 x1.toNatClampNeg) * R7), .int (100 : Int32)]) (rest := []) ⟨hx, hb, hml, hown, hts⟩ (c_J9_floorDiv_7cf53 l dC dI cI cC cO  ((gS 6 x1.toNatClampNeg) * R7) (100 : Int32) R8 e_8) (va_cwS 2 hts gX0_bendAt_J9_floorDiv_7cf53 rfl rfl rfl (by decide +kernel) ⟨Nat.le_of_ble_eq_true rfl, Nat.le_of_ble_eq_true rfl⟩) ⟨zpR_blind, z_useR hK hN hP [] rfl⟩ rfl rfl hl.1 rfl (lv_room (Nat.le_of_ble_eq_true rfl)) dX0_bendAt_38 ⟨Nat.le_of_ble_eq_true rfl, Nat.le_of_ble_eq_true rfl⟩) ?_
      refine lv_istore_n (lv' := [(3, .int R8), (0, .ref qS), (1, .int x1), (2, .int x2)]) hx hb dX0_bendAt_41 rfl hl (by decide) rfl (fun ls hl => ?_)
      refine lv_aload_n hx hb dX0_bendAt_42 rfl (lv_at hl 1 rfl) ?_
      refine va_get (D := (dC, dI)) (ci := 0) (v := .ref (aS 7)) (C := RX0) (T := TX0) (N := 10) hx hb hts u_X0_bendAt_X0 hown hK hP 0 rfl rfl 7 (by decide) (hts _ k_X0_bendAt_4) (fun _ h9 => h9) rfl dX0_bendAt_43 ?_
      refine lv_iload_n hx hb dX0_bendAt_46 rfl (lv_at hl 2 rfl) ?_
      obtain ⟨h_9, hf⟩ := zin_ex hf
      refine va_iald hx hb hK hP 7 0 rfl rfl h_9 dX0_bendAt_47 ?_
      refine lv_iconst (v := (1 : Int32)) hx hb dX0_bendAt_48 (by decide) ?_
      refine lv_icmp_ne (tgt := 56) hx hb dX0_bendAt_49 (by decide) (fun c_10 => ?_) (fun c_10 => ?_)
      · have hf := zif_f hf c_10
        refine lv_iload_n hx hb dX0_bendAt_56 rfl (lv_at hl 0 rfl) ?_
        refine lv_ineg hx hb dX0_bendAt_57 ?_
        exact zR_ret hx hb hr rfl hf hlk dX0_bendAt_58
      · have hf := zif_t hf c_10
        refine lv_iload_n hx hb dX0_bendAt_52 rfl (lv_at hl 0 rfl) ?_
        refine lv_goto (tgt := 58) hx hb dX0_bendAt_53 (by decide) ?_
        exact zR_ret hx hb hr rfl hf hlk dX0_bendAt_58
    · have hf := zif_f hf c_4
      refine lv_iconst (v := (0 : Int32)) hx hb dX0_bendAt_17 (by decide) ?_
      exact zR_ret hx hb hr rfl hf hlk dX0_bendAt_18

def f_X0_isBeyond  (x0 : Int32) : Option (Int32) := (zbind (f_X6_within x0 (-999 : Int32) (999 : Int32)) (fun R1 => (if R1 = 0 then (some ((1 : Int32))) else (some ((0 : Int32))))))
theorem k_X0_isBeyond_2 : Cond.initialized RX6 ∈ wsX0_isBeyond := List.mem_of_getElem? (i := 2) rfl
theorem k_X0_isBeyond_1 : Cond.static yX6_within ∈ wsX0_isBeyond := List.mem_of_getElem? (i := 1) rfl
abbrev rm_X0_isBeyond : Room := { frames := 1, cells := 0, slots := 0, locals := 22 }
set_option maxHeartbeats 4000000 in
set_option maxRecDepth 100000 in
theorem c_X0_isBeyond (l : Launch) (dC : Nat → ClassId) (dI : Nat → Nat → Nat) (cI cC cO : ClassId)  (x0 : Int32) (R : Int32) (hf : f_X0_isBeyond x0 = some R) : cR l (dC, dI) (zT cI cC cO) yX0_isBeyond wsX0_isBeyond rm_X0_isBeyond [.int x0] [] (some (.int R)) := by
  refine zR_in (cc := cX0_isBeyond) (maxL := 1) (ret := (some .boolean)) (plainFor_of_name (by decide)) rfl (Nat.le_of_ble_eq_true rfl) ?_
  intro p e s m below meth c hx hb hml hr hlk hown hts hK hN hP ls hl
  have hl : lv_has ls 1 [(0, .int x0)] := hl
  unfold f_X0_isBeyond at hf
  refine lv_iload_n hx hb dX0_isBeyond_0 rfl (lv_at hl 0 rfl) ?_
  refine lv_sipush (v := (-999 : Int32)) hx hb dX0_isBeyond_1 (by decide) ?_
  refine lv_sipush (v := (999 : Int32)) hx hb dX0_isBeyond_4 (by decide) ?_
  obtain ⟨R1, e_1, hf⟩ := zbind_ex hf
  refine z_callRi (va_runSN (As := [.int x0, .int (-999 : Int32), .int (999 : Int32)]) (rest := []) ⟨hx, hb, hml, hown, hts⟩ (c_X6_within l dC dI cI cC cO  x0 (-999 : Int32) (999 : Int32) R1 e_1) ⟨va_cnB 3 hts gX0_isBeyond_X6_within_n62 rfl rfl rfl hN.1 (hts _ k_X0_isBeyond_2) (by decide +kernel) ⟨Nat.le_of_ble_eq_true rfl, Nat.le_of_ble_eq_true rfl⟩, (hts _ k_X0_isBeyond_1), trivial⟩ ⟨zpR_blind, z_useR hK hN hP [] rfl⟩ rfl rfl hl.1 rfl (lv_room (Nat.le_of_ble_eq_true rfl)) dX0_isBeyond_7 ⟨Nat.le_of_ble_eq_true rfl, Nat.le_of_ble_eq_true rfl⟩) ?_
  refine lv_if_ne (tgt := 17) hx hb dX0_isBeyond_10 (by decide) (fun c_2 => ?_) (fun c_2 => ?_)
  · have hf := zif_f hf c_2
    refine lv_iconst (v := (0 : Int32)) hx hb dX0_isBeyond_17 (by decide) ?_
    exact zR_ret hx hb hr rfl hf hlk dX0_isBeyond_18
  · have hf := zif_t hf c_2
    refine lv_iconst (v := (1 : Int32)) hx hb dX0_isBeyond_13 (by decide) ?_
    refine lv_goto (tgt := 18) hx hb dX0_isBeyond_14 (by decide) ?_
    exact zR_ret hx hb hr rfl hf hlk dX0_isBeyond_18

def f_X0_whyLostAt_32 (gS : zG)  (y1 : Int32) (y2 : Int32) (s0 : Int32) : Option (Int32) := (if s0 = 0 then (some ((0 : Int32))) else (zin y1 8 (zin y1 8 (zbind (f_X6_within y2 (gS 5 y1.toNatClampNeg) (gS 6 y1.toNatClampNeg)) (fun R10 => (if R10 = 0 then (some ((1 : Int32))) else (some ((0 : Int32)))))))))
def f_X0_whyLostAt_31 (gS : zG)  (y1 : Int32) (y2 : Int32) : Option (Int32) := (f_X0_whyLostAt_32 gS   y1 y2 (0 : Int32))
def f_X0_whyLostAt (gS : zG) (x1 : Int32) (x2 : Int32) : Option (Int32) := (zbind (f_X0_isBeyond x2) (fun R1 => (if R1 = 0 then (zbind (f_X0_hasThing gS x1) (fun R3 => (if R3 = 0 then (f_X0_whyLostAt_31 gS   x1 x2) else (zin x1 8 (if (gS 4 x1.toNatClampNeg) = (1 : Int32) then (f_X0_whyLostAt_32 gS   x1 x2 (1 : Int32)) else (f_X0_whyLostAt_31 gS   x1 x2)))))) else (some ((2 : Int32))))))
theorem u_X0_whyLostAt_X0 : ∀ w ∈ u_ws RX0 TX0 10, w ∈ wsX0_whyLostAt := fun w h => List.mem_cons_of_mem _ (List.mem_append_right _ h)
theorem k_X0_whyLostAt_1 : Cond.fieldLink RX0 25 "JoinedLight$Bench" "kinds" "[I" ∈ wsX0_whyLostAt := List.mem_of_getElem? (i := 1) rfl
theorem k_X0_whyLostAt_2 : Cond.fieldLink RX0 28 "JoinedLight$Bench" "firsts" "[I" ∈ wsX0_whyLostAt := List.mem_of_getElem? (i := 2) rfl
theorem k_X0_whyLostAt_3 : Cond.fieldLink RX0 31 "JoinedLight$Bench" "seconds" "[I" ∈ wsX0_whyLostAt := List.mem_of_getElem? (i := 3) rfl
theorem k_X0_whyLostAt_9 : Cond.initialized RX6 ∈ wsX0_whyLostAt := List.mem_of_getElem? (i := 9) rfl
theorem k_X0_whyLostAt_8 : Cond.static yX6_within ∈ wsX0_whyLostAt := List.mem_of_getElem? (i := 8) rfl
abbrev rm_X0_whyLostAt : Room := { frames := 2, cells := 0, slots := 0, locals := 42 }
set_option maxHeartbeats 4000000 in
set_option maxRecDepth 100000 in
theorem c_X0_whyLostAt (l : Launch) (dC : Nat → ClassId) (dI : Nat → Nat → Nat) (cI cC cO : ClassId) (qS : Nat) (aS : Nat → Nat) (gS : zG) (x1 : Int32) (x2 : Int32) (R : Int32) (hf : f_X0_whyLostAt gS x1 x2 = some R) : cR l (dC, dI) (zT cI cC cO) yX0_whyLostAt wsX0_whyLostAt rm_X0_whyLostAt [.ref qS, .int x1, .int x2] [(wX0 cI qS aS gS)] (some (.int R)) := by
  refine zR_in (cc := cX0_whyLostAt) (maxL := 4) (ret := (some .int)) (plainFor_of_name (by decide)) rfl (Nat.le_of_ble_eq_true rfl) ?_
  intro p e s m below meth c hx hb hml hr hlk hown hts hK hN hP ls hl
  have hl : lv_has ls 4 [(0, .ref qS), (1, .int x1), (2, .int x2)] := hl
  have w32 : ∀ (y1 : Int32) (y2 : Int32) (s0 : Int32) (ls : Array Slot), f_X0_whyLostAt_32 gS   y1 y2 s0 = some R → lv_has ls 4 [(0, .ref qS), (1, .int y1), (2, .int y2)] → W p l e (headSpec wsX0_whyLostAt rm_X0_whyLostAt).room s m [.ref qS, .int x1, .int x2].toArray below meth c s.heap [] 0 0 (MQ below (zqR (some (.int R))) [.ref qS, .int x1, .int x2].toArray s 0 0 (fun _ => False)) (F0 m 32 ls [.int s0]) := by
    intro y1 y2 s0 ls hf hl
    unfold f_X0_whyLostAt_32 at hf
    refine lv_istore_n (lv' := [(3, .int s0), (0, .ref qS), (1, .int y1), (2, .int y2)]) hx hb dX0_whyLostAt_32 rfl hl (by decide) rfl (fun ls hl => ?_)
    refine lv_iload_n hx hb dX0_whyLostAt_33 rfl (lv_at hl 0 rfl) ?_
    refine lv_if_eq (tgt := 60) hx hb dX0_whyLostAt_34 (by decide) (fun c_7 => ?_) (fun c_7 => ?_)
    · have hf := zif_t hf c_7
      refine lv_iconst (v := (0 : Int32)) hx hb dX0_whyLostAt_60 (by decide) ?_
      exact zR_ret hx hb hr rfl hf hlk dX0_whyLostAt_61
    · have hf := zif_f hf c_7
      refine lv_iload_n hx hb dX0_whyLostAt_37 rfl (lv_at hl 3 rfl) ?_
      refine lv_aload_n hx hb dX0_whyLostAt_38 rfl (lv_at hl 1 rfl) ?_
      refine va_get (D := (dC, dI)) (ci := 0) (v := .ref (aS 5)) (C := RX0) (T := TX0) (N := 10) hx hb hts u_X0_whyLostAt_X0 hown hK hP 0 rfl rfl 5 (by decide) (hts _ k_X0_whyLostAt_2) (fun _ h9 => h9) rfl dX0_whyLostAt_39 ?_
      refine lv_iload_n hx hb dX0_whyLostAt_42 rfl (lv_at hl 2 rfl) ?_
      obtain ⟨h_8, hf⟩ := zin_ex hf
      refine va_iald hx hb hK hP 5 0 rfl rfl h_8 dX0_whyLostAt_43 ?_
      refine lv_aload_n hx hb dX0_whyLostAt_44 rfl (lv_at hl 1 rfl) ?_
      refine va_get (D := (dC, dI)) (ci := 0) (v := .ref (aS 6)) (C := RX0) (T := TX0) (N := 10) hx hb hts u_X0_whyLostAt_X0 hown hK hP 0 rfl rfl 6 (by decide) (hts _ k_X0_whyLostAt_3) (fun _ h9 => h9) rfl dX0_whyLostAt_45 ?_
      refine lv_iload_n hx hb dX0_whyLostAt_48 rfl (lv_at hl 2 rfl) ?_
      obtain ⟨h_9, hf⟩ := zin_ex hf
      refine va_iald hx hb hK hP 6 0 rfl rfl h_9 dX0_whyLostAt_49 ?_
      obtain ⟨R10, e_10, hf⟩ := zbind_ex hf
      refine z_callRi (va_runSN (As := [.int y2, .int (gS 5 y1.toNatClampNeg), .int (gS 6 y1.toNatClampNeg)]) (rest := []) ⟨hx, hb, hml, hown, hts⟩ (c_X6_within l dC dI cI cC cO  y2 (gS 5 y1.toNatClampNeg) (gS 6 y1.toNatClampNeg) R10 e_10) ⟨va_cnB 3 hts gX0_whyLostAt_X6_within_n62 rfl rfl rfl hN.1 (hts _ k_X0_whyLostAt_9) (by decide +kernel) ⟨Nat.le_of_ble_eq_true rfl, Nat.le_of_ble_eq_true rfl⟩, (hts _ k_X0_whyLostAt_8), trivial⟩ ⟨zpR_blind, z_useR hK hN hP [] rfl⟩ rfl rfl hl.1 rfl (lv_room (Nat.le_of_ble_eq_true rfl)) dX0_whyLostAt_50 ⟨Nat.le_of_ble_eq_true rfl, Nat.le_of_ble_eq_true rfl⟩) ?_
      refine lv_if_ne (tgt := 60) hx hb dX0_whyLostAt_53 (by decide) (fun c_11 => ?_) (fun c_11 => ?_)
      · have hf := zif_f hf c_11
        refine lv_iconst (v := (0 : Int32)) hx hb dX0_whyLostAt_60 (by decide) ?_
        exact zR_ret hx hb hr rfl hf hlk dX0_whyLostAt_61
      · have hf := zif_t hf c_11
        refine lv_iconst (v := (1 : Int32)) hx hb dX0_whyLostAt_56 (by decide) ?_
        refine lv_goto (tgt := 61) hx hb dX0_whyLostAt_57 (by decide) ?_
        exact zR_ret hx hb hr rfl hf hlk dX0_whyLostAt_61
  have w31 : ∀ (y1 : Int32) (y2 : Int32) (ls : Array Slot), f_X0_whyLostAt_31 gS   y1 y2 = some R → lv_has ls 4 [(0, .ref qS), (1, .int y1), (2, .int y2)] → W p l e (headSpec wsX0_whyLostAt rm_X0_whyLostAt).room s m [.ref qS, .int x1, .int x2].toArray below meth c s.heap [] 0 0 (MQ below (zqR (some (.int R))) [.ref qS, .int x1, .int x2].toArray s 0 0 (fun _ => False)) (F0 m 31 ls []) := by
    intro y1 y2 ls hf hl
    unfold f_X0_whyLostAt_31 at hf
    refine lv_iconst (v := (0 : Int32)) hx hb dX0_whyLostAt_31 (by decide) ?_
    exact w32  y1 y2 (0 : Int32) ls hf (lv_sub hl [0, 1, 2] rfl)
  unfold f_X0_whyLostAt at hf
  refine lv_iload_n hx hb dX0_whyLostAt_0 rfl (lv_at hl 2 rfl) ?_
  obtain ⟨R1, e_1, hf⟩ := zbind_ex hf
  refine z_callRi (va_runS (As := [.int x2]) (rest := []) ⟨hx, hb, hml, hown, hts⟩ (c_X0_isBeyond l dC dI cI cC cO  x2 R1 e_1) (va_cwS 1 hts gX0_whyLostAt_X0_isBeyond rfl rfl rfl (by decide +kernel) ⟨Nat.le_of_ble_eq_true rfl, Nat.le_of_ble_eq_true rfl⟩) ⟨zpR_blind, z_useR hK hN hP [] rfl⟩ rfl rfl hl.1 rfl (lv_room (Nat.le_of_ble_eq_true rfl)) dX0_whyLostAt_1 ⟨Nat.le_of_ble_eq_true rfl, Nat.le_of_ble_eq_true rfl⟩) ?_
  refine lv_if_eq (tgt := 9) hx hb dX0_whyLostAt_4 (by decide) (fun c_2 => ?_) (fun c_2 => ?_)
  · have hf := zif_t hf c_2
    refine lv_aload_n hx hb dX0_whyLostAt_9 rfl (lv_at hl 0 rfl) ?_
    refine lv_iload_n hx hb dX0_whyLostAt_10 rfl (lv_at hl 1 rfl) ?_
    obtain ⟨R3, e_3, hf⟩ := zbind_ex hf
    refine z_callRi (va_runV (As := [.int x1]) (rest := []) ⟨hx, hb, hml, hown, hts⟩ (c_X0_hasThing l dC dI cI cC cO qS aS gS x1 R3 e_3) (cwV 1 hts gX0_whyLostAt_X0_hasThing rfl rfl rfl (by decide +kernel) ⟨Nat.le_of_ble_eq_true rfl, Nat.le_of_ble_eq_true rfl⟩) ⟨zpR_blind, va_recv hK hP (ci := 0) (q0 := 0) rfl rfl, z_useR hK hN hP [0] rfl⟩ rfl rfl hl.1 rfl (lv_room (Nat.le_of_ble_eq_true rfl)) dX0_whyLostAt_11 ⟨Nat.le_of_ble_eq_true rfl, Nat.le_of_ble_eq_true rfl⟩) ?_
    refine lv_if_eq (tgt := 31) hx hb dX0_whyLostAt_14 (by decide) (fun c_4 => ?_) (fun c_4 => ?_)
    · have hf := zif_t hf c_4
      exact w31  x1 x2 ls hf (lv_sub hl [0, 1, 2] rfl)
    · have hf := zif_f hf c_4
      refine lv_aload_n hx hb dX0_whyLostAt_17 rfl (lv_at hl 0 rfl) ?_
      refine va_get (D := (dC, dI)) (ci := 0) (v := .ref (aS 4)) (C := RX0) (T := TX0) (N := 10) hx hb hts u_X0_whyLostAt_X0 hown hK hP 0 rfl rfl 4 (by decide) (hts _ k_X0_whyLostAt_1) (fun _ h9 => h9) rfl dX0_whyLostAt_18 ?_
      refine lv_iload_n hx hb dX0_whyLostAt_21 rfl (lv_at hl 1 rfl) ?_
      obtain ⟨h_5, hf⟩ := zin_ex hf
      refine va_iald hx hb hK hP 4 0 rfl rfl h_5 dX0_whyLostAt_22 ?_
      refine lv_iconst (v := (1 : Int32)) hx hb dX0_whyLostAt_23 (by decide) ?_
      refine lv_icmp_ne (tgt := 31) hx hb dX0_whyLostAt_24 (by decide) (fun c_6 => ?_) (fun c_6 => ?_)
      · have hf := zif_f hf c_6
        exact w31  x1 x2 ls hf (lv_sub hl [0, 1, 2] rfl)
      · have hf := zif_t hf c_6
        refine lv_iconst (v := (1 : Int32)) hx hb dX0_whyLostAt_27 (by decide) ?_
        refine lv_goto (tgt := 32) hx hb dX0_whyLostAt_28 (by decide) ?_
        exact w32  x1 x2 (1 : Int32) ls hf (lv_sub hl [0, 1, 2] rfl)
  · have hf := zif_f hf c_2
    refine lv_iconst (v := (2 : Int32)) hx hb dX0_whyLostAt_7 (by decide) ?_
    exact zR_ret hx hb hr rfl hf hlk dX0_whyLostAt_8
