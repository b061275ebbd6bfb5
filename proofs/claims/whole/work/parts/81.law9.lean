set_option maxHeartbeats 4000000 in
set_option maxRecDepth 100000 in
theorem law_loop {p : Program} {l : Launch} {e : Env} {s : State} {m : MethodId} {below : List Frame} {meth : Method} {c : Code} {b L : Nat} {xs : Nat → Int32} {dC : Nat → ClassId} {dI : Nat → Nat → Nat} {cI cC cO : ClassId} (hL : L ≤ 2560) (X : lwC p s m c b L xs dC dI cI cC cO) (hr : meth.sig.returnType = ret) (hlk : meth.locks = false) {qM qN : Nat} {bM aB aT aR aC aY aX aN : Nat → Nat} : ∀ (r j : Nat), L ≤ 5 * j + r → 5 * j ≤ L + 4 → ∀ (gM gB gT gR gC gH gY gX gN : zG) (zZ : Nat → zS), zRel gB gX gY (zcn zZ) gN → ∀ (H : Heap) (locs : List Loc) (ls : Array Slot), va_P (dC, dI) vwCl [(wX6 qM bM gM), (wX0 cI (bM 0) aB gB), (wX0 cI (bM 1) aT gT), (wX4 cI (bM 2) aR gR), (wX1 cI (bM 3) aC gC), (wX2 (bM 4) gH), (wX3 cO (bM 5) aY gY (zrm zZ)), (wX5 cI cC (bM 6) aX gX), (wX7 cI qN aN gN), (wZ cI (zZ 0)), (wZ cI (zZ 1)), (wZ cI (zZ 2)), (wZ cI (zZ 3))].flatten H → va_D (fun q : Nat => s.heap.size ≤ q) [(wX6 qM bM gM), (wX0 cI (bM 0) aB gB), (wX0 cI (bM 1) aT gT), (wX4 cI (bM 2) aR gR), (wX1 cI (bM 3) aC gC), (wX2 (bM 4) gH), (wX3 cO (bM 5) aY gY (zrm zZ)), (wX5 cI cC (bM 6) aX gX), (wX7 cI qN aN gN), (wZ cI (zZ 0)), (wZ cI (zZ 1)), (wZ cI (zZ 2)), (wZ cI (zZ 3))].flatten → va_S (fun q : Nat => s.heap.size ≤ q) s.heap H locs → lv_has ls 4 [(0, .ref b), (1, .ref qM), (2, .ref qN), (3, .int (nI (5 * j)))] → W p l e room_1 s m #[.ref b] below meth c H locs (41 + 8 * j) (798 + 66 * j) (lw_Z below #[Value.ref b] s) (F0 m 18 ls []) := by
  intro r
  induction r with
  | zero =>
    intro j hj hj2 gM gB gT gR gC gH gY gX gN zZ hR H locs ls hP hD hS hl
    have X0 := X
    obtain ⟨hx, hb, hml, hown, hts, hX, hbl, hK, hN⟩ := X0
    have hbA : ¬ (fun q : Nat => s.heap.size ≤ q) b := Nat.not_le.mpr hbl
    refine lv_iload_n hx hb dL_law_18 rfl (lv_at hl 3 rfl) ?_
    refine lv_aload_n hx hb dL_law_19 rfl (lv_at hl 0 rfl) ?_
    refine va_slen hx hb hX hbl hbA hS dL_law_20 ?_
    refine lv_iconst (v := (5 : Int32)) hx hb dL_law_21 (by decide) ?_
    refine lv_isub hx hb dL_law_22 ?_
    have e5 : (Int32.ofNat L - (5 : Int32)).toInt = (L : Int) - 5 := by
      have e1 : (Int32.ofNat L).toInt = (L : Int) := toInt_nI (n := L) (by omega)
      have e2 : (5 : Int32).toInt = 5 := rfl
      rw [isub (by rw [e1, e2]; omega) (by rw [e1, e2]; omega), e1, e2]
    have e6 : (nI (5 * j)).toInt = ((5 * j : Nat) : Int) := toInt_nI (by omega)
    refine lv_icmp_gt (tgt := 795) hx hb dL_law_23 (by decide) (fun c_1 => ?_) (fun c_1 => ?_)
    · refine lv_iconst (v := (1 : Int32)) hx hb dL_law_795 (by decide) ?_
      refine va_forget hS.2.2 ?_
      refine W.widen (k := 600000) (n := 7302250) (by omega) (by omega) ?_
      exact W.base (lw_ret (Drawn.sameBut.refl s.drawn lw_cs) hx hb hr hlk dL_law_796)
    · rw [ilt, e5, e6] at c_1
      omega
  | succ r ih =>
    intro j hj hj2 gM gB gT gR gC gH gY gX gN zZ hR H locs ls hP hD hS hl
    have X0 := X
    obtain ⟨hx, hb, hml, hown, hts, hX, hbl, hK, hN⟩ := X0
    have hbA : ¬ (fun q : Nat => s.heap.size ≤ q) b := Nat.not_le.mpr hbl
    refine lv_iload_n hx hb dL_law_18 rfl (lv_at hl 3 rfl) ?_
    refine lv_aload_n hx hb dL_law_19 rfl (lv_at hl 0 rfl) ?_
    refine va_slen hx hb hX hbl hbA hS dL_law_20 ?_
    refine lv_iconst (v := (5 : Int32)) hx hb dL_law_21 (by decide) ?_
    refine lv_isub hx hb dL_law_22 ?_
    have e5 : (Int32.ofNat L - (5 : Int32)).toInt = (L : Int) - 5 := by
      have e1 : (Int32.ofNat L).toInt = (L : Int) := toInt_nI (n := L) (by omega)
      have e2 : (5 : Int32).toInt = 5 := rfl
      rw [isub (by rw [e1, e2]; omega) (by rw [e1, e2]; omega), e1, e2]
    have e6 : (nI (5 * j)).toInt = ((5 * j : Nat) : Int) := toInt_nI (by omega)
    refine lv_icmp_gt (tgt := 795) hx hb dL_law_23 (by decide) (fun c_1 => ?_) (fun c_1 => ?_)
    · refine lv_iconst (v := (1 : Int32)) hx hb dL_law_795 (by decide) ?_
      refine va_forget hS.2.2 ?_
      refine W.widen (k := 600000) (n := 7302250) (by omega) (by omega) ?_
      exact W.base (lw_ret (Drawn.sameBut.refl s.drawn lw_cs) hx hb hr hlk dL_law_796)
    rw [ilt, e5, e6] at c_1
    have h0 : vp_in (nI (5 * j)) L := vp_in_nI (by omega) (by omega)
    have h1 : vp_in (nI (5 * j) + (1 : Int32)) L := by
      rw [show nI (5 * j) + (1 : Int32) = nI (5 * j + 1) from nI_add _ _]
      exact vp_in_nI (by omega) (by omega)
    have h2 : vp_in (nI (5 * j) + (2 : Int32)) L := by
      rw [show nI (5 * j) + (2 : Int32) = nI (5 * j + 2) from nI_add _ _]
      exact vp_in_nI (by omega) (by omega)
    have h3 : vp_in (nI (5 * j) + (3 : Int32)) L := by
      rw [show nI (5 * j) + (3 : Int32) = nI (5 * j + 3) from nI_add _ _]
      exact vp_in_nI (by omega) (by omega)
    have h4 : vp_in (nI (5 * j) + (4 : Int32)) L := by
      rw [show nI (5 * j) + (4 : Int32) = nI (5 * j + 4) from nI_add _ _]
      exact vp_in_nI (by omega) (by omega)
    have K : lwK p l e s m below meth c b qM qN bM aB aT aR aC aY aX aN dC dI cI cC cO (lw_Z below #[Value.ref b] s) (nI (5 * j)) (41 + 8 * j + 8) (798 + 66 * j + 66) := by
      intro gM gB gT gR gC gH gY gX gN zZ hR H locs ls hP hD hS hl
      refine lv_iinc (v := nI (5 * j) + (5 : Int32)) (lv' := [(3, .int (nI (5 * j) + (5 : Int32))), (0, .ref b), (1, .ref qM), (2, .ref qN)]) hx hb dL_law_789 hl (k := 3) rfl rfl (by decide) rfl (fun ls hl => ?_)
      refine lv_goto (tgt := 18) hx hb dL_law_792 (by decide) ?_
      refine W.widen (k := 41 + 8 * (j + 1)) (n := 798 + 66 * (j + 1)) (by omega) (by omega) ?_
      refine ih (j + 1) (by omega) (by omega) gM gB gT gR gC gH gY gX gN zZ hR H locs ls hP hD hS ?_
      rw [show nI (5 * (j + 1)) = nI (5 * j) + (5 : Int32) from (nI_add (5 * j) 5).symm]
      exact lv_sub hl [1, 2, 3, 0] rfl
    refine lv_aload_n hx hb dL_law_26 rfl (lv_at hl 0 rfl) ?_
    refine lv_iload_n hx hb dL_law_27 rfl (lv_at hl 3 rfl) ?_
    refine va_sld hx hb hX hbl hbA hS h0 dL_law_28 ?_
    refine lv_bipush (v := (31 : Int32)) hx hb dL_law_29 (by decide) ?_
    refine lv_iand hx hb dL_law_31 ?_
    generalize (xs (nI (5 * j)).toNatClampNeg &&& (31 : Int32)) = v
    by_cases c_2 : v = (0 : Int32)
    · refine lv_tableIn (tgt := 140) (off := 108) hx hb dL_law_32 (by rw [c_2]; decide) (by rw [c_2]; decide) (by rw [c_2]; first | done | rfl) (by decide) ?_
      exact lc_line X h1 h2 h3 h4 hR (by omega) (by omega) K H locs ls hP hD hS hl
    by_cases c_3 : v = (1 : Int32)
    · refine lv_tableIn (tgt := 173) (off := 141) hx hb dL_law_32 (by rw [c_3]; decide) (by rw [c_3]; decide) (by rw [c_3]; first | done | rfl) (by decide) ?_
      exact lc_dim X h1 h2 h3 h4 hR (by omega) (by omega) K H locs ls hP hD hS hl
    by_cases c_4 : v = (2 : Int32)
    · refine lv_tableIn (tgt := 206) (off := 174) hx hb dL_law_32 (by rw [c_4]; decide) (by rw [c_4]; decide) (by rw [c_4]; first | done | rfl) (by decide) ?_
      exact lc_prism X h1 h2 h3 h4 hR (by omega) (by omega) K H locs ls hP hD hS hl
    by_cases c_5 : v = (3 : Int32)
    · refine lv_tableIn (tgt := 259) (off := 227) hx hb dL_law_32 (by rw [c_5]; decide) (by rw [c_5]; decide) (by rw [c_5]; first | done | rfl) (by decide) ?_
      exact lc_slit X h1 h2 h3 h4 hR (by omega) (by omega) K H locs ls hP hD hS hl
    by_cases c_6 : v = (4 : Int32)
    · refine lv_tableIn (tgt := 302) (off := 270) hx hb dL_law_32 (by rw [c_6]; decide) (by rw [c_6]; decide) (by rw [c_6]; first | done | rfl) (by decide) ?_
      exact lc_take X h1 h2 h3 h4 hR (by omega) (by omega) K H locs ls hP hD hS hl
    by_cases c_7 : v = (5 : Int32)
    · refine lv_tableIn (tgt := 325) (off := 293) hx hb dL_law_32 (by rw [c_7]; decide) (by rw [c_7]; decide) (by rw [c_7]; first | done | rfl) (by decide) ?_
      exact lc_move X h1 h2 h3 h4 hR (by omega) (by omega) K H locs ls hP hD hS hl
    by_cases c_8 : v = (6 : Int32)
    · refine lv_tableIn (tgt := 358) (off := 326) hx hb dL_law_32 (by rw [c_8]; decide) (by rw [c_8]; decide) (by rw [c_8]; first | done | rfl) (by decide) ?_
      exact lc_set X h1 h2 h3 h4 hR (by omega) (by omega) K H locs ls hP hD hS hl
    by_cases c_9 : v = (7 : Int32)
    · refine lv_tableIn (tgt := 391) (off := 359) hx hb dL_law_32 (by rw [c_9]; decide) (by rw [c_9]; decide) (by rw [c_9]; first | done | rfl) (by decide) ?_
      exact lc_lineOf X h1 h2 h3 h4 hR (by omega) (by omega) K H locs ls hP hD hS hl
    by_cases c_10 : v = (8 : Int32)
    · refine lv_tableIn (tgt := 424) (off := 392) hx hb dL_law_32 (by rw [c_10]; decide) (by rw [c_10]; decide) (by rw [c_10]; first | done | rfl) (by decide) ?_
      exact lc_thing X h1 h2 h3 h4 hR (by omega) (by omega) K H locs ls hP hD hS hl
    by_cases c_11 : v = (9 : Int32)
    · refine lv_tableIn (tgt := 457) (off := 425) hx hb dL_law_32 (by rw [c_11]; decide) (by rw [c_11]; decide) (by rw [c_11]; first | done | rfl) (by decide) ?_
      exact lc_height X h1 h2 h3 h4 hR (by omega) (by omega) K H locs ls hP hD hS hl
    by_cases c_12 : v = (10 : Int32)
    · refine lv_tableIn (tgt := 490) (off := 458) hx hb dL_law_32 (by rw [c_12]; decide) (by rw [c_12]; decide) (by rw [c_12]; first | done | rfl) (by decide) ?_
      exact lc_light X h1 h2 h3 h4 hR (by omega) (by omega) K H locs ls hP hD hS hl
    by_cases c_13 : v = (11 : Int32)
    · refine lv_tableIn (tgt := 513) (off := 481) hx hb dL_law_32 (by rw [c_13]; decide) (by rw [c_13]; decide) (by rw [c_13]; first | done | rfl) (by decide) ?_
      exact lc_bright X h1 h2 h3 h4 hR (by omega) (by omega) K H locs ls hP hD hS hl
    by_cases c_14 : v = (12 : Int32)
    · refine lv_tableIn (tgt := 546) (off := 514) hx hb dL_law_32 (by rw [c_14]; decide) (by rw [c_14]; decide) (by rw [c_14]; first | done | rfl) (by decide) ?_
      exact lc_bending X h1 h2 h3 h4 hR (by omega) (by omega) K H locs ls hP hD hS hl
    by_cases c_15 : v = (13 : Int32)
    · refine lv_tableIn (tgt := 579) (off := 547) hx hb dL_law_32 (by rw [c_15]; decide) (by rw [c_15]; decide) (by rw [c_15]; first | done | rfl) (by decide) ?_
      exact lc_best X h1 h2 h3 h4 hR (by omega) (by omega) K H locs ls hP hD hS hl
    by_cases c_16 : v = (14 : Int32)
    · refine lv_tableIn (tgt := 612) (off := 580) hx hb dL_law_32 (by rw [c_16]; decide) (by rw [c_16]; decide) (by rw [c_16]; first | done | rfl) (by decide) ?_
      exact lc_alone X h1 h2 h3 h4 hR (by omega) (by omega) K H locs ls hP hD hS hl
    by_cases c_17 : v = (15 : Int32)
    · refine lv_tableIn (tgt := 645) (off := 613) hx hb dL_law_32 (by rw [c_17]; decide) (by rw [c_17]; decide) (by rw [c_17]; first | done | rfl) (by decide) ?_
      exact lc_tuned X h1 h2 h3 h4 hR (by omega) (by omega) K H locs ls hP hD hS hl
    by_cases c_18 : v = (16 : Int32)
    · refine lv_tableIn (tgt := 668) (off := 636) hx hb dL_law_32 (by rw [c_18]; decide) (by rw [c_18]; decide) (by rw [c_18]; first | done | rfl) (by decide) ?_
      exact lc_share X h1 h2 h3 h4 hR (by omega) (by omega) K H locs ls hP hD hS hl
    by_cases c_19 : v = (17 : Int32)
    · refine lv_tableIn (tgt := 681) (off := 649) hx hb dL_law_32 (by rw [c_19]; decide) (by rw [c_19]; decide) (by rw [c_19]; first | done | rfl) (by decide) ?_
      exact lc_count X h1 h2 h3 h4 hR (by omega) (by omega) K H locs ls hP hD hS hl
    by_cases c_20 : v = (18 : Int32)
    · refine lv_tableIn (tgt := 704) (off := 672) hx hb dL_law_32 (by rw [c_20]; decide) (by rw [c_20]; decide) (by rw [c_20]; first | done | rfl) (by decide) ?_
      exact lc_undo X h1 h2 h3 h4 hR (by omega) (by omega) K H locs ls hP hD hS hl
    by_cases c_21 : v = (19 : Int32)
    · refine lv_tableIn (tgt := 717) (off := 685) hx hb dL_law_32 (by rw [c_21]; decide) (by rw [c_21]; decide) (by rw [c_21]; first | done | rfl) (by decide) ?_
      exact lc_type X h1 h2 h3 h4 hR (by omega) (by omega) K H locs ls hP hD hS hl
    by_cases c_22 : v = (20 : Int32)
    · refine lv_tableIn (tgt := 740) (off := 708) hx hb dL_law_32 (by rw [c_22]; decide) (by rw [c_22]; decide) (by rw [c_22]; first | done | rfl) (by decide) ?_
      exact lc_clearText X h1 h2 h3 h4 hR (by omega) (by omega) K H locs ls hP hD hS hl
    by_cases c_23 : v = (21 : Int32)
    · refine lv_tableIn (tgt := 753) (off := 721) hx hb dL_law_32 (by rw [c_23]; decide) (by rw [c_23]; decide) (by rw [c_23]; first | done | rfl) (by decide) ?_
      exact lc_fault X h1 h2 h3 h4 hR (by omega) (by omega) K H locs ls hP hD hS hl
    by_cases c_24 : v = (22 : Int32)
    · refine lv_tableIn (tgt := 776) (off := 744) hx hb dL_law_32 (by rw [c_24]; decide) (by rw [c_24]; decide) (by rw [c_24]; first | done | rfl) (by decide) ?_
      exact lc_play X h1 h2 h3 h4 hR (by omega) (by omega) K H locs ls hP hD hS hl
    refine lv_tableOut (tgt := 789) hx hb dL_law_32 (by have q_2 := zne_toInt c_2 (a := 0) (by decide); have q_3 := zne_toInt c_3 (a := 1) (by decide); have q_4 := zne_toInt c_4 (a := 2) (by decide); have q_5 := zne_toInt c_5 (a := 3) (by decide); have q_6 := zne_toInt c_6 (a := 4) (by decide); have q_7 := zne_toInt c_7 (a := 5) (by decide); have q_8 := zne_toInt c_8 (a := 6) (by decide); have q_9 := zne_toInt c_9 (a := 7) (by decide); have q_10 := zne_toInt c_10 (a := 8) (by decide); have q_11 := zne_toInt c_11 (a := 9) (by decide); have q_12 := zne_toInt c_12 (a := 10) (by decide); have q_13 := zne_toInt c_13 (a := 11) (by decide); have q_14 := zne_toInt c_14 (a := 12) (by decide); have q_15 := zne_toInt c_15 (a := 13) (by decide); have q_16 := zne_toInt c_16 (a := 14) (by decide); have q_17 := zne_toInt c_17 (a := 15) (by decide); have q_18 := zne_toInt c_18 (a := 16) (by decide); have q_19 := zne_toInt c_19 (a := 17) (by decide); have q_20 := zne_toInt c_20 (a := 18) (by decide); have q_21 := zne_toInt c_21 (a := 19) (by decide); have q_22 := zne_toInt c_22 (a := 20) (by decide); have q_23 := zne_toInt c_23 (a := 21) (by decide); have q_24 := zne_toInt c_24 (a := 22) (by decide); omega) (by decide) ?_
    refine W.widen (k := 41 + 8 * j + 8) (n := 798 + 66 * j + 66) (by omega) (by omega) ?_
    exact K gM gB gT gR gC gH gY gX gN zZ hR H locs ls hP hD hS hl
