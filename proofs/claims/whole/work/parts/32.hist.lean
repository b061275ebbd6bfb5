/-! ===== the history: references that may be null ===== -/
def rrot (rm : Nat → Option Nat) : Nat → Option Nat := va_up (va_up (va_up (va_up rm 0 (rm 1)) 1 (rm 2)) 2 (rm 3)) 3 (rm 0)
def zrot (z : Nat → zS) : Nat → zS := va_up (va_up (va_up (va_up z 0 (z 1)) 1 (z 2)) 2 (z 3)) 3 (z 0)
def hrot (h : Nat → Option zG) : Nat → Option zG := va_up (va_up (va_up (va_up h 0 (h 1)) 1 (h 2)) 2 (h 3)) 3 (h 0)
theorem zmap_up {α β : Type} (F : α → β) (z : Nat → α) (k : Nat) (v : α) : (fun j => F (va_up z k v j)) = va_up (fun j => F (z j)) k (F v) := by
  funext j
  by_cases h : j = k
  · subst h; rw [va_up_self, va_up_self]
  · rw [va_up_ne _ _ h, va_up_ne _ _ h]
theorem zrm_up (z : Nat → zS) (k : Nat) (v : zS) : zrm (va_up z k v) = va_up (zrm z) k (v.map (fun e => e.1)) := zmap_up (fun o : zS => Option.map (fun e : Nat × (Nat → Nat) × zG => e.1) o) z k v
theorem zcn_up (z : Nat → zS) (k : Nat) (v : zS) : zcn (va_up z k v) = va_up (zcn z) k (v.map (fun e => e.2.2)) := zmap_up (fun o : zS => Option.map (fun e : Nat × (Nat → Nat) × zG => e.2.2) o) z k v
theorem zrm_rot (z : Nat → zS) : zrm (zrot z) = rrot (zrm z) := by
  unfold zrot rrot
  rw [zrm_up, zrm_up, zrm_up, zrm_up]
  rfl
theorem zcn_rot (z : Nat → zS) : zcn (zrot z) = hrot (zcn z) := by
  unfold zrot hrot
  rw [zcn_up, zcn_up, zcn_up, zcn_up]
  rfl
theorem va_up_eq {α : Type} (f : Nat → α) (k : Nat) (v : α) (h : f k = v) : va_up f k v = f := by
  funext j
  by_cases e : j = k
  · subst e; rw [va_up_self, h]
  · rw [va_up_ne _ _ e]
section ZH
variable {p : Program} {l : Launch} {e : Env} {R : Room} {s : State} {m : MethodId} {args : Array Value} {below : List Frame} {meth : Method} {c : Code} {H H0 : Heap} {locs : List Loc} {cells slots mc ms : Nat} {Q : State → Prop}
variable {pc : Nat} {ls : Array Slot} {rest st0 : List Value} {a : Array Value} {A : Nat → Prop} {D : va_G} {tys : List (ClassId × FieldType)} {cc : ByteArray}
theorem z_astq {cI cC cO : ClassId} {gs gs' : List va_W} {r : Option Nat} {i : Int32} {q : Nat} {f : Nat → Option Nat} {n : Nat} (hexec : p.tables.exec = Jvm.exec) (hb : c.code = cc) (hK : va_K D vwCl (zT cI cC cO) s) (hP : va_P D vwCl gs.flatten H) (hD : va_D A gs.flatten) (hS : va_S A H0 H locs) (q0 : Nat) (ha : gs.flatten[q0]? = some (q, .inl (cO, n, .inr (.inr (.inr (.inr f)))))) (hr : ∀ v, r = some v → ∃ vs, (v, .inr (0, vs)) ∈ gs.flatten) (hin : vp_in i n) (hg : gs'.flatten = gs.flatten.set q0 (q, .inl (cO, n, .inr (.inr (.inr (.inr (va_up f i.toNatClampNeg r))))))) (hdg : decode cc pc = .ok (.aastore, 1))
    (kk : ∀ (H1 : Heap) (locs1 : List Loc), va_P D vwCl gs'.flatten H1 → va_D A gs'.flatten → va_S A H0 H1 locs1 → W p l e R s m args below meth c H1 locs1 cells slots Q (F0 m (pc + 1) ls rest)) : W p l e R s m args below meth c H locs cells slots Q (F0 m pc ls (va_rf r :: .int i :: .ref q :: rest)) := by
  rw [hg] at kk
  cases r with
  | none => exact va_astqN hexec hb hK hP hD hS q0 2 ha rfl hin hdg kk
  | some v =>
    obtain ⟨vs, hv⟩ := hr v rfl
    obtain ⟨qk, hk⟩ := List.mem_iff_getElem?.mp hv
    exact va_astq hexec hb hK hP hD hS q0 2 qk 0 (r := (RX0, TX0, 10)) ha rfl hk rfl hin hdg kk
theorem z_astore_n {k : Fin 4} {i nL : Nat} {r : Option Nat} {lv lv' : List (Nat × Value)} (hexec : p.tables.exec = Jvm.exec) (hb : c.code = cc) (hdg : decode cc pc = .ok (.astore_n k, 1)) (hi : (k : Nat) = i) (h : lv_has ls nL lv) (hn : i < nL) (hl : (i, va_rf r) :: lv.filter (fun q => !(q.1 == i) && !(q.1 + 1 == i && q.2.category == 2)) = lv')
    (kk : ∀ ls' : Array Slot, lv_has ls' nL lv' → W p l e R s m args below meth c H locs cells slots Q (F0 m (pc + 1) ls' rest)) : W p l e R s m args below meth c H locs cells slots Q (F0 m pc ls (va_rf r :: rest)) := by
  cases r with
  | none => exact lv_astore_nN hexec hb hdg hi h hn hl kk
  | some v => exact lv_astore_n hexec hb hdg hi h hn hl kk
theorem z_aload_n {k : Fin 4} {i : Nat} {r : Option Nat} (hexec : p.tables.exec = Jvm.exec) (hb : c.code = cc) (hdg : decode cc pc = .ok (.aload_n k, 1)) (hi : (k : Nat) = i) (hl : ls[i]? = some (.val (va_rf r)))
    (kk : W p l e R s m args below meth c H locs cells slots Q (F0 m (pc + 1) ls (va_rf r :: rest))) : W p l e R s m args below meth c H locs cells slots Q (F0 m pc ls rest) := by
  cases r with
  | none => exact lv_aload_nN hexec hb hdg hi hl kk
  | some v => exact lv_aload_n hexec hb hdg hi hl kk
end ZH
theorem u_X3_dropOldest_X3 : ∀ w ∈ u_ws RX3 TX3 2, w ∈ wsX3_dropOldest := fun w h => List.mem_cons_of_mem _ (List.mem_append_right _ h)
theorem k_X3_dropOldest_1 : Cond.fieldLink RX3 11 "JoinedLight$History" "rooms" "[LJoinedLight$Bench;" ∈ wsX3_dropOldest := List.mem_of_getElem? (i := 1) rfl
theorem k_X3_dropOldest_2 : Cond.fieldLink RX3 17 "JoinedLight$History" "states" "I" ∈ wsX3_dropOldest := List.mem_of_getElem? (i := 2) rfl
abbrev rm_X3_dropOldest : Room := { frames := 0, cells := 0, slots := 0, locals := 0 }
set_option maxHeartbeats 4000000 in
set_option maxRecDepth 100000 in
theorem c_X3_dropOldest (l : Launch) (dC : Nat → ClassId) (dI : Nat → Nat → Nat) (cI cC cO : ClassId) (qS : Nat) (aS : Nat → Nat) (gS : zG) (rm : Nat → Option Nat) (G : List va_W) (hrm : ∀ k, k < 4 → ∀ v, rm k = some v → ∃ vs, (v, .inr (0, vs)) ∈ G.flatten) : cM l (dC, dI) (zT cI cC cO) yX3_dropOldest wsX3_dropOldest rm_X3_dropOldest [.ref qS] (wX3 cO qS aS gS rm :: G) (wX3 cO qS aS (gup gS 1 0 3) (rrot rm) :: G) none 0 0 := by
  refine zM_in (cc := cX3_dropOldest) (maxL := 3) (ret := none) (plainFor_of_name (by decide)) rfl (Nat.le_of_ble_eq_true rfl) ?_
  intro p e s m below meth c hx hb hml hr hlk hown hts hK hN A hA hP hD hS ls hl
  have hl : lv_has ls 3 [(0, .ref qS)] := hl
  have hm : ∀ (rm' : Nat → Option Nat) (k : Nat), k < 4 → ∀ v : Nat, rm k = some v → ∃ vs, (v, .inr (0, vs)) ∈ (wX3 cO qS aS gS rm' :: G).flatten := fun rm' k hk v h => by
    obtain ⟨vs, h2⟩ := hrm k hk v h
    exact ⟨vs, List.mem_append_right _ h2⟩
  obtain ⟨H, hH⟩ : ∃ H, H = s.heap := ⟨_, rfl⟩
  obtain ⟨locs, hlocs⟩ : ∃ locs : List Loc, locs = [] := ⟨_, rfl⟩
  have hS : va_S A s.heap H locs := by rw [hH, hlocs]; exact hS
  rw [← hH] at hP
  refine zheap hH hlocs ?_
  refine lv_aload_n hx hb dX3_dropOldest_0 rfl (lv_at hl 0 rfl) ?_
  refine va_get (D := (dC, dI)) (ci := 3) (v := .ref (aS 0)) (C := RX3) (T := TX3) (N := 2) hx hb hts u_X3_dropOldest_X3 hown hK hP 0 rfl rfl 0 (by decide) (hts _ k_X3_dropOldest_1) (fun _ h9 => h9) rfl dX3_dropOldest_1 ?_
  refine lv_iconst (v := (0 : Int32)) hx hb dX3_dropOldest_4 (by decide) ?_
  refine va_aldq hx hb hK hP 1 2 rfl rfl (vp_in_nI (n := 0) (by decide) (by decide)) dX3_dropOldest_5 ?_
  refine W.eq (g2 := F0 m 6 ls [va_rf (rm 0)]) rfl ?_
  refine z_astore_n (lv' := [(1, va_rf (rm 0)), (0, .ref qS)]) hx hb dX3_dropOldest_6 rfl hl (by decide) rfl (fun ls hl => ?_)
  refine lv_iconst (v := (1 : Int32)) hx hb dX3_dropOldest_7 (by decide) ?_
  refine lv_istore_n (lv' := [(2, .int (1 : Int32)), (1, va_rf (rm 0)), (0, .ref qS)]) hx hb dX3_dropOldest_8 rfl hl (by decide) (by cases rm 0 <;> rfl) (fun ls hl => ?_)
  refine lv_iload_n hx hb dX3_dropOldest_9 rfl (lv_at hl 0 rfl) ?_
  refine lv_iconst (v := (4 : Int32)) hx hb dX3_dropOldest_10 (by decide) ?_
  refine lv_icmp_ge (tgt := 34) hx hb dX3_dropOldest_11 (by decide) (fun c_ => absurd c_ (by decide)) (fun _ => ?_)
  refine lv_aload_n hx hb dX3_dropOldest_14 rfl (lv_at hl 2 rfl) ?_
  refine va_get (D := (dC, dI)) (ci := 3) (v := .ref (aS 0)) (C := RX3) (T := TX3) (N := 2) hx hb hts u_X3_dropOldest_X3 hown hK hP 0 rfl rfl 0 (by decide) (hts _ k_X3_dropOldest_1) (fun _ h9 => h9) rfl dX3_dropOldest_15 ?_
  refine lv_iload_n hx hb dX3_dropOldest_18 rfl (lv_at hl 0 rfl) ?_
  refine lv_iconst (v := (1 : Int32)) hx hb dX3_dropOldest_19 (by decide) ?_
  refine lv_isub hx hb dX3_dropOldest_20 ?_
  refine W.eq (g2 := F0 m 21 ls [.int (0 : Int32), .ref (aS 0)]) (congrArg (fun v => F0 m 21 ls [.int v, .ref (aS 0)]) (show (1 : Int32) - 1 = 0 from by decide)) ?_
  refine lv_aload_n hx hb dX3_dropOldest_21 rfl (lv_at hl 2 rfl) ?_
  refine va_get (D := (dC, dI)) (ci := 3) (v := .ref (aS 0)) (C := RX3) (T := TX3) (N := 2) hx hb hts u_X3_dropOldest_X3 hown hK hP 0 rfl rfl 0 (by decide) (hts _ k_X3_dropOldest_1) (fun _ h9 => h9) rfl dX3_dropOldest_22 ?_
  refine lv_iload_n hx hb dX3_dropOldest_25 rfl (lv_at hl 0 rfl) ?_
  refine va_aldq hx hb hK hP 1 2 rfl rfl (vp_in_nI (n := 1) (by decide) (by decide)) dX3_dropOldest_26 ?_
  refine W.eq (g2 := F0 m 27 ls [va_rf (rm 1), .int (0 : Int32), .ref (aS 0)]) rfl ?_
  refine z_astq (gs' := (wX3 cO qS aS gS (va_up rm 0 (rm 1)) :: G)) hx hb hK hP hD hS 1 rfl (fun v h => hm _ 1 (by decide) v h) (vp_in_nI (n := 0) (by decide) (by decide)) rfl dX3_dropOldest_27 (fun H locs hP hD hS => ?_)
  refine lv_iinc (v := (2 : Int32)) (lv' := [(2, .int (2 : Int32)), (1, va_rf (rm 0)), (0, .ref qS)]) hx hb dX3_dropOldest_28 hl (k := 0) rfl (by decide) (by decide) (by cases rm 0 <;> rfl) (fun ls hl => ?_)
  refine lv_goto (tgt := 9) hx hb dX3_dropOldest_31 (by decide) ?_
  refine lv_iload_n hx hb dX3_dropOldest_9 rfl (lv_at hl 0 rfl) ?_
  refine lv_iconst (v := (4 : Int32)) hx hb dX3_dropOldest_10 (by decide) ?_
  refine lv_icmp_ge (tgt := 34) hx hb dX3_dropOldest_11 (by decide) (fun c_ => absurd c_ (by decide)) (fun _ => ?_)
  refine lv_aload_n hx hb dX3_dropOldest_14 rfl (lv_at hl 2 rfl) ?_
  refine va_get (D := (dC, dI)) (ci := 3) (v := .ref (aS 0)) (C := RX3) (T := TX3) (N := 2) hx hb hts u_X3_dropOldest_X3 hown hK hP 0 rfl rfl 0 (by decide) (hts _ k_X3_dropOldest_1) (fun _ h9 => h9) rfl dX3_dropOldest_15 ?_
  refine lv_iload_n hx hb dX3_dropOldest_18 rfl (lv_at hl 0 rfl) ?_
  refine lv_iconst (v := (1 : Int32)) hx hb dX3_dropOldest_19 (by decide) ?_
  refine lv_isub hx hb dX3_dropOldest_20 ?_
  refine W.eq (g2 := F0 m 21 ls [.int (1 : Int32), .ref (aS 0)]) (congrArg (fun v => F0 m 21 ls [.int v, .ref (aS 0)]) (show (2 : Int32) - 1 = 1 from by decide)) ?_
  refine lv_aload_n hx hb dX3_dropOldest_21 rfl (lv_at hl 2 rfl) ?_
  refine va_get (D := (dC, dI)) (ci := 3) (v := .ref (aS 0)) (C := RX3) (T := TX3) (N := 2) hx hb hts u_X3_dropOldest_X3 hown hK hP 0 rfl rfl 0 (by decide) (hts _ k_X3_dropOldest_1) (fun _ h9 => h9) rfl dX3_dropOldest_22 ?_
  refine lv_iload_n hx hb dX3_dropOldest_25 rfl (lv_at hl 0 rfl) ?_
  refine va_aldq hx hb hK hP 1 2 rfl rfl (vp_in_nI (n := 2) (by decide) (by decide)) dX3_dropOldest_26 ?_
  refine W.eq (g2 := F0 m 27 ls [va_rf (rm 2), .int (1 : Int32), .ref (aS 0)]) rfl ?_
  refine z_astq (gs' := (wX3 cO qS aS gS (va_up (va_up rm 0 (rm 1)) 1 (rm 2)) :: G)) hx hb hK hP hD hS 1 rfl (fun v h => hm _ 2 (by decide) v h) (vp_in_nI (n := 1) (by decide) (by decide)) rfl dX3_dropOldest_27 (fun H locs hP hD hS => ?_)
  refine lv_iinc (v := (3 : Int32)) (lv' := [(2, .int (3 : Int32)), (1, va_rf (rm 0)), (0, .ref qS)]) hx hb dX3_dropOldest_28 hl (k := 0) rfl (by decide) (by decide) (by cases rm 0 <;> rfl) (fun ls hl => ?_)
  refine lv_goto (tgt := 9) hx hb dX3_dropOldest_31 (by decide) ?_
  refine lv_iload_n hx hb dX3_dropOldest_9 rfl (lv_at hl 0 rfl) ?_
  refine lv_iconst (v := (4 : Int32)) hx hb dX3_dropOldest_10 (by decide) ?_
  refine lv_icmp_ge (tgt := 34) hx hb dX3_dropOldest_11 (by decide) (fun c_ => absurd c_ (by decide)) (fun _ => ?_)
  refine lv_aload_n hx hb dX3_dropOldest_14 rfl (lv_at hl 2 rfl) ?_
  refine va_get (D := (dC, dI)) (ci := 3) (v := .ref (aS 0)) (C := RX3) (T := TX3) (N := 2) hx hb hts u_X3_dropOldest_X3 hown hK hP 0 rfl rfl 0 (by decide) (hts _ k_X3_dropOldest_1) (fun _ h9 => h9) rfl dX3_dropOldest_15 ?_
  refine lv_iload_n hx hb dX3_dropOldest_18 rfl (lv_at hl 0 rfl) ?_
  refine lv_iconst (v := (1 : Int32)) hx hb dX3_dropOldest_19 (by decide) ?_
  refine lv_isub hx hb dX3_dropOldest_20 ?_
  refine W.eq (g2 := F0 m 21 ls [.int (2 : Int32), .ref (aS 0)]) (congrArg (fun v => F0 m 21 ls [.int v, .ref (aS 0)]) (show (3 : Int32) - 1 = 2 from by decide)) ?_
  refine lv_aload_n hx hb dX3_dropOldest_21 rfl (lv_at hl 2 rfl) ?_
  refine va_get (D := (dC, dI)) (ci := 3) (v := .ref (aS 0)) (C := RX3) (T := TX3) (N := 2) hx hb hts u_X3_dropOldest_X3 hown hK hP 0 rfl rfl 0 (by decide) (hts _ k_X3_dropOldest_1) (fun _ h9 => h9) rfl dX3_dropOldest_22 ?_
  refine lv_iload_n hx hb dX3_dropOldest_25 rfl (lv_at hl 0 rfl) ?_
  refine va_aldq hx hb hK hP 1 2 rfl rfl (vp_in_nI (n := 3) (by decide) (by decide)) dX3_dropOldest_26 ?_
  refine W.eq (g2 := F0 m 27 ls [va_rf (rm 3), .int (2 : Int32), .ref (aS 0)]) rfl ?_
  refine z_astq (gs' := (wX3 cO qS aS gS (va_up (va_up (va_up rm 0 (rm 1)) 1 (rm 2)) 2 (rm 3)) :: G)) hx hb hK hP hD hS 1 rfl (fun v h => hm _ 3 (by decide) v h) (vp_in_nI (n := 2) (by decide) (by decide)) rfl dX3_dropOldest_27 (fun H locs hP hD hS => ?_)
  refine lv_iinc (v := (4 : Int32)) (lv' := [(2, .int (4 : Int32)), (1, va_rf (rm 0)), (0, .ref qS)]) hx hb dX3_dropOldest_28 hl (k := 0) rfl (by decide) (by decide) (by cases rm 0 <;> rfl) (fun ls hl => ?_)
  refine lv_goto (tgt := 9) hx hb dX3_dropOldest_31 (by decide) ?_
  refine lv_iload_n hx hb dX3_dropOldest_9 rfl (lv_at hl 0 rfl) ?_
  refine lv_iconst (v := (4 : Int32)) hx hb dX3_dropOldest_10 (by decide) ?_
  refine lv_icmp_ge (tgt := 34) hx hb dX3_dropOldest_11 (by decide) (fun _ => ?_) (fun c_ => absurd (show (4 : Int32) ≤ 4 from by decide) c_)
  refine lv_aload_n hx hb dX3_dropOldest_34 rfl (lv_at hl 2 rfl) ?_
  refine va_get (D := (dC, dI)) (ci := 3) (v := .ref (aS 0)) (C := RX3) (T := TX3) (N := 2) hx hb hts u_X3_dropOldest_X3 hown hK hP 0 rfl rfl 0 (by decide) (hts _ k_X3_dropOldest_1) (fun _ h9 => h9) rfl dX3_dropOldest_35 ?_
  refine lv_iconst (v := (3 : Int32)) hx hb dX3_dropOldest_38 (by decide) ?_
  refine z_aload_n (r := rm 0) hx hb dX3_dropOldest_39 rfl (lv_at hl 1 rfl) ?_
  refine z_astq (gs' := (wX3 cO qS aS gS (rrot rm) :: G)) hx hb hK hP hD hS 1 rfl (fun v h => hm _ 0 (by decide) v h) (vp_in_nI (n := 3) (by decide) (by decide)) rfl dX3_dropOldest_40 (fun H locs hP hD hS => ?_)
  refine lv_aload_n hx hb dX3_dropOldest_41 rfl (lv_at hl 2 rfl) ?_
  refine lv_iconst (v := (3 : Int32)) hx hb dX3_dropOldest_42 (by decide) ?_
  refine z_put (gs' := (wX3 cO qS aS (gup gS 1 0 3) (rrot rm) :: G)) (D := (dC, dI)) (ci := 3) (ty := .int) (C := RX3) (T := TX3) (N := 2) hx hb hts u_X3_dropOldest_X3 tyX3 tyX3_ok nmX3 hown hK hP hD hS 0 rfl rfl 1 (by decide) (hts _ k_X3_dropOldest_2) (fun _ h9 => h9) rfl (by decide +kernel) rfl rfl (Nat.le_of_ble_eq_true rfl) rfl dX3_dropOldest_43 (fun H locs hP hD hS => ?_)
  exact zM_vret (gs := (wX3 cO qS aS (gup gS 1 0 3) (rrot rm) :: G)) hx hb hr hP hD hS ⟨rfl, rfl⟩ hlk dX3_dropOldest_46
theorem z_recv {s : State} {H : Heap} {D : va_G} {a ci : Nat} {q : vw_C} {fs : List Value} {gs : List va_W} {tys : List (ClassId × FieldType)} (hK : va_K D vwCl tys s) (hP : va_P D vwCl gs.flatten H) (hc : vwCl[ci]? = some q) (he : (a, .inr (ci, fs)) ∈ gs.flatten) : ∃ cell : Cell, H[a]? = some cell ∧ cell.vm.isStatics = false ∧ s.vm.findClass q.1 = some cell.cls := by
  obtain ⟨k, hk⟩ := List.mem_iff_getElem?.mp he
  exact va_recv hK hP hc hk
theorem zrooms4 {cI : ClassId} (z : Nat → zS) : ∀ k, k < 4 → ∀ v, zrm z k = some v → ∃ vs, (v, .inr (0, vs)) ∈ [(wZ cI (z 0)), (wZ cI (z 1)), (wZ cI (z 2)), (wZ cI (z 3))].flatten := by
  intro k hk v h
  unfold zrm at h
  cases hz : z k with
  | none => rw [hz] at h; cases h
  | some e =>
    obtain ⟨q, a, g⟩ := e
    rw [hz] at h
    cases h
    refine ⟨[.ref (a 0), .ref (a 1), .int (g 2 0), .ref (a 3), .ref (a 4), .ref (a 5), .ref (a 6), .ref (a 7), .int (g 8 0), .int (g 9 0)], ?_⟩
    have hm : (q, .inr (0, [.ref (a 0), .ref (a 1), .int (g 2 0), .ref (a 3), .ref (a 4), .ref (a 5), .ref (a 6), .ref (a 7), .int (g 8 0), .int (g 9 0)])) ∈ wZ cI (z k) := by rw [hz]; exact List.mem_cons_self
    rcases (show k = 0 ∨ k = 1 ∨ k = 2 ∨ k = 3 by omega) with rfl | rfl | rfl | rfl
    · exact List.mem_flatten.mpr ⟨_, List.mem_cons_self, hm⟩
    · exact List.mem_flatten.mpr ⟨_, List.mem_cons_of_mem _ List.mem_cons_self, hm⟩
    · exact List.mem_flatten.mpr ⟨_, List.mem_cons_of_mem _ (List.mem_cons_of_mem _ List.mem_cons_self), hm⟩
    · exact List.mem_flatten.mpr ⟨_, List.mem_cons_of_mem _ (List.mem_cons_of_mem _ (List.mem_cons_of_mem _ List.mem_cons_self)), hm⟩
theorem zsw {α : Type} (l1 l2 : List α) (x y : α) : (l1 ++ x :: (l2 ++ [y])).Perm (l1 ++ y :: (l2 ++ [x])) := by
  refine List.Perm.append_left l1 ?_
  refine (List.perm_middle (a := y) (l₁ := x :: l2) (l₂ := [])).trans ?_
  refine (List.Perm.cons y ?_)
  rw [List.append_nil]
  exact (List.perm_append_singleton x l2).symm
theorem zswap0 {a b z1 z2 z3 n : va_W} : [a, b, [], z1, z2, z3, n].Perm [a, b, n, z1, z2, z3, []] := zsw [a, b] [z1, z2, z3] [] n
theorem zswap1 {a b z0 z2 z3 n : va_W} : [a, b, z0, [], z2, z3, n].Perm [a, b, z0, n, z2, z3, []] := zsw [a, b, z0] [z2, z3] [] n
theorem zswap2 {a b z0 z1 z3 n : va_W} : [a, b, z0, z1, [], z3, n].Perm [a, b, z0, z1, n, z3, []] := zsw [a, b, z0, z1] [z3] [] n
theorem zswap3 {a b z0 z1 z2 n : va_W} : [a, b, z0, z1, z2, [], n].Perm [a, b, z0, z1, z2, n, []] := zsw [a, b, z0, z1, z2] [] [] n
theorem zrotp {a b z0 z1 z2 z3 : va_W} : [a, b, z0, z1, z2, z3].Perm [a, b, z1, z2, z3, z0] := List.Perm.append_left [a, b] (List.perm_append_singleton z0 [z1, z2, z3]).symm
theorem u_X3_record_X3 : ∀ w ∈ u_ws RX3 TX3 2, w ∈ wsX3_record := fun w h => List.mem_cons_of_mem _ (List.mem_append_left _ (List.mem_append_right _ h))
theorem u_X3_record_X0 : ∀ w ∈ u_ws RX0 TX0 10, w ∈ wsX3_record := fun w h => List.mem_cons_of_mem _ (List.mem_append_right _ h)
theorem k_X3_record_1 : Cond.fieldLink RX3 17 "JoinedLight$History" "states" "I" ∈ wsX3_record := List.mem_of_getElem? (i := 1) rfl
theorem k_X3_record_2 : Cond.fieldLink RX3 11 "JoinedLight$History" "rooms" "[LJoinedLight$Bench;" ∈ wsX3_record := List.mem_of_getElem? (i := 2) rfl
theorem k_X3_record_3 : Cond.classLink RX3 9 RX0 ∈ wsX3_record := List.mem_of_getElem? (i := 3) rfl
theorem k_X3_record_4 : Cond.instantiable RX0 10 ∈ wsX3_record := List.mem_of_getElem? (i := 4) rfl
theorem k_X3_record_5 : Cond.initialized RX0 ∈ wsX3_record := List.mem_of_getElem? (i := 5) rfl
theorem k_X3_record_11 : Cond.instanceMethod yX0_init ∈ wsX3_record := List.mem_of_getElem? (i := 11) rfl
abbrev rm_X3_record : Room := { frames := 2, cells := 8, slots := 66, locals := 61 }
def f_X3_record_b (g gP : zG) (h : Nat → Option zG) : Option (zG × (Nat → Option zG)) := if g 1 0 < 0 then some (g, h) else if g 1 0 < 4 then zbind (f_X0_copyFrom ((h (g 1 0).toNatClampNeg).getD iX0) gP) (fun r => some (gup g 1 0 (g 1 0 + 1), va_up h (g 1 0).toNatClampNeg (some r))) else some (g, h)
def f_X3_record (g gP : zG) (h : Nat → Option zG) : Option (zG × (Nat → Option zG)) := if g 1 0 < 4 then f_X3_record_b g gP h else f_X3_record_b (gup g 1 0 3) gP (hrot h)
set_option maxHeartbeats 4000000 in
set_option maxRecDepth 100000 in
theorem c_X3_record (l : Launch) (dC : Nat → ClassId) (dI : Nat → Nat → Nat) (cI cC cO : ClassId) (qS : Nat) (aS : Nat → Nat) (gS : zG) (qP1 : Nat) (aP1 : Nat → Nat) (gP1 : zG) (zZ : Nat → zS) (R : zG × (Nat → Option zG)) (hf : f_X3_record gS gP1 (zcn zZ) = some R) : cE l (dC, dI) (zT cI cC cO) yX3_record wsX3_record rm_X3_record [.ref qS, .ref qP1] [(wX3 cO qS aS gS (zrm zZ)), (wX0 cI qP1 aP1 gP1), (wZ cI (zZ 0)), (wZ cI (zZ 1)), (wZ cI (zZ 2)), (wZ cI (zZ 3))] (fun u : Nat → zS => [(wX3 cO qS aS R.1 (zrm u)), (wX0 cI qP1 aP1 gP1), (wZ cI (u 0)), (wZ cI (u 1)), (wZ cI (u 2)), (wZ cI (u 3))]) (fun u => zcn u = R.2) none 8 66 := by
  refine zE_in (cc := cX3_record) (maxL := 3) (ret := none) (plainFor_of_name (by decide)) rfl (Nat.le_of_ble_eq_true rfl) ?_
  intro p e s m below meth c hx hb hml hr hlk hown hts hK hN hin A hA H locs hP hD hS ls hl
  have hl : lv_has ls 3 [(0, .ref qS), (1, .ref qP1)] := hl
  have w12 : ∀ (g : zG) (z : Nat → zS) (H : Heap) (locs : List Loc) (ls : Array Slot), f_X3_record_b g gP1 (zcn z) = some R → va_P (dC, dI) vwCl ([(wX3 cO qS aS g (zrm z)), (wX0 cI qP1 aP1 gP1), (wZ cI (z 0)), (wZ cI (z 1)), (wZ cI (z 2)), (wZ cI (z 3))] : List va_W).flatten H → va_D A ([(wX3 cO qS aS g (zrm z)), (wX0 cI qP1 aP1 gP1), (wZ cI (z 0)), (wZ cI (z 1)), (wZ cI (z 2)), (wZ cI (z 3))] : List va_W).flatten → va_S A s.heap H locs → lv_has ls 3 [(0, .ref qS), (1, .ref qP1)] → W p l e (headSpec wsX3_record rm_X3_record).room s m [.ref qS, .ref qP1].toArray below meth c H locs 0 0 (MQ below (zqE (dC, dI) none (fun u : Nat → zS => [(wX3 cO qS aS R.1 (zrm u)), (wX0 cI qP1 aP1 gP1), (wZ cI (u 0)), (wZ cI (u 1)), (wZ cI (u 2)), (wZ cI (u 3))]) (fun u => zcn u = R.2) A) [.ref qS, .ref qP1].toArray s 8 66 A) (F0 m 12 ls []) := by
    intro g z H locs ls hf hP hD hS hl
    unfold f_X3_record_b at hf
    refine lv_aload_n hx hb dX3_record_12 rfl (lv_at hl 0 rfl) ?_
    refine va_get (D := (dC, dI)) (ci := 3) (v := .int (g 1 0)) (C := RX3) (T := TX3) (N := 2) hx hb hts u_X3_record_X3 hown hK hP 0 rfl rfl 1 (by decide) (hts _ k_X3_record_1) (fun _ h9 => h9) rfl dX3_record_13 ?_
    refine lv_if_lt (tgt := 27) hx hb dX3_record_16 (by decide) (fun c_1 => ?_) (fun c_1 => ?_)
    · have hf := zif_t hf c_1
      have hf := Option.some.inj hf
      refine W.widen (k := 8) (n := 66) (Nat.le_of_ble_eq_true rfl) (Nat.le_of_ble_eq_true rfl) ?_
      exact zE_vret (gs := [(wX3 cO qS aS g (zrm z)), (wX0 cI qP1 aP1 gP1), (wZ cI (z 0)), (wZ cI (z 1)), (wZ cI (z 2)), (wZ cI (z 3))]) (u := z) hx hb hr hP hD hS ⟨rfl, (by rw [← hf]), (by rw [← hf])⟩ hlk dX3_record_27
    have hf := zif_f hf c_1
    refine lv_aload_n hx hb dX3_record_19 rfl (lv_at hl 0 rfl) ?_
    refine va_get (D := (dC, dI)) (ci := 3) (v := .int (g 1 0)) (C := RX3) (T := TX3) (N := 2) hx hb hts u_X3_record_X3 hown hK hP 0 rfl rfl 1 (by decide) (hts _ k_X3_record_1) (fun _ h9 => h9) rfl dX3_record_20 ?_
    refine lv_iconst (v := (4 : Int32)) hx hb dX3_record_23 (by decide) ?_
    refine lv_icmp_lt (tgt := 28) hx hb dX3_record_24 (by decide) (fun c_2 => ?_) (fun c_2 => ?_)
    · have hf := zif_t hf c_2
      obtain ⟨Rc, hc, hf⟩ := zbind_ex hf
      have hf := Option.some.inj hf
      refine lv_aload_n hx hb dX3_record_28 rfl (lv_at hl 0 rfl) ?_
      refine va_get (D := (dC, dI)) (ci := 3) (v := .ref (aS 0)) (C := RX3) (T := TX3) (N := 2) hx hb hts u_X3_record_X3 hown hK hP 0 rfl rfl 0 (by decide) (hts _ k_X3_record_2) (fun _ h9 => h9) rfl dX3_record_29 ?_
      refine lv_aload_n hx hb dX3_record_32 rfl (lv_at hl 0 rfl) ?_
      refine va_get (D := (dC, dI)) (ci := 3) (v := .int (g 1 0)) (C := RX3) (T := TX3) (N := 2) hx hb hts u_X3_record_X3 hown hK hP 0 rfl rfl 1 (by decide) (hts _ k_X3_record_1) (fun _ h9 => h9) rfl dX3_record_33 ?_
      obtain ⟨j, hj, hgj⟩ : ∃ j : Nat, j < 4 ∧ g 1 0 = nI j := by
        obtain ⟨j, hj, e⟩ := nI_of c_1
        refine ⟨j, ?_, e⟩
        rw [e] at c_2
        exact (nI_ltI hj (by decide)).mp c_2
      have hcl : (g 1 0).toNatClampNeg = j := by rw [hgj]; exact nI_clamp (by omega)
      have hin : vp_in (g 1 0) 4 := by rw [hgj]; exact vp_in_nI hj (by decide)
      rw [hcl] at hc hf
      refine va_aldq hx hb hK hP 1 2 rfl rfl hin dX3_record_36 ?_
      rw [hcl]
      rcases (show j = 0 ∨ j = 1 ∨ j = 2 ∨ j = 3 by omega) with rfl | rfl | rfl | rfl
      · obtain ⟨o, hz⟩ : ∃ o, z 0 = o := ⟨_, rfl⟩
        cases o with
        | none =>
          have e0 : zrm z 0 = none := by unfold zrm; rw [hz]; rfl
          have e1 : zcn z 0 = none := by unfold zcn; rw [hz]; rfl
          rw [e1] at hc
          have hc : f_X0_copyFrom iX0 gP1 = some Rc := hc
          rw [e0]
          have ez : wZ cI (z 0) = [] := by rw [hz]; rfl
          refine lv_astore_nN (lv' := [(2, .null), (0, .ref qS), (1, .ref qP1)]) hx hb dX3_record_37 rfl hl (by decide) rfl (fun ls hl => ?_)
          refine lv_aload_nN hx hb dX3_record_38 rfl (lv_at hl 0 rfl) ?_
          refine lv_ifnonnullN hx hb dX3_record_39 ?_
          refine z_new (ci := 0) (fs := [.null, .null, .int 0, .null, .null, .null, .null, .null, .int 0, .int 0]) (C := RX0) (T := TX0) (N := 10) hx hb hts u_X3_record_X0 tyX0 tyX0_ok hown (hts _ k_X3_record_3) (hts _ k_X3_record_4) (hts _ k_X3_record_5) hK hP hD hS hA rfl (fun j hj => by rcases (show j = 0 ∨ j = 1 ∨ j = 2 ∨ j = 3 ∨ j = 4 ∨ j = 5 ∨ j = 6 ∨ j = 7 ∨ j = 8 ∨ j = 9 by omega) with rfl | rfl | rfl | rfl | rfl | rfl | rfl | rfl | rfl | rfl <;> rfl) (Nat.le_of_ble_eq_true rfl) (Nat.le_of_ble_eq_true rfl) dX3_record_42 (fun q1 H hP hD hS => ?_)
          have hP : va_P (dC, dI) vwCl ([(wX3 cO qS aS g (zrm z)), (wX0 cI qP1 aP1 gP1), (wZ cI (z 0)), (wZ cI (z 1)), (wZ cI (z 2)), (wZ cI (z 3)), [(q1, .inr (0, [.null, .null, .int 0, .null, .null, .null, .null, .null, .int 0, .int 0]))]] : List va_W).flatten H := hP
          have hD : va_D A ([(wX3 cO qS aS g (zrm z)), (wX0 cI qP1 aP1 gP1), (wZ cI (z 0)), (wZ cI (z 1)), (wZ cI (z 2)), (wZ cI (z 3)), [(q1, .inr (0, [.null, .null, .int 0, .null, .null, .null, .null, .null, .int 0, .int 0]))]] : List va_W).flatten := hD
          refine lv_dup hx hb dX3_record_45 rfl ?_
          refine z_callE (gs2 := fun u1 : Nat → Nat => [(wX3 cO qS aS g (zrm z)), (wX0 cI qP1 aP1 gP1), (wZ cI (z 0)), (wZ cI (z 1)), (wZ cI (z 2)), (wZ cI (z 3)), (wX0 cI q1 u1 iX0)]) hP hD hS hA [6] [0, 1, 2, 3, 4, 5] rfl (fun _ => rfl) (fun _ => rfl) (show List.Perm [6, 0, 1, 2, 3, 4, 5] (List.range 7) from by decide) (fun _ => rfl) (va_runIN (As := []) (rest := [.ref q1]) ⟨hx, hb, hml, hown, hts⟩ (c_X0_init l dC dI cI cC cO q1 H.size) ⟨va_cnB 0 hts gX3_record_X0_init_n24 rfl rfl rfl hN.2.2.1 (hts _ k_X3_record_5) (by decide +kernel) ⟨Nat.le_of_ble_eq_true rfl, Nat.le_of_ble_eq_true rfl⟩, rfl, (hts _ k_X3_record_11)⟩ ⟨zpM_blind, z_useM hK hN hP hD [6] [0, 1, 2, 3, 4, 5] rfl (show List.Perm [6, 0, 1, 2, 3, 4, 5] (List.range 7) from by decide)⟩ rfl rfl hl.1 rfl (lv_room (Nat.le_of_ble_eq_true rfl)) dX3_record_46 ⟨Nat.le_of_ble_eq_true rfl, Nat.le_of_ble_eq_true rfl⟩) (fun u1 _ H locs hP hD hS => ?_)
          refine W.eq (g2 := F0 m 49 ls [.ref q1]) rfl ?_
          have hP : va_P (dC, dI) vwCl ([(wX3 cO qS aS g (zrm z)), (wX0 cI qP1 aP1 gP1), (wZ cI (z 0)), (wZ cI (z 1)), (wZ cI (z 2)), (wZ cI (z 3)), (wX0 cI q1 u1 iX0)] : List va_W).flatten H := hP
          have hD : va_D A ([(wX3 cO qS aS g (zrm z)), (wX0 cI qP1 aP1 gP1), (wZ cI (z 0)), (wZ cI (z 1)), (wZ cI (z 2)), (wZ cI (z 3)), (wX0 cI q1 u1 iX0)] : List va_W).flatten := hD
          refine lv_astore_n (lv' := [(2, .ref q1), (0, .ref qS), (1, .ref qP1)]) hx hb dX3_record_49 rfl hl (by decide) rfl (fun ls hl => ?_)
          refine lv_aload_n hx hb dX3_record_50 rfl (lv_at hl 1 rfl) ?_
          refine va_get (D := (dC, dI)) (ci := 3) (v := .ref (aS 0)) (C := RX3) (T := TX3) (N := 2) hx hb hts u_X3_record_X3 hown hK hP 0 rfl rfl 0 (by decide) (hts _ k_X3_record_2) (fun _ h9 => h9) rfl dX3_record_51 ?_
          refine lv_aload_n hx hb dX3_record_54 rfl (lv_at hl 1 rfl) ?_
          refine va_get (D := (dC, dI)) (ci := 3) (v := .int (g 1 0)) (C := RX3) (T := TX3) (N := 2) hx hb hts u_X3_record_X3 hown hK hP 0 rfl rfl 1 (by decide) (hts _ k_X3_record_1) (fun _ h9 => h9) rfl dX3_record_55 ?_
          refine lv_aload_n hx hb dX3_record_58 rfl (lv_at hl 0 rfl) ?_
          refine z_astq (r := some q1) (gs' := [(wX3 cO qS aS g (va_up (zrm z) 0 (some q1))), (wX0 cI qP1 aP1 gP1), (wZ cI (z 0)), (wZ cI (z 1)), (wZ cI (z 2)), (wZ cI (z 3)), (wX0 cI q1 u1 iX0)]) hx hb hK hP hD hS 1 rfl (fun v h => by cases h; exact ⟨[.ref (u1 0), .ref (u1 1), .int (iX0 2 0), .ref (u1 3), .ref (u1 4), .ref (u1 5), .ref (u1 6), .ref (u1 7), .int (iX0 8 0), .int (iX0 9 0)], by simp [wX0]⟩) hin (by rw [hcl]; rfl) dX3_record_59 (fun H locs hP hD hS => ?_)
          refine lv_aload_n hx hb dX3_record_60 rfl (lv_at hl 0 rfl) ?_
          refine lv_aload_n hx hb dX3_record_61 rfl (lv_at hl 2 rfl) ?_
          refine z_callM (gs2 := [(wX3 cO qS aS g (va_up (zrm z) 0 (some q1))), (wX0 cI qP1 aP1 gP1), (wZ cI (z 0)), (wZ cI (z 1)), (wZ cI (z 2)), (wZ cI (z 3)), (wX0 cI q1 u1 Rc)]) hP hD hS hA [6, 1] [0, 2, 3, 4, 5] rfl rfl rfl (show List.Perm [6, 1, 0, 2, 3, 4, 5] (List.range 7) from by decide) rfl (va_runV (As := [.ref qP1]) (rest := []) ⟨hx, hb, hml, hown, hts⟩ (c_X0_copyFrom l dC dI cI cC cO q1 u1 iX0 qP1 aP1 gP1 Rc hc H.size) (cwV 1 hts gX3_record_X0_copyFrom rfl rfl rfl (by decide +kernel) ⟨Nat.le_of_ble_eq_true rfl, Nat.le_of_ble_eq_true rfl⟩) ⟨zpM_blind, (z_recv hK hP (ci := 0) (q := (RX0, TX0, 10)) (fs := [.ref (u1 0), .ref (u1 1), .int (iX0 2 0), .ref (u1 3), .ref (u1 4), .ref (u1 5), .ref (u1 6), .ref (u1 7), .int (iX0 8 0), .int (iX0 9 0)]) rfl (by simp [wX0])), z_useM hK hN hP hD [6, 1] [0, 2, 3, 4, 5] rfl (show List.Perm [6, 1, 0, 2, 3, 4, 5] (List.range 7) from by decide)⟩ rfl rfl hl.1 rfl (lv_room (Nat.le_of_ble_eq_true rfl)) dX3_record_62 ⟨Nat.le_of_ble_eq_true rfl, Nat.le_of_ble_eq_true rfl⟩) (fun H locs hP hD hS => ?_)
          refine W.eq (g2 := F0 m 65 ls []) rfl ?_
          refine lv_aload_n hx hb dX3_record_65 rfl (lv_at hl 1 rfl) ?_
          refine lv_dup hx hb dX3_record_66 rfl ?_
          refine va_get (D := (dC, dI)) (ci := 3) (v := .int (g 1 0)) (C := RX3) (T := TX3) (N := 2) hx hb hts u_X3_record_X3 hown hK hP 0 rfl rfl 1 (by decide) (hts _ k_X3_record_1) (fun _ h9 => h9) rfl dX3_record_67 ?_
          refine lv_iconst (v := (1 : Int32)) hx hb dX3_record_70 (by decide) ?_
          refine lv_iadd hx hb dX3_record_71 ?_
          refine z_put (gs' := [(wX3 cO qS aS (gup g 1 0 (g 1 0 + 1)) (va_up (zrm z) 0 (some q1))), (wX0 cI qP1 aP1 gP1), (wZ cI (z 0)), (wZ cI (z 1)), (wZ cI (z 2)), (wZ cI (z 3)), (wX0 cI q1 u1 Rc)]) (D := (dC, dI)) (ci := 3) (ty := .int) (C := RX3) (T := TX3) (N := 2) hx hb hts u_X3_record_X3 tyX3 tyX3_ok nmX3 hown hK hP hD hS 0 rfl rfl 1 (by decide) (hts _ k_X3_record_1) (fun _ h9 => h9) rfl (by decide +kernel) rfl rfl (Nat.le_of_ble_eq_true rfl) rfl dX3_record_72 (fun H locs hP hD hS => ?_)
          rw [show va_up (zrm z) 0 (some q1) = zrm (va_up z 0 (some (q1, u1, Rc))) from (zrm_up z 0 (some (q1, u1, Rc))).symm, ez] at hP hD
          obtain ⟨hP, hD⟩ := z_perm (gs := [(wX3 cO qS aS (gup g 1 0 (g 1 0 + 1)) (zrm (va_up z 0 (some (q1, u1, Rc))))), (wX0 cI qP1 aP1 gP1), [], (wZ cI (z 1)), (wZ cI (z 2)), (wZ cI (z 3)), (wX0 cI q1 u1 Rc)]) (gs2 := [(wX3 cO qS aS (gup g 1 0 (g 1 0 + 1)) (zrm (va_up z 0 (some (q1, u1, Rc))))), (wX0 cI qP1 aP1 gP1), (wX0 cI q1 u1 Rc), (wZ cI (z 1)), (wZ cI (z 2)), (wZ cI (z 3)), []]) (zswap0) hP hD
          refine W.widen (k := 8) (n := 66) (Nat.le_of_ble_eq_true rfl) (Nat.le_of_ble_eq_true rfl) ?_
          exact zE_vret (gs := [(wX3 cO qS aS (gup g 1 0 (g 1 0 + 1)) (zrm (va_up z 0 (some (q1, u1, Rc))))), (wX0 cI qP1 aP1 gP1), (wX0 cI q1 u1 Rc), (wZ cI (z 1)), (wZ cI (z 2)), (wZ cI (z 3)), []]) (u := (va_up z 0 (some (q1, u1, Rc)))) hx hb hr hP hD hS ⟨rfl, (by rw [← hf]; exact zcn_up z 0 (some (q1, u1, Rc))), (by rw [← hf]; simp [wZ, va_up])⟩ hlk dX3_record_75
        | some er =>
          obtain ⟨qr, ar, gr⟩ := er
          have e0 : zrm z 0 = some qr := by unfold zrm; rw [hz]; rfl
          have e1 : zcn z 0 = some gr := by unfold zcn; rw [hz]; rfl
          rw [e1] at hc
          have hc : f_X0_copyFrom gr gP1 = some Rc := hc
          rw [e0]
          have ez : wZ cI (z 0) = wX0 cI qr ar gr := by rw [hz]; rfl
          rw [ez] at hP hD
          refine lv_astore_n (x := qr) (lv' := [(2, .ref qr), (0, .ref qS), (1, .ref qP1)]) hx hb dX3_record_37 rfl hl (by decide) rfl (fun ls hl => ?_)
          refine lv_aload_n hx hb dX3_record_38 rfl (lv_at hl 0 rfl) ?_
          refine lv_ifnonnull (tgt := 60) hx hb dX3_record_39 (by decide) ?_
          refine lv_aload_n hx hb dX3_record_60 rfl (lv_at hl 0 rfl) ?_
          refine lv_aload_n hx hb dX3_record_61 rfl (lv_at hl 2 rfl) ?_
          refine z_callM (gs2 := [(wX3 cO qS aS g (zrm z)), (wX0 cI qP1 aP1 gP1), (wX0 cI qr ar Rc), (wZ cI (z 1)), (wZ cI (z 2)), (wZ cI (z 3))]) hP hD hS hA [2, 1] [0, 3, 4, 5] rfl rfl rfl (show List.Perm [2, 1, 0, 3, 4, 5] (List.range 6) from by decide) rfl (va_runV (As := [.ref qP1]) (rest := []) ⟨hx, hb, hml, hown, hts⟩ (c_X0_copyFrom l dC dI cI cC cO qr ar gr qP1 aP1 gP1 Rc hc H.size) (cwV 1 hts gX3_record_X0_copyFrom rfl rfl rfl (by decide +kernel) ⟨Nat.le_of_ble_eq_true rfl, Nat.le_of_ble_eq_true rfl⟩) ⟨zpM_blind, (z_recv hK hP (ci := 0) (q := (RX0, TX0, 10)) (fs := [.ref (ar 0), .ref (ar 1), .int (gr 2 0), .ref (ar 3), .ref (ar 4), .ref (ar 5), .ref (ar 6), .ref (ar 7), .int (gr 8 0), .int (gr 9 0)]) rfl (by simp [wX0])), z_useM hK hN hP hD [2, 1] [0, 3, 4, 5] rfl (show List.Perm [2, 1, 0, 3, 4, 5] (List.range 6) from by decide)⟩ rfl rfl hl.1 rfl (lv_room (Nat.le_of_ble_eq_true rfl)) dX3_record_62 ⟨Nat.le_of_ble_eq_true rfl, Nat.le_of_ble_eq_true rfl⟩) (fun H locs hP hD hS => ?_)
          refine W.eq (g2 := F0 m 65 ls []) rfl ?_
          refine lv_aload_n hx hb dX3_record_65 rfl (lv_at hl 1 rfl) ?_
          refine lv_dup hx hb dX3_record_66 rfl ?_
          refine va_get (D := (dC, dI)) (ci := 3) (v := .int (g 1 0)) (C := RX3) (T := TX3) (N := 2) hx hb hts u_X3_record_X3 hown hK hP 0 rfl rfl 1 (by decide) (hts _ k_X3_record_1) (fun _ h9 => h9) rfl dX3_record_67 ?_
          refine lv_iconst (v := (1 : Int32)) hx hb dX3_record_70 (by decide) ?_
          refine lv_iadd hx hb dX3_record_71 ?_
          refine z_put (gs' := [(wX3 cO qS aS (gup g 1 0 (g 1 0 + 1)) (zrm z)), (wX0 cI qP1 aP1 gP1), (wX0 cI qr ar Rc), (wZ cI (z 1)), (wZ cI (z 2)), (wZ cI (z 3))]) (D := (dC, dI)) (ci := 3) (ty := .int) (C := RX3) (T := TX3) (N := 2) hx hb hts u_X3_record_X3 tyX3 tyX3_ok nmX3 hown hK hP hD hS 0 rfl rfl 1 (by decide) (hts _ k_X3_record_1) (fun _ h9 => h9) rfl (by decide +kernel) rfl rfl (Nat.le_of_ble_eq_true rfl) rfl dX3_record_72 (fun H locs hP hD hS => ?_)
          rw [show zrm z = zrm (va_up z 0 (some (qr, ar, Rc))) from (by rw [zrm_up]; exact (va_up_eq _ _ _ e0).symm)] at hP hD
          refine W.widen (k := 8) (n := 66) (Nat.le_of_ble_eq_true rfl) (Nat.le_of_ble_eq_true rfl) ?_
          exact zE_vret (gs := [(wX3 cO qS aS (gup g 1 0 (g 1 0 + 1)) (zrm (va_up z 0 (some (qr, ar, Rc))))), (wX0 cI qP1 aP1 gP1), (wX0 cI qr ar Rc), (wZ cI (z 1)), (wZ cI (z 2)), (wZ cI (z 3))]) (u := (va_up z 0 (some (qr, ar, Rc)))) hx hb hr hP hD hS ⟨rfl, (by rw [← hf]; exact zcn_up z 0 (some (qr, ar, Rc))), (by rw [← hf]; simp [wZ, va_up])⟩ hlk dX3_record_75
      · obtain ⟨o, hz⟩ : ∃ o, z 1 = o := ⟨_, rfl⟩
        cases o with
        | none =>
          have e0 : zrm z 1 = none := by unfold zrm; rw [hz]; rfl
          have e1 : zcn z 1 = none := by unfold zcn; rw [hz]; rfl
          rw [e1] at hc
          have hc : f_X0_copyFrom iX0 gP1 = some Rc := hc
          rw [e0]
          have ez : wZ cI (z 1) = [] := by rw [hz]; rfl
          refine lv_astore_nN (lv' := [(2, .null), (0, .ref qS), (1, .ref qP1)]) hx hb dX3_record_37 rfl hl (by decide) rfl (fun ls hl => ?_)
          refine lv_aload_nN hx hb dX3_record_38 rfl (lv_at hl 0 rfl) ?_
          refine lv_ifnonnullN hx hb dX3_record_39 ?_
          refine z_new (ci := 0) (fs := [.null, .null, .int 0, .null, .null, .null, .null, .null, .int 0, .int 0]) (C := RX0) (T := TX0) (N := 10) hx hb hts u_X3_record_X0 tyX0 tyX0_ok hown (hts _ k_X3_record_3) (hts _ k_X3_record_4) (hts _ k_X3_record_5) hK hP hD hS hA rfl (fun j hj => by rcases (show j = 0 ∨ j = 1 ∨ j = 2 ∨ j = 3 ∨ j = 4 ∨ j = 5 ∨ j = 6 ∨ j = 7 ∨ j = 8 ∨ j = 9 by omega) with rfl | rfl | rfl | rfl | rfl | rfl | rfl | rfl | rfl | rfl <;> rfl) (Nat.le_of_ble_eq_true rfl) (Nat.le_of_ble_eq_true rfl) dX3_record_42 (fun q1 H hP hD hS => ?_)
          have hP : va_P (dC, dI) vwCl ([(wX3 cO qS aS g (zrm z)), (wX0 cI qP1 aP1 gP1), (wZ cI (z 0)), (wZ cI (z 1)), (wZ cI (z 2)), (wZ cI (z 3)), [(q1, .inr (0, [.null, .null, .int 0, .null, .null, .null, .null, .null, .int 0, .int 0]))]] : List va_W).flatten H := hP
          have hD : va_D A ([(wX3 cO qS aS g (zrm z)), (wX0 cI qP1 aP1 gP1), (wZ cI (z 0)), (wZ cI (z 1)), (wZ cI (z 2)), (wZ cI (z 3)), [(q1, .inr (0, [.null, .null, .int 0, .null, .null, .null, .null, .null, .int 0, .int 0]))]] : List va_W).flatten := hD
          refine lv_dup hx hb dX3_record_45 rfl ?_
          refine z_callE (gs2 := fun u1 : Nat → Nat => [(wX3 cO qS aS g (zrm z)), (wX0 cI qP1 aP1 gP1), (wZ cI (z 0)), (wZ cI (z 1)), (wZ cI (z 2)), (wZ cI (z 3)), (wX0 cI q1 u1 iX0)]) hP hD hS hA [6] [0, 1, 2, 3, 4, 5] rfl (fun _ => rfl) (fun _ => rfl) (show List.Perm [6, 0, 1, 2, 3, 4, 5] (List.range 7) from by decide) (fun _ => rfl) (va_runIN (As := []) (rest := [.ref q1]) ⟨hx, hb, hml, hown, hts⟩ (c_X0_init l dC dI cI cC cO q1 H.size) ⟨va_cnB 0 hts gX3_record_X0_init_n24 rfl rfl rfl hN.2.2.1 (hts _ k_X3_record_5) (by decide +kernel) ⟨Nat.le_of_ble_eq_true rfl, Nat.le_of_ble_eq_true rfl⟩, rfl, (hts _ k_X3_record_11)⟩ ⟨zpM_blind, z_useM hK hN hP hD [6] [0, 1, 2, 3, 4, 5] rfl (show List.Perm [6, 0, 1, 2, 3, 4, 5] (List.range 7) from by decide)⟩ rfl rfl hl.1 rfl (lv_room (Nat.le_of_ble_eq_true rfl)) dX3_record_46 ⟨Nat.le_of_ble_eq_true rfl, Nat.le_of_ble_eq_true rfl⟩) (fun u1 _ H locs hP hD hS => ?_)
          refine W.eq (g2 := F0 m 49 ls [.ref q1]) rfl ?_
          have hP : va_P (dC, dI) vwCl ([(wX3 cO qS aS g (zrm z)), (wX0 cI qP1 aP1 gP1), (wZ cI (z 0)), (wZ cI (z 1)), (wZ cI (z 2)), (wZ cI (z 3)), (wX0 cI q1 u1 iX0)] : List va_W).flatten H := hP
          have hD : va_D A ([(wX3 cO qS aS g (zrm z)), (wX0 cI qP1 aP1 gP1), (wZ cI (z 0)), (wZ cI (z 1)), (wZ cI (z 2)), (wZ cI (z 3)), (wX0 cI q1 u1 iX0)] : List va_W).flatten := hD
          refine lv_astore_n (lv' := [(2, .ref q1), (0, .ref qS), (1, .ref qP1)]) hx hb dX3_record_49 rfl hl (by decide) rfl (fun ls hl => ?_)
          refine lv_aload_n hx hb dX3_record_50 rfl (lv_at hl 1 rfl) ?_
          refine va_get (D := (dC, dI)) (ci := 3) (v := .ref (aS 0)) (C := RX3) (T := TX3) (N := 2) hx hb hts u_X3_record_X3 hown hK hP 0 rfl rfl 0 (by decide) (hts _ k_X3_record_2) (fun _ h9 => h9) rfl dX3_record_51 ?_
          refine lv_aload_n hx hb dX3_record_54 rfl (lv_at hl 1 rfl) ?_
          refine va_get (D := (dC, dI)) (ci := 3) (v := .int (g 1 0)) (C := RX3) (T := TX3) (N := 2) hx hb hts u_X3_record_X3 hown hK hP 0 rfl rfl 1 (by decide) (hts _ k_X3_record_1) (fun _ h9 => h9) rfl dX3_record_55 ?_
          refine lv_aload_n hx hb dX3_record_58 rfl (lv_at hl 0 rfl) ?_
          refine z_astq (r := some q1) (gs' := [(wX3 cO qS aS g (va_up (zrm z) 1 (some q1))), (wX0 cI qP1 aP1 gP1), (wZ cI (z 0)), (wZ cI (z 1)), (wZ cI (z 2)), (wZ cI (z 3)), (wX0 cI q1 u1 iX0)]) hx hb hK hP hD hS 1 rfl (fun v h => by cases h; exact ⟨[.ref (u1 0), .ref (u1 1), .int (iX0 2 0), .ref (u1 3), .ref (u1 4), .ref (u1 5), .ref (u1 6), .ref (u1 7), .int (iX0 8 0), .int (iX0 9 0)], by simp [wX0]⟩) hin (by rw [hcl]; rfl) dX3_record_59 (fun H locs hP hD hS => ?_)
          refine lv_aload_n hx hb dX3_record_60 rfl (lv_at hl 0 rfl) ?_
          refine lv_aload_n hx hb dX3_record_61 rfl (lv_at hl 2 rfl) ?_
          refine z_callM (gs2 := [(wX3 cO qS aS g (va_up (zrm z) 1 (some q1))), (wX0 cI qP1 aP1 gP1), (wZ cI (z 0)), (wZ cI (z 1)), (wZ cI (z 2)), (wZ cI (z 3)), (wX0 cI q1 u1 Rc)]) hP hD hS hA [6, 1] [0, 2, 3, 4, 5] rfl rfl rfl (show List.Perm [6, 1, 0, 2, 3, 4, 5] (List.range 7) from by decide) rfl (va_runV (As := [.ref qP1]) (rest := []) ⟨hx, hb, hml, hown, hts⟩ (c_X0_copyFrom l dC dI cI cC cO q1 u1 iX0 qP1 aP1 gP1 Rc hc H.size) (cwV 1 hts gX3_record_X0_copyFrom rfl rfl rfl (by decide +kernel) ⟨Nat.le_of_ble_eq_true rfl, Nat.le_of_ble_eq_true rfl⟩) ⟨zpM_blind, (z_recv hK hP (ci := 0) (q := (RX0, TX0, 10)) (fs := [.ref (u1 0), .ref (u1 1), .int (iX0 2 0), .ref (u1 3), .ref (u1 4), .ref (u1 5), .ref (u1 6), .ref (u1 7), .int (iX0 8 0), .int (iX0 9 0)]) rfl (by simp [wX0])), z_useM hK hN hP hD [6, 1] [0, 2, 3, 4, 5] rfl (show List.Perm [6, 1, 0, 2, 3, 4, 5] (List.range 7) from by decide)⟩ rfl rfl hl.1 rfl (lv_room (Nat.le_of_ble_eq_true rfl)) dX3_record_62 ⟨Nat.le_of_ble_eq_true rfl, Nat.le_of_ble_eq_true rfl⟩) (fun H locs hP hD hS => ?_)
          refine W.eq (g2 := F0 m 65 ls []) rfl ?_
          refine lv_aload_n hx hb dX3_record_65 rfl (lv_at hl 1 rfl) ?_
          refine lv_dup hx hb dX3_record_66 rfl ?_
          refine va_get (D := (dC, dI)) (ci := 3) (v := .int (g 1 0)) (C := RX3) (T := TX3) (N := 2) hx hb hts u_X3_record_X3 hown hK hP 0 rfl rfl 1 (by decide) (hts _ k_X3_record_1) (fun _ h9 => h9) rfl dX3_record_67 ?_
          refine lv_iconst (v := (1 : Int32)) hx hb dX3_record_70 (by decide) ?_
          refine lv_iadd hx hb dX3_record_71 ?_
          refine z_put (gs' := [(wX3 cO qS aS (gup g 1 0 (g 1 0 + 1)) (va_up (zrm z) 1 (some q1))), (wX0 cI qP1 aP1 gP1), (wZ cI (z 0)), (wZ cI (z 1)), (wZ cI (z 2)), (wZ cI (z 3)), (wX0 cI q1 u1 Rc)]) (D := (dC, dI)) (ci := 3) (ty := .int) (C := RX3) (T := TX3) (N := 2) hx hb hts u_X3_record_X3 tyX3 tyX3_ok nmX3 hown hK hP hD hS 0 rfl rfl 1 (by decide) (hts _ k_X3_record_1) (fun _ h9 => h9) rfl (by decide +kernel) rfl rfl (Nat.le_of_ble_eq_true rfl) rfl dX3_record_72 (fun H locs hP hD hS => ?_)
          rw [show va_up (zrm z) 1 (some q1) = zrm (va_up z 1 (some (q1, u1, Rc))) from (zrm_up z 1 (some (q1, u1, Rc))).symm, ez] at hP hD
          obtain ⟨hP, hD⟩ := z_perm (gs := [(wX3 cO qS aS (gup g 1 0 (g 1 0 + 1)) (zrm (va_up z 1 (some (q1, u1, Rc))))), (wX0 cI qP1 aP1 gP1), (wZ cI (z 0)), [], (wZ cI (z 2)), (wZ cI (z 3)), (wX0 cI q1 u1 Rc)]) (gs2 := [(wX3 cO qS aS (gup g 1 0 (g 1 0 + 1)) (zrm (va_up z 1 (some (q1, u1, Rc))))), (wX0 cI qP1 aP1 gP1), (wZ cI (z 0)), (wX0 cI q1 u1 Rc), (wZ cI (z 2)), (wZ cI (z 3)), []]) (zswap1) hP hD
          refine W.widen (k := 8) (n := 66) (Nat.le_of_ble_eq_true rfl) (Nat.le_of_ble_eq_true rfl) ?_
          exact zE_vret (gs := [(wX3 cO qS aS (gup g 1 0 (g 1 0 + 1)) (zrm (va_up z 1 (some (q1, u1, Rc))))), (wX0 cI qP1 aP1 gP1), (wZ cI (z 0)), (wX0 cI q1 u1 Rc), (wZ cI (z 2)), (wZ cI (z 3)), []]) (u := (va_up z 1 (some (q1, u1, Rc)))) hx hb hr hP hD hS ⟨rfl, (by rw [← hf]; exact zcn_up z 1 (some (q1, u1, Rc))), (by rw [← hf]; simp [wZ, va_up])⟩ hlk dX3_record_75
        | some er =>
          obtain ⟨qr, ar, gr⟩ := er
          have e0 : zrm z 1 = some qr := by unfold zrm; rw [hz]; rfl
          have e1 : zcn z 1 = some gr := by unfold zcn; rw [hz]; rfl
          rw [e1] at hc
          have hc : f_X0_copyFrom gr gP1 = some Rc := hc
          rw [e0]
          have ez : wZ cI (z 1) = wX0 cI qr ar gr := by rw [hz]; rfl
          rw [ez] at hP hD
          refine lv_astore_n (x := qr) (lv' := [(2, .ref qr), (0, .ref qS), (1, .ref qP1)]) hx hb dX3_record_37 rfl hl (by decide) rfl (fun ls hl => ?_)
          refine lv_aload_n hx hb dX3_record_38 rfl (lv_at hl 0 rfl) ?_
          refine lv_ifnonnull (tgt := 60) hx hb dX3_record_39 (by decide) ?_
          refine lv_aload_n hx hb dX3_record_60 rfl (lv_at hl 0 rfl) ?_
          refine lv_aload_n hx hb dX3_record_61 rfl (lv_at hl 2 rfl) ?_
          refine z_callM (gs2 := [(wX3 cO qS aS g (zrm z)), (wX0 cI qP1 aP1 gP1), (wZ cI (z 0)), (wX0 cI qr ar Rc), (wZ cI (z 2)), (wZ cI (z 3))]) hP hD hS hA [3, 1] [0, 2, 4, 5] rfl rfl rfl (show List.Perm [3, 1, 0, 2, 4, 5] (List.range 6) from by decide) rfl (va_runV (As := [.ref qP1]) (rest := []) ⟨hx, hb, hml, hown, hts⟩ (c_X0_copyFrom l dC dI cI cC cO qr ar gr qP1 aP1 gP1 Rc hc H.size) (cwV 1 hts gX3_record_X0_copyFrom rfl rfl rfl (by decide +kernel) ⟨Nat.le_of_ble_eq_true rfl, Nat.le_of_ble_eq_true rfl⟩) ⟨zpM_blind, (z_recv hK hP (ci := 0) (q := (RX0, TX0, 10)) (fs := [.ref (ar 0), .ref (ar 1), .int (gr 2 0), .ref (ar 3), .ref (ar 4), .ref (ar 5), .ref (ar 6), .ref (ar 7), .int (gr 8 0), .int (gr 9 0)]) rfl (by simp [wX0])), z_useM hK hN hP hD [3, 1] [0, 2, 4, 5] rfl (show List.Perm [3, 1, 0, 2, 4, 5] (List.range 6) from by decide)⟩ rfl rfl hl.1 rfl (lv_room (Nat.le_of_ble_eq_true rfl)) dX3_record_62 ⟨Nat.le_of_ble_eq_true rfl, Nat.le_of_ble_eq_true rfl⟩) (fun H locs hP hD hS => ?_)
          refine W.eq (g2 := F0 m 65 ls []) rfl ?_
          refine lv_aload_n hx hb dX3_record_65 rfl (lv_at hl 1 rfl) ?_
          refine lv_dup hx hb dX3_record_66 rfl ?_
          refine va_get (D := (dC, dI)) (ci := 3) (v := .int (g 1 0)) (C := RX3) (T := TX3) (N := 2) hx hb hts u_X3_record_X3 hown hK hP 0 rfl rfl 1 (by decide) (hts _ k_X3_record_1) (fun _ h9 => h9) rfl dX3_record_67 ?_
          refine lv_iconst (v := (1 : Int32)) hx hb dX3_record_70 (by decide) ?_
          refine lv_iadd hx hb dX3_record_71 ?_
          refine z_put (gs' := [(wX3 cO qS aS (gup g 1 0 (g 1 0 + 1)) (zrm z)), (wX0 cI qP1 aP1 gP1), (wZ cI (z 0)), (wX0 cI qr ar Rc), (wZ cI (z 2)), (wZ cI (z 3))]) (D := (dC, dI)) (ci := 3) (ty := .int) (C := RX3) (T := TX3) (N := 2) hx hb hts u_X3_record_X3 tyX3 tyX3_ok nmX3 hown hK hP hD hS 0 rfl rfl 1 (by decide) (hts _ k_X3_record_1) (fun _ h9 => h9) rfl (by decide +kernel) rfl rfl (Nat.le_of_ble_eq_true rfl) rfl dX3_record_72 (fun H locs hP hD hS => ?_)
          rw [show zrm z = zrm (va_up z 1 (some (qr, ar, Rc))) from (by rw [zrm_up]; exact (va_up_eq _ _ _ e0).symm)] at hP hD
          refine W.widen (k := 8) (n := 66) (Nat.le_of_ble_eq_true rfl) (Nat.le_of_ble_eq_true rfl) ?_
          exact zE_vret (gs := [(wX3 cO qS aS (gup g 1 0 (g 1 0 + 1)) (zrm (va_up z 1 (some (qr, ar, Rc))))), (wX0 cI qP1 aP1 gP1), (wZ cI (z 0)), (wX0 cI qr ar Rc), (wZ cI (z 2)), (wZ cI (z 3))]) (u := (va_up z 1 (some (qr, ar, Rc)))) hx hb hr hP hD hS ⟨rfl, (by rw [← hf]; exact zcn_up z 1 (some (qr, ar, Rc))), (by rw [← hf]; simp [wZ, va_up])⟩ hlk dX3_record_75
      · obtain ⟨o, hz⟩ : ∃ o, z 2 = o := ⟨_, rfl⟩
        cases o with
        | none =>
          have e0 : zrm z 2 = none := by unfold zrm; rw [hz]; rfl
          have e1 : zcn z 2 = none := by unfold zcn; rw [hz]; rfl
          rw [e1] at hc
          have hc : f_X0_copyFrom iX0 gP1 = some Rc := hc
          rw [e0]
          have ez : wZ cI (z 2) = [] := by rw [hz]; rfl
          refine lv_astore_nN (lv' := [(2, .null), (0, .ref qS), (1, .ref qP1)]) hx hb dX3_record_37 rfl hl (by decide) rfl (fun ls hl => ?_)
          refine lv_aload_nN hx hb dX3_record_38 rfl (lv_at hl 0 rfl) ?_
          refine lv_ifnonnullN hx hb dX3_record_39 ?_
          refine z_new (ci := 0) (fs := [.null, .null, .int 0, .null, .null, .null, .null, .null, .int 0, .int 0]) (C := RX0) (T := TX0) (N := 10) hx hb hts u_X3_record_X0 tyX0 tyX0_ok hown (hts _ k_X3_record_3) (hts _ k_X3_record_4) (hts _ k_X3_record_5) hK hP hD hS hA rfl (fun j hj => by rcases (show j = 0 ∨ j = 1 ∨ j = 2 ∨ j = 3 ∨ j = 4 ∨ j = 5 ∨ j = 6 ∨ j = 7 ∨ j = 8 ∨ j = 9 by omega) with rfl | rfl | rfl | rfl | rfl | rfl | rfl | rfl | rfl | rfl <;> rfl) (Nat.le_of_ble_eq_true rfl) (Nat.le_of_ble_eq_true rfl) dX3_record_42 (fun q1 H hP hD hS => ?_)
          have hP : va_P (dC, dI) vwCl ([(wX3 cO qS aS g (zrm z)), (wX0 cI qP1 aP1 gP1), (wZ cI (z 0)), (wZ cI (z 1)), (wZ cI (z 2)), (wZ cI (z 3)), [(q1, .inr (0, [.null, .null, .int 0, .null, .null, .null, .null, .null, .int 0, .int 0]))]] : List va_W).flatten H := hP
          have hD : va_D A ([(wX3 cO qS aS g (zrm z)), (wX0 cI qP1 aP1 gP1), (wZ cI (z 0)), (wZ cI (z 1)), (wZ cI (z 2)), (wZ cI (z 3)), [(q1, .inr (0, [.null, .null, .int 0, .null, .null, .null, .null, .null, .int 0, .int 0]))]] : List va_W).flatten := hD
          refine lv_dup hx hb dX3_record_45 rfl ?_
          refine z_callE (gs2 := fun u1 : Nat → Nat => [(wX3 cO qS aS g (zrm z)), (wX0 cI qP1 aP1 gP1), (wZ cI (z 0)), (wZ cI (z 1)), (wZ cI (z 2)), (wZ cI (z 3)), (wX0 cI q1 u1 iX0)]) hP hD hS hA [6] [0, 1, 2, 3, 4, 5] rfl (fun _ => rfl) (fun _ => rfl) (show List.Perm [6, 0, 1, 2, 3, 4, 5] (List.range 7) from by decide) (fun _ => rfl) (va_runIN (As := []) (rest := [.ref q1]) ⟨hx, hb, hml, hown, hts⟩ (c_X0_init l dC dI cI cC cO q1 H.size) ⟨va_cnB 0 hts gX3_record_X0_init_n24 rfl rfl rfl hN.2.2.1 (hts _ k_X3_record_5) (by decide +kernel) ⟨Nat.le_of_ble_eq_true rfl, Nat.le_of_ble_eq_true rfl⟩, rfl, (hts _ k_X3_record_11)⟩ ⟨zpM_blind, z_useM hK hN hP hD [6] [0, 1, 2, 3, 4, 5] rfl (show List.Perm [6, 0, 1, 2, 3, 4, 5] (List.range 7) from by decide)⟩ rfl rfl hl.1 rfl (lv_room (Nat.le_of_ble_eq_true rfl)) dX3_record_46 ⟨Nat.le_of_ble_eq_true rfl, Nat.le_of_ble_eq_true rfl⟩) (fun u1 _ H locs hP hD hS => ?_)
          refine W.eq (g2 := F0 m 49 ls [.ref q1]) rfl ?_
          have hP : va_P (dC, dI) vwCl ([(wX3 cO qS aS g (zrm z)), (wX0 cI qP1 aP1 gP1), (wZ cI (z 0)), (wZ cI (z 1)), (wZ cI (z 2)), (wZ cI (z 3)), (wX0 cI q1 u1 iX0)] : List va_W).flatten H := hP
          have hD : va_D A ([(wX3 cO qS aS g (zrm z)), (wX0 cI qP1 aP1 gP1), (wZ cI (z 0)), (wZ cI (z 1)), (wZ cI (z 2)), (wZ cI (z 3)), (wX0 cI q1 u1 iX0)] : List va_W).flatten := hD
          refine lv_astore_n (lv' := [(2, .ref q1), (0, .ref qS), (1, .ref qP1)]) hx hb dX3_record_49 rfl hl (by decide) rfl (fun ls hl => ?_)
          refine lv_aload_n hx hb dX3_record_50 rfl (lv_at hl 1 rfl) ?_
          refine va_get (D := (dC, dI)) (ci := 3) (v := .ref (aS 0)) (C := RX3) (T := TX3) (N := 2) hx hb hts u_X3_record_X3 hown hK hP 0 rfl rfl 0 (by decide) (hts _ k_X3_record_2) (fun _ h9 => h9) rfl dX3_record_51 ?_
          refine lv_aload_n hx hb dX3_record_54 rfl (lv_at hl 1 rfl) ?_
          refine va_get (D := (dC, dI)) (ci := 3) (v := .int (g 1 0)) (C := RX3) (T := TX3) (N := 2) hx hb hts u_X3_record_X3 hown hK hP 0 rfl rfl 1 (by decide) (hts _ k_X3_record_1) (fun _ h9 => h9) rfl dX3_record_55 ?_
          refine lv_aload_n hx hb dX3_record_58 rfl (lv_at hl 0 rfl) ?_
          refine z_astq (r := some q1) (gs' := [(wX3 cO qS aS g (va_up (zrm z) 2 (some q1))), (wX0 cI qP1 aP1 gP1), (wZ cI (z 0)), (wZ cI (z 1)), (wZ cI (z 2)), (wZ cI (z 3)), (wX0 cI q1 u1 iX0)]) hx hb hK hP hD hS 1 rfl (fun v h => by cases h; exact ⟨[.ref (u1 0), .ref (u1 1), .int (iX0 2 0), .ref (u1 3), .ref (u1 4), .ref (u1 5), .ref (u1 6), .ref (u1 7), .int (iX0 8 0), .int (iX0 9 0)], by simp [wX0]⟩) hin (by rw [hcl]; rfl) dX3_record_59 (fun H locs hP hD hS => ?_)
          refine lv_aload_n hx hb dX3_record_60 rfl (lv_at hl 0 rfl) ?_
          refine lv_aload_n hx hb dX3_record_61 rfl (lv_at hl 2 rfl) ?_
          refine z_callM (gs2 := [(wX3 cO qS aS g (va_up (zrm z) 2 (some q1))), (wX0 cI qP1 aP1 gP1), (wZ cI (z 0)), (wZ cI (z 1)), (wZ cI (z 2)), (wZ cI (z 3)), (wX0 cI q1 u1 Rc)]) hP hD hS hA [6, 1] [0, 2, 3, 4, 5] rfl rfl rfl (show List.Perm [6, 1, 0, 2, 3, 4, 5] (List.range 7) from by decide) rfl (va_runV (As := [.ref qP1]) (rest := []) ⟨hx, hb, hml, hown, hts⟩ (c_X0_copyFrom l dC dI cI cC cO q1 u1 iX0 qP1 aP1 gP1 Rc hc H.size) (cwV 1 hts gX3_record_X0_copyFrom rfl rfl rfl (by decide +kernel) ⟨Nat.le_of_ble_eq_true rfl, Nat.le_of_ble_eq_true rfl⟩) ⟨zpM_blind, (z_recv hK hP (ci := 0) (q := (RX0, TX0, 10)) (fs := [.ref (u1 0), .ref (u1 1), .int (iX0 2 0), .ref (u1 3), .ref (u1 4), .ref (u1 5), .ref (u1 6), .ref (u1 7), .int (iX0 8 0), .int (iX0 9 0)]) rfl (by simp [wX0])), z_useM hK hN hP hD [6, 1] [0, 2, 3, 4, 5] rfl (show List.Perm [6, 1, 0, 2, 3, 4, 5] (List.range 7) from by decide)⟩ rfl rfl hl.1 rfl (lv_room (Nat.le_of_ble_eq_true rfl)) dX3_record_62 ⟨Nat.le_of_ble_eq_true rfl, Nat.le_of_ble_eq_true rfl⟩) (fun H locs hP hD hS => ?_)
          refine W.eq (g2 := F0 m 65 ls []) rfl ?_
          refine lv_aload_n hx hb dX3_record_65 rfl (lv_at hl 1 rfl) ?_
          refine lv_dup hx hb dX3_record_66 rfl ?_
          refine va_get (D := (dC, dI)) (ci := 3) (v := .int (g 1 0)) (C := RX3) (T := TX3) (N := 2) hx hb hts u_X3_record_X3 hown hK hP 0 rfl rfl 1 (by decide) (hts _ k_X3_record_1) (fun _ h9 => h9) rfl dX3_record_67 ?_
          refine lv_iconst (v := (1 : Int32)) hx hb dX3_record_70 (by decide) ?_
          refine lv_iadd hx hb dX3_record_71 ?_
          refine z_put (gs' := [(wX3 cO qS aS (gup g 1 0 (g 1 0 + 1)) (va_up (zrm z) 2 (some q1))), (wX0 cI qP1 aP1 gP1), (wZ cI (z 0)), (wZ cI (z 1)), (wZ cI (z 2)), (wZ cI (z 3)), (wX0 cI q1 u1 Rc)]) (D := (dC, dI)) (ci := 3) (ty := .int) (C := RX3) (T := TX3) (N := 2) hx hb hts u_X3_record_X3 tyX3 tyX3_ok nmX3 hown hK hP hD hS 0 rfl rfl 1 (by decide) (hts _ k_X3_record_1) (fun _ h9 => h9) rfl (by decide +kernel) rfl rfl (Nat.le_of_ble_eq_true rfl) rfl dX3_record_72 (fun H locs hP hD hS => ?_)
          rw [show va_up (zrm z) 2 (some q1) = zrm (va_up z 2 (some (q1, u1, Rc))) from (zrm_up z 2 (some (q1, u1, Rc))).symm, ez] at hP hD
          obtain ⟨hP, hD⟩ := z_perm (gs := [(wX3 cO qS aS (gup g 1 0 (g 1 0 + 1)) (zrm (va_up z 2 (some (q1, u1, Rc))))), (wX0 cI qP1 aP1 gP1), (wZ cI (z 0)), (wZ cI (z 1)), [], (wZ cI (z 3)), (wX0 cI q1 u1 Rc)]) (gs2 := [(wX3 cO qS aS (gup g 1 0 (g 1 0 + 1)) (zrm (va_up z 2 (some (q1, u1, Rc))))), (wX0 cI qP1 aP1 gP1), (wZ cI (z 0)), (wZ cI (z 1)), (wX0 cI q1 u1 Rc), (wZ cI (z 3)), []]) (zswap2) hP hD
          refine W.widen (k := 8) (n := 66) (Nat.le_of_ble_eq_true rfl) (Nat.le_of_ble_eq_true rfl) ?_
          exact zE_vret (gs := [(wX3 cO qS aS (gup g 1 0 (g 1 0 + 1)) (zrm (va_up z 2 (some (q1, u1, Rc))))), (wX0 cI qP1 aP1 gP1), (wZ cI (z 0)), (wZ cI (z 1)), (wX0 cI q1 u1 Rc), (wZ cI (z 3)), []]) (u := (va_up z 2 (some (q1, u1, Rc)))) hx hb hr hP hD hS ⟨rfl, (by rw [← hf]; exact zcn_up z 2 (some (q1, u1, Rc))), (by rw [← hf]; simp [wZ, va_up])⟩ hlk dX3_record_75
        | some er =>
          obtain ⟨qr, ar, gr⟩ := er
          have e0 : zrm z 2 = some qr := by unfold zrm; rw [hz]; rfl
          have e1 : zcn z 2 = some gr := by unfold zcn; rw [hz]; rfl
          rw [e1] at hc
          have hc : f_X0_copyFrom gr gP1 = some Rc := hc
          rw [e0]
          have ez : wZ cI (z 2) = wX0 cI qr ar gr := by rw [hz]; rfl
          rw [ez] at hP hD
          refine lv_astore_n (x := qr) (lv' := [(2, .ref qr), (0, .ref qS), (1, .ref qP1)]) hx hb dX3_record_37 rfl hl (by decide) rfl (fun ls hl => ?_)
          refine lv_aload_n hx hb dX3_record_38 rfl (lv_at hl 0 rfl) ?_
          refine lv_ifnonnull (tgt := 60) hx hb dX3_record_39 (by decide) ?_
          refine lv_aload_n hx hb dX3_record_60 rfl (lv_at hl 0 rfl) ?_
          refine lv_aload_n hx hb dX3_record_61 rfl (lv_at hl 2 rfl) ?_
          refine z_callM (gs2 := [(wX3 cO qS aS g (zrm z)), (wX0 cI qP1 aP1 gP1), (wZ cI (z 0)), (wZ cI (z 1)), (wX0 cI qr ar Rc), (wZ cI (z 3))]) hP hD hS hA [4, 1] [0, 2, 3, 5] rfl rfl rfl (show List.Perm [4, 1, 0, 2, 3, 5] (List.range 6) from by decide) rfl (va_runV (As := [.ref qP1]) (rest := []) ⟨hx, hb, hml, hown, hts⟩ (c_X0_copyFrom l dC dI cI cC cO qr ar gr qP1 aP1 gP1 Rc hc H.size) (cwV 1 hts gX3_record_X0_copyFrom rfl rfl rfl (by decide +kernel) ⟨Nat.le_of_ble_eq_true rfl, Nat.le_of_ble_eq_true rfl⟩) ⟨zpM_blind, (z_recv hK hP (ci := 0) (q := (RX0, TX0, 10)) (fs := [.ref (ar 0), .ref (ar 1), .int (gr 2 0), .ref (ar 3), .ref (ar 4), .ref (ar 5), .ref (ar 6), .ref (ar 7), .int (gr 8 0), .int (gr 9 0)]) rfl (by simp [wX0])), z_useM hK hN hP hD [4, 1] [0, 2, 3, 5] rfl (show List.Perm [4, 1, 0, 2, 3, 5] (List.range 6) from by decide)⟩ rfl rfl hl.1 rfl (lv_room (Nat.le_of_ble_eq_true rfl)) dX3_record_62 ⟨Nat.le_of_ble_eq_true rfl, Nat.le_of_ble_eq_true rfl⟩) (fun H locs hP hD hS => ?_)
          refine W.eq (g2 := F0 m 65 ls []) rfl ?_
          refine lv_aload_n hx hb dX3_record_65 rfl (lv_at hl 1 rfl) ?_
          refine lv_dup hx hb dX3_record_66 rfl ?_
          refine va_get (D := (dC, dI)) (ci := 3) (v := .int (g 1 0)) (C := RX3) (T := TX3) (N := 2) hx hb hts u_X3_record_X3 hown hK hP 0 rfl rfl 1 (by decide) (hts _ k_X3_record_1) (fun _ h9 => h9) rfl dX3_record_67 ?_
          refine lv_iconst (v := (1 : Int32)) hx hb dX3_record_70 (by decide) ?_
          refine lv_iadd hx hb dX3_record_71 ?_
          refine z_put (gs' := [(wX3 cO qS aS (gup g 1 0 (g 1 0 + 1)) (zrm z)), (wX0 cI qP1 aP1 gP1), (wZ cI (z 0)), (wZ cI (z 1)), (wX0 cI qr ar Rc), (wZ cI (z 3))]) (D := (dC, dI)) (ci := 3) (ty := .int) (C := RX3) (T := TX3) (N := 2) hx hb hts u_X3_record_X3 tyX3 tyX3_ok nmX3 hown hK hP hD hS 0 rfl rfl 1 (by decide) (hts _ k_X3_record_1) (fun _ h9 => h9) rfl (by decide +kernel) rfl rfl (Nat.le_of_ble_eq_true rfl) rfl dX3_record_72 (fun H locs hP hD hS => ?_)
          rw [show zrm z = zrm (va_up z 2 (some (qr, ar, Rc))) from (by rw [zrm_up]; exact (va_up_eq _ _ _ e0).symm)] at hP hD
          refine W.widen (k := 8) (n := 66) (Nat.le_of_ble_eq_true rfl) (Nat.le_of_ble_eq_true rfl) ?_
          exact zE_vret (gs := [(wX3 cO qS aS (gup g 1 0 (g 1 0 + 1)) (zrm (va_up z 2 (some (qr, ar, Rc))))), (wX0 cI qP1 aP1 gP1), (wZ cI (z 0)), (wZ cI (z 1)), (wX0 cI qr ar Rc), (wZ cI (z 3))]) (u := (va_up z 2 (some (qr, ar, Rc)))) hx hb hr hP hD hS ⟨rfl, (by rw [← hf]; exact zcn_up z 2 (some (qr, ar, Rc))), (by rw [← hf]; simp [wZ, va_up])⟩ hlk dX3_record_75
      · obtain ⟨o, hz⟩ : ∃ o, z 3 = o := ⟨_, rfl⟩
        cases o with
        | none =>
          have e0 : zrm z 3 = none := by unfold zrm; rw [hz]; rfl
          have e1 : zcn z 3 = none := by unfold zcn; rw [hz]; rfl
          rw [e1] at hc
          have hc : f_X0_copyFrom iX0 gP1 = some Rc := hc
          rw [e0]
          have ez : wZ cI (z 3) = [] := by rw [hz]; rfl
          refine lv_astore_nN (lv' := [(2, .null), (0, .ref qS), (1, .ref qP1)]) hx hb dX3_record_37 rfl hl (by decide) rfl (fun ls hl => ?_)
          refine lv_aload_nN hx hb dX3_record_38 rfl (lv_at hl 0 rfl) ?_
          refine lv_ifnonnullN hx hb dX3_record_39 ?_
          refine z_new (ci := 0) (fs := [.null, .null, .int 0, .null, .null, .null, .null, .null, .int 0, .int 0]) (C := RX0) (T := TX0) (N := 10) hx hb hts u_X3_record_X0 tyX0 tyX0_ok hown (hts _ k_X3_record_3) (hts _ k_X3_record_4) (hts _ k_X3_record_5) hK hP hD hS hA rfl (fun j hj => by rcases (show j = 0 ∨ j = 1 ∨ j = 2 ∨ j = 3 ∨ j = 4 ∨ j = 5 ∨ j = 6 ∨ j = 7 ∨ j = 8 ∨ j = 9 by omega) with rfl | rfl | rfl | rfl | rfl | rfl | rfl | rfl | rfl | rfl <;> rfl) (Nat.le_of_ble_eq_true rfl) (Nat.le_of_ble_eq_true rfl) dX3_record_42 (fun q1 H hP hD hS => ?_)
          have hP : va_P (dC, dI) vwCl ([(wX3 cO qS aS g (zrm z)), (wX0 cI qP1 aP1 gP1), (wZ cI (z 0)), (wZ cI (z 1)), (wZ cI (z 2)), (wZ cI (z 3)), [(q1, .inr (0, [.null, .null, .int 0, .null, .null, .null, .null, .null, .int 0, .int 0]))]] : List va_W).flatten H := hP
          have hD : va_D A ([(wX3 cO qS aS g (zrm z)), (wX0 cI qP1 aP1 gP1), (wZ cI (z 0)), (wZ cI (z 1)), (wZ cI (z 2)), (wZ cI (z 3)), [(q1, .inr (0, [.null, .null, .int 0, .null, .null, .null, .null, .null, .int 0, .int 0]))]] : List va_W).flatten := hD
          refine lv_dup hx hb dX3_record_45 rfl ?_
          refine z_callE (gs2 := fun u1 : Nat → Nat => [(wX3 cO qS aS g (zrm z)), (wX0 cI qP1 aP1 gP1), (wZ cI (z 0)), (wZ cI (z 1)), (wZ cI (z 2)), (wZ cI (z 3)), (wX0 cI q1 u1 iX0)]) hP hD hS hA [6] [0, 1, 2, 3, 4, 5] rfl (fun _ => rfl) (fun _ => rfl) (show List.Perm [6, 0, 1, 2, 3, 4, 5] (List.range 7) from by decide) (fun _ => rfl) (va_runIN (As := []) (rest := [.ref q1]) ⟨hx, hb, hml, hown, hts⟩ (c_X0_init l dC dI cI cC cO q1 H.size) ⟨va_cnB 0 hts gX3_record_X0_init_n24 rfl rfl rfl hN.2.2.1 (hts _ k_X3_record_5) (by decide +kernel) ⟨Nat.le_of_ble_eq_true rfl, Nat.le_of_ble_eq_true rfl⟩, rfl, (hts _ k_X3_record_11)⟩ ⟨zpM_blind, z_useM hK hN hP hD [6] [0, 1, 2, 3, 4, 5] rfl (show List.Perm [6, 0, 1, 2, 3, 4, 5] (List.range 7) from by decide)⟩ rfl rfl hl.1 rfl (lv_room (Nat.le_of_ble_eq_true rfl)) dX3_record_46 ⟨Nat.le_of_ble_eq_true rfl, Nat.le_of_ble_eq_true rfl⟩) (fun u1 _ H locs hP hD hS => ?_)
          refine W.eq (g2 := F0 m 49 ls [.ref q1]) rfl ?_
          have hP : va_P (dC, dI) vwCl ([(wX3 cO qS aS g (zrm z)), (wX0 cI qP1 aP1 gP1), (wZ cI (z 0)), (wZ cI (z 1)), (wZ cI (z 2)), (wZ cI (z 3)), (wX0 cI q1 u1 iX0)] : List va_W).flatten H := hP
          have hD : va_D A ([(wX3 cO qS aS g (zrm z)), (wX0 cI qP1 aP1 gP1), (wZ cI (z 0)), (wZ cI (z 1)), (wZ cI (z 2)), (wZ cI (z 3)), (wX0 cI q1 u1 iX0)] : List va_W).flatten := hD
          refine lv_astore_n (lv' := [(2, .ref q1), (0, .ref qS), (1, .ref qP1)]) hx hb dX3_record_49 rfl hl (by decide) rfl (fun ls hl => ?_)
          refine lv_aload_n hx hb dX3_record_50 rfl (lv_at hl 1 rfl) ?_
          refine va_get (D := (dC, dI)) (ci := 3) (v := .ref (aS 0)) (C := RX3) (T := TX3) (N := 2) hx hb hts u_X3_record_X3 hown hK hP 0 rfl rfl 0 (by decide) (hts _ k_X3_record_2) (fun _ h9 => h9) rfl dX3_record_51 ?_
          refine lv_aload_n hx hb dX3_record_54 rfl (lv_at hl 1 rfl) ?_
          refine va_get (D := (dC, dI)) (ci := 3) (v := .int (g 1 0)) (C := RX3) (T := TX3) (N := 2) hx hb hts u_X3_record_X3 hown hK hP 0 rfl rfl 1 (by decide) (hts _ k_X3_record_1) (fun _ h9 => h9) rfl dX3_record_55 ?_
          refine lv_aload_n hx hb dX3_record_58 rfl (lv_at hl 0 rfl) ?_
          refine z_astq (r := some q1) (gs' := [(wX3 cO qS aS g (va_up (zrm z) 3 (some q1))), (wX0 cI qP1 aP1 gP1), (wZ cI (z 0)), (wZ cI (z 1)), (wZ cI (z 2)), (wZ cI (z 3)), (wX0 cI q1 u1 iX0)]) hx hb hK hP hD hS 1 rfl (fun v h => by cases h; exact ⟨[.ref (u1 0), .ref (u1 1), .int (iX0 2 0), .ref (u1 3), .ref (u1 4), .ref (u1 5), .ref (u1 6), .ref (u1 7), .int (iX0 8 0), .int (iX0 9 0)], by simp [wX0]⟩) hin (by rw [hcl]; rfl) dX3_record_59 (fun H locs hP hD hS => ?_)
          refine lv_aload_n hx hb dX3_record_60 rfl (lv_at hl 0 rfl) ?_
          refine lv_aload_n hx hb dX3_record_61 rfl (lv_at hl 2 rfl) ?_
          refine z_callM (gs2 := [(wX3 cO qS aS g (va_up (zrm z) 3 (some q1))), (wX0 cI qP1 aP1 gP1), (wZ cI (z 0)), (wZ cI (z 1)), (wZ cI (z 2)), (wZ cI (z 3)), (wX0 cI q1 u1 Rc)]) hP hD hS hA [6, 1] [0, 2, 3, 4, 5] rfl rfl rfl (show List.Perm [6, 1, 0, 2, 3, 4, 5] (List.range 7) from by decide) rfl (va_runV (As := [.ref qP1]) (rest := []) ⟨hx, hb, hml, hown, hts⟩ (c_X0_copyFrom l dC dI cI cC cO q1 u1 iX0 qP1 aP1 gP1 Rc hc H.size) (cwV 1 hts gX3_record_X0_copyFrom rfl rfl rfl (by decide +kernel) ⟨Nat.le_of_ble_eq_true rfl, Nat.le_of_ble_eq_true rfl⟩) ⟨zpM_blind, (z_recv hK hP (ci := 0) (q := (RX0, TX0, 10)) (fs := [.ref (u1 0), .ref (u1 1), .int (iX0 2 0), .ref (u1 3), .ref (u1 4), .ref (u1 5), .ref (u1 6), .ref (u1 7), .int (iX0 8 0), .int (iX0 9 0)]) rfl (by simp [wX0])), z_useM hK hN hP hD [6, 1] [0, 2, 3, 4, 5] rfl (show List.Perm [6, 1, 0, 2, 3, 4, 5] (List.range 7) from by decide)⟩ rfl rfl hl.1 rfl (lv_room (Nat.le_of_ble_eq_true rfl)) dX3_record_62 ⟨Nat.le_of_ble_eq_true rfl, Nat.le_of_ble_eq_true rfl⟩) (fun H locs hP hD hS => ?_)
          refine W.eq (g2 := F0 m 65 ls []) rfl ?_
          refine lv_aload_n hx hb dX3_record_65 rfl (lv_at hl 1 rfl) ?_
          refine lv_dup hx hb dX3_record_66 rfl ?_
          refine va_get (D := (dC, dI)) (ci := 3) (v := .int (g 1 0)) (C := RX3) (T := TX3) (N := 2) hx hb hts u_X3_record_X3 hown hK hP 0 rfl rfl 1 (by decide) (hts _ k_X3_record_1) (fun _ h9 => h9) rfl dX3_record_67 ?_
          refine lv_iconst (v := (1 : Int32)) hx hb dX3_record_70 (by decide) ?_
          refine lv_iadd hx hb dX3_record_71 ?_
          refine z_put (gs' := [(wX3 cO qS aS (gup g 1 0 (g 1 0 + 1)) (va_up (zrm z) 3 (some q1))), (wX0 cI qP1 aP1 gP1), (wZ cI (z 0)), (wZ cI (z 1)), (wZ cI (z 2)), (wZ cI (z 3)), (wX0 cI q1 u1 Rc)]) (D := (dC, dI)) (ci := 3) (ty := .int) (C := RX3) (T := TX3) (N := 2) hx hb hts u_X3_record_X3 tyX3 tyX3_ok nmX3 hown hK hP hD hS 0 rfl rfl 1 (by decide) (hts _ k_X3_record_1) (fun _ h9 => h9) rfl (by decide +kernel) rfl rfl (Nat.le_of_ble_eq_true rfl) rfl dX3_record_72 (fun H locs hP hD hS => ?_)
          rw [show va_up (zrm z) 3 (some q1) = zrm (va_up z 3 (some (q1, u1, Rc))) from (zrm_up z 3 (some (q1, u1, Rc))).symm, ez] at hP hD
          obtain ⟨hP, hD⟩ := z_perm (gs := [(wX3 cO qS aS (gup g 1 0 (g 1 0 + 1)) (zrm (va_up z 3 (some (q1, u1, Rc))))), (wX0 cI qP1 aP1 gP1), (wZ cI (z 0)), (wZ cI (z 1)), (wZ cI (z 2)), [], (wX0 cI q1 u1 Rc)]) (gs2 := [(wX3 cO qS aS (gup g 1 0 (g 1 0 + 1)) (zrm (va_up z 3 (some (q1, u1, Rc))))), (wX0 cI qP1 aP1 gP1), (wZ cI (z 0)), (wZ cI (z 1)), (wZ cI (z 2)), (wX0 cI q1 u1 Rc), []]) (zswap3) hP hD
          refine W.widen (k := 8) (n := 66) (Nat.le_of_ble_eq_true rfl) (Nat.le_of_ble_eq_true rfl) ?_
          exact zE_vret (gs := [(wX3 cO qS aS (gup g 1 0 (g 1 0 + 1)) (zrm (va_up z 3 (some (q1, u1, Rc))))), (wX0 cI qP1 aP1 gP1), (wZ cI (z 0)), (wZ cI (z 1)), (wZ cI (z 2)), (wX0 cI q1 u1 Rc), []]) (u := (va_up z 3 (some (q1, u1, Rc)))) hx hb hr hP hD hS ⟨rfl, (by rw [← hf]; exact zcn_up z 3 (some (q1, u1, Rc))), (by rw [← hf]; simp [wZ, va_up])⟩ hlk dX3_record_75
        | some er =>
          obtain ⟨qr, ar, gr⟩ := er
          have e0 : zrm z 3 = some qr := by unfold zrm; rw [hz]; rfl
          have e1 : zcn z 3 = some gr := by unfold zcn; rw [hz]; rfl
          rw [e1] at hc
          have hc : f_X0_copyFrom gr gP1 = some Rc := hc
          rw [e0]
          have ez : wZ cI (z 3) = wX0 cI qr ar gr := by rw [hz]; rfl
          rw [ez] at hP hD
          refine lv_astore_n (x := qr) (lv' := [(2, .ref qr), (0, .ref qS), (1, .ref qP1)]) hx hb dX3_record_37 rfl hl (by decide) rfl (fun ls hl => ?_)
          refine lv_aload_n hx hb dX3_record_38 rfl (lv_at hl 0 rfl) ?_
          refine lv_ifnonnull (tgt := 60) hx hb dX3_record_39 (by decide) ?_
          refine lv_aload_n hx hb dX3_record_60 rfl (lv_at hl 0 rfl) ?_
          refine lv_aload_n hx hb dX3_record_61 rfl (lv_at hl 2 rfl) ?_
          refine z_callM (gs2 := [(wX3 cO qS aS g (zrm z)), (wX0 cI qP1 aP1 gP1), (wZ cI (z 0)), (wZ cI (z 1)), (wZ cI (z 2)), (wX0 cI qr ar Rc)]) hP hD hS hA [5, 1] [0, 2, 3, 4] rfl rfl rfl (show List.Perm [5, 1, 0, 2, 3, 4] (List.range 6) from by decide) rfl (va_runV (As := [.ref qP1]) (rest := []) ⟨hx, hb, hml, hown, hts⟩ (c_X0_copyFrom l dC dI cI cC cO qr ar gr qP1 aP1 gP1 Rc hc H.size) (cwV 1 hts gX3_record_X0_copyFrom rfl rfl rfl (by decide +kernel) ⟨Nat.le_of_ble_eq_true rfl, Nat.le_of_ble_eq_true rfl⟩) ⟨zpM_blind, (z_recv hK hP (ci := 0) (q := (RX0, TX0, 10)) (fs := [.ref (ar 0), .ref (ar 1), .int (gr 2 0), .ref (ar 3), .ref (ar 4), .ref (ar 5), .ref (ar 6), .ref (ar 7), .int (gr 8 0), .int (gr 9 0)]) rfl (by simp [wX0])), z_useM hK hN hP hD [5, 1] [0, 2, 3, 4] rfl (show List.Perm [5, 1, 0, 2, 3, 4] (List.range 6) from by decide)⟩ rfl rfl hl.1 rfl (lv_room (Nat.le_of_ble_eq_true rfl)) dX3_record_62 ⟨Nat.le_of_ble_eq_true rfl, Nat.le_of_ble_eq_true rfl⟩) (fun H locs hP hD hS => ?_)
          refine W.eq (g2 := F0 m 65 ls []) rfl ?_
          refine lv_aload_n hx hb dX3_record_65 rfl (lv_at hl 1 rfl) ?_
          refine lv_dup hx hb dX3_record_66 rfl ?_
          refine va_get (D := (dC, dI)) (ci := 3) (v := .int (g 1 0)) (C := RX3) (T := TX3) (N := 2) hx hb hts u_X3_record_X3 hown hK hP 0 rfl rfl 1 (by decide) (hts _ k_X3_record_1) (fun _ h9 => h9) rfl dX3_record_67 ?_
          refine lv_iconst (v := (1 : Int32)) hx hb dX3_record_70 (by decide) ?_
          refine lv_iadd hx hb dX3_record_71 ?_
          refine z_put (gs' := [(wX3 cO qS aS (gup g 1 0 (g 1 0 + 1)) (zrm z)), (wX0 cI qP1 aP1 gP1), (wZ cI (z 0)), (wZ cI (z 1)), (wZ cI (z 2)), (wX0 cI qr ar Rc)]) (D := (dC, dI)) (ci := 3) (ty := .int) (C := RX3) (T := TX3) (N := 2) hx hb hts u_X3_record_X3 tyX3 tyX3_ok nmX3 hown hK hP hD hS 0 rfl rfl 1 (by decide) (hts _ k_X3_record_1) (fun _ h9 => h9) rfl (by decide +kernel) rfl rfl (Nat.le_of_ble_eq_true rfl) rfl dX3_record_72 (fun H locs hP hD hS => ?_)
          rw [show zrm z = zrm (va_up z 3 (some (qr, ar, Rc))) from (by rw [zrm_up]; exact (va_up_eq _ _ _ e0).symm)] at hP hD
          refine W.widen (k := 8) (n := 66) (Nat.le_of_ble_eq_true rfl) (Nat.le_of_ble_eq_true rfl) ?_
          exact zE_vret (gs := [(wX3 cO qS aS (gup g 1 0 (g 1 0 + 1)) (zrm (va_up z 3 (some (qr, ar, Rc))))), (wX0 cI qP1 aP1 gP1), (wZ cI (z 0)), (wZ cI (z 1)), (wZ cI (z 2)), (wX0 cI qr ar Rc)]) (u := (va_up z 3 (some (qr, ar, Rc)))) hx hb hr hP hD hS ⟨rfl, (by rw [← hf]; exact zcn_up z 3 (some (qr, ar, Rc))), (by rw [← hf]; simp [wZ, va_up])⟩ hlk dX3_record_75
    · have hf := zif_f hf c_2
      have hf := Option.some.inj hf
      refine W.widen (k := 8) (n := 66) (Nat.le_of_ble_eq_true rfl) (Nat.le_of_ble_eq_true rfl) ?_
      exact zE_vret (gs := [(wX3 cO qS aS g (zrm z)), (wX0 cI qP1 aP1 gP1), (wZ cI (z 0)), (wZ cI (z 1)), (wZ cI (z 2)), (wZ cI (z 3))]) (u := z) hx hb hr hP hD hS ⟨rfl, (by rw [← hf]), (by rw [← hf])⟩ hlk dX3_record_27
  unfold f_X3_record at hf
  refine lv_aload_n hx hb dX3_record_0 rfl (lv_at hl 0 rfl) ?_
  refine va_get (D := (dC, dI)) (ci := 3) (v := .int (gS 1 0)) (C := RX3) (T := TX3) (N := 2) hx hb hts u_X3_record_X3 hown hK hP 0 rfl rfl 1 (by decide) (hts _ k_X3_record_1) (fun _ h9 => h9) rfl dX3_record_1 ?_
  refine lv_iconst (v := (4 : Int32)) hx hb dX3_record_4 (by decide) ?_
  refine lv_icmp_lt (tgt := 12) hx hb dX3_record_5 (by decide) (fun c_1 => ?_) (fun c_1 => ?_)
  · exact w12 gS zZ H locs ls (zif_t hf c_1) hP hD hS hl
  · have hf := zif_f hf c_1
    refine lv_aload_n hx hb dX3_record_8 rfl (lv_at hl 0 rfl) ?_
    refine z_callM (gs2 := [(wX3 cO qS aS (gup gS 1 0 3) (rrot (zrm zZ))), (wX0 cI qP1 aP1 gP1), (wZ cI (zZ 0)), (wZ cI (zZ 1)), (wZ cI (zZ 2)), (wZ cI (zZ 3))]) hP hD hS hA [0, 2, 3, 4, 5] [1] rfl rfl rfl (show List.Perm [0, 2, 3, 4, 5, 1] (List.range 6) from by decide) rfl (va_runV (As := []) (rest := []) ⟨hx, hb, hml, hown, hts⟩ (c_X3_dropOldest l dC dI cI cC cO qS aS gS (zrm zZ) [(wZ cI (zZ 0)), (wZ cI (zZ 1)), (wZ cI (zZ 2)), (wZ cI (zZ 3))] (zrooms4 zZ) H.size) (cwV 0 hts gX3_record_X3_dropOldest rfl rfl rfl (by decide +kernel) ⟨Nat.le_of_ble_eq_true rfl, Nat.le_of_ble_eq_true rfl⟩) ⟨zpM_blind, va_recv hK hP (ci := 3) (q0 := 0) rfl rfl, z_useM hK hN hP hD [0, 2, 3, 4, 5] [1] rfl (show List.Perm [0, 2, 3, 4, 5, 1] (List.range 6) from by decide)⟩ rfl rfl hl.1 rfl (lv_room (Nat.le_of_ble_eq_true rfl)) dX3_record_9 ⟨Nat.le_of_ble_eq_true rfl, Nat.le_of_ble_eq_true rfl⟩) (fun H locs hP hD hS => ?_)
    refine W.eq (g2 := F0 m 12 ls []) rfl ?_
    rw [← zrm_rot] at hP hD
    obtain ⟨hP, hD⟩ := z_perm (gs2 := [(wX3 cO qS aS (gup gS 1 0 3) (zrm (zrot zZ))), (wX0 cI qP1 aP1 gP1), (wZ cI (zrot zZ 0)), (wZ cI (zrot zZ 1)), (wZ cI (zrot zZ 2)), (wZ cI (zrot zZ 3))]) zrotp hP hD
    exact w12 (gup gS 1 0 3) (zrot zZ) H locs ls (by rw [zcn_rot]; exact hf) hP hD hS hl
theorem u_X3_takeLatest_X3 : ∀ w ∈ u_ws RX3 TX3 2, w ∈ wsX3_takeLatest := fun w h => List.mem_cons_of_mem _ (List.mem_append_left _ (List.mem_append_right _ h))
theorem k_X3_takeLatest_1 : Cond.fieldLink RX3 17 "JoinedLight$History" "states" "I" ∈ wsX3_takeLatest := List.mem_of_getElem? (i := 1) rfl
theorem k_X3_takeLatest_2 : Cond.fieldLink RX3 11 "JoinedLight$History" "rooms" "[LJoinedLight$Bench;" ∈ wsX3_takeLatest := List.mem_of_getElem? (i := 2) rfl
def f_X3_takeLatest (g gP : zG) (h : Nat → Option zG) : Option (Int32 × zG × zG) := if g 1 0 - 1 < 0 then some (0, g, gP) else if g 1 0 - 1 < 4 then (match h (g 1 0 - 1).toNatClampNeg with | none => some (0, g, gP) | some gr => zbind (f_X0_copyFrom gP gr) (fun r => some (1, gup g 1 0 (g 1 0 - 1), r))) else some (0, g, gP)
abbrev rm_X3_takeLatest : Room := { frames := 2, cells := 0, slots := 0, locals := 61 }
set_option maxHeartbeats 4000000 in
set_option maxRecDepth 100000 in
theorem c_X3_takeLatest (l : Launch) (dC : Nat → ClassId) (dI : Nat → Nat → Nat) (cI cC cO : ClassId) (qS : Nat) (aS : Nat → Nat) (gS : zG) (qP1 : Nat) (aP1 : Nat → Nat) (gP1 : zG) (zZ : Nat → zS) (R : Int32 × zG × zG) (hf : f_X3_takeLatest gS gP1 (zcn zZ) = some R) : cM l (dC, dI) (zT cI cC cO) yX3_takeLatest wsX3_takeLatest rm_X3_takeLatest [.ref qS, .ref qP1] [(wX3 cO qS aS gS (zrm zZ)), (wX0 cI qP1 aP1 gP1), (wZ cI (zZ 0)), (wZ cI (zZ 1)), (wZ cI (zZ 2)), (wZ cI (zZ 3))] [(wX3 cO qS aS R.2.1 (zrm zZ)), (wX0 cI qP1 aP1 R.2.2), (wZ cI (zZ 0)), (wZ cI (zZ 1)), (wZ cI (zZ 2)), (wZ cI (zZ 3))] (some (.int R.1)) 0 0 := by
  refine zM_in (cc := cX3_takeLatest) (maxL := 4) (ret := (some .boolean)) (plainFor_of_name (by decide)) rfl (Nat.le_of_ble_eq_true rfl) ?_
  intro p e s m below meth c hx hb hml hr hlk hown hts hK hN A hA hP hD hS ls hl
  have hl : lv_has ls 4 [(0, .ref qS), (1, .ref qP1)] := hl
  obtain ⟨H, hH⟩ : ∃ H, H = s.heap := ⟨_, rfl⟩
  obtain ⟨locs, hlocs⟩ : ∃ locs : List Loc, locs = [] := ⟨_, rfl⟩
  have hS : va_S A s.heap H locs := by rw [hH, hlocs]; exact hS
  rw [← hH] at hP
  refine zheap hH hlocs ?_
  unfold f_X3_takeLatest at hf
  refine lv_aload_n hx hb dX3_takeLatest_0 rfl (lv_at hl 0 rfl) ?_
  refine va_get (D := (dC, dI)) (ci := 3) (v := .int (gS 1 0)) (C := RX3) (T := TX3) (N := 2) hx hb hts u_X3_takeLatest_X3 hown hK hP 0 rfl rfl 1 (by decide) (hts _ k_X3_takeLatest_1) (fun _ h9 => h9) rfl dX3_takeLatest_1 ?_
  refine lv_iconst (v := (1 : Int32)) hx hb dX3_takeLatest_4 (by decide) ?_
  refine lv_isub hx hb dX3_takeLatest_5 ?_
  refine lv_istore_n (lv' := [(2, .int (gS 1 0 - (1 : Int32))), (0, .ref qS), (1, .ref qP1)]) hx hb dX3_takeLatest_6 rfl hl (by decide) rfl (fun ls hl => ?_)
  refine lv_iload_n hx hb dX3_takeLatest_7 rfl (lv_at hl 0 rfl) ?_
  refine lv_if_lt (tgt := 16) hx hb dX3_takeLatest_8 (by decide) (fun c_1 => ?_) (fun c_1 => ?_)
  · have hf := Option.some.inj (zif_t hf c_1)
    refine lv_iconst (v := (0 : Int32)) hx hb dX3_takeLatest_16 (by decide) ?_
    exact zM_ret (gs := [(wX3 cO qS aS gS (zrm zZ)), (wX0 cI qP1 aP1 gP1), (wZ cI (zZ 0)), (wZ cI (zZ 1)), (wZ cI (zZ 2)), (wZ cI (zZ 3))]) hx hb hr rfl hP hD hS (by rw [← hf]; exact ⟨rfl, rfl⟩) hlk dX3_takeLatest_17
  have hf := zif_f hf c_1
  refine lv_iload_n hx hb dX3_takeLatest_11 rfl (lv_at hl 0 rfl) ?_
  refine lv_iconst (v := (4 : Int32)) hx hb dX3_takeLatest_12 (by decide) ?_
  refine lv_icmp_lt (tgt := 18) hx hb dX3_takeLatest_13 (by decide) (fun c_2 => ?_) (fun c_2 => ?_)
  · have hf := zif_t hf c_2
    obtain ⟨j, hj, hgj⟩ : ∃ j : Nat, j < 4 ∧ (gS 1 0 - (1 : Int32)) = nI j := by
      obtain ⟨j, hj, e⟩ := nI_of c_1
      refine ⟨j, ?_, e⟩
      rw [e] at c_2
      exact (nI_ltI hj (by decide)).mp c_2
    have hcl : ((gS 1 0 - (1 : Int32))).toNatClampNeg = j := by rw [hgj]; exact nI_clamp (by omega)
    have hin : vp_in (gS 1 0 - (1 : Int32)) 4 := by rw [hgj]; exact vp_in_nI hj (by decide)
    rw [hcl] at hf
    refine lv_aload_n hx hb dX3_takeLatest_18 rfl (lv_at hl 1 rfl) ?_
    refine va_get (D := (dC, dI)) (ci := 3) (v := .ref (aS 0)) (C := RX3) (T := TX3) (N := 2) hx hb hts u_X3_takeLatest_X3 hown hK hP 0 rfl rfl 0 (by decide) (hts _ k_X3_takeLatest_2) (fun _ h9 => h9) rfl dX3_takeLatest_19 ?_
    refine lv_iload_n hx hb dX3_takeLatest_22 rfl (lv_at hl 0 rfl) ?_
    refine va_aldq hx hb hK hP 1 2 rfl rfl hin dX3_takeLatest_23 ?_
    rw [hcl]
    rcases (show j = 0 ∨ j = 1 ∨ j = 2 ∨ j = 3 by omega) with rfl | rfl | rfl | rfl
    · obtain ⟨o, hz⟩ : ∃ o, zZ 0 = o := ⟨_, rfl⟩
      cases o with
      | none =>
        have e0 : zrm zZ 0 = none := by unfold zrm; rw [hz]; rfl
        have e1 : zcn zZ 0 = none := by unfold zcn; rw [hz]; rfl
        rw [e1] at hf
        have hf := Option.some.inj hf
        rw [e0]
        refine lv_astore_nN (lv' := [(3, .null), (2, .int (gS 1 0 - (1 : Int32))), (0, .ref qS), (1, .ref qP1)]) hx hb dX3_takeLatest_24 rfl hl (by decide) rfl (fun ls hl => ?_)
        refine lv_aload_nN hx hb dX3_takeLatest_25 rfl (lv_at hl 0 rfl) ?_
        refine lv_ifnonnullN hx hb dX3_takeLatest_26 ?_
        refine lv_iconst (v := (0 : Int32)) hx hb dX3_takeLatest_29 (by decide) ?_
        exact zM_ret (gs := [(wX3 cO qS aS gS (zrm zZ)), (wX0 cI qP1 aP1 gP1), (wZ cI (zZ 0)), (wZ cI (zZ 1)), (wZ cI (zZ 2)), (wZ cI (zZ 3))]) hx hb hr rfl hP hD hS (by rw [← hf]; exact ⟨rfl, rfl⟩) hlk dX3_takeLatest_30
      | some er =>
        obtain ⟨qr, ar, gr⟩ := er
        have e0 : zrm zZ 0 = some qr := by unfold zrm; rw [hz]; rfl
        have e1 : zcn zZ 0 = some gr := by unfold zcn; rw [hz]; rfl
        rw [e1] at hf
        obtain ⟨Rc, hc, hf⟩ := zbind_ex hf
        have hf := Option.some.inj hf
        rw [e0]
        have ez : wZ cI (zZ 0) = wX0 cI qr ar gr := by rw [hz]; rfl
        rw [ez] at hP hD
        refine lv_astore_n (x := qr) (lv' := [(3, .ref qr), (2, .int (gS 1 0 - (1 : Int32))), (0, .ref qS), (1, .ref qP1)]) hx hb dX3_takeLatest_24 rfl hl (by decide) rfl (fun ls hl => ?_)
        refine lv_aload_n hx hb dX3_takeLatest_25 rfl (lv_at hl 0 rfl) ?_
        refine lv_ifnonnull (tgt := 31) hx hb dX3_takeLatest_26 (by decide) ?_
        refine lv_aload_n hx hb dX3_takeLatest_31 rfl (lv_at hl 3 rfl) ?_
        refine lv_aload_n hx hb dX3_takeLatest_32 rfl (lv_at hl 0 rfl) ?_
        refine z_callM (gs2 := [(wX3 cO qS aS gS (zrm zZ)), (wX0 cI qP1 aP1 Rc), (wX0 cI qr ar gr), (wZ cI (zZ 1)), (wZ cI (zZ 2)), (wZ cI (zZ 3))]) hP hD hS hA [1, 2] [0, 3, 4, 5] rfl rfl rfl (show List.Perm [1, 2, 0, 3, 4, 5] (List.range 6) from by decide) rfl (va_runV (As := [.ref qr]) (rest := []) ⟨hx, hb, hml, hown, hts⟩ (c_X0_copyFrom l dC dI cI cC cO qP1 aP1 gP1 qr ar gr Rc hc H.size) (cwV 1 hts gX3_takeLatest_X0_copyFrom rfl rfl rfl (by decide +kernel) ⟨Nat.le_of_ble_eq_true rfl, Nat.le_of_ble_eq_true rfl⟩) ⟨zpM_blind, va_recv hK hP (ci := 0) (q0 := 2) rfl rfl, z_useM hK hN hP hD [1, 2] [0, 3, 4, 5] rfl (show List.Perm [1, 2, 0, 3, 4, 5] (List.range 6) from by decide)⟩ rfl rfl hl.1 rfl (lv_room (Nat.le_of_ble_eq_true rfl)) dX3_takeLatest_33 ⟨Nat.le_of_ble_eq_true rfl, Nat.le_of_ble_eq_true rfl⟩) (fun H locs hP hD hS => ?_)
        refine W.eq (g2 := F0 m 36 ls []) rfl ?_
        refine lv_aload_n hx hb dX3_takeLatest_36 rfl (lv_at hl 2 rfl) ?_
        refine lv_iload_n hx hb dX3_takeLatest_37 rfl (lv_at hl 1 rfl) ?_
        refine z_put (gs' := [(wX3 cO qS aS (gup gS 1 0 (gS 1 0 - (1 : Int32))) (zrm zZ)), (wX0 cI qP1 aP1 Rc), (wX0 cI qr ar gr), (wZ cI (zZ 1)), (wZ cI (zZ 2)), (wZ cI (zZ 3))]) (D := (dC, dI)) (ci := 3) (ty := .int) (C := RX3) (T := TX3) (N := 2) hx hb hts u_X3_takeLatest_X3 tyX3 tyX3_ok nmX3 hown hK hP hD hS 0 rfl rfl 1 (by decide) (hts _ k_X3_takeLatest_1) (fun _ h9 => h9) rfl (by decide +kernel) rfl rfl (Nat.le_of_ble_eq_true rfl) rfl dX3_takeLatest_38 (fun H locs hP hD hS => ?_)
        refine lv_iconst (v := (1 : Int32)) hx hb dX3_takeLatest_41 (by decide) ?_
        rw [← ez] at hP hD
        exact zM_ret (gs := [(wX3 cO qS aS (gup gS 1 0 (gS 1 0 - (1 : Int32))) (zrm zZ)), (wX0 cI qP1 aP1 Rc), (wZ cI (zZ 0)), (wZ cI (zZ 1)), (wZ cI (zZ 2)), (wZ cI (zZ 3))]) hx hb hr rfl hP hD hS (by rw [← hf]; exact ⟨rfl, rfl⟩) hlk dX3_takeLatest_42
    · obtain ⟨o, hz⟩ : ∃ o, zZ 1 = o := ⟨_, rfl⟩
      cases o with
      | none =>
        have e0 : zrm zZ 1 = none := by unfold zrm; rw [hz]; rfl
        have e1 : zcn zZ 1 = none := by unfold zcn; rw [hz]; rfl
        rw [e1] at hf
        have hf := Option.some.inj hf
        rw [e0]
        refine lv_astore_nN (lv' := [(3, .null), (2, .int (gS 1 0 - (1 : Int32))), (0, .ref qS), (1, .ref qP1)]) hx hb dX3_takeLatest_24 rfl hl (by decide) rfl (fun ls hl => ?_)
        refine lv_aload_nN hx hb dX3_takeLatest_25 rfl (lv_at hl 0 rfl) ?_
        refine lv_ifnonnullN hx hb dX3_takeLatest_26 ?_
        refine lv_iconst (v := (0 : Int32)) hx hb dX3_takeLatest_29 (by decide) ?_
        exact zM_ret (gs := [(wX3 cO qS aS gS (zrm zZ)), (wX0 cI qP1 aP1 gP1), (wZ cI (zZ 0)), (wZ cI (zZ 1)), (wZ cI (zZ 2)), (wZ cI (zZ 3))]) hx hb hr rfl hP hD hS (by rw [← hf]; exact ⟨rfl, rfl⟩) hlk dX3_takeLatest_30
      | some er =>
        obtain ⟨qr, ar, gr⟩ := er
        have e0 : zrm zZ 1 = some qr := by unfold zrm; rw [hz]; rfl
        have e1 : zcn zZ 1 = some gr := by unfold zcn; rw [hz]; rfl
        rw [e1] at hf
        obtain ⟨Rc, hc, hf⟩ := zbind_ex hf
        have hf := Option.some.inj hf
        rw [e0]
        have ez : wZ cI (zZ 1) = wX0 cI qr ar gr := by rw [hz]; rfl
        rw [ez] at hP hD
        refine lv_astore_n (x := qr) (lv' := [(3, .ref qr), (2, .int (gS 1 0 - (1 : Int32))), (0, .ref qS), (1, .ref qP1)]) hx hb dX3_takeLatest_24 rfl hl (by decide) rfl (fun ls hl => ?_)
        refine lv_aload_n hx hb dX3_takeLatest_25 rfl (lv_at hl 0 rfl) ?_
        refine lv_ifnonnull (tgt := 31) hx hb dX3_takeLatest_26 (by decide) ?_
        refine lv_aload_n hx hb dX3_takeLatest_31 rfl (lv_at hl 3 rfl) ?_
        refine lv_aload_n hx hb dX3_takeLatest_32 rfl (lv_at hl 0 rfl) ?_
        refine z_callM (gs2 := [(wX3 cO qS aS gS (zrm zZ)), (wX0 cI qP1 aP1 Rc), (wZ cI (zZ 0)), (wX0 cI qr ar gr), (wZ cI (zZ 2)), (wZ cI (zZ 3))]) hP hD hS hA [1, 3] [0, 2, 4, 5] rfl rfl rfl (show List.Perm [1, 3, 0, 2, 4, 5] (List.range 6) from by decide) rfl (va_runV (As := [.ref qr]) (rest := []) ⟨hx, hb, hml, hown, hts⟩ (c_X0_copyFrom l dC dI cI cC cO qP1 aP1 gP1 qr ar gr Rc hc H.size) (cwV 1 hts gX3_takeLatest_X0_copyFrom rfl rfl rfl (by decide +kernel) ⟨Nat.le_of_ble_eq_true rfl, Nat.le_of_ble_eq_true rfl⟩) ⟨zpM_blind, va_recv hK hP (ci := 0) (q0 := 2) rfl rfl, z_useM hK hN hP hD [1, 3] [0, 2, 4, 5] rfl (show List.Perm [1, 3, 0, 2, 4, 5] (List.range 6) from by decide)⟩ rfl rfl hl.1 rfl (lv_room (Nat.le_of_ble_eq_true rfl)) dX3_takeLatest_33 ⟨Nat.le_of_ble_eq_true rfl, Nat.le_of_ble_eq_true rfl⟩) (fun H locs hP hD hS => ?_)
        refine W.eq (g2 := F0 m 36 ls []) rfl ?_
        refine lv_aload_n hx hb dX3_takeLatest_36 rfl (lv_at hl 2 rfl) ?_
        refine lv_iload_n hx hb dX3_takeLatest_37 rfl (lv_at hl 1 rfl) ?_
        refine z_put (gs' := [(wX3 cO qS aS (gup gS 1 0 (gS 1 0 - (1 : Int32))) (zrm zZ)), (wX0 cI qP1 aP1 Rc), (wZ cI (zZ 0)), (wX0 cI qr ar gr), (wZ cI (zZ 2)), (wZ cI (zZ 3))]) (D := (dC, dI)) (ci := 3) (ty := .int) (C := RX3) (T := TX3) (N := 2) hx hb hts u_X3_takeLatest_X3 tyX3 tyX3_ok nmX3 hown hK hP hD hS 0 rfl rfl 1 (by decide) (hts _ k_X3_takeLatest_1) (fun _ h9 => h9) rfl (by decide +kernel) rfl rfl (Nat.le_of_ble_eq_true rfl) rfl dX3_takeLatest_38 (fun H locs hP hD hS => ?_)
        refine lv_iconst (v := (1 : Int32)) hx hb dX3_takeLatest_41 (by decide) ?_
        rw [← ez] at hP hD
        exact zM_ret (gs := [(wX3 cO qS aS (gup gS 1 0 (gS 1 0 - (1 : Int32))) (zrm zZ)), (wX0 cI qP1 aP1 Rc), (wZ cI (zZ 0)), (wZ cI (zZ 1)), (wZ cI (zZ 2)), (wZ cI (zZ 3))]) hx hb hr rfl hP hD hS (by rw [← hf]; exact ⟨rfl, rfl⟩) hlk dX3_takeLatest_42
    · obtain ⟨o, hz⟩ : ∃ o, zZ 2 = o := ⟨_, rfl⟩
      cases o with
      | none =>
        have e0 : zrm zZ 2 = none := by unfold zrm; rw [hz]; rfl
        have e1 : zcn zZ 2 = none := by unfold zcn; rw [hz]; rfl
        rw [e1] at hf
        have hf := Option.some.inj hf
        rw [e0]
        refine lv_astore_nN (lv' := [(3, .null), (2, .int (gS 1 0 - (1 : Int32))), (0, .ref qS), (1, .ref qP1)]) hx hb dX3_takeLatest_24 rfl hl (by decide) rfl (fun ls hl => ?_)
        refine lv_aload_nN hx hb dX3_takeLatest_25 rfl (lv_at hl 0 rfl) ?_
        refine lv_ifnonnullN hx hb dX3_takeLatest_26 ?_
        refine lv_iconst (v := (0 : Int32)) hx hb dX3_takeLatest_29 (by decide) ?_
        exact zM_ret (gs := [(wX3 cO qS aS gS (zrm zZ)), (wX0 cI qP1 aP1 gP1), (wZ cI (zZ 0)), (wZ cI (zZ 1)), (wZ cI (zZ 2)), (wZ cI (zZ 3))]) hx hb hr rfl hP hD hS (by rw [← hf]; exact ⟨rfl, rfl⟩) hlk dX3_takeLatest_30
      | some er =>
        obtain ⟨qr, ar, gr⟩ := er
        have e0 : zrm zZ 2 = some qr := by unfold zrm; rw [hz]; rfl
        have e1 : zcn zZ 2 = some gr := by unfold zcn; rw [hz]; rfl
        rw [e1] at hf
        obtain ⟨Rc, hc, hf⟩ := zbind_ex hf
        have hf := Option.some.inj hf
        rw [e0]
        have ez : wZ cI (zZ 2) = wX0 cI qr ar gr := by rw [hz]; rfl
        rw [ez] at hP hD
        refine lv_astore_n (x := qr) (lv' := [(3, .ref qr), (2, .int (gS 1 0 - (1 : Int32))), (0, .ref qS), (1, .ref qP1)]) hx hb dX3_takeLatest_24 rfl hl (by decide) rfl (fun ls hl => ?_)
        refine lv_aload_n hx hb dX3_takeLatest_25 rfl (lv_at hl 0 rfl) ?_
        refine lv_ifnonnull (tgt := 31) hx hb dX3_takeLatest_26 (by decide) ?_
        refine lv_aload_n hx hb dX3_takeLatest_31 rfl (lv_at hl 3 rfl) ?_
        refine lv_aload_n hx hb dX3_takeLatest_32 rfl (lv_at hl 0 rfl) ?_
        refine z_callM (gs2 := [(wX3 cO qS aS gS (zrm zZ)), (wX0 cI qP1 aP1 Rc), (wZ cI (zZ 0)), (wZ cI (zZ 1)), (wX0 cI qr ar gr), (wZ cI (zZ 3))]) hP hD hS hA [1, 4] [0, 2, 3, 5] rfl rfl rfl (show List.Perm [1, 4, 0, 2, 3, 5] (List.range 6) from by decide) rfl (va_runV (As := [.ref qr]) (rest := []) ⟨hx, hb, hml, hown, hts⟩ (c_X0_copyFrom l dC dI cI cC cO qP1 aP1 gP1 qr ar gr Rc hc H.size) (cwV 1 hts gX3_takeLatest_X0_copyFrom rfl rfl rfl (by decide +kernel) ⟨Nat.le_of_ble_eq_true rfl, Nat.le_of_ble_eq_true rfl⟩) ⟨zpM_blind, va_recv hK hP (ci := 0) (q0 := 2) rfl rfl, z_useM hK hN hP hD [1, 4] [0, 2, 3, 5] rfl (show List.Perm [1, 4, 0, 2, 3, 5] (List.range 6) from by decide)⟩ rfl rfl hl.1 rfl (lv_room (Nat.le_of_ble_eq_true rfl)) dX3_takeLatest_33 ⟨Nat.le_of_ble_eq_true rfl, Nat.le_of_ble_eq_true rfl⟩) (fun H locs hP hD hS => ?_)
        refine W.eq (g2 := F0 m 36 ls []) rfl ?_
        refine lv_aload_n hx hb dX3_takeLatest_36 rfl (lv_at hl 2 rfl) ?_
        refine lv_iload_n hx hb dX3_takeLatest_37 rfl (lv_at hl 1 rfl) ?_
        refine z_put (gs' := [(wX3 cO qS aS (gup gS 1 0 (gS 1 0 - (1 : Int32))) (zrm zZ)), (wX0 cI qP1 aP1 Rc), (wZ cI (zZ 0)), (wZ cI (zZ 1)), (wX0 cI qr ar gr), (wZ cI (zZ 3))]) (D := (dC, dI)) (ci := 3) (ty := .int) (C := RX3) (T := TX3) (N := 2) hx hb hts u_X3_takeLatest_X3 tyX3 tyX3_ok nmX3 hown hK hP hD hS 0 rfl rfl 1 (by decide) (hts _ k_X3_takeLatest_1) (fun _ h9 => h9) rfl (by decide +kernel) rfl rfl (Nat.le_of_ble_eq_true rfl) rfl dX3_takeLatest_38 (fun H locs hP hD hS => ?_)
        refine lv_iconst (v := (1 : Int32)) hx hb dX3_takeLatest_41 (by decide) ?_
        rw [← ez] at hP hD
        exact zM_ret (gs := [(wX3 cO qS aS (gup gS 1 0 (gS 1 0 - (1 : Int32))) (zrm zZ)), (wX0 cI qP1 aP1 Rc), (wZ cI (zZ 0)), (wZ cI (zZ 1)), (wZ cI (zZ 2)), (wZ cI (zZ 3))]) hx hb hr rfl hP hD hS (by rw [← hf]; exact ⟨rfl, rfl⟩) hlk dX3_takeLatest_42
    · obtain ⟨o, hz⟩ : ∃ o, zZ 3 = o := ⟨_, rfl⟩
      cases o with
      | none =>
        have e0 : zrm zZ 3 = none := by unfold zrm; rw [hz]; rfl
        have e1 : zcn zZ 3 = none := by unfold zcn; rw [hz]; rfl
        rw [e1] at hf
        have hf := Option.some.inj hf
        rw [e0]
        refine lv_astore_nN (lv' := [(3, .null), (2, .int (gS 1 0 - (1 : Int32))), (0, .ref qS), (1, .ref qP1)]) hx hb dX3_takeLatest_24 rfl hl (by decide) rfl (fun ls hl => ?_)
        refine lv_aload_nN hx hb dX3_takeLatest_25 rfl (lv_at hl 0 rfl) ?_
        refine lv_ifnonnullN hx hb dX3_takeLatest_26 ?_
        refine lv_iconst (v := (0 : Int32)) hx hb dX3_takeLatest_29 (by decide) ?_
        exact zM_ret (gs := [(wX3 cO qS aS gS (zrm zZ)), (wX0 cI qP1 aP1 gP1), (wZ cI (zZ 0)), (wZ cI (zZ 1)), (wZ cI (zZ 2)), (wZ cI (zZ 3))]) hx hb hr rfl hP hD hS (by rw [← hf]; exact ⟨rfl, rfl⟩) hlk dX3_takeLatest_30
      | some er =>
        obtain ⟨qr, ar, gr⟩ := er
        have e0 : zrm zZ 3 = some qr := by unfold zrm; rw [hz]; rfl
        have e1 : zcn zZ 3 = some gr := by unfold zcn; rw [hz]; rfl
        rw [e1] at hf
        obtain ⟨Rc, hc, hf⟩ := zbind_ex hf
        have hf := Option.some.inj hf
        rw [e0]
        have ez : wZ cI (zZ 3) = wX0 cI qr ar gr := by rw [hz]; rfl
        rw [ez] at hP hD
        refine lv_astore_n (x := qr) (lv' := [(3, .ref qr), (2, .int (gS 1 0 - (1 : Int32))), (0, .ref qS), (1, .ref qP1)]) hx hb dX3_takeLatest_24 rfl hl (by decide) rfl (fun ls hl => ?_)
        refine lv_aload_n hx hb dX3_takeLatest_25 rfl (lv_at hl 0 rfl) ?_
        refine lv_ifnonnull (tgt := 31) hx hb dX3_takeLatest_26 (by decide) ?_
        refine lv_aload_n hx hb dX3_takeLatest_31 rfl (lv_at hl 3 rfl) ?_
        refine lv_aload_n hx hb dX3_takeLatest_32 rfl (lv_at hl 0 rfl) ?_
        refine z_callM (gs2 := [(wX3 cO qS aS gS (zrm zZ)), (wX0 cI qP1 aP1 Rc), (wZ cI (zZ 0)), (wZ cI (zZ 1)), (wZ cI (zZ 2)), (wX0 cI qr ar gr)]) hP hD hS hA [1, 5] [0, 2, 3, 4] rfl rfl rfl (show List.Perm [1, 5, 0, 2, 3, 4] (List.range 6) from by decide) rfl (va_runV (As := [.ref qr]) (rest := []) ⟨hx, hb, hml, hown, hts⟩ (c_X0_copyFrom l dC dI cI cC cO qP1 aP1 gP1 qr ar gr Rc hc H.size) (cwV 1 hts gX3_takeLatest_X0_copyFrom rfl rfl rfl (by decide +kernel) ⟨Nat.le_of_ble_eq_true rfl, Nat.le_of_ble_eq_true rfl⟩) ⟨zpM_blind, va_recv hK hP (ci := 0) (q0 := 2) rfl rfl, z_useM hK hN hP hD [1, 5] [0, 2, 3, 4] rfl (show List.Perm [1, 5, 0, 2, 3, 4] (List.range 6) from by decide)⟩ rfl rfl hl.1 rfl (lv_room (Nat.le_of_ble_eq_true rfl)) dX3_takeLatest_33 ⟨Nat.le_of_ble_eq_true rfl, Nat.le_of_ble_eq_true rfl⟩) (fun H locs hP hD hS => ?_)
        refine W.eq (g2 := F0 m 36 ls []) rfl ?_
        refine lv_aload_n hx hb dX3_takeLatest_36 rfl (lv_at hl 2 rfl) ?_
        refine lv_iload_n hx hb dX3_takeLatest_37 rfl (lv_at hl 1 rfl) ?_
        refine z_put (gs' := [(wX3 cO qS aS (gup gS 1 0 (gS 1 0 - (1 : Int32))) (zrm zZ)), (wX0 cI qP1 aP1 Rc), (wZ cI (zZ 0)), (wZ cI (zZ 1)), (wZ cI (zZ 2)), (wX0 cI qr ar gr)]) (D := (dC, dI)) (ci := 3) (ty := .int) (C := RX3) (T := TX3) (N := 2) hx hb hts u_X3_takeLatest_X3 tyX3 tyX3_ok nmX3 hown hK hP hD hS 0 rfl rfl 1 (by decide) (hts _ k_X3_takeLatest_1) (fun _ h9 => h9) rfl (by decide +kernel) rfl rfl (Nat.le_of_ble_eq_true rfl) rfl dX3_takeLatest_38 (fun H locs hP hD hS => ?_)
        refine lv_iconst (v := (1 : Int32)) hx hb dX3_takeLatest_41 (by decide) ?_
        rw [← ez] at hP hD
        exact zM_ret (gs := [(wX3 cO qS aS (gup gS 1 0 (gS 1 0 - (1 : Int32))) (zrm zZ)), (wX0 cI qP1 aP1 Rc), (wZ cI (zZ 0)), (wZ cI (zZ 1)), (wZ cI (zZ 2)), (wZ cI (zZ 3))]) hx hb hr rfl hP hD hS (by rw [← hf]; exact ⟨rfl, rfl⟩) hlk dX3_takeLatest_42
  · have hf := Option.some.inj (zif_f hf c_2)
    refine lv_iconst (v := (0 : Int32)) hx hb dX3_takeLatest_16 (by decide) ?_
    exact zM_ret (gs := [(wX3 cO qS aS gS (zrm zZ)), (wX0 cI qP1 aP1 gP1), (wZ cI (zZ 0)), (wZ cI (zZ 1)), (wZ cI (zZ 2)), (wZ cI (zZ 3))]) hx hb hr rfl hP hD hS (by rw [← hf]; exact ⟨rfl, rfl⟩) hlk dX3_takeLatest_17
