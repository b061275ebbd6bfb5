/-! ===== contracts whose world behind tells new addresses; constructors; the history's rooms ===== -/
def zqE {α : Type} (D : va_G) (r : Option Value) (gs : α → List va_W) (φ : α → Prop) (A : Nat → Prop) : Array Value → State → Outcome → State → Prop := fun _ st oc t => oc = .returned r ∧ va_F A st t ∧ ∃ u : α, φ u ∧ va_P D vwCl (gs u).flatten t.heap ∧ va_D A (gs u).flatten
abbrev cE {α : Type} (l : Launch) (D : va_G) (tys : List (ClassId × FieldType)) (y : MethodName) (ws : List Cond) (rm : Room) (as : List Value) (gs : List va_W) (gs' : α → List va_W) (φ : α → Prop) (r : Option Value) (mc ms : Nat) : Prop := ∀ sz, Met l y ws rm (va_Pc as (zpM D tys gs sz)) (zqE D r gs' φ (va_A gs.flatten sz)) mc ms (va_A gs.flatten sz)
section ZE
variable {p : Program} {l : Launch} {e : Env} {R : Room} {s : State} {m : MethodId} {args : Array Value} {below : List Frame} {meth : Method} {c : Code} {H H0 : Heap} {locs : List Loc} {cells slots mc ms : Nat} {Q : State → Prop}
variable {pc : Nat} {ls : Array Slot} {rest st0 : List Value} {a : Array Value} {A : Nat → Prop} {D : va_G} {tys : List (ClassId × FieldType)} {cc : ByteArray}
theorem z_callE {α : Type} {r : Option Value} {gs gc : List va_W} {gs2 gc' : α → List va_W} {φ : α → Prop} (hP : va_P D vwCl gs.flatten H) (hD : va_D A gs.flatten) (hS : va_S A H0 H locs) (hA : ∀ q, H0.size ≤ q → A q) (isC isR : List Nat) (hC : isC.filterMap (fun i => gs[i]?) = gc) (hC2 : ∀ u, isC.filterMap (fun i => (gs2 u)[i]?) = gc' u) (hR : ∀ u, isR.filterMap (fun i => (gs2 u)[i]?) = isR.filterMap (fun i => gs[i]?)) (hp : (isC ++ isR).Perm (List.range gs.length)) (hlen : ∀ u, (gs2 u).length = gs.length)
    (hr : va_Run p l e R s m args below meth c H locs cells slots mc ms (F0 m pc ls st0) rest (zqE D r gc' φ (va_A gc.flatten H.size) a) (va_A gc.flatten H.size))
    (kk : ∀ (u : α), φ u → ∀ (H1 : Heap) (locs1 : List Loc), va_P D vwCl (gs2 u).flatten H1 → va_D A (gs2 u).flatten → va_S A H0 H1 locs1 → W p l e R s m args below meth c H1 locs1 (cells + mc) (slots + ms) Q (F0 m (pc + 3) ls (r.toList ++ rest))) : W p l e R s m args below meth c H locs cells slots Q (F0 m pc ls st0) := by
  intro T hT X
  obtain ⟨v, st₀, t, T', L, h0, X', hL, e1, e2, ⟨hv, ⟨hz, hk⟩, u, hu, hP1, hD1⟩, st⟩ := hr T hT X
  cases hv
  rw [h0] at hz hk
  have hF := z_free hD hS hA isC hC
  have hk' : ∀ q : Nat, q < H.size → ¬ va_A gc.flatten H.size q → t.heap[q]? = H[q]? := hk
  obtain ⟨hP2, hD2⟩ := z_join hP hD isC isR hC (hC2 u) (hR u) hp (hlen u) hk' hF hP1 hD1
  obtain ⟨t2, a1, b1⟩ := kk u hu T'.heap (locs ++ L) (by rw [e1]; exact hP2) hD2
    ⟨Nat.le_trans hS.1 (by rw [e1]; exact hz), fun q h1 h2 => by rw [e1, hk' q (Nat.lt_of_lt_of_le h1 hS.1) (fun z => h2 (hF q z))]; exact hS.2.1 q h1 h2, fun q hq => by
      rcases List.mem_append.mp hq with h | h
      · exact hS.2.2 q h
      · exact hF _ (hL q h)⟩ T' rfl X'
  exact ⟨t2, st t2 a1, b1⟩
theorem zE_vret {α : Type} {r : Option Value} {gs : List va_W} {gs' : α → List va_W} {φ : α → Prop} (u : α) (hexec : p.tables.exec = Jvm.exec) (hb : c.code = cc) (hr : meth.sig.returnType = none) (hP : va_P D vwCl gs.flatten H) (hD : va_D A gs.flatten) (hS : va_S A s.heap H locs) (hf : none = r ∧ φ u ∧ gs.flatten = (gs' u).flatten) (hlocks : meth.locks = false) (hdg : decode cc pc = .ok (.return_, 1)) : W p l e R s m args below meth c H locs cells slots (MQ below (zqE D r gs' φ A) args s cells slots A) (F0 m pc ls []) := by
  obtain ⟨rfl, hu, hg⟩ := hf
  rw [hg] at hP hD
  exact W.vret hexec hb hr (fun t ht _ => ⟨rfl, hS.F ht, u, hu, by rw [ht]; exact hP, hD⟩) hS.2.2 hdg hlocks
theorem zE_ret {α : Type} {v : Int32} {r : Option Value} {ty : FieldType} {gs : List va_W} {gs' : α → List va_W} {φ : α → Prop} (u : α) (hexec : p.tables.exec = Jvm.exec) (hb : c.code = cc) (hr : meth.sig.returnType = some ty) (hn : narrow ty (.int v) = .int v) (hP : va_P D vwCl gs.flatten H) (hD : va_D A gs.flatten) (hS : va_S A s.heap H locs) (hf : some (.int v) = r ∧ φ u ∧ gs.flatten = (gs' u).flatten) (hlocks : meth.locks = false) (hdg : decode cc pc = .ok (.ireturn, 1)) : W p l e R s m args below meth c H locs cells slots (MQ below (zqE D r gs' φ A) args s cells slots A) (F0 m pc ls [.int v]) := by
  obtain ⟨rfl, hu, hg⟩ := hf
  rw [hg] at hP hD
  exact W.zret hexec hb hr hn (fun t ht _ => ⟨rfl, hS.F ht, u, hu, by rw [ht]; exact hP, hD⟩) hS.2.2 hdg hlocks
theorem z_one {tys : List (ClassId × FieldType)} (hK : va_K D vwCl tys s) {ty : FieldType} (hty : ∀ C, ty ≠ .object C) {i : Nat} {cI cA : ClassId} (h1 : tys[i]? = some (cI, ty)) {tys' : List (ClassId × FieldType)} (hK' : va_K D vwCl (tys ++ [(cA, ty)]) s) : cA = cI := by
  have a1 := (hK.2 i _ h1).2
  have a2 := (hK'.2 tys.length (cA, ty) (by rw [List.getElem?_append_right (Nat.le_refl _), Nat.sub_self]; rfl)).2
  have b : ∀ c : ClassId, va_RA s c ty → s.vm.findClass ("[" ++ ty.toString) = some c := by
    intro c h
    cases ty with
    | object C => exact absurd rfl (hty C)
    | _ => exact h
  exact Option.some.inj ((b _ a2).symm.trans (b _ a1))
theorem z_newi {cI cC cO : ClassId} {gs : List va_W} (hexec : p.tables.exec = Jvm.exec) (hb : c.code = cc) (harr : (Cond.arrayClass (newarray.typeOf .int)).before args s = true) (hK : va_K D vwCl (zT cI cC cO) s) (hP : va_P D vwCl gs.flatten H) (hD : va_D A gs.flatten) (hS : va_S A H0 H locs) (hA : ∀ q, H0.size ≤ q → A q)
    {n : Int32} (N : Nat) (hn : ¬ n < 0) (hN : n.toNatClampNeg = N) (hbytes : N * componentBytes .int ≤ 536870912) (hcells : cells + 1 ≤ R.cells) (hslots : slots + N ≤ R.slots) (hdg : decode cc pc = .ok (.newarray .int, 2))
    (kk : ∀ (q : Nat) (H1 : Heap), va_P D vwCl (gs ++ ([[(q, .inl (cI, N, .inl (fun _ => 0)))]] : List va_W)).flatten H1 → va_D A (gs ++ ([[(q, .inl (cI, N, .inl (fun _ => 0)))]] : List va_W)).flatten → va_S A H0 H1 locs → W p l e R s m args below meth c H1 locs (cells + 1) (slots + N) Q (F0 m (pc + 2) ls (.ref q :: rest))) : W p l e R s m args below meth c H locs cells slots Q (F0 m pc ls (.int n :: rest)) := by
  refine va_newa (atype := .int) (ty := .int) (a0 := (N, .inl (fun _ => 0))) hexec hb harr rfl hK hP hD hS hA (fun _ => rfl) hn hN hbytes hcells hslots hdg (fun q cA H1 hK' hP' hD' hS' => ?_)
  obtain rfl : cA = cI := z_one (i := 0) (tys' := []) hK (fun C h => by cases h) rfl hK'
  exact kk q H1 (by simpa using hP') (by simpa using hD') hS'
theorem z_newc {cI cC cO : ClassId} {gs : List va_W} (hexec : p.tables.exec = Jvm.exec) (hb : c.code = cc) (harr : (Cond.arrayClass (newarray.typeOf .char)).before args s = true) (hK : va_K D vwCl (zT cI cC cO) s) (hP : va_P D vwCl gs.flatten H) (hD : va_D A gs.flatten) (hS : va_S A H0 H locs) (hA : ∀ q, H0.size ≤ q → A q)
    {n : Int32} (N : Nat) (hn : ¬ n < 0) (hN : n.toNatClampNeg = N) (hbytes : N * componentBytes .char ≤ 536870912) (hcells : cells + 1 ≤ R.cells) (hslots : slots + N ≤ R.slots) (hdg : decode cc pc = .ok (.newarray .char, 2))
    (kk : ∀ (q : Nat) (H1 : Heap), va_P D vwCl (gs ++ ([[(q, .inl (cC, N, .inl (fun _ => 0)))]] : List va_W)).flatten H1 → va_D A (gs ++ ([[(q, .inl (cC, N, .inl (fun _ => 0)))]] : List va_W)).flatten → va_S A H0 H1 locs → W p l e R s m args below meth c H1 locs (cells + 1) (slots + N) Q (F0 m (pc + 2) ls (.ref q :: rest))) : W p l e R s m args below meth c H locs cells slots Q (F0 m pc ls (.int n :: rest)) := by
  refine va_newa (atype := .char) (ty := .char) (a0 := (N, .inl (fun _ => 0))) hexec hb harr rfl hK hP hD hS hA (fun _ => rfl) hn hN hbytes hcells hslots hdg (fun q cA H1 hK' hP' hD' hS' => ?_)
  obtain rfl : cA = cC := z_one (i := 1) (tys' := []) hK (fun C h => by cases h) rfl hK'
  exact kk q H1 (by simpa using hP') (by simpa using hD') hS'
theorem z_newq {cI cC cO : ClassId} {gs : List va_W} (hexec : p.tables.exec = Jvm.exec) (hb : c.code = cc) {own : String} {index : Nat} (hown : s.vm.findClass own = some m.cls) (hclink : (Cond.classLink own index "JoinedLight$Bench").before args s = true) (hover : va_AO "JoinedLight$Bench" s) (hK : va_K D vwCl (zT cI cC cO) s) (hP : va_P D vwCl gs.flatten H) (hD : va_D A gs.flatten) (hS : va_S A H0 H locs) (hA : ∀ q, H0.size ≤ q → A q)
    {n : Int32} (N : Nat) (hn : ¬ n < 0) (hN : n.toNatClampNeg = N) (hbytes : N * 4 ≤ 536870912) (hcells : cells + 1 ≤ R.cells) (hslots : slots + N ≤ R.slots) (hdg : decode cc pc = .ok (.anewarray index, 3))
    (kk : ∀ (q : Nat) (H1 : Heap), va_P D vwCl (gs ++ ([[(q, .inl (cO, N, .inr (.inr (.inr (.inr (fun _ => none))))))]] : List va_W)).flatten H1 → va_D A (gs ++ ([[(q, .inl (cO, N, .inr (.inr (.inr (.inr (fun _ => none))))))]] : List va_W)).flatten → va_S A H0 H1 locs → W p l e R s m args below meth c H1 locs (cells + 1) (slots + N) Q (F0 m (pc + 3) ls (.ref q :: rest))) : W p l e R s m args below meth c H locs cells slots Q (F0 m pc ls (.int n :: rest)) := by
  refine va_newq hexec hb hown hclink hover hK hP hD hS hA hn hN hbytes hcells hslots hdg (fun q cA H1 hK' hP' hD' hS' => ?_)
  obtain rfl : cA = cO := by
    have a1 := (hK.2 2 _ rfl).2
    have a2 := (hK'.2 3 (cA, .object "JoinedLight$Bench") rfl).2
    obtain ⟨_, _, _, _, _, b1⟩ := a1
    obtain ⟨_, _, _, _, _, b2⟩ := a2
    exact Option.some.inj (b2.symm.trans b1)
  exact kk q H1 (by simpa using hP') (by simpa using hD') hS'
theorem z_new {gs : List va_W} {c0 : Code} (hexec : p.tables.exec = Jvm.exec) (hb : c0.code = cc) {own C : String} {T : u_T} {N ci index : Nat} {Ts : List Cond} (hts : ∀ w ∈ Ts, w.before args s = true) (hin : ∀ w ∈ u_ws C T N, w ∈ Ts) (ty : Nat → FieldType) (hty : ∀ k, k < N → parseFieldDescriptor (T k).2.2.1 = some (ty k)) (hown : s.vm.findClass own = some m.cls) (hcl : (Cond.classLink own index C).before args s = true) (hinst : (Cond.instantiable C N).before args s = true) (hini : (Cond.initialized C).before args s = true)
    (hK : va_K D vwCl tys s) (hP : va_P D vwCl gs.flatten H) (hD : va_D A gs.flatten) (hS : va_S A H0 H locs) (hA : ∀ q, H0.size ≤ q → A q) (hc : vwCl[ci]? = some (C, T, N)) {fs : List Value} (hfs : ∀ j, j < N → defaultValue (ty j) = vp_V fs j) (hcells : cells + 1 ≤ R.cells) (hslots : slots + N ≤ R.slots) (hdg : decode cc pc = .ok (.new index, 3))
    (kk : ∀ (q : Nat) (H1 : Heap), va_P D vwCl (gs ++ ([[(q, .inr (ci, fs))]] : List va_W)).flatten H1 → va_D A (gs ++ ([[(q, .inr (ci, fs))]] : List va_W)).flatten → va_S A H0 H1 locs → W p l e R s m args below meth c0 H1 locs (cells + 1) (slots + N) Q (F0 m (pc + 3) ls (.ref q :: rest))) : W p l e R s m args below meth c0 H locs cells slots Q (F0 m pc ls rest) := by
  refine va_new hexec hb hts hin ty hty hown hcl hinst hini hK hP hD hS hA hc hfs hcells hslots hdg (fun q H1 hP' hD' hS' => ?_)
  exact kk q H1 (by simpa using hP') (by simpa using hD') hS'
theorem z_putF {gs gs' : List va_W} {v : Value} {q : Nat} (hexec : p.tables.exec = Jvm.exec) (hb : c.code = cc) {own ref C : String} {T : u_T} {N ci index : Nat} {Ts : List Cond} (hts : ∀ w ∈ Ts, w.before args s = true) (hin : ∀ w ∈ u_ws C T N, w ∈ Ts) (ty0 : Nat → FieldType) (hty : ∀ k, k < N → parseFieldDescriptor (T k).2.2.1 = some (ty0 k)) (hnm : ∀ a, a < N → ∀ b, b < N → a ≠ b → (T a).2.1 ≠ (T b).2.1) (hown : s.vm.findClass own = some m.cls) (hK : va_K D vwCl tys s) (hP : va_P D vwCl gs.flatten H) (hD : va_D A gs.flatten) (hS0 : va_S A H0 H locs) (q0 : Nat) {fs : List Value} (he : gs.flatten[q0]? = some (q, .inr (ci, fs))) (hc : vwCl[ci]? = some (C, T, N)) (k : Nat) (hk : k < N) (hlink : (Cond.fieldLink own index ref (T k).2.1 (T k).2.2.1).before args s = true) (hsame : ∀ x, s.fieldFound? (T k).1 (T k).2.1 (T k).2.2.1 = some x → s.fieldFound? ref (T k).2.1 (T k).2.2.1 = some x) (hfin : (T k).2.2.2 = true) (hin2 : meth.name = "<init>") (hdecl : (T k).1 = own) {ty : FieldType} (hd : parseFieldDescriptor (T k).2.2.1 = some ty) (hn : narrow ty v = v) (hfit : fits ty v = true) (hl : k < fs.length)
    (hg : gs'.flatten = gs.flatten.set q0 (q, .inr (ci, fs.set k v))) (hdg : decode cc pc = .ok (.putfield index, 3)) (kk : ∀ (H1 : Heap) (locs1 : List Loc), va_P D vwCl gs'.flatten H1 → va_D A gs'.flatten → va_S A H0 H1 locs1 → W p l e R s m args below meth c H1 locs1 cells slots Q (F0 m (pc + 3) ls rest)) : W p l e R s m args below meth c H locs cells slots Q (F0 m pc ls (v :: .ref q :: rest)) := by
  rw [hg] at kk
  exact va_putF hexec hb hts hin ty0 hty hnm hown hK hP hD hS0 q0 he hc k hk hlink hsame hfin hin2 hdecl hd hn hfit hl hdg kk
end ZE
theorem zE_in {α : Type} {l : Launch} {D : va_G} {tys : List (ClassId × FieldType)} {y : MethodName} {ws ws' : List Cond} {rm : Room} {as : List Value} {gs : List va_W} {gs' : α → List va_W} {φ : α → Prop} {r : Option Value} {mc ms : Nat} {cc : ByteArray} {maxL : Nat} {ret : Option FieldType} (hy : plainFor y = true) (hw : ws = Cond.code y cc maxL ret :: ws') (hlen : (lg_sl as).length ≤ maxL)
    (body : ∀ (p : Program) (e : Env) (s : State) (m : MethodId) (below : List Frame) (meth : Method) (c : Code), p.tables.exec = Jvm.exec → c.code = cc → c.maxLocals = maxL → meth.sig.returnType = ret → meth.locks = false → s.vm.findClass y.cls = some m.cls → (∀ w ∈ ws, w.before as.toArray s = true) → va_K D vwCl tys s → zN s → meth.name = y.name → ∀ A : Nat → Prop, (∀ q, s.heap.size ≤ q → A q) → ∀ (H : Heap) (locs : List Loc), va_P D vwCl gs.flatten H → va_D A gs.flatten → va_S A s.heap H locs → ∀ ls : Array Slot, lv_has ls maxL (lv_args 0 as) → W p l e (headSpec ws rm).room s m as.toArray below meth c H locs 0 0 (MQ below (zqE D r gs' φ A) as.toArray s mc ms A) (F0 m 0 ls [])) : cE l D tys y ws rm as gs gs' φ r mc ms := by
  intro sz
  refine zMet_of (cc := cc) (maxL := maxL) (ret := ret) hy hw ?_
  intro p e s m args below meth c s₁ B hml hv
  obtain ⟨rfl, hsz, hP, hK, hD0, hN⟩ := hv
  subst hsz
  have hl := lv_entry as (n := maxL) hlen
  rw [lg_entry_eq]
  exact body p e s m below meth c B.exec B.bytes hml B.returns B.notSynchronized (findClass_of_methodNamed B.named) (atoms_spec (ws := ws) B.pre) hK hN (name_of_methodNamed B.named B.method).1 (va_A gs.flatten s.heap.size) (fun q h => Or.inr h) s.heap [] hP (hD0.self (sz := s.heap.size)) va_S.rf _ hl
-- the rooms
abbrev zS : Type := Option (Nat × (Nat → Nat) × zG)
def zrm (z : Nat → zS) : Nat → Option Nat := fun k => (z k).map (fun e => e.1)
def zcn (z : Nat → zS) : Nat → Option zG := fun k => (z k).map (fun e => e.2.2)
def wZ (cI : ClassId) (o : zS) : va_W := match o with
  | none => []
  | some e => wX0 cI e.1 e.2.1 e.2.2
theorem z_perm {D : va_G} {A : Nat → Prop} {H : Heap} {gs gs2 : List va_W} (h : gs.Perm gs2) (hP : va_P D vwCl gs.flatten H) (hD : va_D A gs.flatten) : va_P D vwCl gs2.flatten H ∧ va_D A gs2.flatten := by
  have h2 := h.flatten
  rw [zP_mem] at hP ⊢
  rw [zD_mem] at hD ⊢
  exact ⟨fun q hq => hP q (h2.mem_iff.mpr hq), (h2.map Prod.fst).nodup_iff.mp hD.1, fun q hq => hD.2 q (h2.mem_iff.mpr hq)⟩
