/-! ===== the relation between the class's contents and the reference's ===== -/
def repS (s : Nat → Int32) (ls : List zL) (th : List zTh) (w : Int32) : Prop :=
  s 0 = nI ls.length ∧ s 1 = nI th.length ∧ s 2 = w ∧ (∀ (i : Nat) (t : zL), ls[i]? = some t → s (3 + 2 * i) = t.1 ∧ s (3 + 2 * i + 1) = t.2) ∧
  (∀ (i : Nat) (t : zTh), th[i]? = some t → s (19 + 5 * i) = t.1 ∧ s (19 + 5 * i + 1) = t.2.1 ∧ s (19 + 5 * i + 2) = t.2.2.1 ∧ s (19 + 5 * i + 3) = t.2.2.2.1 ∧ s (19 + 5 * i + 4) = t.2.2.2.2)
abbrev zB : Type := List zL × List zTh × Int32
def zRel (gB gX gY : zG) (h : Nat → Option zG) (gN : zG) : Prop :=
  ∃ (b : zB) (hist : List zB) (tx : List Int32), okV b.1 b.2.1 b.2.2 ∧ (∀ q ∈ hist, okV q.1 q.2.1 q.2.2) ∧ repB gB b.1 b.2.1 b.2.2 ∧ repS (gN 0) b.1 b.2.1 b.2.2 ∧ hist.length ≤ 4 ∧ gY 1 0 = nI hist.length ∧ gN 4 0 = nI hist.length ∧
  (∀ (i : Nat) (q : zB), hist[i]? = some q → (∃ g, h i = some g ∧ repB g q.1 q.2.1 q.2.2) ∧ repS (fun j => gN 1 (59 * i + j)) q.1 q.2.1 q.2.2) ∧ gN 5 0 = 0 ∧
  tx.length ≤ 60 ∧ gX 1 0 = nI tx.length ∧ gN 7 0 = nI tx.length ∧ (∀ (i : Nat) (x : Int32), tx[i]? = some x → gX 0 i = x ∧ gN 6 i = x ∧ 32 ≤ x ∧ x ≤ 126)
theorem pm_init : zRel iX0 iX5 iX3 (zcn (fun _ => none)) iX7 := by
  refine ⟨([], [], 20), [], [], ?_, ?_, ?_, ?_, ?_, ?_, ?_, ?_, ?_, ?_, ?_, ?_, ?_⟩
  · exact ⟨by decide, by decide, by decide, by decide, fun _ h => absurd h List.not_mem_nil, fun _ h => absurd h List.not_mem_nil, List.Pairwise.nil⟩
  · exact fun _ h => absurd h List.not_mem_nil
  · exact ⟨rfl, rfl, rfl, fun i t h => by simp at h, fun i t h => by simp at h⟩
  · exact ⟨rfl, rfl, rfl, fun i t h => by simp at h, fun i t h => by simp at h⟩
  · decide
  · rfl
  · rfl
  · exact fun i t h => by simp at h
  · rfl
  · decide
  · rfl
  · rfl
  · exact fun i t h => by simp at h
