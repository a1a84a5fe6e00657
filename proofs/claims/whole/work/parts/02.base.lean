/-! ===== the ground: how many slots a heap holds; a walk's counts made exact ===== -/
def x_tot (H : Heap) : Nat := (H.toList.map (·.slots.size)).sum
theorem x_tot_eq {H H' : Heap} (hz : H'.size = H.size) (h : ∀ (a : Nat) (c : Cell), H[a]? = some c → ∃ c' : Cell, H'[a]? = some c' ∧ c'.slots.size = c.slots.size) : x_tot H' = x_tot H := by
  have h1 := sizes_take h
  have h2 : (H'.toList.map (·.slots.size)).length ≤ H.size := by simp [hz]
  rw [List.take_of_length_le h2] at h1
  simp [x_tot, h1]
theorem x_tot_push (H : Heap) (c : Cell) : x_tot (H.push c) = x_tot H + c.slots.size := by
  simp [x_tot]
theorem x_tot_grow {H H' : Heap} {c : Cell} (hz : H'.size = H.size + 1) (hc : H'[H.size]? = some c) (h : ∀ q : Nat, q < H.size → H'[q]? = H[q]?) : x_tot H' = x_tot H + c.slots.size := by
  have e : H' = H.push c := by
    apply Array.ext_getElem?
    intro i
    rw [Array.getElem?_push]
    by_cases hi : i = H.size
    · subst hi; rw [if_pos rfl]; exact hc
    · rw [if_neg hi]
      by_cases hlt : i < H.size
      · exact h i hlt
      · rw [Array.getElem?_eq_none (by omega), Array.getElem?_eq_none (by omega)]
  rw [e, x_tot_push]
theorem x_tot_drop {s t : State} {L : List Loc} {k n : Nat} (h : s.sameButNew t L k n) : x_tot s.heap + ((t.heap.toList.drop s.heap.size).map (·.slots.size)).sum = x_tot t.heap := by
  obtain ⟨-, -, -, -, -, h6⟩ := h
  have h1 := sizes_take (h := s.heap) (h' := t.heap) fun a c hc => by
    obtain ⟨c', x1, -, x3, -⟩ := h6 a c hc
    exact ⟨c', x1, x3⟩
  have h2 := List.take_append_drop s.heap.size (t.heap.toList.map (·.slots.size))
  unfold x_tot
  rw [← h2, List.sum_append, h1, List.map_drop]
section XG
variable {p : Program} {l : Launch} {e : Env} {R : Room} {s : State} {m : MethodId} {args : Array Value} {below : List Frame} {meth : Method} {c : Code} {H : Heap} {locs : List Loc} {cells slots : Nat} {Q : State → Prop}
theorem x_exact {T : State} (hT : T.heap = H) (X : Stand p l e R s m args below meth c T locs cells slots) : Stand p l e R s m args below meth c T locs (H.size - s.heap.size) (x_tot H - x_tot s.heap) := by
  have hd := x_tot_drop X.same
  obtain ⟨h1, h2, h3, h4, h5, h6⟩ := X.same
  have e1 : (T.setVm s.vm).heap = H := hT
  rw [e1] at h2 hd
  refine { X with same := ⟨h1, by rw [e1]; exact h2, ?_, h4, ?_, h6⟩ }
  · rw [e1]; omega
  · rw [e1]; omega
theorem x_canon {g : JFrame} (k : W p l e R s m args below meth c H locs (H.size - s.heap.size) (x_tot H - x_tot s.heap) Q g) : W p l e R s m args below meth c H locs cells slots Q g :=
  fun T hT X => k T hT (x_exact hT X)
theorem x_canonX {g : JFrame} {q : Addr} (k : vx_W p l e R s m args below meth c H locs (H.size - s.heap.size) (x_tot H - x_tot s.heap) Q g q) : vx_W p l e R s m args below meth c H locs cells slots Q g q :=
  fun T hT X => k T hT (x_exact hT X)
/-- a state where the method stands: its heap's slots are the book's -/
theorem x_grown {T : State} (hT : T.heap = H) (X : Stand p l e R s m args below meth c T locs cells slots) : s.heap.size ≤ H.size ∧ x_tot s.heap ≤ x_tot H := by
  have hd := x_tot_drop X.same
  obtain ⟨h1, h2, -⟩ := X.same
  have e1 : (T.setVm s.vm).heap = H := hT
  rw [e1] at h2 hd
  exact ⟨h2, by omega⟩
theorem x_grow {g : JFrame} (k : s.heap.size ≤ H.size → x_tot s.heap ≤ x_tot H → W p l e R s m args below meth c H locs cells slots Q g) : W p l e R s m args below meth c H locs cells slots Q g :=
  fun T hT X => k (x_grown hT X).1 (x_grown hT X).2 T hT X
end XG
