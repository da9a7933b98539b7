-- int[N][K] by multianewarray: the rows' own row (the kit has none)
def mrow (h i : Nat) : Nat → Value := fun j => if j < i then .ref (h + 1 + j) else .null
theorem mrow_up (cA : ClassId) (N h i : Nat) : (arrV cA N (mrow h i)).setSlot i (.ref (h + 1 + i)) = arrV cA N (mrow h (i + 1)) := by
  rw [arrV_store]
  congr 1
  funext j
  unfold updV mrow
  by_cases e : j = i
  · subst e
    rw [if_pos rfl, if_pos (Nat.lt_succ_self _)]
  · rw [if_neg e]
    by_cases q : j < i
    · rw [if_pos q, if_pos (by omega)]
    · rw [if_neg q, if_neg (by omega)]
def mrec (cA cI : ClassId) (N K : Nat) (T : State) : Nat → State
  | 0 => T.pushCell (arrV cA N (mrow T.heap.size 0))
  | i + 1 => ((mrec cA cI N K T i).pushCell (arrV cI K (fun _ => .int 0))).setCell T.heap.size (arrV cA N (mrow T.heap.size (i + 1)))
def mloc (h : Nat) : Nat → List Loc
  | 0 => []
  | i + 1 => mloc h i ++ [⟨h, i⟩]
theorem mloc_b {h i : Nat} {q : Loc} (hq : q ∈ mloc h i) : q.base = h := by
  induction i with
  | zero => cases hq
  | succ i ih =>
    rcases List.mem_append.mp hq with z | z
    · exact ih z
    · rw [List.mem_singleton.mp z]
theorem mrec_s (cA cI : ClassId) (N K : Nat) (T : State) (i : Nat) : (mrec cA cI N K T i).heap.size = T.heap.size + 1 + i ∧ (mrec cA cI N K T i).heap[T.heap.size]? = some (arrV cA N (mrow T.heap.size i)) ∧ (mrec cA cI N K T i).vm = T.vm ∧ (mrec cA cI N K T i).slotsUsed = T.slotsUsed + N + i * K ∧ (∀ q, q < T.heap.size → (mrec cA cI N K T i).heap[q]? = T.heap[q]?) ∧ ∀ j, j < i → (mrec cA cI N K T i).heap[T.heap.size + 1 + j]? = some (arrV cI K (fun _ => .int 0)) := by
  induction i with
  | zero =>
    refine ⟨?_, ?_, rfl, ?_, fun q hq => ?_, fun j hj => absurd hj (Nat.not_lt_zero j)⟩
    · show (T.heap.push _).size = _
      rw [Array.size_push]
    · show (T.heap.push _)[T.heap.size]? = _
      rw [Array.getElem?_push_size]
    · show T.slotsUsed + (arrV cA N _).slots.size = _
      rw [arrV_size]
      omega
    · show (T.heap.push _)[q]? = _
      rw [Array.getElem?_push, if_neg (Nat.ne_of_lt hq)]
  | succ i ih =>
    obtain ⟨h1, h2, h3, h4, h5, h6⟩ := ih
    generalize hU : mrec cA cI N K T i = U at h1 h2 h3 h4 h5 h6
    have e : mrec cA cI N K T (i + 1) = (U.pushCell (arrV cI K (fun _ => .int 0))).setCell T.heap.size (arrV cA N (mrow T.heap.size (i + 1))) := by rw [← hU]; rfl
    rw [e]
    have hz : ((U.pushCell (arrV cI K (fun _ => .int 0))).setCell T.heap.size (arrV cA N (mrow T.heap.size (i + 1)))).heap = (U.heap.push (arrV cI K (fun _ => .int 0))).setIfInBounds T.heap.size (arrV cA N (mrow T.heap.size (i + 1))) := rfl
    rw [hz]
    refine ⟨?_, ?_, h3, ?_, fun q hq => ?_, fun j hj => ?_⟩
    · rw [Array.size_setIfInBounds, Array.size_push, h1]
      omega
    · rw [Array.getElem?_setIfInBounds_self_of_lt (by rw [Array.size_push, h1]; omega)]
    · show U.slotsUsed + (arrV cI K _).slots.size = _
      rw [arrV_size, h4, Nat.succ_mul]
      omega
    · rw [Array.getElem?_setIfInBounds_ne (by omega), Array.getElem?_push, if_neg (by omega)]
      exact h5 q hq
    · rw [Array.getElem?_setIfInBounds_ne (by omega), Array.getElem?_push]
      by_cases q : T.heap.size + 1 + j = U.heap.size
      · rw [if_pos q]
      · rw [if_neg q]
        exact h6 j (by omega)
theorem mrec_top (cA cI : ClassId) (N K : Nat) (T : State) (f : JFrame) (i : Nat) : mrec cA cI N K (T.setTop f) i = (mrec cA cI N K T i).setTop f := by
  induction i with
  | zero => rfl
  | succ i ih =>
    show ((mrec cA cI N K (T.setTop f) i).pushCell _).setCell _ _ = _
    rw [ih]
    rfl
section MB
variable {p : Program} {l : Launch} {e : Env} {R : Room} {s : State} {m : MethodId} {args : Array Value} {below : List Frame} {meth : Method} {c : Code} {T : State} {locs : List Loc} {cells slots : Nat}
theorem mrec_X (X : Stand p l e R s m args below meth c T locs cells slots) (cA cI : ClassId) (N K i : Nat) : Stand p l e R s m args below meth c (mrec cA cI N K T i) (locs ++ mloc T.heap.size i) (cells + 1 + i) (slots + N + i * K) := by
  induction i with
  | zero =>
    have h := X.pushed (arrV cA N (mrow T.heap.size 0))
    rw [arrV_size] at h
    rw [show locs ++ mloc T.heap.size 0 = locs from List.append_nil locs, Nat.zero_mul]
    exact h
  | succ i ih =>
    obtain ⟨h1, h2, -⟩ := mrec_s cA cI N K T i
    have h := (ih.pushed (arrV cI K (fun _ => .int 0))).stored (a := T.heap.size) (cell := arrV cA N (mrow T.heap.size i)) (by
      show ((mrec cA cI N K T i).heap.push _)[T.heap.size]? = _
      rw [Array.getElem?_push, if_neg (by omega)]
      exact h2) i (.ref (T.heap.size + 1 + i))
    rw [arrV_size, mrow_up] at h
    rw [Nat.succ_mul, show slots + N + (i * K + K) = slots + N + i * K + K by omega, show locs ++ mloc T.heap.size (i + 1) = locs ++ mloc T.heap.size i ++ [⟨T.heap.size, i⟩] from (List.append_assoc _ _ _).symm]
    exact h
end MB
section MC
variable {E : CtlPost} {e : Env} {d : Bool} {acts : List Action} {s : State}
theorem mk_in {cI cX : ClassId} {kI : Class} {k : Int32} {K : Nat} (hkI : s.vm.classes[cI]? = some kI) (hI : kI.kind = .array cX .int) (hk : ¬ k < 0) (hK : k.toNatClampNeg = K) (h1 : ¬ K > e.platform.arrayLengthLimit) (h2 : ¬ K * 4 > e.platform.maxHeapBytes) (h3 : s.heap.size < e.platform.maxCells) (h4 : s.slotsUsed + K ≤ e.platform.maxSlots) {Q : Addr → Pre} (hq : ∀ acts', Q s.heap.size d acts' (s.pushCell (arrV cI K (fun _ => .int 0)))) : wp (multianewarray.make cI [k]) Q E e d acts s := by
  subst hK
  rw [multianewarray.make]
  simp only [wp_bind', W.ite, hk, if_false, wp_pure', W.theClass, hkI, hI, Option.some.injEq, exists_eq_left']
  refine W.newArray_of hkI hI h1 h2 h3 h4 rfl (fun acts' => ?_)
  have h := hq acts'
  rw [← arrV_new] at h
  exact h
end MC
