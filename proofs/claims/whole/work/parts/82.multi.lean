/-! ===== rows of rows are made (multianewarray), out of the operation's own meaning ===== -/
/-- the row of rows, i of its rows made: they lie behind it -/
def mu_o (cA : ClassId) (N h i : Nat) : Cell := arrV cA N (fun j => va_rf (if j < i then some (h + 1 + j) else none))
def mu_i (cB : ClassId) (K : Nat) (v : Value) : Cell := arrV cB K (fun _ => v)
def mu_T (T : State) (cA cB : ClassId) (N K : Nat) (v : Value) : Nat → State
  | 0 => T.pushCell (mu_o cA N T.heap.size 0)
  | i + 1 => ((mu_T T cA cB N K v i).pushCell (mu_i cB K v)).setCell T.heap.size (mu_o cA N T.heap.size (i + 1))
theorem mu_o0 (cA : ClassId) (N h : Nat) : ({ cls := cA, slots := Array.replicate N .null, vm := .none } : Cell) = mu_o cA N h 0 := by
  rw [arrV_new]
  unfold mu_o
  refine congrArg (arrV cA N) (funext fun j => ?_)
  rw [if_neg (Nat.not_lt_zero j)]
  rfl
theorem mu_os (cA : ClassId) (N h i : Nat) : (mu_o cA N h i).setSlot i (.ref (h + 1 + i)) = mu_o cA N h (i + 1) := by
  unfold mu_o
  rw [arrV_store]
  refine congrArg (arrV cA N) (funext fun j => ?_)
  unfold updV
  by_cases e : j = i
  · rw [if_pos e, if_pos (by omega), e]
    rfl
  · rw [if_neg e]
    show va_rf (if j < i then some (h + 1 + j) else none) = va_rf (if j < i + 1 then some (h + 1 + j) else none)
    by_cases g : j < i
    · rw [if_pos g, if_pos (by omega)]
    · rw [if_neg g, if_neg (by omega)]
theorem mu_size (T : State) (cA cB : ClassId) (N K : Nat) (v : Value) : ∀ i, (mu_T T cA cB N K v i).heap.size = T.heap.size + 1 + i := by
  intro i
  induction i with
  | zero => simp [mu_T]
  | succ i ih =>
    show (((mu_T T cA cB N K v i).pushCell (mu_i cB K v)).setCell T.heap.size _).heap.size = _
    simp [State.setCell, ih]
    omega
theorem mu_top (T : State) (cA cB : ClassId) (N K : Nat) (v : Value) : ∀ i, (mu_T T cA cB N K v i).heap[T.heap.size]? = some (mu_o cA N T.heap.size i) := by
  intro i
  cases i with
  | zero => simp [mu_T]
  | succ i =>
    show (((mu_T T cA cB N K v i).pushCell (mu_i cB K v)).setCell T.heap.size _).heap[T.heap.size]? = _
    have hlt : T.heap.size < ((mu_T T cA cB N K v i).pushCell (mu_i cB K v)).heap.size := by
      rw [State.heap_size_pushCell, mu_size]
      omega
    obtain ⟨cl, hcl⟩ : ∃ cl, ((mu_T T cA cB N K v i).pushCell (mu_i cB K v)).heap[T.heap.size]? = some cl := ⟨_, Array.getElem?_eq_getElem hlt⟩
    exact State.heap_setCell_self hcl
theorem mu_old (T : State) (cA cB : ClassId) (N K : Nat) (v : Value) {a : Nat} (ha : a < T.heap.size) : ∀ i, (mu_T T cA cB N K v i).heap[a]? = T.heap[a]? := by
  intro i
  induction i with
  | zero => exact State.heap_pushCell_of_lt _ _ ha
  | succ i ih =>
    show (((mu_T T cA cB N K v i).pushCell (mu_i cB K v)).setCell T.heap.size _).heap[a]? = _
    have hlt : a < (mu_T T cA cB N K v i).heap.size := by rw [mu_size]; omega
    rw [State.heap_setCell_other (Nat.ne_of_gt ha), State.heap_pushCell_of_lt _ _ hlt, ih]
theorem mu_row (T : State) (cA cB : ClassId) (N K : Nat) (v : Value) : ∀ i j, j < i → (mu_T T cA cB N K v i).heap[T.heap.size + 1 + j]? = some (mu_i cB K v) := by
  intro i
  induction i with
  | zero =>
    intro j hj
    omega
  | succ i ih =>
    intro j hj
    show (((mu_T T cA cB N K v i).pushCell (mu_i cB K v)).setCell T.heap.size _).heap[T.heap.size + 1 + j]? = _
    rw [State.heap_setCell_other (show T.heap.size ≠ T.heap.size + 1 + j by omega)]
    by_cases e : j = i
    · rw [e, ← mu_size T cA cB N K v i]
      exact State.heap_pushCell_size _ _
    · have hlt : T.heap.size + 1 + j < (mu_T T cA cB N K v i).heap.size := by rw [mu_size]; omega
      rw [State.heap_pushCell_of_lt _ _ hlt]
      exact ih j (by omega)
theorem mu_vm (T : State) (cA cB : ClassId) (N K : Nat) (v : Value) : ∀ i, (mu_T T cA cB N K v i).vm = T.vm := by
  intro i
  induction i with
  | zero => rfl
  | succ i ih => exact ih
theorem mu_used (T : State) (cA cB : ClassId) (N K : Nat) (v : Value) : ∀ i, (mu_T T cA cB N K v i).slotsUsed = T.slotsUsed + N + i * K := by
  intro i
  induction i with
  | zero =>
    show T.slotsUsed + (mu_o cA N T.heap.size 0).slots.size = _
    unfold mu_o
    rw [arrV_size]
    omega
  | succ i ih =>
    show (mu_T T cA cB N K v i).slotsUsed + (mu_i cB K v).slots.size = _
    unfold mu_i
    rw [arrV_size, ih, Nat.succ_mul]
    omega
theorem mu_fits (T : State) (cA cB : ClassId) (N K : Nat) (v : Value) : ∀ i, (mu_T T cA cB N K v i).fitsSlot = T.fitsSlot := by
  intro i
  induction i with
  | zero => rfl
  | succ i ih => exact ih
theorem mu_setTop (T : State) (f : JFrame) (cA cB : ClassId) (N K : Nat) (v : Value) : ∀ i, mu_T (T.setTop f) cA cB N K v i = (mu_T T cA cB N K v i).setTop f := by
  intro i
  induction i with
  | zero => rfl
  | succ i ih =>
    show ((mu_T (T.setTop f) cA cB N K v i).pushCell (mu_i cB K v)).setCell (T.setTop f).heap.size _ = _
    rw [ih]
    rfl
theorem mu_stand {p : Program} {l : Launch} {e : Env} {R : Room} {s : State} {m : MethodId} {args : Array Value} {below : List Frame} {meth : Method} {c : Code} {T : State} {locs : List Loc} {cells slots : Nat} (X : Stand p l e R s m args below meth c T locs cells slots) (hle : s.heap.size ≤ T.heap.size) (cA cB : ClassId) (N K : Nat) (v : Value) : ∀ i, Stand p l e R s m args below meth c (mu_T T cA cB N K v i) locs (cells + 1 + i) (slots + N + i * K) := by
  intro i
  induction i with
  | zero =>
    have := X.pushed (mu_o cA N T.heap.size 0)
    unfold mu_o at this
    rw [arrV_size] at this
    rw [Nat.add_zero, Nat.zero_mul, Nat.add_zero]
    exact this
  | succ i ih =>
    have h1 := ih.pushed (mu_i cB K v)
    have hcell : ((mu_T T cA cB N K v i).pushCell (mu_i cB K v)).heap[T.heap.size]? = some (mu_o cA N T.heap.size i) := by
      have hlt : T.heap.size < (mu_T T cA cB N K v i).heap.size := by rw [mu_size]; omega
      rw [State.heap_pushCell_of_lt _ _ hlt]
      exact mu_top T cA cB N K v i
    have h2 := h1.stored hcell i (.ref (T.heap.size + 1 + i))
    rw [mu_os] at h2
    have h3 := Stand.forget h2 (fun y hy => by
      rw [List.mem_singleton.mp hy]
      exact hle)
    unfold mu_i at h3
    rw [arrV_size] at h3
    rw [Nat.succ_mul, ← Nat.add_assoc, ← Nat.add_assoc]
    exact h3
section MU
variable {E : CtlPost} {e : Env} {d : Bool} {acts : List Action}
theorem mu_new {s : State} {c : ClassId} {k : Class} {comp : ClassId} {ty : FieldType} {n : Nat} {z : Value} (hk : s.vm.classes[c]? = some k) (hkind : k.kind = .array comp ty) (hl : ¬ n > e.platform.arrayLengthLimit) (hh : ¬ n * componentBytes ty > e.platform.maxHeapBytes) (hc : s.heap.size < e.platform.maxCells) (hs : s.slotsUsed + n ≤ e.platform.maxSlots) (hfit : ∀ i v, (Array.replicate n z)[i]? = some v → s.fitsSlot c .none i v = true) {Q : Addr → Pre} (hq : ∀ acts', Q s.heap.size d acts' (s.pushCell { cls := c, slots := Array.replicate n z, vm := .none })) : wp (Jvm.newArray c n z) Q E e d acts s := by
  simp only [Jvm.newArray, Jvm.arrayFits, wp_bind', W.ask, W.ite, hl, if_false, wp_pure', W.theClass, hk, hkind, Option.some.injEq, exists_eq_left', hh, W.alloc, W.stop]
  rw [if_neg (by omega)]
  exact ⟨hc, by rw [Array.size_replicate]; exact hs, hfit, hq _⟩
theorem mu_make1 {s : State} {c : ClassId} {kc : Class} {comp : ClassId} {ty : FieldType} {k : Int32} {K : Nat} (hn : ¬ k < 0) (hK : k.toNatClampNeg = K) (hk : s.vm.classes[c]? = some kc) (hkind : kc.kind = .array comp ty) (hl : ¬ K > e.platform.arrayLengthLimit) (hh : ¬ K * componentBytes ty > e.platform.maxHeapBytes) (hc : s.heap.size < e.platform.maxCells) (hs : s.slotsUsed + K ≤ e.platform.maxSlots) (hfit : ∀ i v, (Array.replicate K (defaultValue ty))[i]? = some v → s.fitsSlot c .none i v = true) {Q : Addr → Pre} (hq : ∀ acts', Q s.heap.size d acts' (s.pushCell (mu_i c K (defaultValue ty)))) : wp (Op.multianewarray.make c [k]) Q E e d acts s := by
  subst hK
  unfold Op.multianewarray.make
  simp only [wp_bind', W.ite, hn, if_false, wp_pure', W.theClass, hk, hkind, Option.some.injEq, exists_eq_left']
  refine mu_new hk hkind hl hh hc hs hfit (fun acts' => ?_)
  have := hq acts'
  unfold mu_i at this
  rw [← arrV_new] at this
  exact this
theorem mu_make2 {s : State} {cA cB : ClassId} {kA kB : Class} {cc : ClassId} {ty : FieldType} {n k : Int32} {N K : Nat} (hn : ¬ n < 0) (hN : n.toNatClampNeg = N) (hk : ¬ k < 0) (hK : k.toNatClampNeg = K) (h1 : s.vm.classes[cA]? = some kA) (h2 : kA.kind = .array cB (.array ty)) (h3 : s.vm.classes[cB]? = some kB) (h4 : kB.kind = .array cc ty) (hl1 : ¬ N > e.platform.arrayLengthLimit) (hl2 : ¬ K > e.platform.arrayLengthLimit) (hh1 : ¬ N * componentBytes (.array ty) > e.platform.maxHeapBytes) (hh2 : ¬ K * componentBytes ty > e.platform.maxHeapBytes) (hc : s.heap.size + (1 + N) ≤ e.platform.maxCells) (hs : s.slotsUsed + (N + N * K) ≤ e.platform.maxSlots) (hfit : fits ty (defaultValue ty) = true) (h0 : 0 < N) {Q : Addr → Pre} (hq : ∀ d' acts', Q s.heap.size d' acts' (mu_T s cA cB N K (defaultValue ty) N)) : wp (Op.multianewarray.make cA [n, k]) Q E e d acts s := by
  subst hN
  have hn0 : (n == 0) = false := by
    cases e1 : n == 0 with
    | false => rfl
    | true =>
      have := eq_of_beq e1
      rw [this] at h0
      exact absurd h0 (by decide)
  unfold Op.multianewarray.make
  simp only [wp_bind', W.ite, hn, if_false, wp_pure', W.theClass, h1, h2, Option.some.injEq, exists_eq_left', hn0, Bool.false_eq_true]
  refine mu_new h1 h2 hl1 hh1 (by omega) (by omega) (fun i v hv => ?_) (fun acts' => ?_)
  · simp only [Array.getElem?_replicate] at hv
    split at hv
    · cases hv
      simp [State.fitsSlot, State.slotType?, h1, h2, fits]
    · cases hv
  · rw [mu_o0 cA n.toNatClampNeg s.heap.size, wp_bind', Std.Legacy.Range.forIn_eq_forIn_range']
    refine wp_forIn_inv (fun r s' => ∃ i, r = List.range' i (n.toNatClampNeg - i) ∧ i ≤ n.toNatClampNeg ∧ s' = mu_T s cA cB n.toNatClampNeg K (defaultValue ty) i) _ _ ⟨0, ?_, Nat.zero_le _, rfl⟩ ?_ ?_
    · simp [Std.Legacy.Range.size]
    · rintro z r s' d' acts'' Q' ⟨i, e1, e2, rfl⟩ hQ
      have hlt : i < n.toNatClampNeg := by
        rcases Nat.lt_or_ge i n.toNatClampNeg with q | q
        · exact q
        · rw [show n.toNatClampNeg - i = 0 by omega] at e1
          cases e1
      rw [show n.toNatClampNeg - i = (n.toNatClampNeg - (i + 1)) + 1 by omega, List.range'_succ] at e1
      obtain ⟨e1a, e1b⟩ := List.cons.inj e1
      rw [e1a]
      have hu := mu_used s cA cB n.toNatClampNeg K (defaultValue ty) i
      have hz := mu_size s cA cB n.toNatClampNeg K (defaultValue ty) i
      have hv := mu_vm s cA cB n.toNatClampNeg K (defaultValue ty) i
      have hf := mu_fits s cA cB n.toNatClampNeg K (defaultValue ty) i
      have hmul : (i + 1) * K ≤ n.toNatClampNeg * K := Nat.mul_le_mul_right K hlt
      rw [Nat.succ_mul] at hmul
      rw [wp_bind']
      refine mu_make1 hk hK (by rw [hv]; exact h3) h4 hl2 hh2 (by omega) (by omega) (fun j v hv' => ?_) (fun acts3 => ?_)
      · simp only [Array.getElem?_replicate] at hv'
        split at hv'
        · cases hv'
          rw [hf]
          simp [State.fitsSlot, State.slotType?, h3, h4, hfit]
        · cases hv'
      · have hcell : ((mu_T s cA cB n.toNatClampNeg K (defaultValue ty) i).pushCell (mu_i cB K (defaultValue ty))).heap[s.heap.size]? = some (mu_o cA n.toNatClampNeg s.heap.size i) := by
          have hl3 : s.heap.size < (mu_T s cA cB n.toNatClampNeg K (defaultValue ty) i).heap.size := by rw [mu_size]; omega
          rw [State.heap_pushCell_of_lt _ _ hl3]
          exact mu_top s cA cB _ K _ i
        simp only [wp_bind', W.writeLoc, wp_pure']
        refine ⟨_, hcell, by unfold mu_o arrV; simp, by unfold mu_o; rw [arrV_size]; exact hlt, ?_, ?_⟩
        · rw [State.fitsSlot_pushCell, hf]
          simp [State.fitsSlot, State.slotType?, mu_o, arrV, h1, h2, fits]
        · rw [hz, mu_os]
          exact hQ _ _ _ ⟨i + 1, e1b, hlt, rfl⟩
    · rintro s' d' acts'' ⟨i, e1, e2, rfl⟩
      have : i = n.toNatClampNeg := by
        rcases Nat.lt_or_ge i n.toNatClampNeg with q | q
        · rw [show n.toNatClampNeg - i = (n.toNatClampNeg - (i + 1)) + 1 by omega, List.range'_succ] at e1
          cases e1
        · omega
      rw [this, wp_pure']
      exact hq _ _
end MU
