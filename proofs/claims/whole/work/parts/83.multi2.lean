/-! ===== the rule for rows of rows ===== -/
/-- the class of rows of rows is over the class of rows -/
def mu_AO (ty : FieldType) (s : State) : Prop := ∃ cB cA kA, s.vm.findClass (FieldType.array ty).toString = some cB ∧ s.vm.classes[cA]? = some kA ∧ kA.kind = .array cB (.array ty) ∧ s.vm.findClass ("[" ++ (FieldType.array ty).toString) = some cA
theorem mu_AO.moved {ty : FieldType} {u U : State} (hvm : u.vm.Alike U.vm) (h : mu_AO ty u) : mu_AO ty U := by
  obtain ⟨cB, cA, kA, h1, h2, h3, h4⟩ := h
  obtain ⟨k', hk', he⟩ := hvm.2.2 _ _ h2
  exact ⟨cB, cA, k', by rw [hvm.findClass]; exact h1, hk', by rw [he]; exact h3, by rw [hvm.findClass]; exact h4⟩
theorem mu_over {args : Array Value} {first s : State} {o : Option Outcome} {idx : List Nat} {ty : FieldType} (h : (Cond.arrayOver (.array ty)).holds args first o s idx = true) : mu_AO ty s := by
  simp only [Cond.holds, Cond.value, beq_iff_eq] at h
  cases hcB : s.vm.findClass (FieldType.array ty).toString with
  | none => simp [hcB] at h
  | some cB =>
    simp only [hcB, Option.bind_some, Option.bind_eq_some_iff, Option.map_eq_some_iff] at h
    obtain ⟨cA, hi, kA, hkA, hz⟩ := h
    obtain ⟨hlt, hp, -⟩ := Array.findIdx?_eq_some_iff_getElem.mp hi
    have hkk : s.vm.classes[cA] = kA := (Array.getElem?_eq_some_iff.mp hkA).2
    rw [hkk] at hp
    cases hkind : kA.kind with
    | array component ty' =>
      rw [hkind] at hz hp
      simp at hz hp
      exact ⟨cB, cA, kA, hcB, hkA, by rw [hkind, hp, hz.1], hz.2⟩
    | _ => rw [hkind] at hz; simp at hz
theorem mu_W {p : Program} {l : Launch} {e : Env} {R : Room} {s : State} {m : MethodId} {args : Array Value} {below : List Frame} {meth : Method} {c : Code} {H : Heap} {locs : List Loc} {cells slots : Nat} {Q : State → Prop} {cc : ByteArray} {pc : Nat} {ls : Array Slot} {rest : List Value} (hexec : p.tables.exec = Jvm.exec) (hb : c.code = cc) {own : String} {index : Nat} {ty : FieldType} (hown : s.vm.findClass own = some m.cls) (hclink : (Cond.classLink own index ("[" ++ (FieldType.array ty).toString)).before args s = true) (hover : mu_AO ty s) (harr : (Cond.arrayClass ty).before args s = true) (hstr : "[" ++ ty.toString = (FieldType.array ty).toString) (hbt : componentBytes ty ≤ 4) (hfit : fits ty (defaultValue ty) = true) {n k : Int32} {N K : Nat} (hn : ¬ n < 0) (hN : n.toNatClampNeg = N) (hk : ¬ k < 0) (hK : k.toNatClampNeg = K) (h0 : 0 < N) (hN1 : N ≤ 100) (hK1 : K ≤ 100) (hle : s.heap.size ≤ H.size) (hcells : cells + (1 + N) ≤ R.cells) (hslots : slots + (N + N * K) ≤ R.slots) (hdg : decode cc pc = .ok (.multianewarray index 2, 4)) (kk : ∀ (cA cB : ClassId) (H1 : Heap), s.vm.findClass ("[" ++ (FieldType.array ty).toString) = some cA → s.vm.findClass ("[" ++ ty.toString) = some cB → H1[H.size]? = some (mu_o cA N H.size N) → (∀ j, j < N → H1[H.size + 1 + j]? = some (mu_i cB K (defaultValue ty))) → H1.size = H.size + 1 + N → (∀ q, q < H.size → H1[q]? = H[q]?) → W p l e R s m args below meth c H1 locs (cells + 1 + N) (slots + N + N * K) Q (F0 m (pc + 4) ls (.ref H.size :: rest))) : W p l e R s m args below meth c H locs cells slots Q (F0 m pc ls (.int k :: .int n :: rest)) := by
  intro T hT X
  subst hT
  subst hb
  have hpl : e.platform.magicAccessors = ({} : Platform).magicAccessors := by rw [X.admits.platform]
  obtain ⟨cB, cA, kA, g1, g2, g3, g4⟩ := hover
  obtain ⟨cB', kB, cz, g5, g6, g7⟩ := Cond.arrayClass_spec harr
  have eB : cB' = cB := by
    rw [hstr] at g5
    exact Option.some.inj (g5.symm.trans g1)
  subst eB
  obtain ⟨cA', hf', hcl⟩ := Cond.classLink_spec hown hclink e.platform hpl
  have eA : cA' = cA := Option.some.inj (hf'.symm.trans g4)
  subst eA
  obtain ⟨hg₁, hwarm₁, hready₁⟩ := State.classEntry (e := e) X.warmed hcl
  generalize T.vm.noted m.cls index (.cls cA') = vm₁ at hg₁ hwarm₁ hready₁
  have hal : s.vm.Alike vm₁ := hwarm₁.alike
  obtain ⟨kA₁, hkA₁, heA⟩ := hal.2.2 _ _ g2
  obtain ⟨kB₁, hkB₁, heB⟩ := hal.2.2 _ _ g6
  have hkindA : kA₁.kind = .array cB' (.array ty) := by rw [heA]; exact g3
  have hkindB : kB₁.kind = .array cz ty := by rw [heB]; exact g7
  have hlim := Launch.admits_arrayLengthLimit X.admits
  have hmax := Launch.admits_maxHeapBytes X.admits
  obtain ⟨hr1, hr2⟩ := X.roomAbove hcells hslots
  have X1 := mu_stand (X.noted hwarm₁) (show s.heap.size ≤ (T.setVm vm₁).heap.size from hle) cA' cB' N K (defaultValue ty) N
  obtain ⟨t, a1, b1⟩ := kk cA' cB' (mu_T (T.setVm vm₁) cA' cB' N K (defaultValue ty) N).heap g4 g5 (mu_top _ _ _ _ _ _ N) (fun j hj => mu_row _ _ _ _ _ _ N j hj) (mu_size _ _ _ _ _ _ N) (fun q hq => mu_old (T.setVm vm₁) _ _ _ _ _ hq N) _ rfl X1
  refine ⟨t, ?_, b1⟩
  refine Steps.instr (c := _) (by simpa using X.here) ?_
  simp [jvm, wpRun, exec, X.here.top, hexec, hdg]
  have htop : (T.setVm vm₁).topJava?.isSome := X.here.top
  simp only [Op.multianewarray.sem, wp_bind']
  refine (W.resolveClassAt_transfer (s := T.setTop (F0 m pc ls (.int k :: .int n :: rest))) (State.method?_setTop _ X.here.top) hg₁ hready₁).mpr ?_
  refine (W.resolveClassAt_ready (s := (T.setVm vm₁).setTop (F0 m pc ls (.int k :: .int n :: rest))) (State.method?_setTop _ htop) hready₁).mpr ?_
  simp only [Jvm.popN, wp_bind', W.pop, State.topJava?_setTop' _ htop, Option.some.injEq, exists_eq_left', wp_pure', State.setTop_setTop]
  refine ⟨_, _, rfl, _, _, rfl, ?_⟩
  simp only [List.nil_append, List.cons_append, List.mapM_cons, List.mapM_nil, wp_bind', wp_pure', State.setTop_setTop]
  refine mu_make2 (s := (T.setVm vm₁).setTop { method := m, pc := pc, locals := ls, stack := rest, locked := none }) hn hN hk hK hkA₁ hkindA hkB₁ hkindB (by rw [hlim]; omega) (by rw [hlim]; omega) (by rw [hmax]; show ¬ N * 4 > 536870912; omega) ?_ (by show T.heap.size + (1 + N) ≤ _; exact hr1) (by show T.slotsUsed + (N + N * K) ≤ _; exact hr2) hfit h0 (fun d' acts' => ?_)
  · rw [hmax]
    have := Nat.mul_le_mul hK1 hbt
    omega
  · rw [mu_setTop]
    have htop2 : (mu_T (T.setVm vm₁) cA' cB' N K (defaultValue ty) N).topJava?.isSome := X1.here.top
    simp only [wp_bind', W.mark, W.pushRef, State.topJava?_setTop' _ htop2, Option.some.injEq, exists_eq_left', State.setTop_setTop]
    intro acts2
    simp [jvm, htop2]
    exact a1
