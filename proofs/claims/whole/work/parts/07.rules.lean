/-! ===== rules: blocks, guards, branches, calls, ends, entry ===== -/
def rf_sz (i : Instr) (st : List Value) : Bool := match i with
  | .invokestatic _ => decide ((st.map fun v => v.category).sum ≤ 20)
  | _ => true
def rf_isC (e : rf_E) : Bool := match e.2.1 with
  | .invokestatic _ => decide (e.2.2.2 < 1000)
  | .tableswitch .. => true
  | .lookupswitch .. => true
  | _ => false
def rf_rc (M : rf_M) (rc : List rf_E) : Bool := rc.all (fun e => rf_dec M.2.2.1 e && (rf_okc M.1 M.2.2.2.1 e || rf_isC e))
def rf_run (ly : List rf_C) : List rf_E → rf_F → Option rf_F
  | [], f => some f
  | e :: es, f => if e.1 = f.1 ∧ rf_sz e.2.1 f.2.2.1 = true then (rf_st ly e.2.1 e.2.2.2 (e.1 + e.2.2.1) f.2.1 f.2.2.1 f.2.2.2).bind (rf_run ly es) else none
theorem rf_rc_dec {M : rf_M} {rc : List rf_E} (h : rf_rc M rc = true) {e : rf_E} (he : e ∈ rc) : decode M.2.2.1 e.1 = .ok (e.2.1, e.2.2.1) := rf_dec_ok (Bool.and_eq_true _ _ ▸ List.all_eq_true.mp h e he : _ ∧ _).1
theorem rf_rc_ok {M : rf_M} {rc : List rf_E} (h : rf_rc M rc = true) {e : rf_E} (he : e ∈ rc) {ly : List rf_C} {np : Nat} {ls : List (Option Value)} {st : List Value} {σ : rf_S} {f' : rf_F} (hs : rf_st ly e.2.1 e.2.2.2 np ls st σ = some f') : rf_okc M.1 M.2.2.2.1 e = true := by
  have h1 := (Bool.and_eq_true _ _ ▸ List.all_eq_true.mp h e he : _ ∧ _).2
  rcases (Bool.or_eq_true _ _ ▸ h1 : _ ∨ _) with h2 | h2
  · exact h2
  · obtain ⟨pc, i, len, x⟩ := e
    cases i with
    | invokestatic n =>
      have h3 : x < 1000 := of_decide_eq_true h2
      simp only [rf_st] at hs
      rw [if_neg (by omega), if_neg (by omega), if_neg (by omega), if_neg (by omega)] at hs
      cases hs
    | tableswitch a b c f => simp [rf_st] at hs
    | lookupswitch a b => simp [rf_st] at hs
    | _ => cases h2
theorem rf_one {ly : List rf_C} {d : Nat} {M : rf_M} (hw : rf_wf ly) {rc : List rf_E} (hrc : rf_rc M rc = true) {e : rf_E} (he : e ∈ rc) {ls : List (Option Value)} {st : List Value} {σ : rf_S} {f' : rf_F} {r : Option Value} {σ' : rf_S} (hz : rf_sz e.2.1 st = true) (hs : rf_st ly e.2.1 e.2.2.2 (e.1 + e.2.2.1) ls st σ = some f') (k : rf_G ly d M f' r σ') : rf_G ly d M (e.1, ls, st, σ) r σ' := by
  have hok := rf_rc_ok hrc he hs
  have hd := rf_rc_dec hrc he
  obtain ⟨pc, i, len, x⟩ := e
  refine rf_step hw hd hok ?_ hs k
  cases i with
  | invokestatic n => exact Or.inl (of_decide_eq_true hz)
  | _ => exact Or.inr (fun k => by intro q; cases q)
theorem rf_bl {ly : List rf_C} {d : Nat} {M : rf_M} (hw : rf_wf ly) {rc : List rf_E} (hrc : rf_rc M rc = true) {r : Option Value} {σ' : rf_S} : ∀ (es : List rf_E) (f f' : rf_F), (∀ e ∈ es, e ∈ rc) → rf_run ly es f = some f' → rf_G ly d M f' r σ' → rf_G ly d M f r σ'
  | [], f, f', _, h, k => by
    cases h
    exact k
  | e :: es, f, f', hm, h, k => by
    simp only [rf_run] at h
    split at h
    · rename_i hc
      obtain ⟨f1, h1, h2⟩ := Option.bind_eq_some_iff.mp h
      obtain ⟨pc, ls, st, σ⟩ := f
      have h3 : e.1 = pc := hc.1
      subst h3
      exact rf_one hw hrc (hm e List.mem_cons_self) hc.2 h1 (rf_bl hw hrc es f1 f' (fun e he => hm e (List.mem_cons_of_mem _ he)) h2 k)
    · cases h
/-- a stretch of instructions: the rows n .. n + cnt of the method -/
theorem rf_b {ly : List rf_C} {d : Nat} {M : rf_M} (hw : rf_wf ly) {rc : List rf_E} (hrc : rf_rc M rc = true) (n cnt : Nat) {f : rf_F} (f' : rf_F) {r : Option Value} {σ' : rf_S} (h : rf_run ly ((rc.drop n).take cnt) f = some f') (k : rf_G ly d M f' r σ') : rf_G ly d M f r σ' := rf_bl hw hrc _ f f' (fun e he => List.mem_of_mem_drop (List.mem_of_mem_take he)) h k
/-- an instruction that is guarded -/
theorem rf_gd {ly : List rf_C} {d : Nat} {M : rf_M} (hw : rf_wf ly) {rc : List rf_E} (hrc : rf_rc M rc = true) (n : Nat) {pc : Nat} {i : Instr} {len x : Nat} {ls : List (Option Value)} {st : List Value} {σ : rf_S} (f' : rf_F) {r : Option Value} {σ' : rf_S} (he : rc[n]? = some (pc, i, len, x)) (hz : rf_sz i st = true) {b : Bool} (hb : b = true) (hs : rf_st ly i x (pc + len) ls st σ = if b = true then some f' else none) (k : rf_G ly d M f' r σ') : rf_G ly d M (pc, ls, st, σ) r σ' := by
  rw [if_pos hb] at hs
  exact rf_one hw hrc (List.mem_of_getElem? he) hz hs k
theorem rf_nz {ly : List rf_C} {d : Nat} {M : rf_M} (hw : rf_wf ly) {rc : List rf_E} (hrc : rf_rc M rc = true) (n : Nat) {pc : Nat} {i : Instr} {len x : Nat} {ls : List (Option Value)} {st : List Value} {σ : rf_S} (f' : rf_F) {r : Option Value} {σ' : rf_S} (he : rc[n]? = some (pc, i, len, x)) (hz : rf_sz i st = true) {c : Prop} [Decidable c] (hc : ¬ c) (hs : rf_st ly i x (pc + len) ls st σ = if c then none else some f') (k : rf_G ly d M f' r σ') : rf_G ly d M (pc, ls, st, σ) r σ' := by
  rw [if_neg hc] at hs
  exact rf_one hw hrc (List.mem_of_getElem? he) hz hs k
/-- a branch that is taken, and one that is not -/
theorem rf_t {ly : List rf_C} {d : Nat} {M : rf_M} (hw : rf_wf ly) {rc : List rf_E} (hrc : rf_rc M rc = true) (n : Nat) {pc : Nat} {i : Instr} {len x : Nat} {ls : List (Option Value)} {st : List Value} {σ : rf_S} (f1 : rf_F) {f2 : rf_F} {r : Option Value} {σ' : rf_S} (he : rc[n]? = some (pc, i, len, x)) (hz : rf_sz i st = true) {c : Prop} [Decidable c] (hc : c) (hs : rf_st ly i x (pc + len) ls st σ = if c then some f1 else some f2) (k : rf_G ly d M f1 r σ') : rf_G ly d M (pc, ls, st, σ) r σ' := by
  rw [if_pos hc] at hs
  exact rf_one hw hrc (List.mem_of_getElem? he) hz hs k
theorem rf_f {ly : List rf_C} {d : Nat} {M : rf_M} (hw : rf_wf ly) {rc : List rf_E} (hrc : rf_rc M rc = true) (n : Nat) {pc : Nat} {i : Instr} {len x : Nat} {ls : List (Option Value)} {st : List Value} {σ : rf_S} {f1 : rf_F} (f2 : rf_F) {r : Option Value} {σ' : rf_S} (he : rc[n]? = some (pc, i, len, x)) (hz : rf_sz i st = true) {c : Prop} [Decidable c] (hc : ¬ c) (hs : rf_st ly i x (pc + len) ls st σ = if c then some f1 else some f2) (k : rf_G ly d M f2 r σ') : rf_G ly d M (pc, ls, st, σ) r σ' := by
  rw [if_neg hc] at hs
  exact rf_one hw hrc (List.mem_of_getElem? he) hz hs k
/-- some locals are forgotten -/
theorem rf_fg {ly : List rf_C} {d : Nat} {M : rf_M} (bs : List Bool) {pc : Nat} {ls : List (Option Value)} {st : List Value} {σ : rf_S} (ls' : List (Option Value)) {r : Option Value} {σ' : rf_S} (h : rf_mk bs ls = ls') (k : rf_G ly d M (pc, ls', st, σ) r σ') : rf_G ly d M (pc, ls, st, σ) r σ' := by
  subst h
  intro p l e s m args below meth c D ca ad tk A hH H locs lC hP hS hl
  exact k p l e s m args below meth c D ca ad tk A hH H locs lC hP hS (hl.mk bs)
/-! switches -/
theorem rf_sw {ly : List rf_C} {d : Nat} {M : rf_M} {rc : List rf_E} (hrc : rf_rc M rc = true) (n : Nat) {pc : Nat} {dflt lo hi : Int} {offs : Array Int} {len x : Nat} {ls : List (Option Value)} {st : List Value} {σ : rf_S} {a k0 : Int32} (tgt : Nat) {off : Int} {r : Option Value} {σ' : rf_S} (he : rc[n]? = some (pc, .tableswitch dflt lo hi offs, len, x)) (ha : a = k0) (h1 : ¬ k0.toInt < lo) (h2 : ¬ hi < k0.toInt) (ho : offs[(k0.toInt - lo).toNat]? = some off) (ht : (pc : Int) + off = (tgt : Int)) (k : rf_G ly d M (tgt, ls, st, σ) r σ') : rf_G ly d M (pc, ls, .int a :: st, σ) r σ' := by
  have hd : decode M.2.2.1 pc = .ok (.tableswitch dflt lo hi offs, len) := rf_rc_dec (e := (pc, .tableswitch dflt lo hi offs, len, x)) hrc (List.mem_of_getElem? he)
  subst ha
  intro p l e s m args below meth c D ca ad tk A hH H locs lC hP hS hl
  exact lv_tableIn hH.1 hH.2.1 hd h1 h2 ho ht (k p l e s m args below meth c D ca ad tk A hH H locs lC hP hS hl)
theorem rf_sd {ly : List rf_C} {d : Nat} {M : rf_M} {rc : List rf_E} (hrc : rf_rc M rc = true) (n : Nat) {pc : Nat} {dflt lo hi : Int} {offs : Array Int} {len x : Nat} {ls : List (Option Value)} {st : List Value} {σ : rf_S} {a : Int32} (ks : List Int32) (tgt : Nat) {r : Option Value} {σ' : rf_S} (he : rc[n]? = some (pc, .tableswitch dflt lo hi offs, len, x)) (ha : ∀ k ∈ ks, ¬ a = k) (hk : (List.range (hi - lo + 1).toNat).all (fun j => ks.any (fun k => decide (k.toInt = lo + (j : Int)))) = true) (ht : (pc : Int) + dflt = (tgt : Int)) (k : rf_G ly d M (tgt, ls, st, σ) r σ') : rf_G ly d M (pc, ls, .int a :: st, σ) r σ' := by
  have hd : decode M.2.2.1 pc = .ok (.tableswitch dflt lo hi offs, len) := rf_rc_dec (e := (pc, .tableswitch dflt lo hi offs, len, x)) hrc (List.mem_of_getElem? he)
  intro p l e s m args below meth c D ca ad tk A hH H locs lC hP hS hl
  refine lv_tableOut hH.1 hH.2.1 hd ?_ ht (k p l e s m args below meth c D ca ad tk A hH H locs lC hP hS hl)
  by_cases h1 : a.toInt < lo
  · exact Or.inl h1
  · by_cases h2 : hi < a.toInt
    · exact Or.inr h2
    · exfalso
      have h3 := List.all_eq_true.mp hk (a.toInt - lo).toNat (List.mem_range.mpr (by omega))
      obtain ⟨q, hq, hq2⟩ := List.any_eq_true.mp h3
      have hq3 : q.toInt = lo + ((a.toInt - lo).toNat : Int) := of_decide_eq_true hq2
      have hq4 : q.toInt = a.toInt := by omega
      exact ha q hq (Int32.toInt_inj.mp hq4.symm)
theorem rf_lk {ly : List rf_C} {d : Nat} {M : rf_M} {rc : List rf_E} (hrc : rf_rc M rc = true) (n : Nat) {pc : Nat} {dflt : Int} {ps : Array (Int × Int)} {len x : Nat} {ls : List (Option Value)} {st : List Value} {σ : rf_S} {a : Int32} (tgt : Nat) {off : Int} {r : Option Value} {σ' : rf_S} (he : rc[n]? = some (pc, .lookupswitch dflt ps, len, x)) (hp : (ps.toList.zip (ps.toList.drop 1)).all (fun (a, next) => a.1 < next.1) = true) (ho : Op.lookupswitch.offset ps.toList dflt a.toInt = off) (ht : (pc : Int) + off = (tgt : Int)) (k : rf_G ly d M (tgt, ls, st, σ) r σ') : rf_G ly d M (pc, ls, .int a :: st, σ) r σ' := by
  have hd : decode M.2.2.1 pc = .ok (.lookupswitch dflt ps, len) := rf_rc_dec (e := (pc, .lookupswitch dflt ps, len, x)) hrc (List.mem_of_getElem? he)
  intro p l e s m args below meth c D ca ad tk A hH H locs lC hP hS hl
  exact lv_lookup hH.1 hH.2.1 hd hp ho ht (k p l e s m args below meth c D ca ad tk A hH H locs lC hP hS hl)
/-! ends -/
theorem rf_ri {ly : List rf_C} {d : Nat} {M : rf_M} {rc : List rf_E} (hrc : rf_rc M rc = true) (n : Nat) {pc x : Nat} {ls : List (Option Value)} {σ : rf_S} {v : Int32} (he : rc[n]? = some (pc, .ireturn, 1, x)) (hr : M.2.2.2.2.1 = some .int) : rf_G ly d M (pc, ls, [.int v], σ) (some (.int v)) σ := by
  have hd : decode M.2.2.1 pc = .ok (.ireturn, 1) := rf_rc_dec (e := (pc, .ireturn, 1, x)) hrc (List.mem_of_getElem? he)
  intro p l e s m args below meth c D ca ad tk A hH H locs lC hP hS hl
  exact W.iret hH.1 hH.2.1 (hH.2.2.2.1.trans hr) (fun t ht _ => ⟨rfl, by rw [ht]; exact hP, hS.F ht⟩) hS.2.2 hd (hlocks := hH.2.2.2.2.1)
theorem rf_nb {v : Int32} (h : v = 0 ∨ v = 1) : narrow .boolean (.int v) = .int v := by
  rcases h with rfl | rfl <;> rfl
theorem rf_rz {ly : List rf_C} {d : Nat} {M : rf_M} {rc : List rf_E} (hrc : rf_rc M rc = true) (n : Nat) {pc x : Nat} {ls : List (Option Value)} {σ : rf_S} {v : Int32} (he : rc[n]? = some (pc, .ireturn, 1, x)) (hr : M.2.2.2.2.1 = some .boolean) (hv : v = 0 ∨ v = 1) : rf_G ly d M (pc, ls, [.int v], σ) (some (.int v)) σ := by
  have hd : decode M.2.2.1 pc = .ok (.ireturn, 1) := rf_rc_dec (e := (pc, .ireturn, 1, x)) hrc (List.mem_of_getElem? he)
  intro p l e s m args below meth c D ca ad tk A hH H locs lC hP hS hl
  exact W.zret hH.1 hH.2.1 (hH.2.2.2.1.trans hr) (rf_nb hv) (fun t ht _ => ⟨rfl, by rw [ht]; exact hP, hS.F ht⟩) hS.2.2 hd (hlocks := hH.2.2.2.2.1)
theorem rf_rl {ly : List rf_C} {d : Nat} {M : rf_M} {rc : List rf_E} (hrc : rf_rc M rc = true) (n : Nat) {pc x : Nat} {ls : List (Option Value)} {σ : rf_S} {v : Int64} (he : rc[n]? = some (pc, .lreturn, 1, x)) (hr : M.2.2.2.2.1 = some .long) : rf_G ly d M (pc, ls, [.long v], σ) (some (.long v)) σ := by
  have hd : decode M.2.2.1 pc = .ok (.lreturn, 1) := rf_rc_dec (e := (pc, .lreturn, 1, x)) hrc (List.mem_of_getElem? he)
  intro p l e s m args below meth c D ca ad tk A hH H locs lC hP hS hl
  exact W.lret hH.1 hH.2.1 (hH.2.2.2.1.trans hr) (fun t ht _ => ⟨rfl, by rw [ht]; exact hP, hS.F ht⟩) hS.2.2 hd (hlocks := hH.2.2.2.2.1)
theorem rf_rv {ly : List rf_C} {d : Nat} {M : rf_M} {rc : List rf_E} (hrc : rf_rc M rc = true) (n : Nat) {pc x : Nat} {ls : List (Option Value)} {σ : rf_S} (he : rc[n]? = some (pc, .return_, 1, x)) (hr : M.2.2.2.2.1 = none) : rf_G ly d M (pc, ls, [], σ) none σ := by
  have hd : decode M.2.2.1 pc = .ok (.return_, 1) := rf_rc_dec (e := (pc, .return_, 1, x)) hrc (List.mem_of_getElem? he)
  intro p l e s m args below meth c D ca ad tk A hH H locs lC hP hS hl
  exact W.vret hH.1 hH.2.1 (hH.2.2.2.1.trans hr) (fun t ht _ => ⟨rfl, by rw [ht]; exact hP, hS.F ht⟩) hS.2.2 hd (hlocks := hH.2.2.2.2.1)
theorem rf_rr {ly : List rf_C} {d : Nat} {M : rf_M} {rc : List rf_E} (hrc : rf_rc M rc = true) (n : Nat) {pc x : Nat} {ls : List (Option Value)} {σ : rf_S} {v : Nat} (he : rc[n]? = some (pc, .areturn, 1, x)) (hr : M.2.2.2.2.1 = some (.array .int)) : rf_G ly d M (pc, ls, [.ref v], σ) (some (.ref v)) σ := by
  have hd : decode M.2.2.1 pc = .ok (.areturn, 1) := rf_rc_dec (e := (pc, .areturn, 1, x)) hrc (List.mem_of_getElem? he)
  intro p l e s m args below meth c D ca ad tk A hH H locs lC hP hS hl
  exact W.aret hH.1 hH.2.1 (hH.2.2.2.1.trans hr) (Or.inr ⟨_, rfl⟩) (Or.inr ⟨_, rfl⟩) (fun t ht _ => ⟨rfl, by rw [ht]; exact hP, hS.F ht⟩) hS.2.2 hd (hlocks := hH.2.2.2.2.1)
/-! calls -/
def rf_mw (M : rf_M) : Prop := rf_cwl M ∈ lw_tbl ∧ (M.2.2.2.2.2.2 = true → rf_swl M ∈ lw_tbl) ∧ (M.2.2.2.2.2.2 = false → rf_nwl M ∈ lw_tbl ∧ rf_vwl M ∈ lw_tbl) ∧ rf_mq M = true
theorem rf_mq_spec {M : rf_M} (h : rf_mq M = true) : plainName M.2.1.cls = true ∧ M.2.1.cls = rf_cn M.1 ∧ M.1 < 14 ∧ M.2.2.2.1 ≤ 20 ∧ M.2.1.cls ≠ "java/lang/invoke/MethodHandle" ∧ M.2.1.cls ≠ "java/lang/invoke/VarHandle" ∧ (parseMethodDescriptor M.2.1.desc).map (fun d => d.parameters.length) = some M.2.2.2.2.2.1 := by
  simp only [rf_mq, Bool.and_eq_true, decide_eq_true_eq] at h
  obtain ⟨⟨⟨⟨⟨⟨h1, h2⟩, h3⟩, h4⟩, h5⟩, h6⟩, h7⟩ := h
  exact ⟨h1, h2, h3, h4, h5, h6, h7⟩
theorem rf_good (Mt : rf_M) {Ts : List Cond} (hT : ∀ w ∈ rf_tb, w ∈ Ts) (h : rf_cwl Mt ∈ lw_tbl) : GoodIn Ts (rf_ws Mt) := by
  intro w hw
  rcases List.mem_cons.mp hw with rfl | hw
  · exact ⟨hT _ (rf_in_tb h rfl), rf_tb_good (rf_in_tb h rfl)⟩
  · exact ⟨hT w hw, rf_tb_good hw⟩
theorem rf_ini {o : Nat} (h : o < 14) : Cond.initialized (rf_cn o) ∈ rf_tb := by
  refine rf_in_tb (rf_iT_ok o ?_) rfl
  match o, h with
  | 0, _ | 1, _ | 2, _ | 3, _ | 4, _ | 5, _ | 6, _ | 7, _ | 8, _ | 9, _ | 10, _ | 11, _ | 12, _ | 13, _ => decide
theorem rf_nwm {w : Cond} (h : w ∈ rf_nw) {s U : State} (hW : s.WarmedH U.vm) (hz : va_Nw w s) : va_Nw w U := by
  have h1 := (List.mem_filter.mp h).2
  cases w with
  | fieldLinkNest a i b n d h => exact hz.warmF hW
  | methodLinkNest a i x h => exact hz.warmM hW
  | _ => cases h1
theorem rf_nws {w : Cond} (h : w ∈ rf_nw) {s U : State} (hW : s.vm = U.vm) (hz : va_Nw w s) : va_Nw w U := by
  have h1 := (List.mem_filter.mp h).2
  cases w with
  | fieldLinkNest a i b n d h => exact hz.same rfl hW
  | methodLinkNest a i x h => exact hz.same rfl hW
  | _ => cases h1
theorem rf_blind (ly : List rf_C) (D : va_G) (ca : Nat → ClassId) (ad : Nat → Nat) (tk sz : Nat) (A : Nat → Prop) (σ : rf_S) (as : List Value) : FrameBlind (va_Pc as (fun U => U.heap.size = sz ∧ rf_X ly D ca ad tk A σ U)) := by
  intro a U g mk q
  obtain ⟨q0, q1, qP, qK, qD, qN, qZ, qT⟩ := q
  exact ⟨q0, q1, qP, va_K.moved (u := U) (U := U.calling g mk a) (Vm.Alike.refl U.vm) qK, qD, fun w hw => rf_nws hw (show U.vm = (U.calling g mk a).vm from rfl) (qN w hw), va_Z.moved (u := U) (U := U.calling g mk a) (Vm.Alike.refl U.vm) qZ, va_T.moved (u := U) (U := U.calling g mk a) (Vm.Alike.refl U.vm) qT⟩
theorem rf_pre {ly : List rf_C} {M : rf_M} {p : Program} {s : State} {m : MethodId} {args : Array Value} {meth : Method} {c : Code} {D : va_G} {ca : Nat → ClassId} {ad : Nat → Nat} {tk : Nat} {A : Nat → Prop} (hH : rf_H ly M p s m args meth c D ca ad tk A) {H : Heap} {locs : List Loc} {σ : rf_S} (hP : va_P D vwCl (rf_w ca ad ly σ) H) (hS : va_S A s.heap H locs) (U : State) (hU : U.heap = H) (hW : s.WarmedH U.vm) : U.heap.size = H.size ∧ rf_X ly D ca ad tk (va_A (rf_w ca ad ly σ) H.size) σ U := by
  obtain ⟨hx, hb, hml, hr, hlocks, hts, hown, hK, hN, hA, hD, hF, hZ, hT⟩ := hH
  have hAA : ∀ q, va_A (rf_w ca ad ly σ) H.size q → A q := fun q h => hF σ H.size q hS.1 h
  refine ⟨by rw [hU], by rw [hU]; exact hP, va_K.moved hW.alike hK, (hD σ).weaken (fun _ _ _ _ => trivial), fun w hw => rf_nwm hw hW (hN w hw), ?_, ?_⟩
  · rw [hU]
    exact ((hZ.moved hW.alike).kept (fun a h1 h2 => hS.2.1 a h1 h2)).narrow hAA
  · rw [hU]
    exact ((hT.moved hW.alike).kept (fun a h1 h2 => hS.2.1 a h1 h2)).narrow hAA
theorem rf_aft {ly : List rf_C} {D : va_G} {ca : Nat → ClassId} {ad : Nat → Nat} {p : Program} {l : Launch} {e : Env} {R : Room} {s : State} {m : MethodId} {args : Array Value} {below : List Frame} {meth : Method} {c : Code} {H : Heap} {locs : List Loc} {Q : State → Prop} {pc : Nat} {lC : Array Slot} {st0 rest : List Value} {a : Array Value} {A0 A1 : Nat → Prop} {r1 : Option Value} {σ1 : rf_S} {free : Addr → Prop} (hr : va_Run p l e R s m args below meth c H locs 0 0 0 0 (F0 m pc lC st0) rest (rf_Q ly D ca ad A1 r1 σ1 a) free) (hS : va_S A0 s.heap H locs) (hA : ∀ q, q < H.size → A1 q → A0 q) (hf : ∀ q, free q → A0 q)
    (kk : ∀ (H1 : Heap) (locs1 : List Loc), va_P D vwCl (rf_w ca ad ly σ1) H1 → va_S A0 s.heap H1 locs1 → W p l e R s m args below meth c H1 locs1 0 0 Q (F0 m (pc + 3) lC ((r1.map (rf_cv ad)).toList ++ rest))) : W p l e R s m args below meth c H locs 0 0 Q (F0 m pc lC st0) := by
  intro T hT X
  obtain ⟨v, st₀, t, T', L, h0, X', hL, e1, e2, ⟨hv, hP1, hz, hk⟩, st⟩ := hr T hT X
  cases hv
  rw [h0] at hz hk
  obtain ⟨t2, a1, b1⟩ := kk T'.heap (locs ++ L) (by rw [e1]; exact hP1)
    ⟨Nat.le_trans hS.1 (by rw [e1]; exact hz), fun q h1 h2 => by rw [e1, hk q (Nat.lt_of_lt_of_le h1 hS.1) (fun z => h2 (hA q (Nat.lt_of_lt_of_le h1 hS.1) z))]; exact hS.2.1 q h1 h2, fun q hq => by
      rcases List.mem_append.mp hq with h | h
      · exact hS.2.2 q h
      · exact hf _ (hL q h)⟩ T' rfl X'
  exact ⟨t2, st t2 a1, b1⟩
def rf_ob (ly : List rf_C) (ci c : Nat) : Bool := match ly[c]? with
  | some (.inl q) => q.1 == ci
  | _ => false
theorem rf_recv {ly : List rf_C} (hw : rf_wf ly) {D : va_G} {ca : Nat → ClassId} {ad : Nat → Nat} {σ : rf_S} {s : State} {H : Heap} {ci b : Nat} (ho : rf_ob ly ci b = true) (hK : va_K D vwCl (rf_ty ca) s) (hP : va_P D vwCl (rf_w ca ad ly σ) H) : ∃ cell : Cell, H[ad b]? = some cell ∧ cell.vm.isStatics = false ∧ s.vm.findClass (rf_cn ci) = some cell.cls := by
  unfold rf_ob at ho
  split at ho
  · rename_i q hq
    have hc : q.1 = ci := by simpa using ho
    obtain ⟨cq, h1, -, -⟩ := rf_wf_obj hw hq
    obtain ⟨cell, g1, g2, g3⟩ := va_recv hK hP h1 (rf_w_at hq)
    refine ⟨cell, g1, g2, ?_⟩
    rw [← g3]
    congr 1
    rw [← hc]
    match q.1, h1 with
    | 0, h | 1, h | 2, h | 3, h | 4, h | 5, h | 6, h | 7, h | 8, h | 9, h | 10, h => cases h; rfl
    | k + 11, h => simp [vwCl] at h
  · cases ho
theorem rf_rev (ad : Nat → Nat) (As : List Value) : (As.map (rf_cv ad)).reverse = As.reverse.map (rf_cv ad) := List.map_reverse.symm
theorem rf_tol (ad : Nat → Nat) (r : Option Value) (l : List Value) : (r.map (rf_cv ad)).toList ++ l.map (rf_cv ad) = (r.toList ++ l).map (rf_cv ad) := by cases r <;> rfl
set_option maxHeartbeats 1000000 in
/-- a method of an object -/
theorem rf_cv1 {ly : List rf_C} {d : Nat} {M Mt : rf_M} (hw : rf_wf ly) {rc : List rf_E} (hrc : rf_rc M rc = true) (n : Nat) {pc ix x : Nat} (nest : Bool) {ls : List (Option Value)} {st : List Value} {σ σ1 : rf_S} {r : Option Value} {σ' : rf_S} (he : rc[n]? = some (pc, .invokevirtual ix, 3, x)) (hl : (M.1, ix, nest, Mt.2.1) ∈ rf_cT) (hmt : rf_mw Mt) (hss : Mt.2.2.2.2.2.2 = false) (b : Nat) (As rest : List Value) {r1 : Option Value} (hst : st = As.reverse ++ .ref b :: rest) (ho : rf_ob ly Mt.1 b = true) (hn : As.length = Mt.2.2.2.2.2.1) (hrs : (rest.map fun v => v.category).sum ≤ 8) (hex : rf_Ex ly d Mt (.ref b :: As) σ r1 σ1) (k : rf_G ly d M (pc + 3, ls, r1.toList ++ rest, σ1) r σ') : rf_G ly d M (pc, ls, st, σ) r σ' := by
  subst hst
  intro p l e s m args below meth c D ca ad tk A hH H locs lC hP hS hlh
  have hd := rf_rc_dec hrc (List.mem_of_getElem? he)
  obtain ⟨q1, q2, q3, q4, q5, q6, q7⟩ := rf_mq_spec hmt.2.2.2
  obtain ⟨hx, hb, hml, hr, hlocks, hts, hown, hK, hN, hA, hD, hF, hZ, hT⟩ := id hH
  have hAA : ∀ q, va_A (rf_w ca ad ly σ) H.size q → A q := fun q h => hF σ H.size q hS.1 h
  have hroom : (rf_rm d).frames + 1 ≤ (rf_rm (d + 1)).frames ∧ 8 + (Mt.2.2.2.1 + 11) + (rf_rm d).locals ≤ (rf_rm (d + 1)).locals := ⟨Nat.le_refl _, by show 8 + (Mt.2.2.2.1 + 11) + 50 * d ≤ 50 * (d + 1); omega⟩
  have hini : (Cond.initialized Mt.2.1.cls).before args s = true := by rw [q2]; exact hts _ (rf_tbw (rf_ini q3))
  have hgood : GoodIn (rf_ws M) (rf_ws Mt) := rf_good Mt (fun w h => rf_tbw h) hmt.1
  obtain ⟨hi1, hi2⟩ := hmt.2.2.1 hss
  have hinst : (Cond.instanceMethod Mt.2.1).before args s = true := hts _ (rf_tbw (rf_in_tb hi1 rfl))
  have hsel : (Cond.selects (rf_cn Mt.1) Mt.2.1 Mt.2.1).before args s = true := by rw [← q2]; exact hts _ (rf_tbw (rf_in_tb hi2 rfl))
  have hpv : PreV s H (rf_cn Mt.1) (ad b) (va_Pc ((Value.ref b :: As).map (rf_cv ad)) (fun U => U.heap.size = H.size ∧ rf_X ly D ca ad tk (va_A (rf_w ca ad ly σ) H.size) σ U)) (As.map (rf_cv ad)) := ⟨rf_blind _ _ _ _ _ _ _ _ _, rf_recv hw ho hK hP, fun U hU hW => ⟨rfl, rf_pre hH hP hS U hU hW⟩⟩
  have hstk : ((As.reverse ++ Value.ref b :: rest).map (rf_cv ad)) = (As.map (rf_cv ad)).reverse ++ Value.ref (ad b) :: rest.map (rf_cv ad) := by rw [rf_rev, List.map_append]; rfl
  have hlk := rf_cT_ok _ hl
  have hk : ∀ (H1 : Heap) (locs1 : List Loc), va_P D vwCl (rf_w ca ad ly σ1) H1 → va_S A s.heap H1 locs1 → W p l e (rf_rm (d + 1)) s m args below meth c H1 locs1 0 0 (MQ below (rf_Q ly D ca ad A r σ') args s 0 0 A) (F0 m (pc + 3) lC ((r1.map (rf_cv ad)).toList ++ rest.map (rf_cv ad))) := by
    intro H1 locs1 hP1 hS1
    rw [rf_tol]
    exact k p l e s m args below meth c D ca ad tk A hH H1 locs1 lC hP1 hS1 hlh
  unfold rf_cl at hlk
  by_cases hne : nest = true
  · rw [if_pos hne] at hlk
    have hnw := hN _ (rf_in_nw hlk rfl)
    refine rf_aft (va_runVN (C := rf_cn Mt.1) (Ts := rf_ws M) (own := rf_cn M.1) (As := As.map (rf_cv ad)) (rest := rest.map (rf_cv ad)) ⟨hx, hb, hml, hown, hts⟩ (hex l D ca ad tk H.size) ⟨va_cnB Mt.2.2.2.2.2.1 hts hgood rfl rfl rfl hnw hini ⟨q5, q6, q7⟩ hroom, hinst, hsel⟩ hpv rfl (by rw [List.length_map]; exact hn) hlh.2.1 hstk (lv_room (by rw [rf_cv_map_cat]; exact hrs)) hd ⟨Nat.le_refl _, Nat.le_refl _⟩) hS (fun q _ h => hAA q h) hAA hk
  · rw [if_neg hne] at hlk
    have hlk2 := hts _ (rf_tbw (rf_in_tb hlk rfl))
    refine rf_aft (va_runV (C := rf_cn Mt.1) (Ts := rf_ws M) (own := rf_cn M.1) (As := As.map (rf_cv ad)) (rest := rest.map (rf_cv ad)) ⟨hx, hb, hml, hown, hts⟩ (hex l D ca ad tk H.size) ⟨callB_of Mt.2.2.2.2.2.1 hts hgood rfl rfl rfl hini hlk2 ⟨q5, q6, q7⟩ hroom, hinst, hsel⟩ hpv rfl (by rw [List.length_map]; exact hn) hlh.2.1 hstk (lv_room (by rw [rf_cv_map_cat]; exact hrs)) hd ⟨Nat.le_refl _, Nat.le_refl _⟩) hS (fun q _ h => hAA q h) hAA hk
set_option maxHeartbeats 1000000 in
/-- a method of a class -/
theorem rf_cs1 {ly : List rf_C} {d : Nat} {M Mt : rf_M} {rc : List rf_E} (hrc : rf_rc M rc = true) (n : Nat) {pc ix x : Nat} (nest : Bool) {ls : List (Option Value)} {st : List Value} {σ σ1 : rf_S} {r : Option Value} {σ' : rf_S} (he : rc[n]? = some (pc, .invokestatic ix, 3, x)) (hl : (M.1, ix, nest, Mt.2.1) ∈ rf_cT) (hmt : rf_mw Mt) (hss : Mt.2.2.2.2.2.2 = true) (As rest : List Value) {r1 : Option Value} (hst : st = As.reverse ++ rest) (hn : As.length = Mt.2.2.2.2.2.1) (hrs : (rest.map fun v => v.category).sum ≤ 8) (hex : rf_Ex ly d Mt As σ r1 σ1) (k : rf_G ly d M (pc + 3, ls, r1.toList ++ rest, σ1) r σ') : rf_G ly d M (pc, ls, st, σ) r σ' := by
  subst hst
  intro p l e s m args below meth c D ca ad tk A hH H locs lC hP hS hlh
  have hd := rf_rc_dec hrc (List.mem_of_getElem? he)
  obtain ⟨q1, q2, q3, q4, q5, q6, q7⟩ := rf_mq_spec hmt.2.2.2
  obtain ⟨hx, hb, hml, hr, hlocks, hts, hown, hK, hN, hA, hD, hF, hZ, hT⟩ := id hH
  have hAA : ∀ q, va_A (rf_w ca ad ly σ) H.size q → A q := fun q h => hF σ H.size q hS.1 h
  have hroom : (rf_rm d).frames + 1 ≤ (rf_rm (d + 1)).frames ∧ 8 + (Mt.2.2.2.1 + 11) + (rf_rm d).locals ≤ (rf_rm (d + 1)).locals := ⟨Nat.le_refl _, by show 8 + (Mt.2.2.2.1 + 11) + 50 * d ≤ 50 * (d + 1); omega⟩
  have hini : (Cond.initialized Mt.2.1.cls).before args s = true := by rw [q2]; exact hts _ (rf_tbw (rf_ini q3))
  have hgood : GoodIn (rf_ws M) (rf_ws Mt) := rf_good Mt (fun w h => rf_tbw h) hmt.1
  have hstat : (Cond.static Mt.2.1).before args s = true := hts _ (rf_tbw (rf_in_tb (hmt.2.1 hss) rfl))
  have hpv : PreS s H (va_Pc (As.map (rf_cv ad)) (fun U => U.heap.size = H.size ∧ rf_X ly D ca ad tk (va_A (rf_w ca ad ly σ) H.size) σ U)) (As.map (rf_cv ad)) := ⟨rf_blind _ _ _ _ _ _ _ _ _, fun U hU hW => ⟨rfl, rf_pre hH hP hS U hU hW⟩⟩
  have hstk : ((As.reverse ++ rest).map (rf_cv ad)) = (As.map (rf_cv ad)).reverse ++ rest.map (rf_cv ad) := by rw [rf_rev, List.map_append]
  have hlk := rf_cT_ok _ hl
  have hk : ∀ (H1 : Heap) (locs1 : List Loc), va_P D vwCl (rf_w ca ad ly σ1) H1 → va_S A s.heap H1 locs1 → W p l e (rf_rm (d + 1)) s m args below meth c H1 locs1 0 0 (MQ below (rf_Q ly D ca ad A r σ') args s 0 0 A) (F0 m (pc + 3) lC ((r1.map (rf_cv ad)).toList ++ rest.map (rf_cv ad))) := by
    intro H1 locs1 hP1 hS1
    rw [rf_tol]
    exact k p l e s m args below meth c D ca ad tk A hH H1 locs1 lC hP1 hS1 hlh
  unfold rf_cl at hlk
  by_cases hne : nest = true
  · rw [if_pos hne] at hlk
    have hnw := hN _ (rf_in_nw hlk rfl)
    refine rf_aft (va_runSN (Ts := rf_ws M) (own := rf_cn M.1) (As := As.map (rf_cv ad)) (rest := rest.map (rf_cv ad)) ⟨hx, hb, hml, hown, hts⟩ (hex l D ca ad tk H.size) ⟨va_cnB Mt.2.2.2.2.2.1 hts hgood rfl rfl rfl hnw hini ⟨q5, q6, q7⟩ hroom, hstat, trivial⟩ hpv rfl (by rw [List.length_map]; exact hn) hlh.2.1 hstk (lv_room (by rw [rf_cv_map_cat]; exact hrs)) hd ⟨Nat.le_refl _, Nat.le_refl _⟩) hS (fun q _ h => hAA q h) hAA hk
  · rw [if_neg hne] at hlk
    have hlk2 := hts _ (rf_tbw (rf_in_tb hlk rfl))
    refine rf_aft (va_runS (Ts := rf_ws M) (own := rf_cn M.1) (As := As.map (rf_cv ad)) (rest := rest.map (rf_cv ad)) ⟨hx, hb, hml, hown, hts⟩ (hex l D ca ad tk H.size) ⟨callB_of Mt.2.2.2.2.2.1 hts hgood rfl rfl rfl hini hlk2 ⟨q5, q6, q7⟩ hroom, hstat⟩ hpv rfl (by rw [List.length_map]; exact hn) hlh.2.1 hstk (lv_room (by rw [rf_cv_map_cat]; exact hrs)) hd ⟨Nat.le_refl _, Nat.le_refl _⟩) hS (fun q _ h => hAA q h) hAA hk
/-! entry -/
def rf_al : List Value → List (Option Value)
  | [] => []
  | v :: vs => if v.category = 2 then some v :: none :: rf_al vs else some v :: rf_al vs
theorem rf_al_len (ad : Nat → Nat) : ∀ as : List Value, (lg_sl (as.map (rf_cv ad))).length = (rf_al as).length
  | [] => rfl
  | v :: vs => by
    have ih := rf_al_len ad vs
    simp only [lg_sl, List.map_cons, List.flatMap_cons, rf_cv_cat, rf_al] at ih ⊢
    split <;> simp [ih]
theorem rf_al_at (ad : Nat → Nat) : ∀ (as : List Value) (i : Nat) (v : Value), (rf_al as)[i]? = some (some v) → (lg_sl (as.map (rf_cv ad)))[i]? = some (.val (rf_cv ad v))
  | [], i, v, h => by simp [rf_al] at h
  | u :: vs, i, v, h => by
    have ih := rf_al_at ad vs
    simp only [lg_sl, List.map_cons, List.flatMap_cons, rf_cv_cat, rf_al] at ih h ⊢
    split at h
    · rename_i hc
      rw [if_pos hc]
      match i, h with
      | 0, h => simp at h; subst h; rfl
      | 1, h => simp at h
      | i + 2, h => simp only [List.getElem?_cons_succ] at h; simpa using ih i v h
    · rename_i hc
      rw [if_neg hc]
      match i, h with
      | 0, h => simp at h; subst h; rfl
      | i + 1, h => simp only [List.getElem?_cons_succ] at h; simpa using ih i v h
set_option maxHeartbeats 1000000 in
theorem rf_ex {ly : List rf_C} {d : Nat} {M : rf_M} (hmw : rf_mw M) {as : List Value} {σ : rf_S} {r : Option Value} {σ' : rf_S} (ls : List (Option Value)) (hle : (rf_al as).length ≤ M.2.2.2.1) (hls : rf_al as ++ List.replicate (M.2.2.2.1 - (rf_al as).length) none = ls) (k : rf_G ly d M (0, ls, [], σ) r σ') : rf_Ex ly (d + 1) M as σ r σ' := by
  subst hls
  intro l D ca ad tk sz
  obtain ⟨q1, q2, q3, q4, q5, q6, q7⟩ := rf_mq_spec hmw.2.2.2
  refine Met.ofW (cc := M.2.2.1) (maxL := M.2.2.2.1) (ret := M.2.2.2.2.1) q1 rfl ?_
  intro p e s m args below meth c s₁ B hml hv
  obtain ⟨rfl, hsz, hP, hK, hD0, hN, hZ, hT⟩ := hv
  subst hsz
  have hts := atoms_spec (ws := rf_ws M) B.pre
  have hown : s.vm.findClass (rf_cn M.1) = some m.cls := by rw [← q2]; exact findClass_of_methodNamed B.named
  have hH : rf_H ly M p s m (as.map (rf_cv ad)).toArray meth c D ca ad tk (va_A (rf_w ca ad ly σ) s.heap.size) := ⟨B.exec, B.bytes, hml, B.returns, B.notSynchronized, hts, hown, hK, hN, fun q h => Or.inr h, fun σ2 => rf_D σ2 (hD0.self (sz := s.heap.size)), fun σ2 sz q h1 h2 => rf_A σ h1 h2, hZ, hT⟩
  rw [lg_entry_eq]
  have hent := lv_entry (as.map (rf_cv ad)) (n := M.2.2.2.1) (by rw [rf_al_len]; exact hle)
  refine k p l e s m _ below meth c D ca ad tk _ hH s.heap [] _ hP va_S.rf ⟨?_, hent.1, hent.2.1, fun i v hi => ?_⟩
  · simp only [List.length_append, List.length_replicate]
    omega
  · rw [List.getElem?_toArray]
    by_cases hlt : i < (rf_al as).length
    · rw [List.getElem?_append_left hlt] at hi
      rw [List.getElem?_append_left (by rw [rf_al_len]; exact hlt)]
      exact rf_al_at ad as i v hi
    · rw [List.getElem?_append_right (by omega), List.getElem?_replicate] at hi
      split at hi <;> cases hi
/-! loops -/
def rf_lp {S E : Type} (b : S → Option (S ⊕ E)) : Nat → S → Option E
  | 0, _ => none
  | n + 1, s => (b s).bind (fun o => match o with
    | .inl s' => rf_lp b n s'
    | .inr e => some e)
theorem rf_lpG {S E : Type} {b : S → Option (S ⊕ E)} {G : S → Prop} {K : E → Prop} (hb : ∀ s o, b s = some o → (∀ s', o = .inl s' → G s') → (∀ e, o = .inr e → K e) → G s) : ∀ (n : Nat) (s : S) (e : E), rf_lp b n s = some e → K e → G s
  | 0, s, e, h, _ => by cases h
  | n + 1, s, e, h, hk => by
    simp only [rf_lp] at h
    obtain ⟨o, h1, h2⟩ := Option.bind_eq_some_iff.mp h
    refine hb s o h1 (fun s' hs => ?_) (fun e' he => ?_)
    · subst hs
      exact rf_lpG hb n s' e h2 hk
    · subst he
      cases h2
      exact hk
