/-! ===== judgements over the kit's W and Met ===== -/
def rf_ty (ca : Nat → ClassId) : List (ClassId × FieldType) := [(ca 0, .int), (ca 1, .byte), (ca 2, .array .int), (ca 3, .array .byte)]
def rf_kn (j : Nat) : Int32 := match j with
  | 0 => 111
  | 1 => 115
  | 2 => 116
  | 3 => 109
  | 4 => 102
  | _ => 97
def rf_ks (j : Nat) : Value := .int (rf_kn j)
def rf_ws (M : rf_M) : List Cond := .code M.2.1 M.2.2.1 M.2.2.2.1 M.2.2.2.2.1 :: rf_tb
def rf_rm (d : Nat) : Room := { frames := d, cells := 0, slots := 0, locals := 50 * d }
def rf_X (ly : List rf_C) (D : va_G) (ca : Nat → ClassId) (ad : Nat → Nat) (tk : Nat) (A : Nat → Prop) (σ : rf_S) (U : State) : Prop := va_P D vwCl (rf_w ca ad ly σ) U.heap ∧ va_K D vwCl (rf_ty ca) U ∧ va_D (fun _ => True) (rf_w ca ad ly σ) ∧ (∀ w ∈ rf_nw, va_Nw w U) ∧ va_Z "FeltCold" "KIND_SIGNS" "[I" (.ref tk) A U U.heap ∧ va_T .int tk 6 rf_ks A U U.heap
def rf_Q (ly : List rf_C) (D : va_G) (ca : Nat → ClassId) (ad : Nat → Nat) (A : Nat → Prop) (r : Option Value) (σ' : rf_S) : Array Value → State → Outcome → State → Prop := fun _ st oc t => oc = .returned (r.map (rf_cv ad)) ∧ va_P D vwCl (rf_w ca ad ly σ') t.heap ∧ va_F A st t
/-- the method M, with a depth d of calls, answers r and leaves σ' -/
def rf_Ex (ly : List rf_C) (d : Nat) (M : rf_M) (as : List Value) (σ : rf_S) (r : Option Value) (σ' : rf_S) : Prop := ∀ (l : Launch) (D : va_G) (ca : Nat → ClassId) (ad : Nat → Nat) (tk sz : Nat),
  Met l M.2.1 (rf_ws M) (rf_rm d) (va_Pc (as.map (rf_cv ad)) (fun U => U.heap.size = sz ∧ rf_X ly D ca ad tk (va_A (rf_w ca ad ly σ) sz) σ U)) (rf_Q ly D ca ad (va_A (rf_w ca ad ly σ) sz) r σ') 0 0 (va_A (rf_w ca ad ly σ) sz)
def rf_H (ly : List rf_C) (M : rf_M) (p : Program) (s : State) (m : MethodId) (args : Array Value) (meth : Method) (c : Code) (D : va_G) (ca : Nat → ClassId) (ad : Nat → Nat) (tk : Nat) (A : Nat → Prop) : Prop :=
  p.tables.exec = Jvm.exec ∧ c.code = M.2.2.1 ∧ c.maxLocals = M.2.2.2.1 ∧ meth.sig.returnType = M.2.2.2.2.1 ∧ meth.locks = false ∧ (∀ w ∈ rf_ws M, w.before args s = true) ∧ s.vm.findClass (rf_cn M.1) = some m.cls ∧ va_K D vwCl (rf_ty ca) s ∧ (∀ w ∈ rf_nw, va_Nw w s) ∧ (∀ q : Nat, s.heap.size ≤ q → A q) ∧ (∀ σ, va_D A (rf_w ca ad ly σ)) ∧ (∀ σ (sz q : Nat), s.heap.size ≤ sz → va_A (rf_w ca ad ly σ) sz q → A q) ∧ va_Z "FeltCold" "KIND_SIGNS" "[I" (.ref tk) A s s.heap ∧ va_T .int tk 6 rf_ks A s s.heap
/-- from the frame f the method M comes to its end with r and σ' -/
def rf_G (ly : List rf_C) (d : Nat) (M : rf_M) (f : rf_F) (r : Option Value) (σ' : rf_S) : Prop := ∀ (p : Program) (l : Launch) (e : Env) (s : State) (m : MethodId) (args : Array Value) (below : List Frame) (meth : Method) (c : Code) (D : va_G) (ca : Nat → ClassId) (ad : Nat → Nat) (tk : Nat) (A : Nat → Prop), rf_H ly M p s m args meth c D ca ad tk A →
  ∀ (H : Heap) (locs : List Loc) (lC : Array Slot), va_P D vwCl (rf_w ca ad ly f.2.2.2) H → va_S A s.heap H locs → rf_lh ad lC M.2.2.2.1 f.2.1 → W p l e (rf_rm (d + 1)) s m args below meth c H locs 0 0 (MQ below (rf_Q ly D ca ad A r σ') args s 0 0 A) (F0 m f.1 lC (f.2.2.1.map (rf_cv ad)))
/-! what the kernel decides of an instruction's row -/
def rf_ln (i : Instr) : Nat := match i with
  | .bipush _ | .ldc _ | .iload _ | .lload _ | .aload _ | .istore _ | .lstore _ | .astore _ => 2
  | .sipush _ | .ldc_w _ | .ldc2_w _ | .iinc _ _ | .ifCond _ _ | .if_icmp _ _ | .goto _ | .getfield _ | .putfield _ | .invokestatic _ | .invokevirtual _ => 3
  | _ => 1
def rf_okc (o nL : Nat) (e : rf_E) : Bool := decide (e.2.2.1 = rf_ln e.2.1) && match e.2.1 with
  | .iconst n => decide (Int32.ofInt n = rf_ci n)
  | .bipush n => decide ((Int8.ofInt n).toInt32 = rf_ci n)
  | .sipush n => decide ((Int16.ofInt n).toInt32 = rf_ci n)
  | .ldc k => decide ((o, k, e.2.2.2) ∈ rf_kT)
  | .ldc_w k => decide ((o, k, e.2.2.2) ∈ rf_kT)
  | .ldc2_w k => decide ((o, k, e.2.2.2) ∈ rf_lT)
  | .lconst n => decide ((n : Nat) = e.2.2.2)
  | .iload k | .lload k | .aload k => decide (k = e.2.2.2)
  | .iload_n k | .lload_n k | .aload_n k => decide ((k : Nat) = e.2.2.2)
  | .istore k | .astore k => decide (k = e.2.2.2 ∧ e.2.2.2 < nL)
  | .istore_n k | .astore_n k => decide ((k : Nat) = e.2.2.2 ∧ e.2.2.2 < nL)
  | .lstore k => decide (k = e.2.2.2 ∧ e.2.2.2 + 1 < nL)
  | .lstore_n k => decide ((k : Nat) = e.2.2.2 ∧ e.2.2.2 + 1 < nL)
  | .iinc k n => decide (k = e.2.2.2 ∧ e.2.2.2 < nL ∧ Int32.ofInt n = rf_ci n)
  | .ifCond _ off | .if_icmp _ off | .goto off => decide ((e.1 : Int) + off = (e.2.2.2 : Int))
  | .getfield k | .putfield k => decide ((o, k, e.2.2.2, false) ∈ rf_fT) || decide ((o, k, e.2.2.2, true) ∈ rf_fT)
  | .invokestatic k => decide ((o, k, e.2.2.2) ∈ rf_aT)
  | _ => true
def rf_dec (cc : ByteArray) (e : rf_E) : Bool := match decode cc e.1 with
  | .ok q => decide (q.1 = e.2.1 ∧ q.2 = e.2.2.1)
  | _ => false
theorem rf_dec_ok {cc : ByteArray} {e : rf_E} (h : rf_dec cc e = true) : decode cc e.1 = .ok (e.2.1, e.2.2.1) := by
  unfold rf_dec at h
  split at h
  · rename_i q hq
    obtain ⟨h1, h2⟩ := of_decide_eq_true h
    rw [hq, ← h1, ← h2]
  · cases h
/-! the layout against the classes -/
def rf_wfc (en : rf_C) : Bool := match en with
  | .inl q => (match vwCl[q.1]? with
    | some cq => decide (q.2.length = cq.2.2) && (List.range q.2.length).all (fun j => match q.2[j]? with
      | some none => decide ((cq.2.1 j).2.2.1 = "I" ∧ (cq.2.1 j).2.2.2 = false)
      | some (some none) => decide ((cq.2.1 j).2.2.1 = "J" ∧ (cq.2.1 j).2.2.2 = false)
      | _ => true)
    | none => false)
  | .inr q => decide (q.1 < 4) && (decide (q.1 < 2) || decide (q.2.2.length = q.2.1))
def rf_wf (ly : List rf_C) : Prop := ∀ (c : Nat) (en : rf_C), ly[c]? = some en → rf_wfc en = true
theorem rf_wf_of {ly : List rf_C} (h : ly.all rf_wfc = true) : rf_wf ly := fun c en hc => List.all_eq_true.mp h en (List.mem_of_getElem? hc)
theorem rf_wf_obj {ly : List rf_C} (hw : rf_wf ly) {c : Nat} {q : Nat × List (Option (Option Nat))} (h : ly[c]? = some (.inl q)) : ∃ cq, vwCl[q.1]? = some cq ∧ q.2.length = cq.2.2 ∧ ∀ j, (q.2[j]? = some none → (cq.2.1 j).2.2.1 = "I" ∧ (cq.2.1 j).2.2.2 = false) ∧ (q.2[j]? = some (some none) → (cq.2.1 j).2.2.1 = "J" ∧ (cq.2.1 j).2.2.2 = false) := by
  have h1 := hw c _ h
  unfold rf_wfc at h1
  simp only at h1
  split at h1
  · rename_i cq hcq
    simp only [Bool.and_eq_true, decide_eq_true_eq] at h1
    refine ⟨cq, hcq, h1.1, fun j => ⟨fun hj => ?_, fun hj => ?_⟩⟩
    · have h2 := List.all_eq_true.mp h1.2 j (List.mem_range.mpr (List.getElem?_eq_some_iff.mp hj).1)
      rw [hj] at h2
      exact of_decide_eq_true h2
    · have h2 := List.all_eq_true.mp h1.2 j (List.mem_range.mpr (List.getElem?_eq_some_iff.mp hj).1)
      rw [hj] at h2
      exact of_decide_eq_true h2
  · cases h1
theorem rf_wf_arr {ly : List rf_C} (hw : rf_wf ly) {c : Nat} {q : Nat × Nat × List Nat} (h : ly[c]? = some (.inr q)) : q.1 < 4 ∧ (¬ q.1 < 2 → q.2.2.length = q.2.1) := by
  have h1 := hw c _ h
  unfold rf_wfc at h1
  simp only [Bool.and_eq_true, Bool.or_eq_true, decide_eq_true_eq] at h1
  exact ⟨h1.1, fun h2 => h1.2.resolve_left h2⟩
theorem rf_kd_at {ly : List rf_C} {kd c : Nat} (h : rf_kd ly kd c = true) : ∃ n rs, ly[c]? = some (.inr (kd, n, rs)) ∧ rf_len ly c = n := by
  unfold rf_kd at h
  split at h
  · rename_i q hq
    obtain ⟨k, n, rs⟩ := q
    have hk : k = kd := by simpa using h
    subst hk
    exact ⟨n, rs, hq, by unfold rf_len; rw [hq]⟩
  · cases h
theorem rf_in_vp {i : Int32} {n : Nat} (h : rf_in i n = true) : vp_in i n := by
  simp only [rf_in, Bool.and_eq_true, decide_eq_true_eq] at h
  rintro (q | q)
  · exact h.1 q
  · omega
theorem rf_ty_at {ca : Nat → ClassId} {k : Nat} (h : k < 4) : (rf_ty ca)[k]? = some (ca k, if k = 0 then .int else if k = 1 then .byte else if k = 2 then .array .int else .array .byte) := by
  match k, h with
  | 0, _ => rfl
  | 1, _ => rfl
  | 2, _ => rfl
  | 3, _ => rfl
theorem rf_i0 : ∀ w ∈ u_ws RX0 TX0 2, w ∈ lw_tbl := rf_ats_in (f := id) (ps := [309, 311]) (by rw [List.map_id]; decide +kernel)
theorem rf_i1 : ∀ w ∈ u_ws RX1 TX1 4, w ∈ lw_tbl := rf_ats_in (f := id) (ps := [245, 247, 249, 251]) (by rw [List.map_id]; decide +kernel)
theorem rf_i2 : ∀ w ∈ u_ws RX2 TX2 8, w ∈ lw_tbl := rf_ats_in (f := id) (ps := [157, 159, 161, 163, 165, 167, 169, 171]) (by rw [List.map_id]; decide +kernel)
theorem rf_i3 : ∀ w ∈ u_ws RX3 TX3 3, w ∈ lw_tbl := rf_ats_in (f := id) (ps := [178, 180, 182]) (by rw [List.map_id]; decide +kernel)
theorem rf_i4 : ∀ w ∈ u_ws RX4 TX4 2, w ∈ lw_tbl := rf_ats_in (f := id) (ps := [103, 105]) (by rw [List.map_id]; decide +kernel)
theorem rf_i5 : ∀ w ∈ u_ws RX5 TX5 6, w ∈ lw_tbl := rf_ats_in (f := id) (ps := [269, 271, 273, 275, 277, 279]) (by rw [List.map_id]; decide +kernel)
theorem rf_i6 : ∀ w ∈ u_ws RX6 TX6 3, w ∈ lw_tbl := rf_ats_in (f := id) (ps := [292, 294, 296]) (by rw [List.map_id]; decide +kernel)
theorem rf_i7 : ∀ w ∈ u_ws RX7 TX7 2, w ∈ lw_tbl := rf_ats_in (f := id) (ps := [121, 123]) (by rw [List.map_id]; decide +kernel)
theorem rf_i8 : ∀ w ∈ u_ws RX8 TX8 9, w ∈ lw_tbl := rf_ats_in (f := id) (ps := [212, 214, 216, 218, 220, 222, 224, 226, 228]) (by rw [List.map_id]; decide +kernel)
theorem rf_i9 : ∀ w ∈ u_ws RX9 TX9 11, w ∈ lw_tbl := rf_ats_in (f := id) (ps := [325, 327, 329, 331, 333, 335, 337, 339, 341, 343, 345]) (by rw [List.map_id]; decide +kernel)
theorem rf_i10 : ∀ w ∈ u_ws RX10 TX10 30, w ∈ lw_tbl := rf_ats_in (f := id) (ps := [1038, 1040, 1042, 1044, 1046, 1048, 1050, 1052, 1054, 1056, 1058, 1060, 1062, 1064, 1066, 1068, 1070, 1072, 1074, 1076, 1078, 1080, 1082, 1084, 1086, 1088, 1090, 1092, 1094, 1096]) (by rw [List.map_id]; decide +kernel)
theorem rf_cls_in {ci : Nat} {q : vw_C} (h : vwCl[ci]? = some q) : (∀ w ∈ u_ws q.1 q.2.1 q.2.2, w ∈ rf_tb) ∧ ∃ ty0 : Nat → FieldType, (∀ k, k < q.2.2 → parseFieldDescriptor (q.2.1 k).2.2.1 = some (ty0 k)) ∧ (∀ a, a < q.2.2 → ∀ b, b < q.2.2 → a ≠ b → (q.2.1 a).2.1 ≠ (q.2.1 b).2.1) := by
  have g : ∀ {C : String} {T : u_T} {n : Nat} (w : Cond), w ∈ u_ws C T n → goodWord w = true := by
    intro C T n w hw
    obtain ⟨k, -, rfl⟩ := List.mem_map.mp hw
    unfold u_lay
    split <;> rfl
  match ci, h with
  | 0, h => cases h; exact ⟨fun w hw => rf_in_tb (rf_i0 w hw) (g w hw), tyX0, tyX0_ok, nmX0⟩
  | 1, h => cases h; exact ⟨fun w hw => rf_in_tb (rf_i1 w hw) (g w hw), tyX1, tyX1_ok, nmX1⟩
  | 2, h => cases h; exact ⟨fun w hw => rf_in_tb (rf_i2 w hw) (g w hw), tyX2, tyX2_ok, nmX2⟩
  | 3, h => cases h; exact ⟨fun w hw => rf_in_tb (rf_i3 w hw) (g w hw), tyX3, tyX3_ok, nmX3⟩
  | 4, h => cases h; exact ⟨fun w hw => rf_in_tb (rf_i4 w hw) (g w hw), tyX4, tyX4_ok, nmX4⟩
  | 5, h => cases h; exact ⟨fun w hw => rf_in_tb (rf_i5 w hw) (g w hw), tyX5, tyX5_ok, nmX5⟩
  | 6, h => cases h; exact ⟨fun w hw => rf_in_tb (rf_i6 w hw) (g w hw), tyX6, tyX6_ok, nmX6⟩
  | 7, h => cases h; exact ⟨fun w hw => rf_in_tb (rf_i7 w hw) (g w hw), tyX7, tyX7_ok, nmX7⟩
  | 8, h => cases h; exact ⟨fun w hw => rf_in_tb (rf_i8 w hw) (g w hw), tyX8, tyX8_ok, nmX8⟩
  | 9, h => cases h; exact ⟨fun w hw => rf_in_tb (rf_i9 w hw) (g w hw), tyX9, tyX9_ok, nmX9⟩
  | 10, h => cases h; exact ⟨fun w hw => rf_in_tb (rf_i10 w hw) (g w hw), tyX10, tyX10_ok, nmX10⟩
  | k + 11, h => simp [vwCl] at h
theorem rf_pI : parseFieldDescriptor "I" = some .int := by decide +kernel
theorem rf_pJ : parseFieldDescriptor "J" = some .long := by decide +kernel
theorem rf_fT_in {e : Nat × Nat × Nat × Bool} (h : e ∈ rf_fT) {q : vw_C} (hq : vwCl[e.2.2.1 / 100]? = some q) : (e.2.2.2 = false → Cond.fieldLink (rf_cn e.1) e.2.1 (q.2.1 (e.2.2.1 % 100)).1 (q.2.1 (e.2.2.1 % 100)).2.1 (q.2.1 (e.2.2.1 % 100)).2.2.1 ∈ rf_tb) ∧ (e.2.2.2 = true → Cond.fieldLinkNest (rf_cn e.1) e.2.1 (q.2.1 (e.2.2.1 % 100)).1 (q.2.1 (e.2.2.1 % 100)).2.1 (q.2.1 (e.2.2.1 % 100)).2.2.1 "FeltCold" ∈ rf_nw) := by
  have h1 := rf_fT_ok e h
  unfold rf_fl at h1
  rw [hq] at h1
  simp only at h1
  refine ⟨fun hn => ?_, fun hn => ?_⟩
  · rw [if_neg (by rw [hn]; decide)] at h1
    exact rf_in_tb h1 rfl
  · rw [if_pos hn] at h1
    exact rf_in_nw h1 rfl
theorem rf_cv_map_cat (ad : Nat → Nat) (l : List Value) : ((l.map (rf_cv ad)).map fun v => v.category).sum = (l.map fun v => v.category).sum := by
  rw [List.map_map]
  congr 1
  apply List.map_congr_left
  intro v _
  exact rf_cv_cat ad v
theorem rf_tbw {M : rf_M} {w : Cond} (h : w ∈ rf_tb) : w ∈ rf_ws M := List.mem_cons_of_mem _ h

set_option maxHeartbeats 4000000 in
theorem rf_step {ly : List rf_C} {d : Nat} {M : rf_M} (hw : rf_wf ly) {pc : Nat} {i : Instr} {len x : Nat} {ls : List (Option Value)} {st : List Value} {σ : rf_S} {f' : rf_F} {r : Option Value} {σ' : rf_S} (hd : decode M.2.2.1 pc = .ok (i, len)) (hok : rf_okc M.1 M.2.2.2.1 (pc, i, len, x) = true) (hB0 : (st.map fun v => v.category).sum ≤ 20 ∨ ∀ k, i ≠ .invokestatic k) (hs : rf_st ly i x (pc + len) ls st σ = some f') (k : rf_G ly d M f' r σ') : rf_G ly d M (pc, ls, st, σ) r σ' := by
  intro p l e s m args below meth c D ca ad tk A hH H locs lC hP hS hl
  have k := k p l e s m args below meth c D ca ad tk A hH
  obtain ⟨hx, hb, hml, hr, hlocks, hts, hown, hK, hN, hA, hD, hF, hZ, hT⟩ := hH
  have hlen : len = rf_ln i := by
    have := (Bool.and_eq_true _ _ ▸ hok : _ ∧ _).1
    exact of_decide_eq_true this
  have hok2 := (Bool.and_eq_true _ _ ▸ hok : _ ∧ _).2
  subst hlen
  cases i with
  | iconst n =>
    simp only [rf_st] at hs
    cases hs
    exact lv_iconst hx hb hd (of_decide_eq_true hok2) (k H locs lC hP hS hl)
  | bipush n =>
    simp only [rf_st] at hs
    cases hs
    exact lv_bipush hx hb hd (of_decide_eq_true hok2) (k H locs lC hP hS hl)
  | sipush n =>
    simp only [rf_st] at hs
    cases hs
    exact lv_sipush hx hb hd (of_decide_eq_true hok2) (k H locs lC hP hS hl)
  | ldc n =>
    simp only [rf_st] at hs
    cases hs
    exact lv_ldc hx hb hown (hts _ (rf_tbw (rf_in_tb (rf_kT_ok _ (of_decide_eq_true hok2)) rfl))) hd (k H locs lC hP hS hl)
  | ldc_w n =>
    simp only [rf_st] at hs
    cases hs
    exact lv_ldcw hx hb hown (hts _ (rf_tbw (rf_in_tb (rf_kT_ok _ (of_decide_eq_true hok2)) rfl))) hd (k H locs lC hP hS hl)
  | ldc2_w n =>
    simp only [rf_st] at hs
    cases hs
    exact lv_ldc2 hx hb hown (hts _ (rf_tbw (rf_in_tb (rf_lT_ok _ (of_decide_eq_true hok2)) rfl))) hd (k H locs lC hP hS hl)
  | lconst n =>
    simp only [rf_st] at hs
    cases hs
    exact lv_lconst hx hb hd (congrArg Int64.ofNat (of_decide_eq_true hok2)) (k H locs lC hP hS hl)
  | iload n =>
    simp only [rf_st] at hs
    split at hs
    · rename_i a ha
      cases hs
      have hz : n = x := of_decide_eq_true hok2
      subst hz
      exact lv_iload hx hb hd (hl.2.2.2 _ _ ha) (k H locs lC hP hS hl)
    · cases hs
  | iload_n n =>
    simp only [rf_st] at hs
    split at hs
    · rename_i a ha
      cases hs
      exact lv_iload_n hx hb hd (of_decide_eq_true hok2) (hl.2.2.2 _ _ ha) (k H locs lC hP hS hl)
    · cases hs
  | lload n =>
    simp only [rf_st] at hs
    split at hs
    · rename_i a ha
      cases hs
      have hz : n = x := of_decide_eq_true hok2
      subst hz
      exact lv_lload hx hb hd (hl.2.2.2 _ _ ha) (k H locs lC hP hS hl)
    · cases hs
  | lload_n n =>
    simp only [rf_st] at hs
    split at hs
    · rename_i a ha
      cases hs
      exact lv_lload_n hx hb hd (of_decide_eq_true hok2) (hl.2.2.2 _ _ ha) (k H locs lC hP hS hl)
    · cases hs
  | aload n =>
    simp only [rf_st] at hs
    split at hs
    · rename_i a ha
      cases hs
      have hz : n = x := of_decide_eq_true hok2
      subst hz
      exact lv_aload hx hb hd (hl.2.2.2 _ _ ha) (k H locs lC hP hS hl)
    · cases hs
  | aload_n n =>
    simp only [rf_st] at hs
    split at hs
    · rename_i a ha
      cases hs
      exact lv_aload_n hx hb hd (of_decide_eq_true hok2) (hl.2.2.2 _ _ ha) (k H locs lC hP hS hl)
    · cases hs
  | istore n =>
    simp only [rf_st] at hs
    split at hs
    · rename_i a r0
      cases hs
      obtain ⟨hz, hn⟩ := of_decide_eq_true hok2
      subst hz
      exact lv_istore hx hb hd hl.has hn rfl (fun lC2 h2 => k H locs lC2 hP hS (hl.s1 (v := .int a) hn h2))
    · cases hs
  | istore_n n =>
    simp only [rf_st] at hs
    split at hs
    · rename_i a r0
      cases hs
      obtain ⟨hz, hn⟩ := of_decide_eq_true hok2
      exact lv_istore_n hx hb hd hz hl.has hn rfl (fun lC2 h2 => k H locs lC2 hP hS (hl.s1 (v := .int a) hn h2))
    · cases hs
  | lstore n =>
    simp only [rf_st] at hs
    split at hs
    · rename_i a r0
      cases hs
      obtain ⟨hz, hn⟩ := of_decide_eq_true hok2
      subst hz
      exact lv_lstore hx hb hd hl.has hn rfl (fun lC2 h2 => k H locs lC2 hP hS (hl.s2 (v := .long a) hn h2))
    · cases hs
  | lstore_n n =>
    simp only [rf_st] at hs
    split at hs
    · rename_i a r0
      cases hs
      obtain ⟨hz, hn⟩ := of_decide_eq_true hok2
      exact lv_lstore_n hx hb hd hz hl.has hn rfl (fun lC2 h2 => k H locs lC2 hP hS (hl.s2 (v := .long a) hn h2))
    · cases hs
  | astore n =>
    simp only [rf_st] at hs
    split at hs
    · rename_i a r0
      cases hs
      obtain ⟨hz, hn⟩ := of_decide_eq_true hok2
      subst hz
      exact lv_astore hx hb hd hl.has hn rfl (fun lC2 h2 => k H locs lC2 hP hS (hl.s1 (v := .ref a) hn h2))
    · cases hs
  | astore_n n =>
    simp only [rf_st] at hs
    split at hs
    · rename_i a r0
      cases hs
      obtain ⟨hz, hn⟩ := of_decide_eq_true hok2
      exact lv_astore_n hx hb hd hz hl.has hn rfl (fun lC2 h2 => k H locs lC2 hP hS (hl.s1 (v := .ref a) hn h2))
    · cases hs
  | iinc n z =>
    simp only [rf_st] at hs
    split at hs
    · rename_i a ha
      cases hs
      obtain ⟨hz, hn, hc⟩ := of_decide_eq_true hok2
      subst hz
      obtain ⟨j, hj⟩ := List.getElem?_of_mem (rf_en_mem (ad := ad) ha)
      exact lv_iinc hx hb hd hl.has hj (by rw [hc]) hn rfl (fun lC2 h2 => k H locs lC2 hP hS (hl.s1 (v := .int (a + rf_ci z)) hn h2))
    · cases hs
  | iadd =>
    simp only [rf_st] at hs
    split at hs
    · cases hs
      exact lv_iadd hx hb hd (k H locs lC hP hS hl)
    · cases hs
  | isub =>
    simp only [rf_st] at hs
    split at hs
    · cases hs
      exact lv_isub hx hb hd (k H locs lC hP hS hl)
    · cases hs
  | imul =>
    simp only [rf_st] at hs
    split at hs
    · cases hs
      exact lv_imul hx hb hd (k H locs lC hP hS hl)
    · cases hs
  | iand =>
    simp only [rf_st] at hs
    split at hs
    · cases hs
      exact lv_iand hx hb hd (k H locs lC hP hS hl)
    · cases hs
  | ior =>
    simp only [rf_st] at hs
    split at hs
    · cases hs
      exact lv_ior hx hb hd (k H locs lC hP hS hl)
    · cases hs
  | ixor =>
    simp only [rf_st] at hs
    split at hs
    · cases hs
      exact lv_ixor hx hb hd (k H locs lC hP hS hl)
    · cases hs
  | ishl =>
    simp only [rf_st] at hs
    split at hs
    · cases hs
      exact lv_ishl hx hb hd (k H locs lC hP hS hl)
    · cases hs
  | ishr =>
    simp only [rf_st] at hs
    split at hs
    · cases hs
      exact lv_ishr hx hb hd (k H locs lC hP hS hl)
    · cases hs
  | ladd =>
    simp only [rf_st] at hs
    split at hs
    · cases hs
      exact lv_ladd hx hb hd (k H locs lC hP hS hl)
    · cases hs
  | lmul =>
    simp only [rf_st] at hs
    split at hs
    · cases hs
      exact lv_lmul hx hb hd (k H locs lC hP hS hl)
    · cases hs
  | iushr =>
    simp only [rf_st] at hs
    split at hs
    · cases hs
      exact lv_iushr hx hb hd rfl (k H locs lC hP hS hl)
    · cases hs
  | lcmp =>
    simp only [rf_st] at hs
    split at hs
    · cases hs
      exact W.lcmp hx hb hd (k H locs lC hP hS hl)
    · cases hs
  | idiv =>
    simp only [rf_st] at hs
    split at hs
    · split at hs
      · cases hs
      · rename_i hne
        cases hs
        exact lv_idiv hx hb hd hne (k H locs lC hP hS hl)
    · cases hs
  | irem =>
    simp only [rf_st] at hs
    split at hs
    · split at hs
      · cases hs
      · rename_i hne
        cases hs
        exact lv_irem hx hb hd hne (k H locs lC hP hS hl)
    · cases hs
  | ldiv =>
    simp only [rf_st] at hs
    split at hs
    · split at hs
      · cases hs
      · rename_i hne
        cases hs
        exact lv_ldiv hx hb hd hne (k H locs lC hP hS hl)
    · cases hs
  | lrem =>
    simp only [rf_st] at hs
    split at hs
    · split at hs
      · cases hs
      · rename_i hne
        cases hs
        exact lv_lrem hx hb hd hne (k H locs lC hP hS hl)
    · cases hs
  | ineg =>
    simp only [rf_st] at hs
    split at hs
    · cases hs
      exact lv_ineg hx hb hd (k H locs lC hP hS hl)
    · cases hs
  | i2l =>
    simp only [rf_st] at hs
    split at hs
    · cases hs
      exact lv_i2l hx hb hd rfl (k H locs lC hP hS hl)
    · cases hs
  | l2i =>
    simp only [rf_st] at hs
    split at hs
    · cases hs
      exact lv_l2i hx hb hd rfl (k H locs lC hP hS hl)
    · cases hs
  | i2b =>
    simp only [rf_st] at hs
    split at hs
    · cases hs
      exact lv_i2b hx hb hd rfl (k H locs lC hP hS hl)
    · cases hs
  | dup =>
    simp only [rf_st] at hs
    split at hs
    · split at hs
      · rename_i hc
        cases hs
        exact lv_dup hx hb hd (by rw [rf_cv_cat]; exact hc) (k H locs lC hP hS hl)
      · cases hs
    · cases hs
  | dup2 =>
    simp only [rf_st] at hs
    split at hs
    · split at hs
      · rename_i hc
        cases hs
        exact lv_dup2_11 hx hb hd (by rw [rf_cv_cat]; exact hc.1) (by rw [rf_cv_cat]; exact hc.2) (k H locs lC hP hS hl)
      · cases hs
    · cases hs
  | pop =>
    simp only [rf_st] at hs
    split at hs
    · split at hs
      · rename_i hc
        cases hs
        exact lv_pop hx hb hd (by rw [rf_cv_cat]; exact hc) (k H locs lC hP hS hl)
      · cases hs
    · cases hs
  | ifCond cnd off =>
    cases cnd with
    | eq =>
      simp only [rf_st] at hs
      split at hs
      · refine lv_if_eq hx hb hd (of_decide_eq_true hok2) (fun q => ?_) (fun q => ?_)
        · rw [if_pos q] at hs
          cases hs
          exact k H locs lC hP hS hl
        · rw [if_neg q] at hs
          cases hs
          exact k H locs lC hP hS hl
      · cases hs
    | ne =>
      simp only [rf_st] at hs
      split at hs
      · refine lv_if_ne hx hb hd (of_decide_eq_true hok2) (fun q => ?_) (fun q => ?_)
        · rw [if_pos q] at hs
          cases hs
          exact k H locs lC hP hS hl
        · rw [if_neg (fun z => z q)] at hs
          cases hs
          exact k H locs lC hP hS hl
      · cases hs
    | lt =>
      simp only [rf_st] at hs
      split at hs
      · refine lv_if_lt hx hb hd (of_decide_eq_true hok2) (fun q => ?_) (fun q => ?_)
        · rw [if_pos q] at hs
          cases hs
          exact k H locs lC hP hS hl
        · rw [if_neg q] at hs
          cases hs
          exact k H locs lC hP hS hl
      · cases hs
    | ge =>
      simp only [rf_st] at hs
      split at hs
      · refine lv_if_ge hx hb hd (of_decide_eq_true hok2) (fun q => ?_) (fun q => ?_)
        · rw [if_pos q] at hs
          cases hs
          exact k H locs lC hP hS hl
        · rw [if_neg q] at hs
          cases hs
          exact k H locs lC hP hS hl
      · cases hs
    | gt =>
      simp only [rf_st] at hs
      split at hs
      · refine lv_if_gt hx hb hd (of_decide_eq_true hok2) (fun q => ?_) (fun q => ?_)
        · rw [if_pos q] at hs
          cases hs
          exact k H locs lC hP hS hl
        · rw [if_neg q] at hs
          cases hs
          exact k H locs lC hP hS hl
      · cases hs
    | le =>
      simp only [rf_st] at hs
      split at hs
      · refine lv_if_le hx hb hd (of_decide_eq_true hok2) (fun q => ?_) (fun q => ?_)
        · rw [if_pos q] at hs
          cases hs
          exact k H locs lC hP hS hl
        · rw [if_neg q] at hs
          cases hs
          exact k H locs lC hP hS hl
      · cases hs
  | if_icmp cnd off =>
    cases cnd with
    | eq =>
      simp only [rf_st] at hs
      split at hs
      · refine lv_icmp_eq hx hb hd (of_decide_eq_true hok2) (fun q => ?_) (fun q => ?_)
        · rw [if_pos q] at hs
          cases hs
          exact k H locs lC hP hS hl
        · rw [if_neg q] at hs
          cases hs
          exact k H locs lC hP hS hl
      · cases hs
    | ne =>
      simp only [rf_st] at hs
      split at hs
      · refine lv_icmp_ne hx hb hd (of_decide_eq_true hok2) (fun q => ?_) (fun q => ?_)
        · rw [if_pos q] at hs
          cases hs
          exact k H locs lC hP hS hl
        · rw [if_neg (fun z => z q)] at hs
          cases hs
          exact k H locs lC hP hS hl
      · cases hs
    | lt =>
      simp only [rf_st] at hs
      split at hs
      · refine lv_icmp_lt hx hb hd (of_decide_eq_true hok2) (fun q => ?_) (fun q => ?_)
        · rw [if_pos q] at hs
          cases hs
          exact k H locs lC hP hS hl
        · rw [if_neg q] at hs
          cases hs
          exact k H locs lC hP hS hl
      · cases hs
    | ge =>
      simp only [rf_st] at hs
      split at hs
      · refine lv_icmp_ge hx hb hd (of_decide_eq_true hok2) (fun q => ?_) (fun q => ?_)
        · rw [if_pos q] at hs
          cases hs
          exact k H locs lC hP hS hl
        · rw [if_neg q] at hs
          cases hs
          exact k H locs lC hP hS hl
      · cases hs
    | gt =>
      simp only [rf_st] at hs
      split at hs
      · refine lv_icmp_gt hx hb hd (of_decide_eq_true hok2) (fun q => ?_) (fun q => ?_)
        · rw [if_pos q] at hs
          cases hs
          exact k H locs lC hP hS hl
        · rw [if_neg q] at hs
          cases hs
          exact k H locs lC hP hS hl
      · cases hs
    | le =>
      simp only [rf_st] at hs
      split at hs
      · refine lv_icmp_le hx hb hd (of_decide_eq_true hok2) (fun q => ?_) (fun q => ?_)
        · rw [if_pos q] at hs
          cases hs
          exact k H locs lC hP hS hl
        · rw [if_neg q] at hs
          cases hs
          exact k H locs lC hP hS hl
      · cases hs
  | goto off =>
    simp only [rf_st] at hs
    cases hs
    exact lv_goto hx hb hd (of_decide_eq_true hok2) (k H locs lC hP hS hl)
  | getfield n =>
    simp only [rf_st] at hs
    split at hs
    · rename_i c0 r0
      split at hs
      · rename_i q hq
        split at hs
        · rename_i hqx
          split at hs
          · rename_i t ht
            cases hs
            obtain ⟨cq, h1, h2, h3⟩ := rf_wf_obj hw hq
            obtain ⟨g1, ty0, g2, g3⟩ := rf_cls_in h1
            have hj : x % 100 < cq.2.2 := by rw [← h2]; exact (List.getElem?_eq_some_iff.mp ht).1
            have hv : (q.2.mapIdx (fun j t => rf_cv ad (rf_fv σ c0 j t)))[x % 100]? = some (rf_cv ad (rf_fv σ c0 (x % 100) t)) := by rw [List.getElem?_mapIdx, ht]; rfl
            have h1' : vwCl[x / 100]? = some cq := by rw [← hqx]; exact h1
            rcases (Bool.or_eq_true _ _ ▸ hok2 : _ ∨ _) with hf | hf
            · have hf := of_decide_eq_true hf
              exact va_get (C := cq.1) (T := cq.2.1) (N := cq.2.2) hx hb hts (fun w hw => rf_tbw (g1 w hw)) hown hK hP c0 (rf_w_at hq) h1 (x % 100) hj (hts _ (rf_tbw ((rf_fT_in hf h1').1 rfl))) (fun _ h9 => h9) hv hd (k H locs lC hP hS hl)
            · have hf := of_decide_eq_true hf
              exact va_getN (C := cq.1) (T := cq.2.1) (N := cq.2.2) hx hb hts (fun w hw => rf_tbw (g1 w hw)) hown hK hP c0 (rf_w_at hq) h1 (x % 100) hj ((hN _ ((rf_fT_in hf h1').2 rfl)).use rfl) (fun _ h9 => h9) hv hd (k H locs lC hP hS hl)
          · cases hs
        · cases hs
      · cases hs
    · cases hs
  | putfield n =>
    simp only [rf_st] at hs
    split at hs
    · rename_i a c0 r0
      split at hs
      · rename_i q hq
        split at hs
        · rename_i hqx
          split at hs
          · rename_i ht
            cases hs
            obtain ⟨cq, h1, h2, h3⟩ := rf_wf_obj hw hq
            obtain ⟨g1, ty0, g2, g3⟩ := rf_cls_in h1
            have hj : x % 100 < cq.2.2 := by rw [← h2]; exact (List.getElem?_eq_some_iff.mp ht).1
            obtain ⟨e1, e2⟩ := (h3 (x % 100)).1 ht
            have h1' : vwCl[x / 100]? = some cq := by rw [← hqx]; exact h1
            have hjl : x % 100 < (q.2.mapIdx (fun j t => rf_cv ad (rf_fv σ c0 j t))).length := by simpa using (List.getElem?_eq_some_iff.mp ht).1
            rcases (Bool.or_eq_true _ _ ▸ hok2 : _ ∨ _) with hf | hf
            · have hf := of_decide_eq_true hf
              refine va_put (C := cq.1) (T := cq.2.1) (N := cq.2.2) (ty := .int) hx hb hts (fun w hw => rf_tbw (g1 w hw)) ty0 g2 g3 hown hK hP (hD σ) hS c0 (rf_w_at hq) h1 (x % 100) hj (hts _ (rf_tbw ((rf_fT_in hf h1').1 rfl))) (fun _ h9 => h9) e2 (by rw [e1]; exact rf_pI) rfl rfl hjl hd (fun H1 locs1 hP1 _ hS1 => k H1 locs1 lC ?_ hS1 hl)
              exact cast (congrArg (fun z => va_P D vwCl z H1) (rf_w_setI (ca := ca) (ad := ad) (σ := σ) hq ht a)) hP1
            · have hf := of_decide_eq_true hf
              refine va_putN (C := cq.1) (T := cq.2.1) (N := cq.2.2) (ty := .int) hx hb hts (fun w hw => rf_tbw (g1 w hw)) ty0 g2 g3 hown hK hP (hD σ) hS c0 (rf_w_at hq) h1 (x % 100) hj ((hN _ ((rf_fT_in hf h1').2 rfl)).use rfl) (fun _ h9 => h9) e2 (by rw [e1]; exact rf_pI) rfl rfl hjl hd (fun H1 locs1 hP1 _ hS1 => k H1 locs1 lC ?_ hS1 hl)
              exact cast (congrArg (fun z => va_P D vwCl z H1) (rf_w_setI (ca := ca) (ad := ad) (σ := σ) hq ht a)) hP1
          · cases hs
        · cases hs
      · cases hs
    · rename_i a c0 r0
      split at hs
      · rename_i q hq
        split at hs
        · rename_i hqx
          split at hs
          · rename_i ht
            cases hs
            obtain ⟨cq, h1, h2, h3⟩ := rf_wf_obj hw hq
            obtain ⟨g1, ty0, g2, g3⟩ := rf_cls_in h1
            have hj : x % 100 < cq.2.2 := by rw [← h2]; exact (List.getElem?_eq_some_iff.mp ht).1
            obtain ⟨e1, e2⟩ := (h3 (x % 100)).2 ht
            have h1' : vwCl[x / 100]? = some cq := by rw [← hqx]; exact h1
            have hjl : x % 100 < (q.2.mapIdx (fun j t => rf_cv ad (rf_fv σ c0 j t))).length := by simpa using (List.getElem?_eq_some_iff.mp ht).1
            rcases (Bool.or_eq_true _ _ ▸ hok2 : _ ∨ _) with hf | hf
            · have hf := of_decide_eq_true hf
              refine va_put (C := cq.1) (T := cq.2.1) (N := cq.2.2) (ty := .long) hx hb hts (fun w hw => rf_tbw (g1 w hw)) ty0 g2 g3 hown hK hP (hD σ) hS c0 (rf_w_at hq) h1 (x % 100) hj (hts _ (rf_tbw ((rf_fT_in hf h1').1 rfl))) (fun _ h9 => h9) e2 (by rw [e1]; exact rf_pJ) rfl rfl hjl hd (fun H1 locs1 hP1 _ hS1 => k H1 locs1 lC ?_ hS1 hl)
              exact cast (congrArg (fun z => va_P D vwCl z H1) (rf_w_setL (ca := ca) (ad := ad) (σ := σ) hq ht a)) hP1
            · have hf := of_decide_eq_true hf
              refine va_putN (C := cq.1) (T := cq.2.1) (N := cq.2.2) (ty := .long) hx hb hts (fun w hw => rf_tbw (g1 w hw)) ty0 g2 g3 hown hK hP (hD σ) hS c0 (rf_w_at hq) h1 (x % 100) hj ((hN _ ((rf_fT_in hf h1').2 rfl)).use rfl) (fun _ h9 => h9) e2 (by rw [e1]; exact rf_pJ) rfl rfl hjl hd (fun H1 locs1 hP1 _ hS1 => k H1 locs1 lC ?_ hS1 hl)
              exact cast (congrArg (fun z => va_P D vwCl z H1) (rf_w_setL (ca := ca) (ad := ad) (σ := σ) hq ht a)) hP1
          · cases hs
        · cases hs
      · cases hs
    · cases hs
  | arraylength =>
    simp only [rf_st] at hs
    split at hs
    · rename_i c0 r0
      split at hs
      · rename_i hc
        cases hs
        unfold rf_isA at hc
        split at hc
        · rename_i q hq
          refine va_alen hx hb hK hP c0 q.1 (rf_w_at hq) (rf_ty_at (rf_wf_arr hw hq).1) ?_ hd (k H locs lC hP hS hl)
          simp only [rf_len]
          rw [hq]
        · cases hc
      · cases hs
    · cases hs
  | iaload =>
    simp only [rf_st] at hs
    split at hs
    · rename_i j c0 r0
      split at hs
      · rename_i hc
        cases hs
        obtain ⟨hc1, hc2⟩ := (Bool.and_eq_true _ _ ▸ hc : _ ∧ _)
        obtain ⟨n, rs, hq, hn⟩ := rf_kd_at hc1
        rw [hn] at hc2
        exact va_iald hx hb hK hP c0 0 (rf_w_at hq) rfl (rf_in_vp hc2) hd (k H locs lC hP hS hl)
      · cases hs
    · cases hs
  | baload =>
    simp only [rf_st] at hs
    split at hs
    · rename_i j c0 r0
      split at hs
      · rename_i hc
        cases hs
        obtain ⟨hc1, hc2⟩ := (Bool.and_eq_true _ _ ▸ hc : _ ∧ _)
        obtain ⟨n, rs, hq, hn⟩ := rf_kd_at hc1
        rw [hn] at hc2
        exact va_bald hx hb hK hP c0 1 (rf_w_at hq) rfl (rf_in_vp hc2) hd (k H locs lC hP hS hl)
      · cases hs
    · cases hs
  | aaload =>
    simp only [rf_st] at hs
    split at hs
    · rename_i j c0 r0
      split at hs
      · rename_i hc
        cases hs
        obtain ⟨hc1, hc2⟩ := (Bool.and_eq_true _ _ ▸ hc : _ ∧ _)
        have hlt : ∀ n, rf_in j n = true → j.toNatClampNeg < n := fun n h => by
          simp only [rf_in, Bool.and_eq_true, decide_eq_true_eq] at h
          exact h.2
        have go : ∀ (kd n : Nat) (rs : List Nat), ly[c0]? = some (.inr (kd, n, rs)) → rf_len ly c0 = n → ¬ kd < 2 → (∀ U : State, va_K D vwCl (rf_ty ca) U → ∀ (n : Nat) (z : Nat → Value), ∃ t : FieldType, U.isArrayOf (arrV (ca kd) n z) (.array t)) → W p l e (rf_rm (d + 1)) s m args below meth c H locs 0 0 (MQ below (rf_Q ly D ca ad A r σ') args s 0 0 A) (F0 m pc lC ((Value.int j :: Value.ref c0 :: r0).map (rf_cv ad))) := by
          intro kd n rs hq hn hk2 hty
          have hrs := (rf_wf_arr hw hq).2 hk2
          rw [hn] at hc2
          have hj := hlt n hc2
          have hcell : H[ad c0]? = some (arrV (ca kd) n (fun i => va_rf ((rs[i]?).map ad))) := by
            have h9 := hP c0 _ (rf_w_at hq)
            simp only [rf_ce, if_neg hk2] at h9
            exact h9
          obtain ⟨t, ht⟩ := hty s hK n (fun i => va_rf ((rs[i]?).map ad))
          have hget : rs[j.toNatClampNeg]? = some (rf_ra ly c0 j.toNatClampNeg) := by
            have h8 : j.toNatClampNeg < rs.length := by rw [hrs]; exact hj
            unfold rf_ra
            rw [hq]
            simp [h8]
          exact W.aald (v := .ref (ad (rf_ra ly c0 j.toNatClampNeg))) (ty := .array t) hx hb hcell ht rfl (fun q => by cases q) (by rw [arrV_size]; exact rf_in_vp hc2) (by rw [arrV_read _ _ hj, hget]; rfl) rfl rfl hd (k H locs lC hP hS hl)
        rcases (Bool.or_eq_true _ _ ▸ hc1 : _ ∨ _) with h1 | h1
        · obtain ⟨n, rs, hq, hn⟩ := rf_kd_at h1
          exact go 2 n rs hq hn (by decide) (fun U hU n z => ⟨.int, (hU.2 2 _ rfl).1 n z⟩)
        · obtain ⟨n, rs, hq, hn⟩ := rf_kd_at h1
          exact go 3 n rs hq hn (by decide) (fun U hU n z => ⟨.byte, (hU.2 3 _ rfl).1 n z⟩)
      · cases hs
    · cases hs
  | iastore =>
    simp only [rf_st] at hs
    split at hs
    · rename_i a j c0 r0
      split at hs
      · rename_i hc
        cases hs
        obtain ⟨hc1, hc2⟩ := (Bool.and_eq_true _ _ ▸ hc : _ ∧ _)
        obtain ⟨n, rs, hq, hn⟩ := rf_kd_at hc1
        rw [hn] at hc2
        refine va_iast hx hb hK hP (hD σ) hS c0 0 (rf_w_at hq) rfl (rf_in_vp hc2) hd (fun H1 locs1 hP1 _ hS1 => k H1 locs1 lC ?_ hS1 hl)
        exact cast (congrArg (fun z => va_P D vwCl z H1) (rf_w_setA (ca := ca) (ad := ad) (σ := σ) hq (show (0 : Nat) < 2 by decide) _)) hP1
      · cases hs
    · cases hs
  | bastore =>
    simp only [rf_st] at hs
    split at hs
    · rename_i a j c0 r0
      split at hs
      · rename_i hc
        cases hs
        obtain ⟨hc1, hc2⟩ := (Bool.and_eq_true _ _ ▸ hc : _ ∧ _)
        obtain ⟨n, rs, hq, hn⟩ := rf_kd_at hc1
        rw [hn] at hc2
        refine va_bast hx hb hK hP (hD σ) hS c0 1 (rf_w_at hq) rfl (rf_in_vp hc2) hd (fun H1 locs1 hP1 _ hS1 => k H1 locs1 lC ?_ hS1 hl)
        exact cast (congrArg (fun z => va_P D vwCl z H1) (rf_w_setA (ca := ca) (ad := ad) (σ := σ) hq (show (1 : Nat) < 2 by decide) _)) hP1
      · cases hs
    · cases hs
  | invokestatic n =>
    simp only [rf_st] at hs
    have hB : (st.map fun v => v.category).sum ≤ 20 := hB0.elim id (fun h => absurd rfl (h n))
    have hin := of_decide_eq_true hok2
    have hlk := rf_aT_ok _ hin
    split at hs
    · rename_i hx0
      subst hx0
      split at hs
      · rename_i n0 dp b sp a r0
        split at hs
        · rename_i hc
          cases hs
          simp only [rf_cp, Bool.and_eq_true, decide_eq_true_eq] at hc
          obtain ⟨⟨⟨⟨⟨⟨c1, c2⟩, c3⟩, c4⟩, c5⟩, c6⟩, c7⟩ := hc
          obtain ⟨n1, rs1, hq1, hn1⟩ := rf_kd_at c1
          obtain ⟨n2, rs2, hq2, hn2⟩ := rf_kd_at c2
          rw [hn1] at c6
          rw [hn2] at c7
          refine va_copyi hx hb (by rw [hml]; exact hl.2.1.symm) hown (hts _ (rf_tbw (rf_in_tb hlk rfl))) (hts _ (rf_tbw (rf_in_tb rf_ac_ok.1 rfl))) (hts _ (rf_tbw (rf_in_tb rf_ac_ok.2.1 rfl))) (hts _ (rf_tbw (rf_in_tb rf_ac_ok.2.2 rfl))) hK hP (hD σ) hS a b 0 0 (rf_w_at hq1) (rf_w_at hq2) rfl rfl rfl c3 c4 c5 c6 c7 (fun _ _ => rfl) (Nat.succ_le_succ (Nat.zero_le d)) ?_ hd (fun H1 locs1 hP1 _ hS1 => k H1 locs1 lC ?_ hS1 hl)
          · rw [rf_cv_map_cat]
            have h9 : (r0.map fun v => v.category).sum ≤ 20 := by simp only [List.map_cons, List.sum_cons] at hB; omega
            have h8 : nativeFrameWords "java/lang/System" "arraycopy" 5 ≤ 15 := by decide +kernel
            show _ ≤ 50 * (d + 1)
            omega
          · exact cast (congrArg (fun z => va_P D vwCl z H1) (rf_w_setA (ca := ca) (ad := ad) (σ := σ) hq2 (show (0 : Nat) < 2 by decide) _)) hP1
        · cases hs
      · cases hs
    · split at hs
      · rename_i hx0 hx1
        subst hx1
        split at hs
        · rename_i a r0
          cases hs
          refine va_mabs hx hb (by rw [hml]; exact hl.2.1.symm) hown (hts _ (rf_tbw (rf_in_tb hlk rfl))) (hts _ (rf_tbw (rf_in_tb rf_abs_ok.1 rfl))) (hts _ (rf_tbw (rf_in_tb (rf_iT_ok 12 (by decide)) rfl))) (hts _ (rf_tbw (rf_in_tb rf_abs_ok.2 rfl))) (Nat.succ_le_succ (Nat.zero_le d)) ?_ (Nat.le_refl _) (Nat.le_refl _) hd (k H locs lC hP hS hl)
          rw [rf_cv_map_cat]
          have h9 : (r0.map fun v => v.category).sum ≤ 20 := by simp only [List.map_cons, List.sum_cons] at hB; omega
          show _ ≤ 50 * (d + 1)
          omega
        · cases hs
      · split at hs
        · rename_i hx0 hx1 hx2
          subst hx2
          split at hs
          · rename_i b a r0
            cases hs
            refine va_mmax hx hb (by rw [hml]; exact hl.2.1.symm) hown (hts _ (rf_tbw (rf_in_tb hlk rfl))) (hts _ (rf_tbw (rf_in_tb rf_max_ok.1 rfl))) (hts _ (rf_tbw (rf_in_tb (rf_iT_ok 12 (by decide)) rfl))) (hts _ (rf_tbw (rf_in_tb rf_max_ok.2 rfl))) (Nat.succ_le_succ (Nat.zero_le d)) ?_ (Nat.le_refl _) (Nat.le_refl _) hd (k H locs lC hP hS hl)
            rw [rf_cv_map_cat]
            have h9 : (r0.map fun v => v.category).sum ≤ 20 := by simp only [List.map_cons, List.sum_cons] at hB; omega
            show _ ≤ 50 * (d + 1)
            omega
          · cases hs
        · split at hs
          · rename_i hx0 hx1 hx2 hx3
            subst hx3
            split at hs
            · rename_i b a r0
              cases hs
              refine va_mmin hx hb (by rw [hml]; exact hl.2.1.symm) hown (hts _ (rf_tbw (rf_in_tb hlk rfl))) (hts _ (rf_tbw (rf_in_tb rf_min_ok.1 rfl))) (hts _ (rf_tbw (rf_in_tb (rf_iT_ok 12 (by decide)) rfl))) (hts _ (rf_tbw (rf_in_tb rf_min_ok.2 rfl))) (Nat.succ_le_succ (Nat.zero_le d)) ?_ (Nat.le_refl _) (Nat.le_refl _) hd (k H locs lC hP hS hl)
              rw [rf_cv_map_cat]
              have h9 : (r0.map fun v => v.category).sum ≤ 20 := by simp only [List.map_cons, List.sum_cons] at hB; omega
              show _ ≤ 50 * (d + 1)
              omega
            · cases hs
          · cases hs
  | _ => exact absurd hs (by simp [rf_st])
