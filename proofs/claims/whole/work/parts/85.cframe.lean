/-! ===== constructors: the frame ===== -/
def cf_E (own : String) (cc : ByteArray) (nL : Nat) (p : Program) (s : State) (m : MethodId) (args : Array Value) (c : Code) (D : va_G) (ca : Nat → ClassId) (tk : Nat) (A : Nat → Prop) : Prop :=
  p.tables.exec = Jvm.exec ∧ c.code = cc ∧ c.maxLocals = nL ∧ s.vm.findClass own = some m.cls ∧ (∀ w ∈ rf_tb, w.before args s = true) ∧ va_K D vwCl (rf_ty ca) s ∧ (∀ w ∈ rf_nw, va_Nw w s) ∧ (∀ q : Nat, s.heap.size ≤ q → A q) ∧ va_Z "FeltCold" "KIND_SIGNS" "[I" (.ref tk) A s s.heap ∧ va_T .int tk 6 rf_ks A s s.heap ∧ mu_AO .int s ∧ mu_AO .byte s
def cf_G (p : Program) (l : Launch) (e : Env) (R : Room) (s : State) (m : MethodId) (args : Array Value) (below : List Frame) (meth : Method) (c : Code) (D : va_G) (A : Nat → Prop) (Q : State → Prop) (ws : va_W) (cells slots pc : Nat) (lC : Array Slot) (st : List Value) : Prop :=
  ∀ (H : Heap) (locs : List Loc), va_P D vwCl ws H → va_D A ws → va_S A s.heap H locs → W p l e R s m args below meth c H locs cells slots Q (F0 m pc lC st)
def cf_X (D : va_G) (ca : Nat → ClassId) (tk : Nat) (A : Nat → Prop) (U : State) : Prop := va_K D vwCl (rf_ty ca) U ∧ (∀ w ∈ rf_nw, va_Nw w U) ∧ va_Z "FeltCold" "KIND_SIGNS" "[I" (.ref tk) A U U.heap ∧ va_T .int tk 6 rf_ks A U U.heap ∧ mu_AO .int U ∧ mu_AO .byte U
def cf_rm (d mc ms : Nat) : Room := { frames := d, cells := mc, slots := ms, locals := 50 * d }
def cf_Pc (D : va_G) (ca : Nat → ClassId) (tk sz h0 : Nat) (en : va_E) : Array Value → State → Prop := va_Pc [.ref h0] (fun U => U.heap.size = sz ∧ va_P D vwCl [(h0, en)] U.heap ∧ va_D (fun _ => True) [(h0, en)] ∧ cf_X D ca tk (va_A [(h0, en)] sz) U)
def cf_Qc (D : va_G) (ca : Nat → ClassId) (sz h0 : Nat) (en : va_E) (Bl : (Nat → ClassId) → Nat → va_W → Prop) : Array Value → State → Outcome → State → Prop := va_Qv (fun w : va_W => Bl ca h0 w) (fun w t => va_P D vwCl w t.heap ∧ va_D (va_A [(h0, en)] sz) w) (va_A [(h0, en)] sz)
def cf_Ex (M : rf_M) (d mc ms : Nat) (en : va_E) (Bl : (Nat → ClassId) → Nat → va_W → Prop) : Prop := ∀ (l : Launch) (D : va_G) (ca : Nat → ClassId) (tk sz h0 : Nat), Met l M.2.1 (rf_ws M) (cf_rm d mc ms) (cf_Pc D ca tk sz h0 en) (cf_Qc D ca sz h0 en Bl) mc ms (va_A [(h0, en)] sz)
theorem nd_of : ∀ l : List Nat, l.Nodup → va_nd l = true
  | [], _ => rfl
  | a :: l, h => by
    obtain ⟨h1, h2⟩ := List.nodup_cons.mp h
    simp only [va_nd, Bool.and_eq_true, decide_eq_true_eq]
    exact ⟨h1, nd_of l h2⟩
theorem rng_map (wr w1 : va_W) : (List.range wr.length).map (fun i => (wr ++ w1)[i]?) = wr.map some := by
  apply List.ext_getElem?
  intro i
  rw [List.getElem?_map, List.getElem?_map]
  by_cases h : i < wr.length
  · rw [List.getElem?_range h, List.getElem?_eq_getElem h]
    simp only [Option.map_some]
    rw [List.getElem?_append_left h, List.getElem?_eq_getElem h]
  · rw [List.getElem?_eq_none (by rw [List.length_range]; omega), List.getElem?_eq_none (by omega)]
    rfl
theorem last_map (wr : va_W) (z : Nat × va_E) : [wr.length].map (fun i => (wr ++ [z])[i]?) = [z].map some := by
  simp
/-- the callee's one cell gave w1; the rest is as it was -/
theorem cf_join {A0 : Nat → Prop} {D : va_G} {wr w1 : va_W} {z : Nat × va_E} {H H1 : Heap} (hP : va_P D vwCl (wr ++ [z]) H) (hD : va_D A0 (wr ++ [z])) (hk : ∀ q : Nat, q < H.size → ¬ va_A [z] H.size q → H1[q]? = H[q]?) (hF : ∀ q, va_A [z] H.size q → A0 q) (hP1 : va_P D vwCl w1 H1) (hD1 : va_D (va_A [z] H.size) w1) : va_P D vwCl (wr ++ w1) H1 ∧ va_D A0 (wr ++ w1) :=
  va_join hP hD [wr.length] (List.range wr.length) (last_map wr z) (rng_map wr [z]) (nd_of _ List.nodup_range) (fun i hi h => by
    rw [List.mem_singleton] at h
    rw [List.mem_range] at hi
    omega) hk hF hP1 hD1
section CF
variable {p : Program} {l : Launch} {e : Env} {R : Room} {s : State} {m : MethodId} {args : Array Value} {below : List Frame} {meth : Method} {c : Code} {D : va_G} {ca : Nat → ClassId} {tk : Nat} {A : Nat → Prop} {Q : State → Prop} {own : String} {cc : ByteArray} {nL : Nat} {ws : va_W} {cells slots pc : Nat} {lC : Array Slot} {rest : List Value}
theorem cf_al (E : cf_E own cc nL p s m args c D ca tk A) {h0 : Nat} {lv : List (Nat × Value)} (hl : lv_has lC nL ((0, .ref h0) :: lv)) (hd : decode cc pc = .ok (.aload_n 0, 1)) (k : cf_G p l e R s m args below meth c D A Q ws cells slots (pc + 1) lC (.ref h0 :: rest)) : cf_G p l e R s m args below meth c D A Q ws cells slots pc lC rest := fun H locs hP hD hS => lv_aload_n E.1 E.2.1 hd rfl (lv_at hl 0 rfl) (k H locs hP hD hS)
theorem cf_ic (E : cf_E own cc nL p s m args c D ca tk A) {n : Int} {v : Int32} (hd : decode cc pc = .ok (.iconst n, 1)) (hv : Int32.ofInt n = v) (k : cf_G p l e R s m args below meth c D A Q ws cells slots (pc + 1) lC (.int v :: rest)) : cf_G p l e R s m args below meth c D A Q ws cells slots pc lC rest := fun H locs hP hD hS => lv_iconst E.1 E.2.1 hd hv (k H locs hP hD hS)
theorem cf_bp (E : cf_E own cc nL p s m args c D ca tk A) {n : Int} {v : Int32} (hd : decode cc pc = .ok (.bipush n, 2)) (hv : (Int8.ofInt n).toInt32 = v) (k : cf_G p l e R s m args below meth c D A Q ws cells slots (pc + 2) lC (.int v :: rest)) : cf_G p l e R s m args below meth c D A Q ws cells slots pc lC rest := fun H locs hP hD hS => lv_bipush E.1 E.2.1 hd hv (k H locs hP hD hS)
theorem cf_sp (E : cf_E own cc nL p s m args c D ca tk A) {n : Int} {v : Int32} (hd : decode cc pc = .ok (.sipush n, 3)) (hv : (Int16.ofInt n).toInt32 = v) (k : cf_G p l e R s m args below meth c D A Q ws cells slots (pc + 3) lC (.int v :: rest)) : cf_G p l e R s m args below meth c D A Q ws cells slots pc lC rest := fun H locs hP hD hS => lv_sipush E.1 E.2.1 hd hv (k H locs hP hD hS)
theorem cf_lc (E : cf_E own cc nL p s m args c D ca tk A) {n : Fin 2} {v : Int64} (hd : decode cc pc = .ok (.lconst n, 1)) (hv : Int64.ofNat (n : Nat) = v) (k : cf_G p l e R s m args below meth c D A Q ws cells slots (pc + 1) lC (.long v :: rest)) : cf_G p l e R s m args below meth c D A Q ws cells slots pc lC rest := fun H locs hP hD hS => lv_lconst E.1 E.2.1 hd hv (k H locs hP hD hS)
theorem cf_du (E : cf_E own cc nL p s m args c D ca tk A) {q : Nat} (hd : decode cc pc = .ok (.dup, 1)) (k : cf_G p l e R s m args below meth c D A Q ws cells slots (pc + 1) lC (.ref q :: .ref q :: rest)) : cf_G p l e R s m args below meth c D A Q ws cells slots pc lC (.ref q :: rest) := fun H locs hP hD hS => lv_dup E.1 E.2.1 hd rfl (k H locs hP hD hS)
theorem cf_ob (E : cf_E own cc nL p s m args c D ca tk A) {ix : Nat} {a : Nat} (i : Nat) (hw : cf_wl[i]? = some (.methodLink own ix Lib.objectInit)) (hl : lC.size = nL) (hd : decode cc pc = .ok (.invokespecial ix, 3)) (h1 : 1 ≤ R.frames) (h2 : 12 ≤ R.locals) (k : cf_G p l e R s m args below meth c D A Q ws cells slots (pc + 3) lC []) : cf_G p l e R s m args below meth c D A Q ws cells slots pc lC [.ref a] := by
  intro H locs hP hD hS
  obtain ⟨hx, hb, hml, hown, hts, -⟩ := E
  refine W.objInit hx hb hown (hts _ (cf_in i hw)) (hts _ (cf_in 2 rfl)) (hts _ (cf_in 3 rfl)) rfl (by rw [hml]; exact hl) rfl hd h1 (by show 2 * 0 + 0 + 12 ≤ R.locals; omega) ?_
  exact k H locs hP hD hS
theorem cf_ni (E : cf_E own cc nL p s m args c D ca tk A) {n : Int32} {N : Nat} (hd : decode cc pc = .ok (.newarray .int, 2)) (hn : ¬ n < 0) (hN : n.toNatClampNeg = N) (hb4 : N ≤ 10000) (h1 : cells + 1 ≤ R.cells) (h2 : slots + N ≤ R.slots) (k : ∀ q, cf_G p l e R s m args below meth c D A Q (ws ++ [(q, .inl (ca 0, N, .inl (fun _ => 0)))]) (cells + 1) (slots + N) (pc + 2) lC (.ref q :: rest)) : cf_G p l e R s m args below meth c D A Q ws cells slots pc lC (.int n :: rest) := by
  intro H locs hP hD hS
  obtain ⟨hx, hb, hml, hown, hts, hK, hN1, hA, -⟩ := E
  refine va_newa (atype := .int) (ty := .int) (a0 := (N, .inl (fun _ => 0))) hx hb (hts _ (cf_in 0 rfl)) rfl hK hP hD hS hA (fun cA => rfl) hn hN (by show N * 4 ≤ 536870912; omega) h1 h2 hd (fun q cA H1 hK1 hP1 hD1 hS1 => ?_)
  have e1 := va_nm_int (hK1.2 4 (cA, .int) rfl).2
  have e2 := va_nm_int (hK.2 0 (ca 0, .int) rfl).2
  have e3 : cA = ca 0 := Option.some.inj (e1.symm.trans e2)
  subst e3
  exact k q H1 locs hP1 hD1 hS1
theorem cf_pf (E : cf_E own cc nL p s m args c D ca tk A) {ci : Nat} {C : String} {T : u_T} {N ix a : Nat} {fs : List Value} {wr : va_W} {v : Value} (hc : vwCl[ci]? = some (C, T, N)) (hCo : C = own) (hty : ∃ ty0 : Nat → FieldType, (∀ k, k < N → parseFieldDescriptor (T k).2.2.1 = some (ty0 k)) ∧ (∀ a, a < N → ∀ b, b < N → a ≠ b → (T a).2.1 ≠ (T b).2.1)) (hin : ∀ w ∈ u_ws C T N, w ∈ rf_tb) (j : Nat) (hj : j < N) (hlk : Cond.fieldLink own ix (T j).1 (T j).2.1 (T j).2.2.1 ∈ rf_tb) (hname : meth.name = "<init>") (hdecl : (T j).1 = own) {ty : FieldType} (hp : parseFieldDescriptor (T j).2.2.1 = some ty) (hn : narrow ty v = v) (hf : fits ty v = true) (hl : j < fs.length) (hd : decode cc pc = .ok (.putfield ix, 3)) (k : cf_G p l e R s m args below meth c D A Q ((a, .inr (ci, fs.set j v)) :: wr) cells slots (pc + 3) lC rest) : cf_G p l e R s m args below meth c D A Q ((a, .inr (ci, fs)) :: wr) cells slots pc lC (v :: .ref a :: rest) := by
  intro H locs hP hD hS
  obtain ⟨hx, hb, hml, hown, hts, hK, -⟩ := E
  obtain ⟨ty0, g2, g3⟩ := hty
  cases hfin : (T j).2.2.2 with
  | true => exact va_putF (C := C) (T := T) (N := N) (Ts := rf_tb) hx hb hts hin ty0 g2 g3 hown hK hP hD hS 0 rfl hc j hj (hts _ hlk) (fun _ h9 => h9) hfin hname hdecl hp hn hf hl hd (fun H1 locs1 hP1 hD1 hS1 => k H1 locs1 hP1 hD1 hS1)
  | false => exact va_put (C := C) (T := T) (N := N) (Ts := rf_tb) hx hb hts hin ty0 g2 g3 hown hK hP hD hS 0 rfl hc j hj (hts _ hlk) (fun _ h9 => h9) hfin hp hn hf hl hd (fun H1 locs1 hP1 hD1 hS1 => k H1 locs1 hP1 hD1 hS1)
theorem cf_gf (E : cf_E own cc nL p s m args c D ca tk A) {ci : Nat} {C : String} {T : u_T} {N ix a : Nat} {fs : List Value} {wr : va_W} {v : Value} (hc : vwCl[ci]? = some (C, T, N)) (hin : ∀ w ∈ u_ws C T N, w ∈ rf_tb) (j : Nat) (hj : j < N) (hlk : Cond.fieldLink own ix (T j).1 (T j).2.1 (T j).2.2.1 ∈ rf_tb) (hv : fs[j]? = some v) (hd : decode cc pc = .ok (.getfield ix, 3)) (k : cf_G p l e R s m args below meth c D A Q ((a, .inr (ci, fs)) :: wr) cells slots (pc + 3) lC (v :: rest)) : cf_G p l e R s m args below meth c D A Q ((a, .inr (ci, fs)) :: wr) cells slots pc lC (.ref a :: rest) := by
  intro H locs hP hD hS
  obtain ⟨hx, hb, hml, hown, hts, hK, -⟩ := E
  exact va_get (C := C) (T := T) (N := N) (Ts := rf_tb) hx hb hts hin hown hK hP 0 rfl hc j hj (hts _ hlk) (fun _ h9 => h9) hv hd (k H locs hP hD hS)
theorem cf_nw (E : cf_E own cc nL p s m args c D ca tk A) {ci : Nat} {C : String} {T : u_T} {N ix : Nat} {fs : List Value} (hc : vwCl[ci]? = some (C, T, N)) (ty0 : Nat → FieldType) (hty : ∀ k, k < N → parseFieldDescriptor (T k).2.2.1 = some (ty0 k)) (hin : ∀ w ∈ u_ws C T N, w ∈ rf_tb) (i1 i2 : Nat) (hw1 : cf_wl[i1]? = some (.classLink own ix C)) (hw2 : cf_wl[i2]? = some (.instantiable C N)) (hini : Cond.initialized C ∈ rf_tb) (hfs : ∀ j, j < N → defaultValue (ty0 j) = vp_V fs j) (h1 : cells + 1 ≤ R.cells) (h2 : slots + N ≤ R.slots) (hd : decode cc pc = .ok (.new ix, 3)) (k : ∀ q, cf_G p l e R s m args below meth c D A Q (ws ++ [(q, .inr (ci, fs))]) (cells + 1) (slots + N) (pc + 3) lC (.ref q :: rest)) : cf_G p l e R s m args below meth c D A Q ws cells slots pc lC rest := by
  intro H locs hP hD hS
  obtain ⟨hx, hb, hml, hown, hts, hK, hN1, hA, -⟩ := E
  exact va_new (ci := ci) (fs := fs) (C := C) (T := T) (N := N) (Ts := rf_tb) hx hb hts hin ty0 hty hown (hts _ (cf_in i1 hw1)) (hts _ (cf_in i2 hw2)) (hts _ hini) hK hP hD hS hA hc hfs h1 h2 hd (fun q H1 hP1 hD1 hS1 => k q H1 locs hP1 hD1 hS1)
theorem cf_blind (D : va_G) (ca : Nat → ClassId) (tk sz h0 : Nat) (en : va_E) : FrameBlind (cf_Pc D ca tk sz h0 en) := fun a U g mk q => by
  obtain ⟨q0, q1, qP, qD, qK, qN, qZ, qT, qA, qB⟩ := q
  exact ⟨q0, q1, qP, qD, va_K.moved (u := U) (U := U.calling g mk a) (Vm.Alike.refl U.vm) qK, fun w hw => rf_nws hw (show U.vm = (U.calling g mk a).vm from rfl) (qN w hw), va_Z.moved (u := U) (U := U.calling g mk a) (Vm.Alike.refl U.vm) qZ, va_T.moved (u := U) (U := U.calling g mk a) (Vm.Alike.refl U.vm) qT, qA.moved (U := U.calling g mk a) (Vm.Alike.refl U.vm), qB.moved (U := U.calling g mk a) (Vm.Alike.refl U.vm)⟩
theorem cf_ca (E : cf_E own cc nL p s m args c D ca tk A) {Mt : rf_M} (hmt : Mt ∈ cf_ms) (hiy : Mt.2.1.name = "<init>") (hret : Mt.2.2.2.2.1 = none) (hnp : Mt.2.2.2.2.2.1 = 0) {d mc ms : Nat} {en : va_E} {Bl : (Nat → ClassId) → Nat → va_W → Prop} (hex : cf_Ex Mt d mc ms en Bl) {wr : va_W} {q ix : Nat} (hlk : (∃ i : Nat, cf_wl[i]? = some (Cond.methodLink own ix Mt.2.1)) ∨ ∃ i : Nat, cf_nl[i]? = some (Cond.methodLinkNest own ix Mt.2.1 "FeltCold")) (hl : lC.size = nL) (hrs : (rest.map fun v => v.category).sum ≤ 8) (hfr : d + 1 ≤ R.frames) (hlo : 8 + (20 + 11) + 50 * d ≤ R.locals) (h1 : cells + mc ≤ R.cells) (h2 : slots + ms ≤ R.slots) (hd : decode cc pc = .ok (.invokespecial ix, 3)) (k : ∀ w1, Bl ca q w1 → cf_G p l e R s m args below meth c D A Q (wr ++ w1) (cells + mc) (slots + ms) (pc + 3) lC rest) : cf_G p l e R s m args below meth c D A Q (wr ++ [(q, en)]) cells slots pc lC (.ref q :: rest) := by
  intro H locs hP hD hS
  obtain ⟨hx, hb, hml, hown, hts, hK, hN, hA, hZ, hT, hO1, hO2⟩ := E
  obtain ⟨q1, q2, q3, q4, q5, q6, q7⟩ := rf_mq_spec (cf_ms_q _ hmt)
  have hgood : GoodIn rf_tb (rf_ws Mt) := rf_good Mt (fun w h => h) (cf_ms_c _ hmt)
  have hini : (Cond.initialized Mt.2.1.cls).before args s = true := by rw [q2]; exact hts _ (rf_ini q3)
  have hinst : (Cond.instanceMethod Mt.2.1).before args s = true := hts _ (rf_in_tb (cf_ms_n _ hmt) rfl)
  have hFc : ∀ z, va_A [(q, en)] H.size z → A z := va_free (wc := [(q, en)]) hD hS hA [wr.length] (last_map wr (q, en))
  have hPc : va_P D vwCl [(q, en)] H := hP.sub (ws' := [(q, en)]) [wr.length] (by simp)
  have hDc : va_D (fun _ => True) [(q, en)] := (hD.sub (ws' := [(q, en)]) [wr.length] rfl (last_map wr (q, en))).weaken (fun _ _ _ _ => trivial)
  have hpre : PreS s H (cf_Pc D ca tk H.size q en) [.ref q] := ⟨cf_blind D ca tk H.size q en, fun U hU hW => ⟨rfl, by rw [hU], by rw [hU]; exact hPc, hDc, va_K.moved hW.alike hK, fun w hw => rf_nwm hw hW (hN w hw), by
    rw [hU]
    exact ((hZ.moved hW.alike).kept (fun a h1 h2 => hS.2.1 a h1 h2)).narrow hFc, by
    rw [hU]
    exact ((hT.moved hW.alike).kept (fun a h1 h2 => hS.2.1 a h1 h2)).narrow hFc, hO1.moved hW.alike, hO2.moved hW.alike⟩⟩
  have hroom : (cf_rm d mc ms).frames + 1 ≤ R.frames ∧ 8 + (Mt.2.2.2.1 + 11) + (cf_rm d mc ms).locals ≤ R.locals := ⟨hfr, by show 8 + (Mt.2.2.2.1 + 11) + 50 * d ≤ R.locals; omega⟩
  have hws : rf_ws Mt = Cond.code Mt.2.1 Mt.2.2.1 Mt.2.2.2.1 none :: rf_tb := by
    unfold rf_ws
    rw [hret]
  have hq7 : Mt.2.1.cls ≠ "java/lang/invoke/MethodHandle" ∧ Mt.2.1.cls ≠ "java/lang/invoke/VarHandle" ∧ (parseMethodDescriptor Mt.2.1.desc).map (fun d => d.parameters.length) = some 0 := ⟨q5, q6, by rw [q7, hnp]⟩
  have hrun : va_Run p l e R s m args below meth c H locs cells slots mc ms (F0 m pc lC (.ref q :: rest)) rest (cf_Qc D ca H.size q en Bl #[.ref q]) (va_A [(q, en)] H.size) := by
    rcases hlk with ⟨i, hi⟩ | ⟨i, hi⟩
    · exact va_runI (Ts := rf_tb) (own := own) (As := []) (rest := rest) (bytes := Mt.2.2.1) (maxL := Mt.2.2.2.1) ⟨hx, hb, hml, hown, hts⟩ (hex l D ca tk H.size q) ⟨callB_of 0 hts hgood hws rfl rfl hini (hts _ (cf_in i hi)) hq7 hroom, hiy, hinst⟩ hpre rfl rfl hl rfl (lv_room hrs) hd ⟨h1, h2⟩
    · exact va_runIN (Ts := rf_tb) (own := own) (As := []) (rest := rest) (bytes := Mt.2.2.1) (maxL := Mt.2.2.2.1) ⟨hx, hb, hml, hown, hts⟩ (hex l D ca tk H.size q) ⟨va_cnB 0 hts hgood hws rfl rfl (hN _ (cf_nin i hi rfl)) hini hq7 hroom, hiy, hinst⟩ hpre rfl rfl hl rfl (lv_room hrs) hd ⟨h1, h2⟩
  refine va_callv hrun hS (fun z _ h => hFc z h) hFc (fun u t H1 locs1 ht hvm hBl hB hz1 hk1 hS1 => ?_)
  obtain ⟨hP1, hD1⟩ := hB
  rw [ht] at hP1
  obtain ⟨hP2, hD2⟩ := cf_join hP hD hk1 hFc hP1 hD1
  exact k u hBl H1 locs1 hP2 hD2 hS1
theorem cf_re (E : cf_E own cc nL p s m args c D ca tk A) {Qc : Array Value → State → Outcome → State → Prop} {mc ms : Nat} (hr : meth.sig.returnType = none) (hlocks : meth.locks = false) (hd : decode cc pc = .ok (.return_, 1)) (h1 : cells ≤ mc) (h2 : slots ≤ ms) (hQ : ∀ (t : State), va_P D vwCl ws t.heap → va_D A ws → va_F A s t → Qc args s (.returned none) t) : cf_G p l e R s m args below meth c D A (MQ below Qc args s mc ms A) ws cells slots pc lC [] := by
  intro H locs hP hD hS
  refine W.widen h1 h2 ?_
  exact W.vret E.1 E.2.1 hr (fun t ht hW => hQ t (by rw [ht]; exact hP) hD (hS.F ht)) hS.2.2 hd (hlocks := hlocks)
end CF
/-- a constructor's entry -/
theorem cf_en {M : rf_M} (hm : M ∈ cf_ms) (hret : M.2.2.2.2.1 = none) (h1L : 1 ≤ M.2.2.2.1) {d mc ms : Nat} {en : va_E} {Bl : (Nat → ClassId) → Nat → va_W → Prop} (k : ∀ (p : Program) (l : Launch) (e : Env) (s : State) (m : MethodId) (args : Array Value) (below : List Frame) (meth : Method) (c : Code) (D : va_G) (ca : Nat → ClassId) (tk h0 : Nat) (lC : Array Slot), cf_E (rf_cn M.1) M.2.2.1 M.2.2.2.1 p s m args c D ca tk (va_A [(h0, en)] s.heap.size) → meth.sig.returnType = none → meth.locks = false → meth.name = M.2.1.name → lv_has lC M.2.2.2.1 [(0, .ref h0)] → cf_G p l e (cf_rm d mc ms) s m args below meth c D (va_A [(h0, en)] s.heap.size) (MQ below (cf_Qc D ca s.heap.size h0 en Bl) args s mc ms (va_A [(h0, en)] s.heap.size)) [(h0, en)] 0 0 0 lC []) : cf_Ex M d mc ms en Bl := by
  intro l D ca tk sz h0
  obtain ⟨q1, q2, q3, q4, q5, q6, q7⟩ := rf_mq_spec (cf_ms_q _ hm)
  refine Met.ofW (cc := M.2.2.1) (maxL := M.2.2.2.1) (ret := M.2.2.2.2.1) q1 rfl ?_
  intro p e s m args below meth c s₁ B hml hv
  obtain ⟨rfl, hsz, hP, hD0, hK, hN, hZ, hT, hO1, hO2⟩ := hv
  subst hsz
  have hts := atoms_spec (ws := rf_ws M) B.pre
  have hown : s.vm.findClass (rf_cn M.1) = some m.cls := by rw [← q2]; exact findClass_of_methodNamed B.named
  have hnm := (name_of_methodNamed B.named B.method).1
  have hD := hD0.self (sz := s.heap.size)
  have hent := lv_entry ([.ref h0]) (n := M.2.2.2.1) (by show 1 ≤ M.2.2.2.1; exact h1L)
  rw [lg_entry_eq]
  exact k p l e s m _ below meth c D ca tk h0 _ ⟨B.exec, B.bytes, hml, hown, fun w hw => hts w (List.mem_cons_of_mem _ hw), hK, hN, fun q h => Or.inr h, hZ, hT, hO1, hO2⟩ (B.returns.trans hret) B.notSynchronized hnm hent s.heap [] hP hD va_S.rf
