/-! ===== the constructors ===== -/
abbrev eI (ca : Nat → ClassId) (N : Nat) : va_E := .inl (ca 0, N, .inl (fun _ => 0))
abbrev eB (ca : Nat → ClassId) (N : Nat) : va_E := .inl (ca 1, N, .inl (fun _ => 0))
abbrev eM (ca : Nat → ClassId) (N : Nat) : va_E := .inl (ca 0, N, .inl (fun j => if j < N then -1 else 0))
abbrev eQ (ca : Nat → ClassId) (k q N : Nat) : va_E := .inl (ca k, N, .inr (.inr (.inr (.inr (fun j => if j < N then some (q + 1 + j) else none)))))
theorem cf_dec {cc : ByteArray} {e : rf_E} {l : List rf_E} (h : l.all (rf_dec cc) = true) (i : Nat) (hi : l[i]? = some e) : decode cc e.1 = .ok (e.2.1, e.2.2.1) := rf_dec_ok (List.all_eq_true.mp h e (List.mem_of_getElem? hi))
theorem cf_ws {p : Program} {l : Launch} {e : Env} {R : Room} {s : State} {m : MethodId} {args : Array Value} {below : List Frame} {meth : Method} {c : Code} {D : va_G} {A : Nat → Prop} {Q : State → Prop} {ws ws' : va_W} {cells slots pc : Nat} {lC : Array Slot} {st : List Value} (h : ws = ws') (k : cf_G p l e R s m args below meth c D A Q ws' cells slots pc lC st) : cf_G p l e R s m args below meth c D A Q ws cells slots pc lC st := h ▸ k
def dcl_0 : List rf_E := [(0, .aload_n 0, 1, 0), (1, .invokespecial 3, 3, 0), (4, .aload_n 0, 1, 0), (5, .lconst 0, 1, 0), (6, .putfield 9, 3, 0), (9, .aload_n 0, 1, 0), (10, .lconst 1, 1, 0), (11, .putfield 15, 3, 0), (14, .return_, 1, 0)]
theorem dc_0 : dcl_0.all (rf_dec cX0_init) = true := by decide +kernel
def Bl_0 (ca : Nat → ClassId) (h0 : Nat) (w : va_W) : Prop := w = (h0, .inr (0, [.long 0, .long 1])) :: []
set_option maxHeartbeats 4000000 in
set_option maxRecDepth 100000 in
theorem ci_0 : cf_Ex mX0_init 2 0 0 (.inr (0, [.long 0, .long 0])) Bl_0 := by
  refine cf_en (List.mem_of_getElem? (i := 0) rfl) rfl (by decide) ?_
  intro p l e s m args below meth c D ca tk h0 lC E hr hlk hnm hl
  refine cf_al E hl (cf_dec (e := (0, .aload_n 0, 1, 0)) dc_0 0 rfl) ?_
  refine cf_ob E 4 rfl hl.1 (cf_dec (e := (1, .invokespecial 3, 3, 0)) dc_0 1 rfl) (Nat.le_of_ble_eq_true rfl) (Nat.le_of_ble_eq_true rfl) ?_
  refine cf_al E hl (cf_dec (e := (4, .aload_n 0, 1, 0)) dc_0 2 rfl) ?_
  refine cf_lc E (v := 0) (cf_dec (e := (5, .lconst 0, 1, 0)) dc_0 3 rfl) rfl ?_
  refine cf_pf E (ci := 0) (C := RX0) (T := TX0) (N := 2) rfl rfl (rf_cls_in (ci := 0) rfl).2 (rf_cls_in (ci := 0) rfl).1 0 (by decide) ((rf_fT_in (e := (0, 9, 0, false)) (List.mem_of_getElem? (i := 0) rfl) (q := (RX0, TX0, 2)) rfl).1 rfl) hnm rfl (ty := tyX0 0) (tyX0_ok 0 (by decide)) rfl rfl (Nat.le_of_ble_eq_true rfl) (cf_dec (e := (6, .putfield 9, 3, 0)) dc_0 4 rfl) ?_
  refine cf_ws (ws' := (h0, .inr (0, [.long 0, .long 0])) :: []) rfl ?_
  refine cf_al E hl (cf_dec (e := (9, .aload_n 0, 1, 0)) dc_0 5 rfl) ?_
  refine cf_lc E (v := 1) (cf_dec (e := (10, .lconst 1, 1, 0)) dc_0 6 rfl) rfl ?_
  refine cf_pf E (ci := 0) (C := RX0) (T := TX0) (N := 2) rfl rfl (rf_cls_in (ci := 0) rfl).2 (rf_cls_in (ci := 0) rfl).1 1 (by decide) ((rf_fT_in (e := (0, 15, 1, false)) (List.mem_of_getElem? (i := 1) rfl) (q := (RX0, TX0, 2)) rfl).1 rfl) hnm rfl (ty := tyX0 1) (tyX0_ok 1 (by decide)) rfl rfl (Nat.le_of_ble_eq_true rfl) (cf_dec (e := (11, .putfield 15, 3, 0)) dc_0 7 rfl) ?_
  refine cf_ws (ws' := (h0, .inr (0, [.long 0, .long 1])) :: []) rfl ?_
  exact cf_re E hr hlk (cf_dec (e := (14, .return_, 1, 0)) dc_0 8 rfl) (Nat.le_of_ble_eq_true rfl) (Nat.le_of_ble_eq_true rfl) (fun t hP hD hF => ⟨⟨_, rfl, rfl, hP, hD⟩, hF⟩)
def dcl_2 : List rf_E := [(0, .aload_n 0, 1, 0), (1, .invokespecial 3, 3, 0), (4, .aload_n 0, 1, 0), (5, .iconst 4, 1, 0), (6, .newarray .int, 2, 0), (8, .putfield 9, 3, 0), (11, .aload_n 0, 1, 0), (12, .iconst 4, 1, 0), (13, .newarray .int, 2, 0), (15, .putfield 15, 3, 0), (18, .aload_n 0, 1, 0), (19, .bipush 6, 2, 0), (21, .newarray .int, 2, 0), (23, .putfield 18, 3, 0), (26, .aload_n 0, 1, 0), (27, .bipush 6, 2, 0), (29, .newarray .int, 2, 0), (31, .putfield 21, 3, 0), (34, .aload_n 0, 1, 0), (35, .bipush 6, 2, 0), (37, .newarray .int, 2, 0), (39, .putfield 24, 3, 0), (42, .aload_n 0, 1, 0), (43, .bipush 6, 2, 0), (45, .newarray .int, 2, 0), (47, .putfield 27, 3, 0), (50, .return_, 1, 0)]
theorem dc_2 : dcl_2.all (rf_dec cX2_init) = true := by decide +kernel
def Bl_2 (ca : Nat → ClassId) (h0 : Nat) (w : va_W) : Prop := ∃ a0 : Nat, ∃ a1 : Nat, ∃ a2 : Nat, ∃ a3 : Nat, ∃ a4 : Nat, ∃ a5 : Nat, w = (h0, .inr (2, [.ref a0, .ref a1, .ref a2, .ref a3, .ref a4, .ref a5, .int 0, .int 0])) :: ((((([(a0, eI ca 4)] ++ [(a1, eI ca 4)]) ++ [(a2, eI ca 6)]) ++ [(a3, eI ca 6)]) ++ [(a4, eI ca 6)]) ++ [(a5, eI ca 6)])
set_option maxHeartbeats 4000000 in
set_option maxRecDepth 100000 in
theorem ci_2 : cf_Ex mX2_init 2 6 32 (.inr (2, [.null, .null, .null, .null, .null, .null, .int 0, .int 0])) Bl_2 := by
  refine cf_en (List.mem_of_getElem? (i := 2) rfl) rfl (by decide) ?_
  intro p l e s m args below meth c D ca tk h0 lC E hr hlk hnm hl
  refine cf_al E hl (cf_dec (e := (0, .aload_n 0, 1, 0)) dc_2 0 rfl) ?_
  refine cf_ob E 6 rfl hl.1 (cf_dec (e := (1, .invokespecial 3, 3, 0)) dc_2 1 rfl) (Nat.le_of_ble_eq_true rfl) (Nat.le_of_ble_eq_true rfl) ?_
  refine cf_al E hl (cf_dec (e := (4, .aload_n 0, 1, 0)) dc_2 2 rfl) ?_
  refine cf_ic E (v := 4) (cf_dec (e := (5, .iconst 4, 1, 0)) dc_2 3 rfl) rfl ?_
  refine cf_ni E (N := 4) (cf_dec (e := (6, .newarray .int, 2, 0)) dc_2 4 rfl) (by decide) rfl (Nat.le_of_ble_eq_true rfl) (Nat.le_of_ble_eq_true rfl) (Nat.le_of_ble_eq_true rfl) (fun a0 => ?_)
  refine cf_ws (ws' := (h0, .inr (2, [.null, .null, .null, .null, .null, .null, .int 0, .int 0])) :: [(a0, eI ca 4)]) rfl ?_
  refine cf_pf E (ci := 2) (C := RX2) (T := TX2) (N := 8) rfl rfl (rf_cls_in (ci := 2) rfl).2 (rf_cls_in (ci := 2) rfl).1 0 (by decide) ((rf_fT_in (e := (2, 9, 200, false)) (List.mem_of_getElem? (i := 7) rfl) (q := (RX2, TX2, 8)) rfl).1 rfl) hnm rfl (ty := tyX2 0) (tyX2_ok 0 (by decide)) rfl rfl (Nat.le_of_ble_eq_true rfl) (cf_dec (e := (8, .putfield 9, 3, 0)) dc_2 5 rfl) ?_
  refine cf_ws (ws' := (h0, .inr (2, [.ref a0, .null, .null, .null, .null, .null, .int 0, .int 0])) :: [(a0, eI ca 4)]) rfl ?_
  refine cf_al E hl (cf_dec (e := (11, .aload_n 0, 1, 0)) dc_2 6 rfl) ?_
  refine cf_ic E (v := 4) (cf_dec (e := (12, .iconst 4, 1, 0)) dc_2 7 rfl) rfl ?_
  refine cf_ni E (N := 4) (cf_dec (e := (13, .newarray .int, 2, 0)) dc_2 8 rfl) (by decide) rfl (Nat.le_of_ble_eq_true rfl) (Nat.le_of_ble_eq_true rfl) (Nat.le_of_ble_eq_true rfl) (fun a1 => ?_)
  refine cf_ws (ws' := (h0, .inr (2, [.ref a0, .null, .null, .null, .null, .null, .int 0, .int 0])) :: ([(a0, eI ca 4)] ++ [(a1, eI ca 4)])) rfl ?_
  refine cf_pf E (ci := 2) (C := RX2) (T := TX2) (N := 8) rfl rfl (rf_cls_in (ci := 2) rfl).2 (rf_cls_in (ci := 2) rfl).1 1 (by decide) ((rf_fT_in (e := (2, 15, 201, false)) (List.mem_of_getElem? (i := 8) rfl) (q := (RX2, TX2, 8)) rfl).1 rfl) hnm rfl (ty := tyX2 1) (tyX2_ok 1 (by decide)) rfl rfl (Nat.le_of_ble_eq_true rfl) (cf_dec (e := (15, .putfield 15, 3, 0)) dc_2 9 rfl) ?_
  refine cf_ws (ws' := (h0, .inr (2, [.ref a0, .ref a1, .null, .null, .null, .null, .int 0, .int 0])) :: ([(a0, eI ca 4)] ++ [(a1, eI ca 4)])) rfl ?_
  refine cf_al E hl (cf_dec (e := (18, .aload_n 0, 1, 0)) dc_2 10 rfl) ?_
  refine cf_bp E (v := 6) (cf_dec (e := (19, .bipush 6, 2, 0)) dc_2 11 rfl) rfl ?_
  refine cf_ni E (N := 6) (cf_dec (e := (21, .newarray .int, 2, 0)) dc_2 12 rfl) (by decide) rfl (Nat.le_of_ble_eq_true rfl) (Nat.le_of_ble_eq_true rfl) (Nat.le_of_ble_eq_true rfl) (fun a2 => ?_)
  refine cf_ws (ws' := (h0, .inr (2, [.ref a0, .ref a1, .null, .null, .null, .null, .int 0, .int 0])) :: (([(a0, eI ca 4)] ++ [(a1, eI ca 4)]) ++ [(a2, eI ca 6)])) rfl ?_
  refine cf_pf E (ci := 2) (C := RX2) (T := TX2) (N := 8) rfl rfl (rf_cls_in (ci := 2) rfl).2 (rf_cls_in (ci := 2) rfl).1 2 (by decide) ((rf_fT_in (e := (2, 18, 202, false)) (List.mem_of_getElem? (i := 9) rfl) (q := (RX2, TX2, 8)) rfl).1 rfl) hnm rfl (ty := tyX2 2) (tyX2_ok 2 (by decide)) rfl rfl (Nat.le_of_ble_eq_true rfl) (cf_dec (e := (23, .putfield 18, 3, 0)) dc_2 13 rfl) ?_
  refine cf_ws (ws' := (h0, .inr (2, [.ref a0, .ref a1, .ref a2, .null, .null, .null, .int 0, .int 0])) :: (([(a0, eI ca 4)] ++ [(a1, eI ca 4)]) ++ [(a2, eI ca 6)])) rfl ?_
  refine cf_al E hl (cf_dec (e := (26, .aload_n 0, 1, 0)) dc_2 14 rfl) ?_
  refine cf_bp E (v := 6) (cf_dec (e := (27, .bipush 6, 2, 0)) dc_2 15 rfl) rfl ?_
  refine cf_ni E (N := 6) (cf_dec (e := (29, .newarray .int, 2, 0)) dc_2 16 rfl) (by decide) rfl (Nat.le_of_ble_eq_true rfl) (Nat.le_of_ble_eq_true rfl) (Nat.le_of_ble_eq_true rfl) (fun a3 => ?_)
  refine cf_ws (ws' := (h0, .inr (2, [.ref a0, .ref a1, .ref a2, .null, .null, .null, .int 0, .int 0])) :: ((([(a0, eI ca 4)] ++ [(a1, eI ca 4)]) ++ [(a2, eI ca 6)]) ++ [(a3, eI ca 6)])) rfl ?_
  refine cf_pf E (ci := 2) (C := RX2) (T := TX2) (N := 8) rfl rfl (rf_cls_in (ci := 2) rfl).2 (rf_cls_in (ci := 2) rfl).1 3 (by decide) ((rf_fT_in (e := (2, 21, 203, false)) (List.mem_of_getElem? (i := 10) rfl) (q := (RX2, TX2, 8)) rfl).1 rfl) hnm rfl (ty := tyX2 3) (tyX2_ok 3 (by decide)) rfl rfl (Nat.le_of_ble_eq_true rfl) (cf_dec (e := (31, .putfield 21, 3, 0)) dc_2 17 rfl) ?_
  refine cf_ws (ws' := (h0, .inr (2, [.ref a0, .ref a1, .ref a2, .ref a3, .null, .null, .int 0, .int 0])) :: ((([(a0, eI ca 4)] ++ [(a1, eI ca 4)]) ++ [(a2, eI ca 6)]) ++ [(a3, eI ca 6)])) rfl ?_
  refine cf_al E hl (cf_dec (e := (34, .aload_n 0, 1, 0)) dc_2 18 rfl) ?_
  refine cf_bp E (v := 6) (cf_dec (e := (35, .bipush 6, 2, 0)) dc_2 19 rfl) rfl ?_
  refine cf_ni E (N := 6) (cf_dec (e := (37, .newarray .int, 2, 0)) dc_2 20 rfl) (by decide) rfl (Nat.le_of_ble_eq_true rfl) (Nat.le_of_ble_eq_true rfl) (Nat.le_of_ble_eq_true rfl) (fun a4 => ?_)
  refine cf_ws (ws' := (h0, .inr (2, [.ref a0, .ref a1, .ref a2, .ref a3, .null, .null, .int 0, .int 0])) :: (((([(a0, eI ca 4)] ++ [(a1, eI ca 4)]) ++ [(a2, eI ca 6)]) ++ [(a3, eI ca 6)]) ++ [(a4, eI ca 6)])) rfl ?_
  refine cf_pf E (ci := 2) (C := RX2) (T := TX2) (N := 8) rfl rfl (rf_cls_in (ci := 2) rfl).2 (rf_cls_in (ci := 2) rfl).1 4 (by decide) ((rf_fT_in (e := (2, 24, 204, false)) (List.mem_of_getElem? (i := 11) rfl) (q := (RX2, TX2, 8)) rfl).1 rfl) hnm rfl (ty := tyX2 4) (tyX2_ok 4 (by decide)) rfl rfl (Nat.le_of_ble_eq_true rfl) (cf_dec (e := (39, .putfield 24, 3, 0)) dc_2 21 rfl) ?_
  refine cf_ws (ws' := (h0, .inr (2, [.ref a0, .ref a1, .ref a2, .ref a3, .ref a4, .null, .int 0, .int 0])) :: (((([(a0, eI ca 4)] ++ [(a1, eI ca 4)]) ++ [(a2, eI ca 6)]) ++ [(a3, eI ca 6)]) ++ [(a4, eI ca 6)])) rfl ?_
  refine cf_al E hl (cf_dec (e := (42, .aload_n 0, 1, 0)) dc_2 22 rfl) ?_
  refine cf_bp E (v := 6) (cf_dec (e := (43, .bipush 6, 2, 0)) dc_2 23 rfl) rfl ?_
  refine cf_ni E (N := 6) (cf_dec (e := (45, .newarray .int, 2, 0)) dc_2 24 rfl) (by decide) rfl (Nat.le_of_ble_eq_true rfl) (Nat.le_of_ble_eq_true rfl) (Nat.le_of_ble_eq_true rfl) (fun a5 => ?_)
  refine cf_ws (ws' := (h0, .inr (2, [.ref a0, .ref a1, .ref a2, .ref a3, .ref a4, .null, .int 0, .int 0])) :: ((((([(a0, eI ca 4)] ++ [(a1, eI ca 4)]) ++ [(a2, eI ca 6)]) ++ [(a3, eI ca 6)]) ++ [(a4, eI ca 6)]) ++ [(a5, eI ca 6)])) rfl ?_
  refine cf_pf E (ci := 2) (C := RX2) (T := TX2) (N := 8) rfl rfl (rf_cls_in (ci := 2) rfl).2 (rf_cls_in (ci := 2) rfl).1 5 (by decide) ((rf_fT_in (e := (2, 27, 205, false)) (List.mem_of_getElem? (i := 12) rfl) (q := (RX2, TX2, 8)) rfl).1 rfl) hnm rfl (ty := tyX2 5) (tyX2_ok 5 (by decide)) rfl rfl (Nat.le_of_ble_eq_true rfl) (cf_dec (e := (47, .putfield 27, 3, 0)) dc_2 25 rfl) ?_
  refine cf_ws (ws' := (h0, .inr (2, [.ref a0, .ref a1, .ref a2, .ref a3, .ref a4, .ref a5, .int 0, .int 0])) :: ((((([(a0, eI ca 4)] ++ [(a1, eI ca 4)]) ++ [(a2, eI ca 6)]) ++ [(a3, eI ca 6)]) ++ [(a4, eI ca 6)]) ++ [(a5, eI ca 6)])) rfl ?_
  exact cf_re E hr hlk (cf_dec (e := (50, .return_, 1, 0)) dc_2 26 rfl) (Nat.le_of_ble_eq_true rfl) (Nat.le_of_ble_eq_true rfl) (fun t hP hD hF => ⟨⟨_, rfl, ⟨a0, a1, a2, a3, a4, a5, rfl⟩, hP, hD⟩, hF⟩)
def dcl_4 : List rf_E := [(0, .aload_n 0, 1, 0), (1, .invokespecial 3, 3, 0), (4, .aload_n 0, 1, 0), (5, .bipush 6, 2, 0), (7, .bipush 40, 2, 0), (9, .multianewarray 9 2, 4, 0), (13, .putfield 11, 3, 0), (16, .aload_n 0, 1, 0), (17, .bipush 6, 2, 0), (19, .newarray .int, 2, 0), (21, .putfield 16, 3, 0), (24, .aload_n 0, 1, 0), (25, .getfield 16, 3, 0), (28, .iconst (-1), 1, 0), (29, .invokestatic 20, 3, 0), (32, .return_, 1, 0)]
theorem dc_4 : dcl_4.all (rf_dec cX4_init) = true := by decide +kernel
def Bl_4 (ca : Nat → ClassId) (h0 : Nat) (w : va_W) : Prop := ∃ a0 : Nat, ∃ a1 : Nat, w = (h0, .inr (4, [.ref a0, .ref a1])) :: (mu_w a0 6 (eQ ca 2 a0 6) (eI ca 40) ++ [(a1, eM ca 6)])
set_option maxHeartbeats 4000000 in
set_option maxRecDepth 100000 in
theorem ci_4 : cf_Ex mX4_init 2 8 252 (.inr (4, [.null, .null])) Bl_4 := by
  refine cf_en (List.mem_of_getElem? (i := 4) rfl) rfl (by decide) ?_
  intro p l e s m args below meth c D ca tk h0 lC E hr hlk hnm hl
  refine cf_al E hl (cf_dec (e := (0, .aload_n 0, 1, 0)) dc_4 0 rfl) ?_
  refine cf_ob E 8 rfl hl.1 (cf_dec (e := (1, .invokespecial 3, 3, 0)) dc_4 1 rfl) (Nat.le_of_ble_eq_true rfl) (Nat.le_of_ble_eq_true rfl) ?_
  refine cf_al E hl (cf_dec (e := (4, .aload_n 0, 1, 0)) dc_4 2 rfl) ?_
  refine cf_bp E (v := 6) (cf_dec (e := (5, .bipush 6, 2, 0)) dc_4 3 rfl) rfl ?_
  refine cf_bp E (v := 40) (cf_dec (e := (7, .bipush 40, 2, 0)) dc_4 4 rfl) rfl ?_
  refine cf_mu E (ty := .int) 2 0 rfl rfl (fun _ h => h) E.2.2.2.2.2.2.2.2.2.2.1 0 21 rfl rfl (by decide +kernel) (by decide +kernel) (by decide) rfl rfl (by decide) (N := 6) rfl (by decide) (K := 40) rfl (by decide) (by decide) (by decide) (Nat.le_of_ble_eq_true rfl) (Nat.le_of_ble_eq_true rfl) (cf_dec (e := (9, .multianewarray 9 2, 4, 0)) dc_4 5 rfl) (fun a0 => ?_)
  refine cf_ws (ws' := (h0, .inr (4, [.null, .null])) :: mu_w a0 6 (eQ ca 2 a0 6) (eI ca 40)) rfl ?_
  refine cf_pf E (ci := 4) (C := RX4) (T := TX4) (N := 2) rfl rfl (rf_cls_in (ci := 4) rfl).2 (rf_cls_in (ci := 4) rfl).1 0 (by decide) ((rf_fT_in (e := (4, 11, 400, false)) (List.mem_of_getElem? (i := 20) rfl) (q := (RX4, TX4, 2)) rfl).1 rfl) hnm rfl (ty := tyX4 0) (tyX4_ok 0 (by decide)) rfl rfl (Nat.le_of_ble_eq_true rfl) (cf_dec (e := (13, .putfield 11, 3, 0)) dc_4 6 rfl) ?_
  refine cf_ws (ws' := (h0, .inr (4, [.ref a0, .null])) :: mu_w a0 6 (eQ ca 2 a0 6) (eI ca 40)) rfl ?_
  refine cf_al E hl (cf_dec (e := (16, .aload_n 0, 1, 0)) dc_4 7 rfl) ?_
  refine cf_bp E (v := 6) (cf_dec (e := (17, .bipush 6, 2, 0)) dc_4 8 rfl) rfl ?_
  refine cf_ni E (N := 6) (cf_dec (e := (19, .newarray .int, 2, 0)) dc_4 9 rfl) (by decide) rfl (Nat.le_of_ble_eq_true rfl) (Nat.le_of_ble_eq_true rfl) (Nat.le_of_ble_eq_true rfl) (fun a1 => ?_)
  refine cf_ws (ws' := (h0, .inr (4, [.ref a0, .null])) :: (mu_w a0 6 (eQ ca 2 a0 6) (eI ca 40) ++ [(a1, eI ca 6)])) rfl ?_
  refine cf_pf E (ci := 4) (C := RX4) (T := TX4) (N := 2) rfl rfl (rf_cls_in (ci := 4) rfl).2 (rf_cls_in (ci := 4) rfl).1 1 (by decide) ((rf_fT_in (e := (4, 16, 401, false)) (List.mem_of_getElem? (i := 21) rfl) (q := (RX4, TX4, 2)) rfl).1 rfl) hnm rfl (ty := tyX4 1) (tyX4_ok 1 (by decide)) rfl rfl (Nat.le_of_ble_eq_true rfl) (cf_dec (e := (21, .putfield 16, 3, 0)) dc_4 10 rfl) ?_
  refine cf_ws (ws' := (h0, .inr (4, [.ref a0, .ref a1])) :: (mu_w a0 6 (eQ ca 2 a0 6) (eI ca 40) ++ [(a1, eI ca 6)])) rfl ?_
  refine cf_al E hl (cf_dec (e := (24, .aload_n 0, 1, 0)) dc_4 11 rfl) ?_
  refine cf_gf E (ci := 4) (C := RX4) (T := TX4) (N := 2) rfl (rf_cls_in (ci := 4) rfl).1 1 (by decide) ((rf_fT_in (e := (4, 16, 401, false)) (List.mem_of_getElem? (i := 21) rfl) (q := (RX4, TX4, 2)) rfl).1 rfl) rfl (cf_dec (e := (25, .getfield 16, 3, 0)) dc_4 12 rfl) ?_
  refine cf_ic E (v := (-1)) (cf_dec (e := (28, .iconst (-1), 1, 0)) dc_4 13 rfl) rfl ?_
  refine cf_ws (ws' := ((h0, .inr (4, [.ref a0, .ref a1])) :: mu_w a0 6 (eQ ca 2 a0 6) (eI ca 40)) ++ [(a1, eI ca 6)]) rfl ?_
  refine cf_fi (o := 4) E (N := 6) (by decide) (v := (-1)) (List.mem_of_getElem? (i := 29) rfl) hl.1 (by decide) (Nat.le_of_ble_eq_true rfl) (Nat.le_of_ble_eq_true rfl) (Nat.le_of_ble_eq_true rfl) (Nat.le_of_ble_eq_true rfl) (cf_dec (e := (29, .invokestatic 20, 3, 0)) dc_4 14 rfl) ?_
  refine cf_ws (ws' := (h0, .inr (4, [.ref a0, .ref a1])) :: (mu_w a0 6 (eQ ca 2 a0 6) (eI ca 40) ++ [(a1, eM ca 6)])) rfl ?_
  exact cf_re E hr hlk (cf_dec (e := (32, .return_, 1, 0)) dc_4 15 rfl) (Nat.le_of_ble_eq_true rfl) (Nat.le_of_ble_eq_true rfl) (fun t hP hD hF => ⟨⟨_, rfl, ⟨a0, a1, rfl⟩, hP, hD⟩, hF⟩)
def dcl_7 : List rf_E := [(0, .aload_n 0, 1, 0), (1, .invokespecial 3, 3, 0), (4, .aload_n 0, 1, 0), (5, .iconst 4, 1, 0), (6, .bipush 60, 2, 0), (8, .multianewarray 9 2, 4, 0), (12, .putfield 11, 3, 0), (15, .aload_n 0, 1, 0), (16, .iconst 4, 1, 0), (17, .newarray .int, 2, 0), (19, .putfield 16, 3, 0), (22, .aload_n 0, 1, 0), (23, .getfield 16, 3, 0), (26, .iconst (-1), 1, 0), (27, .invokestatic 20, 3, 0), (30, .return_, 1, 0)]
theorem dc_7 : dcl_7.all (rf_dec cX7_init) = true := by decide +kernel
def Bl_7 (ca : Nat → ClassId) (h0 : Nat) (w : va_W) : Prop := ∃ a0 : Nat, ∃ a1 : Nat, w = (h0, .inr (7, [.ref a0, .ref a1])) :: (mu_w a0 4 (eQ ca 3 a0 4) (eB ca 60) ++ [(a1, eM ca 4)])
set_option maxHeartbeats 4000000 in
set_option maxRecDepth 100000 in
theorem ci_7 : cf_Ex mX7_init 2 6 248 (.inr (7, [.null, .null])) Bl_7 := by
  refine cf_en (List.mem_of_getElem? (i := 7) rfl) rfl (by decide) ?_
  intro p l e s m args below meth c D ca tk h0 lC E hr hlk hnm hl
  refine cf_al E hl (cf_dec (e := (0, .aload_n 0, 1, 0)) dc_7 0 rfl) ?_
  refine cf_ob E 11 rfl hl.1 (cf_dec (e := (1, .invokespecial 3, 3, 0)) dc_7 1 rfl) (Nat.le_of_ble_eq_true rfl) (Nat.le_of_ble_eq_true rfl) ?_
  refine cf_al E hl (cf_dec (e := (4, .aload_n 0, 1, 0)) dc_7 2 rfl) ?_
  refine cf_ic E (v := 4) (cf_dec (e := (5, .iconst 4, 1, 0)) dc_7 3 rfl) rfl ?_
  refine cf_bp E (v := 60) (cf_dec (e := (6, .bipush 60, 2, 0)) dc_7 4 rfl) rfl ?_
  refine cf_mu E (ty := .byte) 3 1 rfl rfl (fun _ h => h) E.2.2.2.2.2.2.2.2.2.2.2 1 25 rfl rfl (by decide +kernel) (by decide +kernel) (by decide) rfl rfl (by decide) (N := 4) rfl (by decide) (K := 60) rfl (by decide) (by decide) (by decide) (Nat.le_of_ble_eq_true rfl) (Nat.le_of_ble_eq_true rfl) (cf_dec (e := (8, .multianewarray 9 2, 4, 0)) dc_7 5 rfl) (fun a0 => ?_)
  refine cf_ws (ws' := (h0, .inr (7, [.null, .null])) :: mu_w a0 4 (eQ ca 3 a0 4) (eB ca 60)) rfl ?_
  refine cf_pf E (ci := 7) (C := RX7) (T := TX7) (N := 2) rfl rfl (rf_cls_in (ci := 7) rfl).2 (rf_cls_in (ci := 7) rfl).1 0 (by decide) ((rf_fT_in (e := (7, 11, 700, false)) (List.mem_of_getElem? (i := 33) rfl) (q := (RX7, TX7, 2)) rfl).1 rfl) hnm rfl (ty := tyX7 0) (tyX7_ok 0 (by decide)) rfl rfl (Nat.le_of_ble_eq_true rfl) (cf_dec (e := (12, .putfield 11, 3, 0)) dc_7 6 rfl) ?_
  refine cf_ws (ws' := (h0, .inr (7, [.ref a0, .null])) :: mu_w a0 4 (eQ ca 3 a0 4) (eB ca 60)) rfl ?_
  refine cf_al E hl (cf_dec (e := (15, .aload_n 0, 1, 0)) dc_7 7 rfl) ?_
  refine cf_ic E (v := 4) (cf_dec (e := (16, .iconst 4, 1, 0)) dc_7 8 rfl) rfl ?_
  refine cf_ni E (N := 4) (cf_dec (e := (17, .newarray .int, 2, 0)) dc_7 9 rfl) (by decide) rfl (Nat.le_of_ble_eq_true rfl) (Nat.le_of_ble_eq_true rfl) (Nat.le_of_ble_eq_true rfl) (fun a1 => ?_)
  refine cf_ws (ws' := (h0, .inr (7, [.ref a0, .null])) :: (mu_w a0 4 (eQ ca 3 a0 4) (eB ca 60) ++ [(a1, eI ca 4)])) rfl ?_
  refine cf_pf E (ci := 7) (C := RX7) (T := TX7) (N := 2) rfl rfl (rf_cls_in (ci := 7) rfl).2 (rf_cls_in (ci := 7) rfl).1 1 (by decide) ((rf_fT_in (e := (7, 16, 701, false)) (List.mem_of_getElem? (i := 34) rfl) (q := (RX7, TX7, 2)) rfl).1 rfl) hnm rfl (ty := tyX7 1) (tyX7_ok 1 (by decide)) rfl rfl (Nat.le_of_ble_eq_true rfl) (cf_dec (e := (19, .putfield 16, 3, 0)) dc_7 10 rfl) ?_
  refine cf_ws (ws' := (h0, .inr (7, [.ref a0, .ref a1])) :: (mu_w a0 4 (eQ ca 3 a0 4) (eB ca 60) ++ [(a1, eI ca 4)])) rfl ?_
  refine cf_al E hl (cf_dec (e := (22, .aload_n 0, 1, 0)) dc_7 11 rfl) ?_
  refine cf_gf E (ci := 7) (C := RX7) (T := TX7) (N := 2) rfl (rf_cls_in (ci := 7) rfl).1 1 (by decide) ((rf_fT_in (e := (7, 16, 701, false)) (List.mem_of_getElem? (i := 34) rfl) (q := (RX7, TX7, 2)) rfl).1 rfl) rfl (cf_dec (e := (23, .getfield 16, 3, 0)) dc_7 12 rfl) ?_
  refine cf_ic E (v := (-1)) (cf_dec (e := (26, .iconst (-1), 1, 0)) dc_7 13 rfl) rfl ?_
  refine cf_ws (ws' := ((h0, .inr (7, [.ref a0, .ref a1])) :: mu_w a0 4 (eQ ca 3 a0 4) (eB ca 60)) ++ [(a1, eI ca 4)]) rfl ?_
  refine cf_fi (o := 7) E (N := 4) (by decide) (v := (-1)) (List.mem_of_getElem? (i := 41) rfl) hl.1 (by decide) (Nat.le_of_ble_eq_true rfl) (Nat.le_of_ble_eq_true rfl) (Nat.le_of_ble_eq_true rfl) (Nat.le_of_ble_eq_true rfl) (cf_dec (e := (27, .invokestatic 20, 3, 0)) dc_7 14 rfl) ?_
  refine cf_ws (ws' := (h0, .inr (7, [.ref a0, .ref a1])) :: (mu_w a0 4 (eQ ca 3 a0 4) (eB ca 60) ++ [(a1, eM ca 4)])) rfl ?_
  exact cf_re E hr hlk (cf_dec (e := (30, .return_, 1, 0)) dc_7 15 rfl) (Nat.le_of_ble_eq_true rfl) (Nat.le_of_ble_eq_true rfl) (fun t hP hD hF => ⟨⟨_, rfl, ⟨a0, a1, rfl⟩, hP, hD⟩, hF⟩)
def dcl_1 : List rf_E := [(0, .aload_n 0, 1, 0), (1, .invokespecial 3, 3, 0), (4, .aload_n 0, 1, 0), (5, .bipush 40, 2, 0), (7, .newarray .int, 2, 0), (9, .putfield 9, 3, 0), (12, .aload_n 0, 1, 0), (13, .iconst 3, 1, 0), (14, .bipush 40, 2, 0), (16, .multianewarray 15 2, 4, 0), (20, .putfield 17, 3, 0), (23, .aload_n 0, 1, 0), (24, .iconst 3, 1, 0), (25, .newarray .int, 2, 0), (27, .putfield 20, 3, 0), (30, .aload_n 0, 1, 0), (31, .getfield 20, 3, 0), (34, .iconst (-1), 1, 0), (35, .invokestatic 23, 3, 0), (38, .return_, 1, 0)]
theorem dc_1 : dcl_1.all (rf_dec cX1_init) = true := by decide +kernel
def Bl_1 (ca : Nat → ClassId) (h0 : Nat) (w : va_W) : Prop := ∃ a0 : Nat, ∃ a1 : Nat, ∃ a2 : Nat, w = (h0, .inr (1, [.ref a0, .ref a1, .ref a2, .int 0])) :: (([(a0, eI ca 40)] ++ mu_w a1 3 (eQ ca 2 a1 3) (eI ca 40)) ++ [(a2, eM ca 3)])
set_option maxHeartbeats 4000000 in
set_option maxRecDepth 100000 in
theorem ci_1 : cf_Ex mX1_init 2 6 166 (.inr (1, [.null, .null, .null, .int 0])) Bl_1 := by
  refine cf_en (List.mem_of_getElem? (i := 1) rfl) rfl (by decide) ?_
  intro p l e s m args below meth c D ca tk h0 lC E hr hlk hnm hl
  refine cf_al E hl (cf_dec (e := (0, .aload_n 0, 1, 0)) dc_1 0 rfl) ?_
  refine cf_ob E 5 rfl hl.1 (cf_dec (e := (1, .invokespecial 3, 3, 0)) dc_1 1 rfl) (Nat.le_of_ble_eq_true rfl) (Nat.le_of_ble_eq_true rfl) ?_
  refine cf_al E hl (cf_dec (e := (4, .aload_n 0, 1, 0)) dc_1 2 rfl) ?_
  refine cf_bp E (v := 40) (cf_dec (e := (5, .bipush 40, 2, 0)) dc_1 3 rfl) rfl ?_
  refine cf_ni E (N := 40) (cf_dec (e := (7, .newarray .int, 2, 0)) dc_1 4 rfl) (by decide) rfl (Nat.le_of_ble_eq_true rfl) (Nat.le_of_ble_eq_true rfl) (Nat.le_of_ble_eq_true rfl) (fun a0 => ?_)
  refine cf_ws (ws' := (h0, .inr (1, [.null, .null, .null, .int 0])) :: [(a0, eI ca 40)]) rfl ?_
  refine cf_pf E (ci := 1) (C := RX1) (T := TX1) (N := 4) rfl rfl (rf_cls_in (ci := 1) rfl).2 (rf_cls_in (ci := 1) rfl).1 0 (by decide) ((rf_fT_in (e := (1, 9, 100, false)) (List.mem_of_getElem? (i := 3) rfl) (q := (RX1, TX1, 4)) rfl).1 rfl) hnm rfl (ty := tyX1 0) (tyX1_ok 0 (by decide)) rfl rfl (Nat.le_of_ble_eq_true rfl) (cf_dec (e := (9, .putfield 9, 3, 0)) dc_1 5 rfl) ?_
  refine cf_ws (ws' := (h0, .inr (1, [.ref a0, .null, .null, .int 0])) :: [(a0, eI ca 40)]) rfl ?_
  refine cf_al E hl (cf_dec (e := (12, .aload_n 0, 1, 0)) dc_1 6 rfl) ?_
  refine cf_ic E (v := 3) (cf_dec (e := (13, .iconst 3, 1, 0)) dc_1 7 rfl) rfl ?_
  refine cf_bp E (v := 40) (cf_dec (e := (14, .bipush 40, 2, 0)) dc_1 8 rfl) rfl ?_
  refine cf_mu E (ty := .int) 2 0 rfl rfl (fun _ h => h) E.2.2.2.2.2.2.2.2.2.2.1 0 36 rfl rfl (by decide +kernel) (by decide +kernel) (by decide) rfl rfl (by decide) (N := 3) rfl (by decide) (K := 40) rfl (by decide) (by decide) (by decide) (Nat.le_of_ble_eq_true rfl) (Nat.le_of_ble_eq_true rfl) (cf_dec (e := (16, .multianewarray 15 2, 4, 0)) dc_1 9 rfl) (fun a1 => ?_)
  refine cf_ws (ws' := (h0, .inr (1, [.ref a0, .null, .null, .int 0])) :: ([(a0, eI ca 40)] ++ mu_w a1 3 (eQ ca 2 a1 3) (eI ca 40))) rfl ?_
  refine cf_pf E (ci := 1) (C := RX1) (T := TX1) (N := 4) rfl rfl (rf_cls_in (ci := 1) rfl).2 (rf_cls_in (ci := 1) rfl).1 1 (by decide) ((rf_fT_in (e := (1, 17, 101, false)) (List.mem_of_getElem? (i := 4) rfl) (q := (RX1, TX1, 4)) rfl).1 rfl) hnm rfl (ty := tyX1 1) (tyX1_ok 1 (by decide)) rfl rfl (Nat.le_of_ble_eq_true rfl) (cf_dec (e := (20, .putfield 17, 3, 0)) dc_1 10 rfl) ?_
  refine cf_ws (ws' := (h0, .inr (1, [.ref a0, .ref a1, .null, .int 0])) :: ([(a0, eI ca 40)] ++ mu_w a1 3 (eQ ca 2 a1 3) (eI ca 40))) rfl ?_
  refine cf_al E hl (cf_dec (e := (23, .aload_n 0, 1, 0)) dc_1 11 rfl) ?_
  refine cf_ic E (v := 3) (cf_dec (e := (24, .iconst 3, 1, 0)) dc_1 12 rfl) rfl ?_
  refine cf_ni E (N := 3) (cf_dec (e := (25, .newarray .int, 2, 0)) dc_1 13 rfl) (by decide) rfl (Nat.le_of_ble_eq_true rfl) (Nat.le_of_ble_eq_true rfl) (Nat.le_of_ble_eq_true rfl) (fun a2 => ?_)
  refine cf_ws (ws' := (h0, .inr (1, [.ref a0, .ref a1, .null, .int 0])) :: (([(a0, eI ca 40)] ++ mu_w a1 3 (eQ ca 2 a1 3) (eI ca 40)) ++ [(a2, eI ca 3)])) rfl ?_
  refine cf_pf E (ci := 1) (C := RX1) (T := TX1) (N := 4) rfl rfl (rf_cls_in (ci := 1) rfl).2 (rf_cls_in (ci := 1) rfl).1 2 (by decide) ((rf_fT_in (e := (1, 20, 102, false)) (List.mem_of_getElem? (i := 5) rfl) (q := (RX1, TX1, 4)) rfl).1 rfl) hnm rfl (ty := tyX1 2) (tyX1_ok 2 (by decide)) rfl rfl (Nat.le_of_ble_eq_true rfl) (cf_dec (e := (27, .putfield 20, 3, 0)) dc_1 14 rfl) ?_
  refine cf_ws (ws' := (h0, .inr (1, [.ref a0, .ref a1, .ref a2, .int 0])) :: (([(a0, eI ca 40)] ++ mu_w a1 3 (eQ ca 2 a1 3) (eI ca 40)) ++ [(a2, eI ca 3)])) rfl ?_
  refine cf_al E hl (cf_dec (e := (30, .aload_n 0, 1, 0)) dc_1 15 rfl) ?_
  refine cf_gf E (ci := 1) (C := RX1) (T := TX1) (N := 4) rfl (rf_cls_in (ci := 1) rfl).1 2 (by decide) ((rf_fT_in (e := (1, 20, 102, false)) (List.mem_of_getElem? (i := 5) rfl) (q := (RX1, TX1, 4)) rfl).1 rfl) rfl (cf_dec (e := (31, .getfield 20, 3, 0)) dc_1 16 rfl) ?_
  refine cf_ic E (v := (-1)) (cf_dec (e := (34, .iconst (-1), 1, 0)) dc_1 17 rfl) rfl ?_
  refine cf_ws (ws' := ((h0, .inr (1, [.ref a0, .ref a1, .ref a2, .int 0])) :: ([(a0, eI ca 40)] ++ mu_w a1 3 (eQ ca 2 a1 3) (eI ca 40))) ++ [(a2, eI ca 3)]) rfl ?_
  refine cf_fi (o := 1) E (N := 3) (by decide) (v := (-1)) (List.mem_of_getElem? (i := 8) rfl) hl.1 (by decide) (Nat.le_of_ble_eq_true rfl) (Nat.le_of_ble_eq_true rfl) (Nat.le_of_ble_eq_true rfl) (Nat.le_of_ble_eq_true rfl) (cf_dec (e := (35, .invokestatic 23, 3, 0)) dc_1 18 rfl) ?_
  refine cf_ws (ws' := (h0, .inr (1, [.ref a0, .ref a1, .ref a2, .int 0])) :: (([(a0, eI ca 40)] ++ mu_w a1 3 (eQ ca 2 a1 3) (eI ca 40)) ++ [(a2, eM ca 3)])) rfl ?_
  exact cf_re E hr hlk (cf_dec (e := (38, .return_, 1, 0)) dc_1 19 rfl) (Nat.le_of_ble_eq_true rfl) (Nat.le_of_ble_eq_true rfl) (fun t hP hD hF => ⟨⟨_, rfl, ⟨a0, a1, a2, rfl⟩, hP, hD⟩, hF⟩)
def dcl_5 : List rf_E := [(0, .aload_n 0, 1, 0), (1, .invokespecial 3, 3, 0), (4, .aload_n 0, 1, 0), (5, .bipush 24, 2, 0), (7, .newarray .int, 2, 0), (9, .putfield 9, 3, 0), (12, .aload_n 0, 1, 0), (13, .iconst 4, 1, 0), (14, .newarray .int, 2, 0), (16, .putfield 15, 3, 0), (19, .aload_n 0, 1, 0), (20, .bipush 6, 2, 0), (22, .newarray .int, 2, 0), (24, .putfield 18, 3, 0), (27, .aload_n 0, 1, 0), (28, .bipush 6, 2, 0), (30, .newarray .int, 2, 0), (32, .putfield 21, 3, 0), (35, .return_, 1, 0)]
theorem dc_5 : dcl_5.all (rf_dec cX5_init) = true := by decide +kernel
def Bl_5 (ca : Nat → ClassId) (h0 : Nat) (w : va_W) : Prop := ∃ a0 : Nat, ∃ a1 : Nat, ∃ a2 : Nat, ∃ a3 : Nat, w = (h0, .inr (5, [.ref a0, .ref a1, .ref a2, .ref a3, .int 0, .int 0])) :: ((([(a0, eI ca 24)] ++ [(a1, eI ca 4)]) ++ [(a2, eI ca 6)]) ++ [(a3, eI ca 6)])
set_option maxHeartbeats 4000000 in
set_option maxRecDepth 100000 in
theorem ci_5 : cf_Ex mX5_init 2 4 40 (.inr (5, [.null, .null, .null, .null, .int 0, .int 0])) Bl_5 := by
  refine cf_en (List.mem_of_getElem? (i := 5) rfl) rfl (by decide) ?_
  intro p l e s m args below meth c D ca tk h0 lC E hr hlk hnm hl
  refine cf_al E hl (cf_dec (e := (0, .aload_n 0, 1, 0)) dc_5 0 rfl) ?_
  refine cf_ob E 9 rfl hl.1 (cf_dec (e := (1, .invokespecial 3, 3, 0)) dc_5 1 rfl) (Nat.le_of_ble_eq_true rfl) (Nat.le_of_ble_eq_true rfl) ?_
  refine cf_al E hl (cf_dec (e := (4, .aload_n 0, 1, 0)) dc_5 2 rfl) ?_
  refine cf_bp E (v := 24) (cf_dec (e := (5, .bipush 24, 2, 0)) dc_5 3 rfl) rfl ?_
  refine cf_ni E (N := 24) (cf_dec (e := (7, .newarray .int, 2, 0)) dc_5 4 rfl) (by decide) rfl (Nat.le_of_ble_eq_true rfl) (Nat.le_of_ble_eq_true rfl) (Nat.le_of_ble_eq_true rfl) (fun a0 => ?_)
  refine cf_ws (ws' := (h0, .inr (5, [.null, .null, .null, .null, .int 0, .int 0])) :: [(a0, eI ca 24)]) rfl ?_
  refine cf_pf E (ci := 5) (C := RX5) (T := TX5) (N := 6) rfl rfl (rf_cls_in (ci := 5) rfl).2 (rf_cls_in (ci := 5) rfl).1 0 (by decide) ((rf_fT_in (e := (5, 9, 500, false)) (List.mem_of_getElem? (i := 22) rfl) (q := (RX5, TX5, 6)) rfl).1 rfl) hnm rfl (ty := tyX5 0) (tyX5_ok 0 (by decide)) rfl rfl (Nat.le_of_ble_eq_true rfl) (cf_dec (e := (9, .putfield 9, 3, 0)) dc_5 5 rfl) ?_
  refine cf_ws (ws' := (h0, .inr (5, [.ref a0, .null, .null, .null, .int 0, .int 0])) :: [(a0, eI ca 24)]) rfl ?_
  refine cf_al E hl (cf_dec (e := (12, .aload_n 0, 1, 0)) dc_5 6 rfl) ?_
  refine cf_ic E (v := 4) (cf_dec (e := (13, .iconst 4, 1, 0)) dc_5 7 rfl) rfl ?_
  refine cf_ni E (N := 4) (cf_dec (e := (14, .newarray .int, 2, 0)) dc_5 8 rfl) (by decide) rfl (Nat.le_of_ble_eq_true rfl) (Nat.le_of_ble_eq_true rfl) (Nat.le_of_ble_eq_true rfl) (fun a1 => ?_)
  refine cf_ws (ws' := (h0, .inr (5, [.ref a0, .null, .null, .null, .int 0, .int 0])) :: ([(a0, eI ca 24)] ++ [(a1, eI ca 4)])) rfl ?_
  refine cf_pf E (ci := 5) (C := RX5) (T := TX5) (N := 6) rfl rfl (rf_cls_in (ci := 5) rfl).2 (rf_cls_in (ci := 5) rfl).1 1 (by decide) ((rf_fT_in (e := (5, 15, 501, false)) (List.mem_of_getElem? (i := 23) rfl) (q := (RX5, TX5, 6)) rfl).1 rfl) hnm rfl (ty := tyX5 1) (tyX5_ok 1 (by decide)) rfl rfl (Nat.le_of_ble_eq_true rfl) (cf_dec (e := (16, .putfield 15, 3, 0)) dc_5 9 rfl) ?_
  refine cf_ws (ws' := (h0, .inr (5, [.ref a0, .ref a1, .null, .null, .int 0, .int 0])) :: ([(a0, eI ca 24)] ++ [(a1, eI ca 4)])) rfl ?_
  refine cf_al E hl (cf_dec (e := (19, .aload_n 0, 1, 0)) dc_5 10 rfl) ?_
  refine cf_bp E (v := 6) (cf_dec (e := (20, .bipush 6, 2, 0)) dc_5 11 rfl) rfl ?_
  refine cf_ni E (N := 6) (cf_dec (e := (22, .newarray .int, 2, 0)) dc_5 12 rfl) (by decide) rfl (Nat.le_of_ble_eq_true rfl) (Nat.le_of_ble_eq_true rfl) (Nat.le_of_ble_eq_true rfl) (fun a2 => ?_)
  refine cf_ws (ws' := (h0, .inr (5, [.ref a0, .ref a1, .null, .null, .int 0, .int 0])) :: (([(a0, eI ca 24)] ++ [(a1, eI ca 4)]) ++ [(a2, eI ca 6)])) rfl ?_
  refine cf_pf E (ci := 5) (C := RX5) (T := TX5) (N := 6) rfl rfl (rf_cls_in (ci := 5) rfl).2 (rf_cls_in (ci := 5) rfl).1 2 (by decide) ((rf_fT_in (e := (5, 18, 502, false)) (List.mem_of_getElem? (i := 24) rfl) (q := (RX5, TX5, 6)) rfl).1 rfl) hnm rfl (ty := tyX5 2) (tyX5_ok 2 (by decide)) rfl rfl (Nat.le_of_ble_eq_true rfl) (cf_dec (e := (24, .putfield 18, 3, 0)) dc_5 13 rfl) ?_
  refine cf_ws (ws' := (h0, .inr (5, [.ref a0, .ref a1, .ref a2, .null, .int 0, .int 0])) :: (([(a0, eI ca 24)] ++ [(a1, eI ca 4)]) ++ [(a2, eI ca 6)])) rfl ?_
  refine cf_al E hl (cf_dec (e := (27, .aload_n 0, 1, 0)) dc_5 14 rfl) ?_
  refine cf_bp E (v := 6) (cf_dec (e := (28, .bipush 6, 2, 0)) dc_5 15 rfl) rfl ?_
  refine cf_ni E (N := 6) (cf_dec (e := (30, .newarray .int, 2, 0)) dc_5 16 rfl) (by decide) rfl (Nat.le_of_ble_eq_true rfl) (Nat.le_of_ble_eq_true rfl) (Nat.le_of_ble_eq_true rfl) (fun a3 => ?_)
  refine cf_ws (ws' := (h0, .inr (5, [.ref a0, .ref a1, .ref a2, .null, .int 0, .int 0])) :: ((([(a0, eI ca 24)] ++ [(a1, eI ca 4)]) ++ [(a2, eI ca 6)]) ++ [(a3, eI ca 6)])) rfl ?_
  refine cf_pf E (ci := 5) (C := RX5) (T := TX5) (N := 6) rfl rfl (rf_cls_in (ci := 5) rfl).2 (rf_cls_in (ci := 5) rfl).1 3 (by decide) ((rf_fT_in (e := (5, 21, 503, false)) (List.mem_of_getElem? (i := 25) rfl) (q := (RX5, TX5, 6)) rfl).1 rfl) hnm rfl (ty := tyX5 3) (tyX5_ok 3 (by decide)) rfl rfl (Nat.le_of_ble_eq_true rfl) (cf_dec (e := (32, .putfield 21, 3, 0)) dc_5 17 rfl) ?_
  refine cf_ws (ws' := (h0, .inr (5, [.ref a0, .ref a1, .ref a2, .ref a3, .int 0, .int 0])) :: ((([(a0, eI ca 24)] ++ [(a1, eI ca 4)]) ++ [(a2, eI ca 6)]) ++ [(a3, eI ca 6)])) rfl ?_
  exact cf_re E hr hlk (cf_dec (e := (35, .return_, 1, 0)) dc_5 18 rfl) (Nat.le_of_ble_eq_true rfl) (Nat.le_of_ble_eq_true rfl) (fun t hP hD hF => ⟨⟨_, rfl, ⟨a0, a1, a2, a3, rfl⟩, hP, hD⟩, hF⟩)
def dcl_6 : List rf_E := [(0, .aload_n 0, 1, 0), (1, .invokespecial 3, 3, 0), (4, .aload_n 0, 1, 0), (5, .bipush 31, 2, 0), (7, .newarray .int, 2, 0), (9, .putfield 9, 3, 0), (12, .aload_n 0, 1, 0), (13, .bipush 64, 2, 0), (15, .newarray .int, 2, 0), (17, .putfield 15, 3, 0), (20, .return_, 1, 0)]
theorem dc_6 : dcl_6.all (rf_dec cX6_init) = true := by decide +kernel
def Bl_6 (ca : Nat → ClassId) (h0 : Nat) (w : va_W) : Prop := ∃ a0 : Nat, ∃ a1 : Nat, w = (h0, .inr (6, [.ref a0, .ref a1, .int 0])) :: ([(a0, eI ca 31)] ++ [(a1, eI ca 64)])
set_option maxHeartbeats 4000000 in
set_option maxRecDepth 100000 in
theorem ci_6 : cf_Ex mX6_init 2 2 95 (.inr (6, [.null, .null, .int 0])) Bl_6 := by
  refine cf_en (List.mem_of_getElem? (i := 6) rfl) rfl (by decide) ?_
  intro p l e s m args below meth c D ca tk h0 lC E hr hlk hnm hl
  refine cf_al E hl (cf_dec (e := (0, .aload_n 0, 1, 0)) dc_6 0 rfl) ?_
  refine cf_ob E 10 rfl hl.1 (cf_dec (e := (1, .invokespecial 3, 3, 0)) dc_6 1 rfl) (Nat.le_of_ble_eq_true rfl) (Nat.le_of_ble_eq_true rfl) ?_
  refine cf_al E hl (cf_dec (e := (4, .aload_n 0, 1, 0)) dc_6 2 rfl) ?_
  refine cf_bp E (v := 31) (cf_dec (e := (5, .bipush 31, 2, 0)) dc_6 3 rfl) rfl ?_
  refine cf_ni E (N := 31) (cf_dec (e := (7, .newarray .int, 2, 0)) dc_6 4 rfl) (by decide) rfl (Nat.le_of_ble_eq_true rfl) (Nat.le_of_ble_eq_true rfl) (Nat.le_of_ble_eq_true rfl) (fun a0 => ?_)
  refine cf_ws (ws' := (h0, .inr (6, [.null, .null, .int 0])) :: [(a0, eI ca 31)]) rfl ?_
  refine cf_pf E (ci := 6) (C := RX6) (T := TX6) (N := 3) rfl rfl (rf_cls_in (ci := 6) rfl).2 (rf_cls_in (ci := 6) rfl).1 0 (by decide) ((rf_fT_in (e := (6, 9, 600, false)) (List.mem_of_getElem? (i := 30) rfl) (q := (RX6, TX6, 3)) rfl).1 rfl) hnm rfl (ty := tyX6 0) (tyX6_ok 0 (by decide)) rfl rfl (Nat.le_of_ble_eq_true rfl) (cf_dec (e := (9, .putfield 9, 3, 0)) dc_6 5 rfl) ?_
  refine cf_ws (ws' := (h0, .inr (6, [.ref a0, .null, .int 0])) :: [(a0, eI ca 31)]) rfl ?_
  refine cf_al E hl (cf_dec (e := (12, .aload_n 0, 1, 0)) dc_6 6 rfl) ?_
  refine cf_bp E (v := 64) (cf_dec (e := (13, .bipush 64, 2, 0)) dc_6 7 rfl) rfl ?_
  refine cf_ni E (N := 64) (cf_dec (e := (15, .newarray .int, 2, 0)) dc_6 8 rfl) (by decide) rfl (Nat.le_of_ble_eq_true rfl) (Nat.le_of_ble_eq_true rfl) (Nat.le_of_ble_eq_true rfl) (fun a1 => ?_)
  refine cf_ws (ws' := (h0, .inr (6, [.ref a0, .null, .int 0])) :: ([(a0, eI ca 31)] ++ [(a1, eI ca 64)])) rfl ?_
  refine cf_pf E (ci := 6) (C := RX6) (T := TX6) (N := 3) rfl rfl (rf_cls_in (ci := 6) rfl).2 (rf_cls_in (ci := 6) rfl).1 1 (by decide) ((rf_fT_in (e := (6, 15, 601, false)) (List.mem_of_getElem? (i := 31) rfl) (q := (RX6, TX6, 3)) rfl).1 rfl) hnm rfl (ty := tyX6 1) (tyX6_ok 1 (by decide)) rfl rfl (Nat.le_of_ble_eq_true rfl) (cf_dec (e := (17, .putfield 15, 3, 0)) dc_6 9 rfl) ?_
  refine cf_ws (ws' := (h0, .inr (6, [.ref a0, .ref a1, .int 0])) :: ([(a0, eI ca 31)] ++ [(a1, eI ca 64)])) rfl ?_
  exact cf_re E hr hlk (cf_dec (e := (20, .return_, 1, 0)) dc_6 10 rfl) (Nat.le_of_ble_eq_true rfl) (Nat.le_of_ble_eq_true rfl) (fun t hP hD hF => ⟨⟨_, rfl, ⟨a0, a1, rfl⟩, hP, hD⟩, hF⟩)
def dcl_3 : List rf_E := [(0, .aload_n 0, 1, 0), (1, .invokespecial 3, 3, 0), (4, .aload_n 0, 1, 0), (5, .new 9, 3, 0), (8, .dup, 1, 0), (9, .invokespecial 11, 3, 0), (12, .putfield 12, 3, 0), (15, .return_, 1, 0)]
theorem dc_3 : dcl_3.all (rf_dec cX3_init) = true := by decide +kernel
def Bl_3 (ca : Nat → ClassId) (h0 : Nat) (w : va_W) : Prop := ∃ a0 : Nat, ∃ w0 : va_W, Bl_2 ca a0 w0 ∧ w = (h0, .inr (3, [.ref a0, .int 0, .int 0])) :: w0
set_option maxHeartbeats 4000000 in
set_option maxRecDepth 100000 in
theorem ci_3 : cf_Ex mX3_init 3 7 40 (.inr (3, [.null, .int 0, .int 0])) Bl_3 := by
  refine cf_en (List.mem_of_getElem? (i := 3) rfl) rfl (by decide) ?_
  intro p l e s m args below meth c D ca tk h0 lC E hr hlk hnm hl
  refine cf_al E hl (cf_dec (e := (0, .aload_n 0, 1, 0)) dc_3 0 rfl) ?_
  refine cf_ob E 7 rfl hl.1 (cf_dec (e := (1, .invokespecial 3, 3, 0)) dc_3 1 rfl) (Nat.le_of_ble_eq_true rfl) (Nat.le_of_ble_eq_true rfl) ?_
  refine cf_al E hl (cf_dec (e := (4, .aload_n 0, 1, 0)) dc_3 2 rfl) ?_
  refine cf_nw E (ci := 2) (C := RX2) (T := TX2) (N := 8) (fs := [.null, .null, .null, .null, .null, .null, .int 0, .int 0]) rfl tyX2 tyX2_ok (rf_cls_in (ci := 2) rfl).1 28 29 rfl rfl (rf_ini (o := 2) (by decide)) (fun j hj => match j, hj with | 0, _ => rfl | 1, _ => rfl | 2, _ => rfl | 3, _ => rfl | 4, _ => rfl | 5, _ => rfl | 6, _ => rfl | 7, _ => rfl | j + 8, hj => absurd hj (by omega)) (Nat.le_of_ble_eq_true rfl) (Nat.le_of_ble_eq_true rfl) (cf_dec (e := (5, .new 9, 3, 0)) dc_3 3 rfl) (fun a0 => ?_)
  refine cf_du E (cf_dec (e := (8, .dup, 1, 0)) dc_3 4 rfl) ?_
  refine cf_ca E (Mt := mX2_init) (List.mem_of_getElem? (i := 2) rfl) rfl rfl rfl ci_2 (Or.inr ⟨1, rfl⟩) hl.1 (Nat.le_of_ble_eq_true rfl) (Nat.le_of_ble_eq_true rfl) (Nat.le_of_ble_eq_true rfl) (Nat.le_of_ble_eq_true rfl) (Nat.le_of_ble_eq_true rfl) (cf_dec (e := (9, .invokespecial 11, 3, 0)) dc_3 5 rfl) (fun w0 hB0 => ?_)
  refine cf_ws (ws' := (h0, .inr (3, [.null, .int 0, .int 0])) :: w0) rfl ?_
  refine cf_pf E (ci := 3) (C := RX3) (T := TX3) (N := 3) rfl rfl (rf_cls_in (ci := 3) rfl).2 (rf_cls_in (ci := 3) rfl).1 0 (by decide) ((rf_fT_in (e := (3, 12, 300, false)) (List.mem_of_getElem? (i := 15) rfl) (q := (RX3, TX3, 3)) rfl).1 rfl) hnm rfl (ty := tyX3 0) (tyX3_ok 0 (by decide)) rfl rfl (Nat.le_of_ble_eq_true rfl) (cf_dec (e := (12, .putfield 12, 3, 0)) dc_3 6 rfl) ?_
  refine cf_ws (ws' := (h0, .inr (3, [.ref a0, .int 0, .int 0])) :: w0) rfl ?_
  exact cf_re E hr hlk (cf_dec (e := (15, .return_, 1, 0)) dc_3 7 rfl) (Nat.le_of_ble_eq_true rfl) (Nat.le_of_ble_eq_true rfl) (fun t hP hD hF => ⟨⟨_, rfl, ⟨a0, w0, hB0, rfl⟩, hP, hD⟩, hF⟩)
def dcl_8 : List rf_E := [(0, .aload_n 0, 1, 0), (1, .invokespecial 3, 3, 0), (4, .aload_n 0, 1, 0), (5, .new 9, 3, 0), (8, .dup, 1, 0), (9, .invokespecial 11, 3, 0), (12, .putfield 12, 3, 0), (15, .aload_n 0, 1, 0), (16, .iconst 4, 1, 0), (17, .newarray .int, 2, 0), (19, .putfield 18, 3, 0), (22, .aload_n 0, 1, 0), (23, .bipush 6, 2, 0), (25, .newarray .int, 2, 0), (27, .putfield 22, 3, 0), (30, .aload_n 0, 1, 0), (31, .bipush 6, 2, 0), (33, .newarray .int, 2, 0), (35, .putfield 25, 3, 0), (38, .aload_n 0, 1, 0), (39, .bipush 6, 2, 0), (41, .newarray .int, 2, 0), (43, .putfield 28, 3, 0), (46, .aload_n 0, 1, 0), (47, .bipush 6, 2, 0), (49, .newarray .int, 2, 0), (51, .putfield 31, 3, 0), (54, .return_, 1, 0)]
theorem dc_8 : dcl_8.all (rf_dec cX8_init) = true := by decide +kernel
def Bl_8 (ca : Nat → ClassId) (h0 : Nat) (w : va_W) : Prop := ∃ a0 : Nat, ∃ w0 : va_W, Bl_2 ca a0 w0 ∧ ∃ a1 : Nat, ∃ a2 : Nat, ∃ a3 : Nat, ∃ a4 : Nat, ∃ a5 : Nat, w = (h0, .inr (8, [.ref a0, .ref a1, .ref a2, .ref a3, .ref a4, .ref a5, .int 0, .int 0, .int 0])) :: (((((w0 ++ [(a1, eI ca 4)]) ++ [(a2, eI ca 6)]) ++ [(a3, eI ca 6)]) ++ [(a4, eI ca 6)]) ++ [(a5, eI ca 6)])
set_option maxHeartbeats 4000000 in
set_option maxRecDepth 100000 in
theorem ci_8 : cf_Ex mX8_init 3 12 68 (.inr (8, [.null, .null, .null, .null, .null, .null, .int 0, .int 0, .int 0])) Bl_8 := by
  refine cf_en (List.mem_of_getElem? (i := 8) rfl) rfl (by decide) ?_
  intro p l e s m args below meth c D ca tk h0 lC E hr hlk hnm hl
  refine cf_al E hl (cf_dec (e := (0, .aload_n 0, 1, 0)) dc_8 0 rfl) ?_
  refine cf_ob E 12 rfl hl.1 (cf_dec (e := (1, .invokespecial 3, 3, 0)) dc_8 1 rfl) (Nat.le_of_ble_eq_true rfl) (Nat.le_of_ble_eq_true rfl) ?_
  refine cf_al E hl (cf_dec (e := (4, .aload_n 0, 1, 0)) dc_8 2 rfl) ?_
  refine cf_nw E (ci := 2) (C := RX2) (T := TX2) (N := 8) (fs := [.null, .null, .null, .null, .null, .null, .int 0, .int 0]) rfl tyX2 tyX2_ok (rf_cls_in (ci := 2) rfl).1 32 29 rfl rfl (rf_ini (o := 2) (by decide)) (fun j hj => match j, hj with | 0, _ => rfl | 1, _ => rfl | 2, _ => rfl | 3, _ => rfl | 4, _ => rfl | 5, _ => rfl | 6, _ => rfl | 7, _ => rfl | j + 8, hj => absurd hj (by omega)) (Nat.le_of_ble_eq_true rfl) (Nat.le_of_ble_eq_true rfl) (cf_dec (e := (5, .new 9, 3, 0)) dc_8 3 rfl) (fun a0 => ?_)
  refine cf_du E (cf_dec (e := (8, .dup, 1, 0)) dc_8 4 rfl) ?_
  refine cf_ca E (Mt := mX2_init) (List.mem_of_getElem? (i := 2) rfl) rfl rfl rfl ci_2 (Or.inr ⟨3, rfl⟩) hl.1 (Nat.le_of_ble_eq_true rfl) (Nat.le_of_ble_eq_true rfl) (Nat.le_of_ble_eq_true rfl) (Nat.le_of_ble_eq_true rfl) (Nat.le_of_ble_eq_true rfl) (cf_dec (e := (9, .invokespecial 11, 3, 0)) dc_8 5 rfl) (fun w0 hB0 => ?_)
  refine cf_ws (ws' := (h0, .inr (8, [.null, .null, .null, .null, .null, .null, .int 0, .int 0, .int 0])) :: w0) rfl ?_
  refine cf_pf E (ci := 8) (C := RX8) (T := TX8) (N := 9) rfl rfl (rf_cls_in (ci := 8) rfl).2 (rf_cls_in (ci := 8) rfl).1 0 (by decide) ((rf_fT_in (e := (8, 12, 800, false)) (List.mem_of_getElem? (i := 35) rfl) (q := (RX8, TX8, 9)) rfl).1 rfl) hnm rfl (ty := tyX8 0) (tyX8_ok 0 (by decide)) rfl rfl (Nat.le_of_ble_eq_true rfl) (cf_dec (e := (12, .putfield 12, 3, 0)) dc_8 6 rfl) ?_
  refine cf_ws (ws' := (h0, .inr (8, [.ref a0, .null, .null, .null, .null, .null, .int 0, .int 0, .int 0])) :: w0) rfl ?_
  refine cf_al E hl (cf_dec (e := (15, .aload_n 0, 1, 0)) dc_8 7 rfl) ?_
  refine cf_ic E (v := 4) (cf_dec (e := (16, .iconst 4, 1, 0)) dc_8 8 rfl) rfl ?_
  refine cf_ni E (N := 4) (cf_dec (e := (17, .newarray .int, 2, 0)) dc_8 9 rfl) (by decide) rfl (Nat.le_of_ble_eq_true rfl) (Nat.le_of_ble_eq_true rfl) (Nat.le_of_ble_eq_true rfl) (fun a1 => ?_)
  refine cf_ws (ws' := (h0, .inr (8, [.ref a0, .null, .null, .null, .null, .null, .int 0, .int 0, .int 0])) :: (w0 ++ [(a1, eI ca 4)])) rfl ?_
  refine cf_pf E (ci := 8) (C := RX8) (T := TX8) (N := 9) rfl rfl (rf_cls_in (ci := 8) rfl).2 (rf_cls_in (ci := 8) rfl).1 1 (by decide) ((rf_fT_in (e := (8, 18, 801, false)) (List.mem_of_getElem? (i := 36) rfl) (q := (RX8, TX8, 9)) rfl).1 rfl) hnm rfl (ty := tyX8 1) (tyX8_ok 1 (by decide)) rfl rfl (Nat.le_of_ble_eq_true rfl) (cf_dec (e := (19, .putfield 18, 3, 0)) dc_8 10 rfl) ?_
  refine cf_ws (ws' := (h0, .inr (8, [.ref a0, .ref a1, .null, .null, .null, .null, .int 0, .int 0, .int 0])) :: (w0 ++ [(a1, eI ca 4)])) rfl ?_
  refine cf_al E hl (cf_dec (e := (22, .aload_n 0, 1, 0)) dc_8 11 rfl) ?_
  refine cf_bp E (v := 6) (cf_dec (e := (23, .bipush 6, 2, 0)) dc_8 12 rfl) rfl ?_
  refine cf_ni E (N := 6) (cf_dec (e := (25, .newarray .int, 2, 0)) dc_8 13 rfl) (by decide) rfl (Nat.le_of_ble_eq_true rfl) (Nat.le_of_ble_eq_true rfl) (Nat.le_of_ble_eq_true rfl) (fun a2 => ?_)
  refine cf_ws (ws' := (h0, .inr (8, [.ref a0, .ref a1, .null, .null, .null, .null, .int 0, .int 0, .int 0])) :: ((w0 ++ [(a1, eI ca 4)]) ++ [(a2, eI ca 6)])) rfl ?_
  refine cf_pf E (ci := 8) (C := RX8) (T := TX8) (N := 9) rfl rfl (rf_cls_in (ci := 8) rfl).2 (rf_cls_in (ci := 8) rfl).1 2 (by decide) ((rf_fT_in (e := (8, 22, 802, false)) (List.mem_of_getElem? (i := 37) rfl) (q := (RX8, TX8, 9)) rfl).1 rfl) hnm rfl (ty := tyX8 2) (tyX8_ok 2 (by decide)) rfl rfl (Nat.le_of_ble_eq_true rfl) (cf_dec (e := (27, .putfield 22, 3, 0)) dc_8 14 rfl) ?_
  refine cf_ws (ws' := (h0, .inr (8, [.ref a0, .ref a1, .ref a2, .null, .null, .null, .int 0, .int 0, .int 0])) :: ((w0 ++ [(a1, eI ca 4)]) ++ [(a2, eI ca 6)])) rfl ?_
  refine cf_al E hl (cf_dec (e := (30, .aload_n 0, 1, 0)) dc_8 15 rfl) ?_
  refine cf_bp E (v := 6) (cf_dec (e := (31, .bipush 6, 2, 0)) dc_8 16 rfl) rfl ?_
  refine cf_ni E (N := 6) (cf_dec (e := (33, .newarray .int, 2, 0)) dc_8 17 rfl) (by decide) rfl (Nat.le_of_ble_eq_true rfl) (Nat.le_of_ble_eq_true rfl) (Nat.le_of_ble_eq_true rfl) (fun a3 => ?_)
  refine cf_ws (ws' := (h0, .inr (8, [.ref a0, .ref a1, .ref a2, .null, .null, .null, .int 0, .int 0, .int 0])) :: (((w0 ++ [(a1, eI ca 4)]) ++ [(a2, eI ca 6)]) ++ [(a3, eI ca 6)])) rfl ?_
  refine cf_pf E (ci := 8) (C := RX8) (T := TX8) (N := 9) rfl rfl (rf_cls_in (ci := 8) rfl).2 (rf_cls_in (ci := 8) rfl).1 3 (by decide) ((rf_fT_in (e := (8, 25, 803, false)) (List.mem_of_getElem? (i := 38) rfl) (q := (RX8, TX8, 9)) rfl).1 rfl) hnm rfl (ty := tyX8 3) (tyX8_ok 3 (by decide)) rfl rfl (Nat.le_of_ble_eq_true rfl) (cf_dec (e := (35, .putfield 25, 3, 0)) dc_8 18 rfl) ?_
  refine cf_ws (ws' := (h0, .inr (8, [.ref a0, .ref a1, .ref a2, .ref a3, .null, .null, .int 0, .int 0, .int 0])) :: (((w0 ++ [(a1, eI ca 4)]) ++ [(a2, eI ca 6)]) ++ [(a3, eI ca 6)])) rfl ?_
  refine cf_al E hl (cf_dec (e := (38, .aload_n 0, 1, 0)) dc_8 19 rfl) ?_
  refine cf_bp E (v := 6) (cf_dec (e := (39, .bipush 6, 2, 0)) dc_8 20 rfl) rfl ?_
  refine cf_ni E (N := 6) (cf_dec (e := (41, .newarray .int, 2, 0)) dc_8 21 rfl) (by decide) rfl (Nat.le_of_ble_eq_true rfl) (Nat.le_of_ble_eq_true rfl) (Nat.le_of_ble_eq_true rfl) (fun a4 => ?_)
  refine cf_ws (ws' := (h0, .inr (8, [.ref a0, .ref a1, .ref a2, .ref a3, .null, .null, .int 0, .int 0, .int 0])) :: ((((w0 ++ [(a1, eI ca 4)]) ++ [(a2, eI ca 6)]) ++ [(a3, eI ca 6)]) ++ [(a4, eI ca 6)])) rfl ?_
  refine cf_pf E (ci := 8) (C := RX8) (T := TX8) (N := 9) rfl rfl (rf_cls_in (ci := 8) rfl).2 (rf_cls_in (ci := 8) rfl).1 4 (by decide) ((rf_fT_in (e := (8, 28, 804, false)) (List.mem_of_getElem? (i := 39) rfl) (q := (RX8, TX8, 9)) rfl).1 rfl) hnm rfl (ty := tyX8 4) (tyX8_ok 4 (by decide)) rfl rfl (Nat.le_of_ble_eq_true rfl) (cf_dec (e := (43, .putfield 28, 3, 0)) dc_8 22 rfl) ?_
  refine cf_ws (ws' := (h0, .inr (8, [.ref a0, .ref a1, .ref a2, .ref a3, .ref a4, .null, .int 0, .int 0, .int 0])) :: ((((w0 ++ [(a1, eI ca 4)]) ++ [(a2, eI ca 6)]) ++ [(a3, eI ca 6)]) ++ [(a4, eI ca 6)])) rfl ?_
  refine cf_al E hl (cf_dec (e := (46, .aload_n 0, 1, 0)) dc_8 23 rfl) ?_
  refine cf_bp E (v := 6) (cf_dec (e := (47, .bipush 6, 2, 0)) dc_8 24 rfl) rfl ?_
  refine cf_ni E (N := 6) (cf_dec (e := (49, .newarray .int, 2, 0)) dc_8 25 rfl) (by decide) rfl (Nat.le_of_ble_eq_true rfl) (Nat.le_of_ble_eq_true rfl) (Nat.le_of_ble_eq_true rfl) (fun a5 => ?_)
  refine cf_ws (ws' := (h0, .inr (8, [.ref a0, .ref a1, .ref a2, .ref a3, .ref a4, .null, .int 0, .int 0, .int 0])) :: (((((w0 ++ [(a1, eI ca 4)]) ++ [(a2, eI ca 6)]) ++ [(a3, eI ca 6)]) ++ [(a4, eI ca 6)]) ++ [(a5, eI ca 6)])) rfl ?_
  refine cf_pf E (ci := 8) (C := RX8) (T := TX8) (N := 9) rfl rfl (rf_cls_in (ci := 8) rfl).2 (rf_cls_in (ci := 8) rfl).1 5 (by decide) ((rf_fT_in (e := (8, 31, 805, false)) (List.mem_of_getElem? (i := 40) rfl) (q := (RX8, TX8, 9)) rfl).1 rfl) hnm rfl (ty := tyX8 5) (tyX8_ok 5 (by decide)) rfl rfl (Nat.le_of_ble_eq_true rfl) (cf_dec (e := (51, .putfield 31, 3, 0)) dc_8 26 rfl) ?_
  refine cf_ws (ws' := (h0, .inr (8, [.ref a0, .ref a1, .ref a2, .ref a3, .ref a4, .ref a5, .int 0, .int 0, .int 0])) :: (((((w0 ++ [(a1, eI ca 4)]) ++ [(a2, eI ca 6)]) ++ [(a3, eI ca 6)]) ++ [(a4, eI ca 6)]) ++ [(a5, eI ca 6)])) rfl ?_
  exact cf_re E hr hlk (cf_dec (e := (54, .return_, 1, 0)) dc_8 27 rfl) (Nat.le_of_ble_eq_true rfl) (Nat.le_of_ble_eq_true rfl) (fun t hP hD hF => ⟨⟨_, rfl, ⟨a0, w0, hB0, a1, a2, a3, a4, a5, rfl⟩, hP, hD⟩, hF⟩)
def dcl_9 : List rf_E := [(0, .aload_n 0, 1, 0), (1, .invokespecial 1, 3, 0), (4, .aload_n 0, 1, 0), (5, .new 7, 3, 0), (8, .dup, 1, 0), (9, .invokespecial 9, 3, 0), (12, .putfield 10, 3, 0), (15, .aload_n 0, 1, 0), (16, .new 16, 3, 0), (19, .dup, 1, 0), (20, .invokespecial 18, 3, 0), (23, .putfield 19, 3, 0), (26, .aload_n 0, 1, 0), (27, .new 23, 3, 0), (30, .dup, 1, 0), (31, .invokespecial 25, 3, 0), (34, .putfield 26, 3, 0), (37, .aload_n 0, 1, 0), (38, .new 30, 3, 0), (41, .dup, 1, 0), (42, .invokespecial 32, 3, 0), (45, .putfield 33, 3, 0), (48, .aload_n 0, 1, 0), (49, .new 37, 3, 0), (52, .dup, 1, 0), (53, .invokespecial 39, 3, 0), (56, .putfield 40, 3, 0), (59, .aload_n 0, 1, 0), (60, .new 44, 3, 0), (63, .dup, 1, 0), (64, .invokespecial 46, 3, 0), (67, .putfield 47, 3, 0), (70, .aload_n 0, 1, 0), (71, .new 51, 3, 0), (74, .dup, 1, 0), (75, .invokespecial 53, 3, 0), (78, .putfield 54, 3, 0), (81, .aload_n 0, 1, 0), (82, .new 58, 3, 0), (85, .dup, 1, 0), (86, .invokespecial 60, 3, 0), (89, .putfield 61, 3, 0), (92, .aload_n 0, 1, 0), (93, .bipush 6, 2, 0), (95, .newarray .int, 2, 0), (97, .putfield 65, 3, 0), (100, .return_, 1, 0)]
theorem dc_9 : dcl_9.all (rf_dec cX9_init) = true := by decide +kernel
def Bl_9 (ca : Nat → ClassId) (h0 : Nat) (w : va_W) : Prop := ∃ a0 : Nat, ∃ w0 : va_W, Bl_4 ca a0 w0 ∧ ∃ a1 : Nat, ∃ w1 : va_W, Bl_7 ca a1 w1 ∧ ∃ a2 : Nat, ∃ w2 : va_W, Bl_3 ca a2 w2 ∧ ∃ a3 : Nat, ∃ w3 : va_W, Bl_8 ca a3 w3 ∧ ∃ a4 : Nat, ∃ w4 : va_W, Bl_1 ca a4 w4 ∧ ∃ a5 : Nat, ∃ w5 : va_W, Bl_5 ca a5 w5 ∧ ∃ a6 : Nat, ∃ w6 : va_W, Bl_6 ca a6 w6 ∧ ∃ a7 : Nat, ∃ w7 : va_W, Bl_0 ca a7 w7 ∧ ∃ a8 : Nat, w = (h0, .inr (9, [.ref a0, .ref a1, .ref a2, .ref a3, .ref a4, .ref a5, .ref a6, .ref a7, .ref a8, .int 0, .int 0])) :: ((((((((w0 ++ w1) ++ w2) ++ w3) ++ w4) ++ w5) ++ w6) ++ w7) ++ [(a8, eI ca 6)])
set_option maxHeartbeats 4000000 in
set_option maxRecDepth 100000 in
theorem ci_9 : cf_Ex mX9_init 4 54 946 (.inr (9, [.null, .null, .null, .null, .null, .null, .null, .null, .null, .int 0, .int 0])) Bl_9 := by
  refine cf_en (List.mem_of_getElem? (i := 9) rfl) rfl (by decide) ?_
  intro p l e s m args below meth c D ca tk h0 lC E hr hlk hnm hl
  refine cf_al E hl (cf_dec (e := (0, .aload_n 0, 1, 0)) dc_9 0 rfl) ?_
  refine cf_ob E 13 rfl hl.1 (cf_dec (e := (1, .invokespecial 1, 3, 0)) dc_9 1 rfl) (Nat.le_of_ble_eq_true rfl) (Nat.le_of_ble_eq_true rfl) ?_
  refine cf_al E hl (cf_dec (e := (4, .aload_n 0, 1, 0)) dc_9 2 rfl) ?_
  refine cf_nw E (ci := 4) (C := RX4) (T := TX4) (N := 2) (fs := [.null, .null]) rfl tyX4 tyX4_ok (rf_cls_in (ci := 4) rfl).1 18 19 rfl rfl (rf_ini (o := 4) (by decide)) (fun j hj => match j, hj with | 0, _ => rfl | 1, _ => rfl | j + 2, hj => absurd hj (by omega)) (Nat.le_of_ble_eq_true rfl) (Nat.le_of_ble_eq_true rfl) (cf_dec (e := (5, .new 7, 3, 0)) dc_9 3 rfl) (fun a0 => ?_)
  refine cf_du E (cf_dec (e := (8, .dup, 1, 0)) dc_9 4 rfl) ?_
  refine cf_ca E (Mt := mX4_init) (List.mem_of_getElem? (i := 4) rfl) rfl rfl rfl ci_4 (Or.inl ⟨20, rfl⟩) hl.1 (Nat.le_of_ble_eq_true rfl) (Nat.le_of_ble_eq_true rfl) (Nat.le_of_ble_eq_true rfl) (Nat.le_of_ble_eq_true rfl) (Nat.le_of_ble_eq_true rfl) (cf_dec (e := (9, .invokespecial 9, 3, 0)) dc_9 5 rfl) (fun w0 hB0 => ?_)
  refine cf_ws (ws' := (h0, .inr (9, [.null, .null, .null, .null, .null, .null, .null, .null, .null, .int 0, .int 0])) :: w0) rfl ?_
  refine cf_pf E (ci := 9) (C := RX9) (T := TX9) (N := 11) rfl rfl (rf_cls_in (ci := 9) rfl).2 (rf_cls_in (ci := 9) rfl).1 0 (by decide) ((rf_fT_in (e := (9, 10, 900, false)) (List.mem_of_getElem? (i := 52) rfl) (q := (RX9, TX9, 11)) rfl).1 rfl) hnm rfl (ty := tyX9 0) (tyX9_ok 0 (by decide)) rfl rfl (Nat.le_of_ble_eq_true rfl) (cf_dec (e := (12, .putfield 10, 3, 0)) dc_9 6 rfl) ?_
  refine cf_ws (ws' := (h0, .inr (9, [.ref a0, .null, .null, .null, .null, .null, .null, .null, .null, .int 0, .int 0])) :: w0) rfl ?_
  refine cf_al E hl (cf_dec (e := (15, .aload_n 0, 1, 0)) dc_9 7 rfl) ?_
  refine cf_nw E (ci := 7) (C := RX7) (T := TX7) (N := 2) (fs := [.null, .null]) rfl tyX7 tyX7_ok (rf_cls_in (ci := 7) rfl).1 22 23 rfl rfl (rf_ini (o := 7) (by decide)) (fun j hj => match j, hj with | 0, _ => rfl | 1, _ => rfl | j + 2, hj => absurd hj (by omega)) (Nat.le_of_ble_eq_true rfl) (Nat.le_of_ble_eq_true rfl) (cf_dec (e := (16, .new 16, 3, 0)) dc_9 8 rfl) (fun a1 => ?_)
  refine cf_du E (cf_dec (e := (19, .dup, 1, 0)) dc_9 9 rfl) ?_
  refine cf_ca E (Mt := mX7_init) (List.mem_of_getElem? (i := 7) rfl) rfl rfl rfl ci_7 (Or.inl ⟨24, rfl⟩) hl.1 (Nat.le_of_ble_eq_true rfl) (Nat.le_of_ble_eq_true rfl) (Nat.le_of_ble_eq_true rfl) (Nat.le_of_ble_eq_true rfl) (Nat.le_of_ble_eq_true rfl) (cf_dec (e := (20, .invokespecial 18, 3, 0)) dc_9 10 rfl) (fun w1 hB1 => ?_)
  refine cf_ws (ws' := (h0, .inr (9, [.ref a0, .null, .null, .null, .null, .null, .null, .null, .null, .int 0, .int 0])) :: (w0 ++ w1)) rfl ?_
  refine cf_pf E (ci := 9) (C := RX9) (T := TX9) (N := 11) rfl rfl (rf_cls_in (ci := 9) rfl).2 (rf_cls_in (ci := 9) rfl).1 1 (by decide) ((rf_fT_in (e := (9, 19, 901, false)) (List.mem_of_getElem? (i := 53) rfl) (q := (RX9, TX9, 11)) rfl).1 rfl) hnm rfl (ty := tyX9 1) (tyX9_ok 1 (by decide)) rfl rfl (Nat.le_of_ble_eq_true rfl) (cf_dec (e := (23, .putfield 19, 3, 0)) dc_9 11 rfl) ?_
  refine cf_ws (ws' := (h0, .inr (9, [.ref a0, .ref a1, .null, .null, .null, .null, .null, .null, .null, .int 0, .int 0])) :: (w0 ++ w1)) rfl ?_
  refine cf_al E hl (cf_dec (e := (26, .aload_n 0, 1, 0)) dc_9 12 rfl) ?_
  refine cf_nw E (ci := 3) (C := RX3) (T := TX3) (N := 3) (fs := [.null, .int 0, .int 0]) rfl tyX3 tyX3_ok (rf_cls_in (ci := 3) rfl).1 26 27 rfl rfl (rf_ini (o := 3) (by decide)) (fun j hj => match j, hj with | 0, _ => rfl | 1, _ => rfl | 2, _ => rfl | j + 3, hj => absurd hj (by omega)) (Nat.le_of_ble_eq_true rfl) (Nat.le_of_ble_eq_true rfl) (cf_dec (e := (27, .new 23, 3, 0)) dc_9 13 rfl) (fun a2 => ?_)
  refine cf_du E (cf_dec (e := (30, .dup, 1, 0)) dc_9 14 rfl) ?_
  refine cf_ca E (Mt := mX3_init) (List.mem_of_getElem? (i := 3) rfl) rfl rfl rfl ci_3 (Or.inr ⟨0, rfl⟩) hl.1 (Nat.le_of_ble_eq_true rfl) (Nat.le_of_ble_eq_true rfl) (Nat.le_of_ble_eq_true rfl) (Nat.le_of_ble_eq_true rfl) (Nat.le_of_ble_eq_true rfl) (cf_dec (e := (31, .invokespecial 25, 3, 0)) dc_9 15 rfl) (fun w2 hB2 => ?_)
  refine cf_ws (ws' := (h0, .inr (9, [.ref a0, .ref a1, .null, .null, .null, .null, .null, .null, .null, .int 0, .int 0])) :: ((w0 ++ w1) ++ w2)) rfl ?_
  refine cf_pf E (ci := 9) (C := RX9) (T := TX9) (N := 11) rfl rfl (rf_cls_in (ci := 9) rfl).2 (rf_cls_in (ci := 9) rfl).1 2 (by decide) ((rf_fT_in (e := (9, 26, 902, false)) (List.mem_of_getElem? (i := 54) rfl) (q := (RX9, TX9, 11)) rfl).1 rfl) hnm rfl (ty := tyX9 2) (tyX9_ok 2 (by decide)) rfl rfl (Nat.le_of_ble_eq_true rfl) (cf_dec (e := (34, .putfield 26, 3, 0)) dc_9 16 rfl) ?_
  refine cf_ws (ws' := (h0, .inr (9, [.ref a0, .ref a1, .ref a2, .null, .null, .null, .null, .null, .null, .int 0, .int 0])) :: ((w0 ++ w1) ++ w2)) rfl ?_
  refine cf_al E hl (cf_dec (e := (37, .aload_n 0, 1, 0)) dc_9 17 rfl) ?_
  refine cf_nw E (ci := 8) (C := RX8) (T := TX8) (N := 9) (fs := [.null, .null, .null, .null, .null, .null, .int 0, .int 0, .int 0]) rfl tyX8 tyX8_ok (rf_cls_in (ci := 8) rfl).1 30 31 rfl rfl (rf_ini (o := 8) (by decide)) (fun j hj => match j, hj with | 0, _ => rfl | 1, _ => rfl | 2, _ => rfl | 3, _ => rfl | 4, _ => rfl | 5, _ => rfl | 6, _ => rfl | 7, _ => rfl | 8, _ => rfl | j + 9, hj => absurd hj (by omega)) (Nat.le_of_ble_eq_true rfl) (Nat.le_of_ble_eq_true rfl) (cf_dec (e := (38, .new 30, 3, 0)) dc_9 18 rfl) (fun a3 => ?_)
  refine cf_du E (cf_dec (e := (41, .dup, 1, 0)) dc_9 19 rfl) ?_
  refine cf_ca E (Mt := mX8_init) (List.mem_of_getElem? (i := 8) rfl) rfl rfl rfl ci_8 (Or.inr ⟨2, rfl⟩) hl.1 (Nat.le_of_ble_eq_true rfl) (Nat.le_of_ble_eq_true rfl) (Nat.le_of_ble_eq_true rfl) (Nat.le_of_ble_eq_true rfl) (Nat.le_of_ble_eq_true rfl) (cf_dec (e := (42, .invokespecial 32, 3, 0)) dc_9 20 rfl) (fun w3 hB3 => ?_)
  refine cf_ws (ws' := (h0, .inr (9, [.ref a0, .ref a1, .ref a2, .null, .null, .null, .null, .null, .null, .int 0, .int 0])) :: (((w0 ++ w1) ++ w2) ++ w3)) rfl ?_
  refine cf_pf E (ci := 9) (C := RX9) (T := TX9) (N := 11) rfl rfl (rf_cls_in (ci := 9) rfl).2 (rf_cls_in (ci := 9) rfl).1 3 (by decide) ((rf_fT_in (e := (9, 33, 903, false)) (List.mem_of_getElem? (i := 55) rfl) (q := (RX9, TX9, 11)) rfl).1 rfl) hnm rfl (ty := tyX9 3) (tyX9_ok 3 (by decide)) rfl rfl (Nat.le_of_ble_eq_true rfl) (cf_dec (e := (45, .putfield 33, 3, 0)) dc_9 21 rfl) ?_
  refine cf_ws (ws' := (h0, .inr (9, [.ref a0, .ref a1, .ref a2, .ref a3, .null, .null, .null, .null, .null, .int 0, .int 0])) :: (((w0 ++ w1) ++ w2) ++ w3)) rfl ?_
  refine cf_al E hl (cf_dec (e := (48, .aload_n 0, 1, 0)) dc_9 22 rfl) ?_
  refine cf_nw E (ci := 1) (C := RX1) (T := TX1) (N := 4) (fs := [.null, .null, .null, .int 0]) rfl tyX1 tyX1_ok (rf_cls_in (ci := 1) rfl).1 33 34 rfl rfl (rf_ini (o := 1) (by decide)) (fun j hj => match j, hj with | 0, _ => rfl | 1, _ => rfl | 2, _ => rfl | 3, _ => rfl | j + 4, hj => absurd hj (by omega)) (Nat.le_of_ble_eq_true rfl) (Nat.le_of_ble_eq_true rfl) (cf_dec (e := (49, .new 37, 3, 0)) dc_9 23 rfl) (fun a4 => ?_)
  refine cf_du E (cf_dec (e := (52, .dup, 1, 0)) dc_9 24 rfl) ?_
  refine cf_ca E (Mt := mX1_init) (List.mem_of_getElem? (i := 1) rfl) rfl rfl rfl ci_1 (Or.inl ⟨35, rfl⟩) hl.1 (Nat.le_of_ble_eq_true rfl) (Nat.le_of_ble_eq_true rfl) (Nat.le_of_ble_eq_true rfl) (Nat.le_of_ble_eq_true rfl) (Nat.le_of_ble_eq_true rfl) (cf_dec (e := (53, .invokespecial 39, 3, 0)) dc_9 25 rfl) (fun w4 hB4 => ?_)
  refine cf_ws (ws' := (h0, .inr (9, [.ref a0, .ref a1, .ref a2, .ref a3, .null, .null, .null, .null, .null, .int 0, .int 0])) :: ((((w0 ++ w1) ++ w2) ++ w3) ++ w4)) rfl ?_
  refine cf_pf E (ci := 9) (C := RX9) (T := TX9) (N := 11) rfl rfl (rf_cls_in (ci := 9) rfl).2 (rf_cls_in (ci := 9) rfl).1 4 (by decide) ((rf_fT_in (e := (9, 40, 904, false)) (List.mem_of_getElem? (i := 56) rfl) (q := (RX9, TX9, 11)) rfl).1 rfl) hnm rfl (ty := tyX9 4) (tyX9_ok 4 (by decide)) rfl rfl (Nat.le_of_ble_eq_true rfl) (cf_dec (e := (56, .putfield 40, 3, 0)) dc_9 26 rfl) ?_
  refine cf_ws (ws' := (h0, .inr (9, [.ref a0, .ref a1, .ref a2, .ref a3, .ref a4, .null, .null, .null, .null, .int 0, .int 0])) :: ((((w0 ++ w1) ++ w2) ++ w3) ++ w4)) rfl ?_
  refine cf_al E hl (cf_dec (e := (59, .aload_n 0, 1, 0)) dc_9 27 rfl) ?_
  refine cf_nw E (ci := 5) (C := RX5) (T := TX5) (N := 6) (fs := [.null, .null, .null, .null, .int 0, .int 0]) rfl tyX5 tyX5_ok (rf_cls_in (ci := 5) rfl).1 37 38 rfl rfl (rf_ini (o := 5) (by decide)) (fun j hj => match j, hj with | 0, _ => rfl | 1, _ => rfl | 2, _ => rfl | 3, _ => rfl | 4, _ => rfl | 5, _ => rfl | j + 6, hj => absurd hj (by omega)) (Nat.le_of_ble_eq_true rfl) (Nat.le_of_ble_eq_true rfl) (cf_dec (e := (60, .new 44, 3, 0)) dc_9 28 rfl) (fun a5 => ?_)
  refine cf_du E (cf_dec (e := (63, .dup, 1, 0)) dc_9 29 rfl) ?_
  refine cf_ca E (Mt := mX5_init) (List.mem_of_getElem? (i := 5) rfl) rfl rfl rfl ci_5 (Or.inr ⟨4, rfl⟩) hl.1 (Nat.le_of_ble_eq_true rfl) (Nat.le_of_ble_eq_true rfl) (Nat.le_of_ble_eq_true rfl) (Nat.le_of_ble_eq_true rfl) (Nat.le_of_ble_eq_true rfl) (cf_dec (e := (64, .invokespecial 46, 3, 0)) dc_9 30 rfl) (fun w5 hB5 => ?_)
  refine cf_ws (ws' := (h0, .inr (9, [.ref a0, .ref a1, .ref a2, .ref a3, .ref a4, .null, .null, .null, .null, .int 0, .int 0])) :: (((((w0 ++ w1) ++ w2) ++ w3) ++ w4) ++ w5)) rfl ?_
  refine cf_pf E (ci := 9) (C := RX9) (T := TX9) (N := 11) rfl rfl (rf_cls_in (ci := 9) rfl).2 (rf_cls_in (ci := 9) rfl).1 5 (by decide) ((rf_fT_in (e := (9, 47, 905, false)) (List.mem_of_getElem? (i := 57) rfl) (q := (RX9, TX9, 11)) rfl).1 rfl) hnm rfl (ty := tyX9 5) (tyX9_ok 5 (by decide)) rfl rfl (Nat.le_of_ble_eq_true rfl) (cf_dec (e := (67, .putfield 47, 3, 0)) dc_9 31 rfl) ?_
  refine cf_ws (ws' := (h0, .inr (9, [.ref a0, .ref a1, .ref a2, .ref a3, .ref a4, .ref a5, .null, .null, .null, .int 0, .int 0])) :: (((((w0 ++ w1) ++ w2) ++ w3) ++ w4) ++ w5)) rfl ?_
  refine cf_al E hl (cf_dec (e := (70, .aload_n 0, 1, 0)) dc_9 32 rfl) ?_
  refine cf_nw E (ci := 6) (C := RX6) (T := TX6) (N := 3) (fs := [.null, .null, .int 0]) rfl tyX6 tyX6_ok (rf_cls_in (ci := 6) rfl).1 39 40 rfl rfl (rf_ini (o := 6) (by decide)) (fun j hj => match j, hj with | 0, _ => rfl | 1, _ => rfl | 2, _ => rfl | j + 3, hj => absurd hj (by omega)) (Nat.le_of_ble_eq_true rfl) (Nat.le_of_ble_eq_true rfl) (cf_dec (e := (71, .new 51, 3, 0)) dc_9 33 rfl) (fun a6 => ?_)
  refine cf_du E (cf_dec (e := (74, .dup, 1, 0)) dc_9 34 rfl) ?_
  refine cf_ca E (Mt := mX6_init) (List.mem_of_getElem? (i := 6) rfl) rfl rfl rfl ci_6 (Or.inr ⟨5, rfl⟩) hl.1 (Nat.le_of_ble_eq_true rfl) (Nat.le_of_ble_eq_true rfl) (Nat.le_of_ble_eq_true rfl) (Nat.le_of_ble_eq_true rfl) (Nat.le_of_ble_eq_true rfl) (cf_dec (e := (75, .invokespecial 53, 3, 0)) dc_9 35 rfl) (fun w6 hB6 => ?_)
  refine cf_ws (ws' := (h0, .inr (9, [.ref a0, .ref a1, .ref a2, .ref a3, .ref a4, .ref a5, .null, .null, .null, .int 0, .int 0])) :: ((((((w0 ++ w1) ++ w2) ++ w3) ++ w4) ++ w5) ++ w6)) rfl ?_
  refine cf_pf E (ci := 9) (C := RX9) (T := TX9) (N := 11) rfl rfl (rf_cls_in (ci := 9) rfl).2 (rf_cls_in (ci := 9) rfl).1 6 (by decide) ((rf_fT_in (e := (9, 54, 906, false)) (List.mem_of_getElem? (i := 58) rfl) (q := (RX9, TX9, 11)) rfl).1 rfl) hnm rfl (ty := tyX9 6) (tyX9_ok 6 (by decide)) rfl rfl (Nat.le_of_ble_eq_true rfl) (cf_dec (e := (78, .putfield 54, 3, 0)) dc_9 36 rfl) ?_
  refine cf_ws (ws' := (h0, .inr (9, [.ref a0, .ref a1, .ref a2, .ref a3, .ref a4, .ref a5, .ref a6, .null, .null, .int 0, .int 0])) :: ((((((w0 ++ w1) ++ w2) ++ w3) ++ w4) ++ w5) ++ w6)) rfl ?_
  refine cf_al E hl (cf_dec (e := (81, .aload_n 0, 1, 0)) dc_9 37 rfl) ?_
  refine cf_nw E (ci := 0) (C := RX0) (T := TX0) (N := 2) (fs := [.long 0, .long 0]) rfl tyX0 tyX0_ok (rf_cls_in (ci := 0) rfl).1 41 42 rfl rfl (rf_ini (o := 0) (by decide)) (fun j hj => match j, hj with | 0, _ => rfl | 1, _ => rfl | j + 2, hj => absurd hj (by omega)) (Nat.le_of_ble_eq_true rfl) (Nat.le_of_ble_eq_true rfl) (cf_dec (e := (82, .new 58, 3, 0)) dc_9 38 rfl) (fun a7 => ?_)
  refine cf_du E (cf_dec (e := (85, .dup, 1, 0)) dc_9 39 rfl) ?_
  refine cf_ca E (Mt := mX0_init) (List.mem_of_getElem? (i := 0) rfl) rfl rfl rfl ci_0 (Or.inr ⟨6, rfl⟩) hl.1 (Nat.le_of_ble_eq_true rfl) (Nat.le_of_ble_eq_true rfl) (Nat.le_of_ble_eq_true rfl) (Nat.le_of_ble_eq_true rfl) (Nat.le_of_ble_eq_true rfl) (cf_dec (e := (86, .invokespecial 60, 3, 0)) dc_9 40 rfl) (fun w7 hB7 => ?_)
  refine cf_ws (ws' := (h0, .inr (9, [.ref a0, .ref a1, .ref a2, .ref a3, .ref a4, .ref a5, .ref a6, .null, .null, .int 0, .int 0])) :: (((((((w0 ++ w1) ++ w2) ++ w3) ++ w4) ++ w5) ++ w6) ++ w7)) rfl ?_
  refine cf_pf E (ci := 9) (C := RX9) (T := TX9) (N := 11) rfl rfl (rf_cls_in (ci := 9) rfl).2 (rf_cls_in (ci := 9) rfl).1 7 (by decide) ((rf_fT_in (e := (9, 61, 907, false)) (List.mem_of_getElem? (i := 59) rfl) (q := (RX9, TX9, 11)) rfl).1 rfl) hnm rfl (ty := tyX9 7) (tyX9_ok 7 (by decide)) rfl rfl (Nat.le_of_ble_eq_true rfl) (cf_dec (e := (89, .putfield 61, 3, 0)) dc_9 41 rfl) ?_
  refine cf_ws (ws' := (h0, .inr (9, [.ref a0, .ref a1, .ref a2, .ref a3, .ref a4, .ref a5, .ref a6, .ref a7, .null, .int 0, .int 0])) :: (((((((w0 ++ w1) ++ w2) ++ w3) ++ w4) ++ w5) ++ w6) ++ w7)) rfl ?_
  refine cf_al E hl (cf_dec (e := (92, .aload_n 0, 1, 0)) dc_9 42 rfl) ?_
  refine cf_bp E (v := 6) (cf_dec (e := (93, .bipush 6, 2, 0)) dc_9 43 rfl) rfl ?_
  refine cf_ni E (N := 6) (cf_dec (e := (95, .newarray .int, 2, 0)) dc_9 44 rfl) (by decide) rfl (Nat.le_of_ble_eq_true rfl) (Nat.le_of_ble_eq_true rfl) (Nat.le_of_ble_eq_true rfl) (fun a8 => ?_)
  refine cf_ws (ws' := (h0, .inr (9, [.ref a0, .ref a1, .ref a2, .ref a3, .ref a4, .ref a5, .ref a6, .ref a7, .null, .int 0, .int 0])) :: ((((((((w0 ++ w1) ++ w2) ++ w3) ++ w4) ++ w5) ++ w6) ++ w7) ++ [(a8, eI ca 6)])) rfl ?_
  refine cf_pf E (ci := 9) (C := RX9) (T := TX9) (N := 11) rfl rfl (rf_cls_in (ci := 9) rfl).2 (rf_cls_in (ci := 9) rfl).1 8 (by decide) ((rf_fT_in (e := (9, 65, 908, false)) (List.mem_of_getElem? (i := 60) rfl) (q := (RX9, TX9, 11)) rfl).1 rfl) hnm rfl (ty := tyX9 8) (tyX9_ok 8 (by decide)) rfl rfl (Nat.le_of_ble_eq_true rfl) (cf_dec (e := (97, .putfield 65, 3, 0)) dc_9 45 rfl) ?_
  refine cf_ws (ws' := (h0, .inr (9, [.ref a0, .ref a1, .ref a2, .ref a3, .ref a4, .ref a5, .ref a6, .ref a7, .ref a8, .int 0, .int 0])) :: ((((((((w0 ++ w1) ++ w2) ++ w3) ++ w4) ++ w5) ++ w6) ++ w7) ++ [(a8, eI ca 6)])) rfl ?_
  exact cf_re E hr hlk (cf_dec (e := (100, .return_, 1, 0)) dc_9 46 rfl) (Nat.le_of_ble_eq_true rfl) (Nat.le_of_ble_eq_true rfl) (fun t hP hD hF => ⟨⟨_, rfl, ⟨a0, w0, hB0, a1, w1, hB1, a2, w2, hB2, a3, w3, hB3, a4, w4, hB4, a5, w5, hB5, a6, w6, hB6, a7, w7, hB7, a8, rfl⟩, hP, hD⟩, hF⟩)
