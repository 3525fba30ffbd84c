def rc_X2_takeFrom : List rf_E := [(0, .aload_n 0, 1, 0), (1, .aload_n 1, 1, 1), (2, .getfield 30, 3, 206), (5, .putfield 30, 3, 206), (8, .aload_n 0, 1, 0), (9, .aload_n 1, 1, 1), (10, .getfield 34, 3, 207), (13, .putfield 34, 3, 207), (16, .aload_n 1, 1, 1), (17, .getfield 9, 3, 200), (20, .iconst 0, 1, 0), (21, .aload_n 0, 1, 0), (22, .getfield 9, 3, 200), (25, .iconst 0, 1, 0), (26, .iconst 4, 1, 0), (27, .invokestatic 44, 3, 1000), (30, .aload_n 1, 1, 1), (31, .getfield 15, 3, 201), (34, .iconst 0, 1, 0), (35, .aload_n 0, 1, 0), (36, .getfield 15, 3, 201), (39, .iconst 0, 1, 0), (40, .iconst 4, 1, 0), (41, .invokestatic 44, 3, 1000), (44, .aload_n 1, 1, 1), (45, .getfield 18, 3, 202), (48, .iconst 0, 1, 0), (49, .aload_n 0, 1, 0), (50, .getfield 18, 3, 202), (53, .iconst 0, 1, 0), (54, .bipush 6, 2, 0), (56, .invokestatic 44, 3, 1000), (59, .aload_n 1, 1, 1), (60, .getfield 21, 3, 203), (63, .iconst 0, 1, 0), (64, .aload_n 0, 1, 0), (65, .getfield 21, 3, 203), (68, .iconst 0, 1, 0), (69, .bipush 6, 2, 0), (71, .invokestatic 44, 3, 1000), (74, .aload_n 1, 1, 1), (75, .getfield 24, 3, 204), (78, .iconst 0, 1, 0), (79, .aload_n 0, 1, 0), (80, .getfield 24, 3, 204), (83, .iconst 0, 1, 0), (84, .bipush 6, 2, 0), (86, .invokestatic 44, 3, 1000), (89, .aload_n 1, 1, 1), (90, .getfield 27, 3, 205), (93, .iconst 0, 1, 0), (94, .aload_n 0, 1, 0), (95, .getfield 27, 3, 205), (98, .iconst 0, 1, 0), (99, .bipush 6, 2, 0), (101, .invokestatic 44, 3, 1000), (104, .return_, 1, 0)]
theorem rc_X2_takeFrom_ok : rf_rc mX2_takeFrom rc_X2_takeFrom = true := by decide +kernel
theorem mw_X2_takeFrom : rf_mw mX2_takeFrom := ⟨rf_mt_ok _ (List.mem_of_getElem? (i := 15) rfl), fun h => absurd h (by decide), fun _ => ⟨rf_mi_ok _ (List.mem_of_getElem? (i := 13) rfl), rf_mv_ok _ (List.mem_of_getElem? (i := 13) rfl)⟩, rf_mq_0 _ (List.mem_of_getElem? (i := 15) rfl)⟩
def f_X2_takeFrom (σ : rf_S) : Option rf_S := (some (rf_sI (rf_sI σ 26 6 (σ.1 18 6)) 26 7 ((rf_sI σ 26 6 (σ.1 18 6)).1 18 7))).bind (fun σ1 => if rf_cp ly0 19 0 27 0 4 = true then ((some (rf_sA σ1 27 (va_cpy (σ1.1 19) (σ1.1 27) (0 : Int32).toNatClampNeg (0 : Int32).toNatClampNeg (4 : Int32).toNatClampNeg))).bind (fun σ4 => if rf_cp ly0 20 0 28 0 4 = true then ((some (rf_sA σ4 28 (va_cpy (σ4.1 20) (σ4.1 28) (0 : Int32).toNatClampNeg (0 : Int32).toNatClampNeg (4 : Int32).toNatClampNeg))).bind (fun σ7 => if rf_cp ly0 21 0 29 0 6 = true then ((some (rf_sA σ7 29 (va_cpy (σ7.1 21) (σ7.1 29) (0 : Int32).toNatClampNeg (0 : Int32).toNatClampNeg (6 : Int32).toNatClampNeg))).bind (fun σ10 => if rf_cp ly0 22 0 30 0 6 = true then ((some (rf_sA σ10 30 (va_cpy (σ10.1 22) (σ10.1 30) (0 : Int32).toNatClampNeg (0 : Int32).toNatClampNeg (6 : Int32).toNatClampNeg))).bind (fun σ13 => if rf_cp ly0 23 0 31 0 6 = true then ((some (rf_sA σ13 31 (va_cpy (σ13.1 23) (σ13.1 31) (0 : Int32).toNatClampNeg (0 : Int32).toNatClampNeg (6 : Int32).toNatClampNeg))).bind (fun σ16 => if rf_cp ly0 24 0 32 0 6 = true then ((some (rf_sA σ16 32 (va_cpy (σ16.1 24) (σ16.1 32) (0 : Int32).toNatClampNeg (0 : Int32).toNatClampNeg (6 : Int32).toNatClampNeg))).bind (fun σ19 => some σ19)) else none)) else none)) else none)) else none)) else none)) else none)
set_option maxHeartbeats 2000000 in
theorem ok_X2_takeFrom (d : Nat) (σ : rf_S) (q : rf_S) (h : f_X2_takeFrom σ = some q) : rf_Ex ly0 (d + 1) mX2_takeFrom [.ref 26, .ref 18] σ none q := by
  unfold f_X2_takeFrom at h
  refine rf_ex mw_X2_takeFrom [some (.ref 26), some (.ref 18)] (Nat.le_of_ble_eq_true rfl) rfl ?_
  refine rf_b wf0 rc_X2_takeFrom_ok 0 8 (16, [some (.ref 26), some (.ref 18)], [], (rf_sI (rf_sI σ 26 6 (σ.1 18 6)) 26 7 ((rf_sI σ 26 6 (σ.1 18 6)).1 18 7))) rfl ?_
  obtain ⟨σ1, h2, h⟩ := Option.bind_eq_some_iff.mp h
  refine rf_sgb (Option.some.inj h2) ?_
  refine rf_b wf0 rc_X2_takeFrom_ok 8 7 (27, [some (.ref 26), some (.ref 18)], [.int 4, .int 0, .ref 27, .int 0, .ref 19], σ1) rfl ?_
  obtain ⟨g3, h⟩ := rf_ifn h
  refine rf_gd wf0 rc_X2_takeFrom_ok 15 (30, [some (.ref 26), some (.ref 18)], [], (rf_sA σ1 27 (va_cpy (σ1.1 19) (σ1.1 27) (0 : Int32).toNatClampNeg (0 : Int32).toNatClampNeg (4 : Int32).toNatClampNeg))) rfl rfl g3 rfl ?_
  obtain ⟨σ4, h5, h⟩ := Option.bind_eq_some_iff.mp h
  refine rf_sgb (Option.some.inj h5) ?_
  refine rf_b wf0 rc_X2_takeFrom_ok 16 7 (41, [some (.ref 26), some (.ref 18)], [.int 4, .int 0, .ref 28, .int 0, .ref 20], σ4) rfl ?_
  obtain ⟨g6, h⟩ := rf_ifn h
  refine rf_gd wf0 rc_X2_takeFrom_ok 23 (44, [some (.ref 26), some (.ref 18)], [], (rf_sA σ4 28 (va_cpy (σ4.1 20) (σ4.1 28) (0 : Int32).toNatClampNeg (0 : Int32).toNatClampNeg (4 : Int32).toNatClampNeg))) rfl rfl g6 rfl ?_
  obtain ⟨σ7, h8, h⟩ := Option.bind_eq_some_iff.mp h
  refine rf_sgb (Option.some.inj h8) ?_
  refine rf_b wf0 rc_X2_takeFrom_ok 24 7 (56, [some (.ref 26), some (.ref 18)], [.int 6, .int 0, .ref 29, .int 0, .ref 21], σ7) rfl ?_
  obtain ⟨g9, h⟩ := rf_ifn h
  refine rf_gd wf0 rc_X2_takeFrom_ok 31 (59, [some (.ref 26), some (.ref 18)], [], (rf_sA σ7 29 (va_cpy (σ7.1 21) (σ7.1 29) (0 : Int32).toNatClampNeg (0 : Int32).toNatClampNeg (6 : Int32).toNatClampNeg))) rfl rfl g9 rfl ?_
  obtain ⟨σ10, h11, h⟩ := Option.bind_eq_some_iff.mp h
  refine rf_sgb (Option.some.inj h11) ?_
  refine rf_b wf0 rc_X2_takeFrom_ok 32 7 (71, [some (.ref 26), some (.ref 18)], [.int 6, .int 0, .ref 30, .int 0, .ref 22], σ10) rfl ?_
  obtain ⟨g12, h⟩ := rf_ifn h
  refine rf_gd wf0 rc_X2_takeFrom_ok 39 (74, [some (.ref 26), some (.ref 18)], [], (rf_sA σ10 30 (va_cpy (σ10.1 22) (σ10.1 30) (0 : Int32).toNatClampNeg (0 : Int32).toNatClampNeg (6 : Int32).toNatClampNeg))) rfl rfl g12 rfl ?_
  obtain ⟨σ13, h14, h⟩ := Option.bind_eq_some_iff.mp h
  refine rf_sgb (Option.some.inj h14) ?_
  refine rf_b wf0 rc_X2_takeFrom_ok 40 7 (86, [some (.ref 26), some (.ref 18)], [.int 6, .int 0, .ref 31, .int 0, .ref 23], σ13) rfl ?_
  obtain ⟨g15, h⟩ := rf_ifn h
  refine rf_gd wf0 rc_X2_takeFrom_ok 47 (89, [some (.ref 26), some (.ref 18)], [], (rf_sA σ13 31 (va_cpy (σ13.1 23) (σ13.1 31) (0 : Int32).toNatClampNeg (0 : Int32).toNatClampNeg (6 : Int32).toNatClampNeg))) rfl rfl g15 rfl ?_
  obtain ⟨σ16, h17, h⟩ := Option.bind_eq_some_iff.mp h
  refine rf_sgb (Option.some.inj h17) ?_
  refine rf_b wf0 rc_X2_takeFrom_ok 48 7 (101, [some (.ref 26), some (.ref 18)], [.int 6, .int 0, .ref 32, .int 0, .ref 24], σ16) rfl ?_
  obtain ⟨g18, h⟩ := rf_ifn h
  refine rf_gd wf0 rc_X2_takeFrom_ok 55 (104, [some (.ref 26), some (.ref 18)], [], (rf_sA σ16 32 (va_cpy (σ16.1 24) (σ16.1 32) (0 : Int32).toNatClampNeg (0 : Int32).toNatClampNeg (6 : Int32).toNatClampNeg))) rfl rfl g18 rfl ?_
  obtain ⟨σ19, h20, h⟩ := Option.bind_eq_some_iff.mp h
  refine rf_sgb (Option.some.inj h20) ?_
  obtain rfl := Option.some.inj h
  exact rf_rv rc_X2_takeFrom_ok 56 rfl rfl
def rc_X7_sizeOf : List rf_E := [(0, .aload_n 0, 1, 0), (1, .getfield 16, 3, 701), (4, .iload_n 1, 1, 1), (5, .iaload, 1, 0), (6, .ireturn, 1, 0)]
theorem rc_X7_sizeOf_ok : rf_rc mX7_sizeOf rc_X7_sizeOf = true := by decide +kernel
theorem mw_X7_sizeOf : rf_mw mX7_sizeOf := ⟨rf_mt_ok _ (List.mem_of_getElem? (i := 41) rfl), fun h => absurd h (by decide), fun _ => ⟨rf_mi_ok _ (List.mem_of_getElem? (i := 38) rfl), rf_mv_ok _ (List.mem_of_getElem? (i := 38) rfl)⟩, rf_mq_1 _ (List.mem_of_getElem? (i := 16) rfl)⟩
def f_X7_sizeOf (p0 : Int32) (σ : rf_S) : Option Int32 := if rf_ck ly0 0 16 p0 = true then (some (σ.1 16 p0.toNatClampNeg)) else none
set_option maxHeartbeats 2000000 in
theorem ok_X7_sizeOf (d : Nat) (p0 : Int32) (σ : rf_S) (q : Int32) (h : f_X7_sizeOf p0 σ = some q) : rf_Ex ly0 (d + 1) mX7_sizeOf [.ref 10, .int p0] σ (some (.int q) : Option Value) σ := by
  unfold f_X7_sizeOf at h
  refine rf_ex mw_X7_sizeOf [some (.ref 10), some (.int p0)] (Nat.le_of_ble_eq_true rfl) rfl ?_
  refine rf_b wf0 rc_X7_sizeOf_ok 0 3 (5, [some (.ref 10), some (.int p0)], [.int p0, .ref 16], σ) rfl ?_
  obtain ⟨g1, h⟩ := rf_ifn h
  refine rf_gd wf0 rc_X7_sizeOf_ok 3 (6, [some (.ref 10), some (.int p0)], [.int (σ.1 16 p0.toNatClampNeg)], σ) rfl rfl g1 rfl ?_
  obtain rfl := Option.some.inj h
  exact rf_ri rc_X7_sizeOf_ok 4 rfl rfl
def rc_X7_has : List rf_E := [(0, .iload_n 2, 1, 2), (1, .ifCond .lt 17, 3, 18), (4, .iload_n 2, 1, 2), (5, .aload_n 0, 1, 0), (6, .getfield 16, 3, 701), (9, .iload_n 1, 1, 1), (10, .iaload, 1, 0), (11, .if_icmp .ge 7, 3, 18), (14, .iconst 1, 1, 0), (15, .goto 4, 3, 19), (18, .iconst 0, 1, 0), (19, .ireturn, 1, 0)]
theorem rc_X7_has_ok : rf_rc mX7_has rc_X7_has = true := by decide +kernel
theorem mw_X7_has : rf_mw mX7_has := ⟨rf_mt_ok _ (List.mem_of_getElem? (i := 42) rfl), fun h => absurd h (by decide), fun _ => ⟨rf_mi_ok _ (List.mem_of_getElem? (i := 39) rfl), rf_mv_ok _ (List.mem_of_getElem? (i := 39) rfl)⟩, rf_mq_1 _ (List.mem_of_getElem? (i := 17) rfl)⟩
def f_X7_has (p0 : Int32) (p1 : Int32) (σ : rf_S) : Option Int32 := if p1 < 0 then (some 0) else (if rf_ck ly0 0 16 p0 = true then (if (σ.1 16 p0.toNatClampNeg) ≤ p1 then (some 0) else (some 1)) else none)
set_option maxHeartbeats 2000000 in
theorem ok_X7_has (d : Nat) (p0 : Int32) (p1 : Int32) (σ : rf_S) (q : Int32) (h : f_X7_has p0 p1 σ = some q) : rf_Ex ly0 (d + 1) mX7_has [.ref 10, .int p0, .int p1] σ (some (.int q) : Option Value) σ := by
  unfold f_X7_has at h
  refine rf_ex mw_X7_has [some (.ref 10), some (.int p0), some (.int p1)] (Nat.le_of_ble_eq_true rfl) rfl ?_
  refine rf_b wf0 rc_X7_has_ok 0 1 (1, [some (.ref 10), some (.int p0), some (.int p1)], [.int p1], σ) rfl ?_
  by_cases c1 : p1 < 0
  · rw [if_pos c1] at h
    refine rf_t wf0 rc_X7_has_ok 1 (18, [some (.ref 10), some (.int p0), some (.int p1)], [], σ) rfl rfl c1 rfl ?_
    refine rf_b wf0 rc_X7_has_ok 10 1 (19, [some (.ref 10), some (.int p0), some (.int p1)], [.int 0], σ) rfl ?_
    obtain rfl := Option.some.inj h
    exact rf_rz rc_X7_has_ok 11 rfl rfl (by decide)
  · rw [if_neg c1] at h
    refine rf_f wf0 rc_X7_has_ok 1 (4, [some (.ref 10), some (.int p0), some (.int p1)], [], σ) rfl rfl c1 rfl ?_
    refine rf_b wf0 rc_X7_has_ok 2 4 (10, [some (.ref 10), some (.int p0), some (.int p1)], [.int p0, .ref 16, .int p1], σ) rfl ?_
    obtain ⟨g2, h⟩ := rf_ifn h
    refine rf_gd wf0 rc_X7_has_ok 6 (11, [some (.ref 10), some (.int p0), some (.int p1)], [.int (σ.1 16 p0.toNatClampNeg), .int p1], σ) rfl rfl g2 rfl ?_
    by_cases c3 : (σ.1 16 p0.toNatClampNeg) ≤ p1
    · rw [if_pos c3] at h
      refine rf_t wf0 rc_X7_has_ok 7 (18, [some (.ref 10), some (.int p0), some (.int p1)], [], σ) rfl rfl c3 rfl ?_
      refine rf_b wf0 rc_X7_has_ok 10 1 (19, [some (.ref 10), some (.int p0), some (.int p1)], [.int 0], σ) rfl ?_
      obtain rfl := Option.some.inj h
      exact rf_rz rc_X7_has_ok 11 rfl rfl (by decide)
    · rw [if_neg c3] at h
      refine rf_f wf0 rc_X7_has_ok 7 (14, [some (.ref 10), some (.int p0), some (.int p1)], [], σ) rfl rfl c3 rfl ?_
      refine rf_b wf0 rc_X7_has_ok 8 2 (19, [some (.ref 10), some (.int p0), some (.int p1)], [.int 1], σ) rfl ?_
      obtain rfl := Option.some.inj h
      exact rf_rz rc_X7_has_ok 11 rfl rfl (by decide)
def rc_X7_get : List rf_E := [(0, .aload_n 0, 1, 0), (1, .getfield 11, 3, 700), (4, .iload_n 1, 1, 1), (5, .aaload, 1, 0), (6, .iload_n 2, 1, 2), (7, .baload, 1, 0), (8, .ireturn, 1, 0)]
theorem rc_X7_get_ok : rf_rc mX7_get rc_X7_get = true := by decide +kernel
theorem mw_X7_get : rf_mw mX7_get := ⟨rf_mt_ok _ (List.mem_of_getElem? (i := 43) rfl), fun h => absurd h (by decide), fun _ => ⟨rf_mi_ok _ (List.mem_of_getElem? (i := 40) rfl), rf_mv_ok _ (List.mem_of_getElem? (i := 40) rfl)⟩, rf_mq_1 _ (List.mem_of_getElem? (i := 18) rfl)⟩
def f_X7_get (p0 : Int32) (p1 : Int32) (σ : rf_S) : Option Int32 := if rf_rk ly0 11 p0 = true then (if rf_ck ly0 1 (rf_ra ly0 11 p0.toNatClampNeg) p1 = true then (some (σ.1 (rf_ra ly0 11 p0.toNatClampNeg) p1.toNatClampNeg)) else none) else none
set_option maxHeartbeats 2000000 in
theorem ok_X7_get (d : Nat) (p0 : Int32) (p1 : Int32) (σ : rf_S) (q : Int32) (h : f_X7_get p0 p1 σ = some q) : rf_Ex ly0 (d + 1) mX7_get [.ref 10, .int p0, .int p1] σ (some (.int q) : Option Value) σ := by
  unfold f_X7_get at h
  refine rf_ex mw_X7_get [some (.ref 10), some (.int p0), some (.int p1)] (Nat.le_of_ble_eq_true rfl) rfl ?_
  refine rf_b wf0 rc_X7_get_ok 0 3 (5, [some (.ref 10), some (.int p0), some (.int p1)], [.int p0, .ref 11], σ) rfl ?_
  obtain ⟨g1, h⟩ := rf_ifn h
  refine rf_gd wf0 rc_X7_get_ok 3 (6, [some (.ref 10), some (.int p0), some (.int p1)], [.ref (rf_ra ly0 11 p0.toNatClampNeg)], σ) rfl rfl g1 rfl ?_
  refine rf_b wf0 rc_X7_get_ok 4 1 (7, [some (.ref 10), some (.int p0), some (.int p1)], [.int p1, .ref (rf_ra ly0 11 p0.toNatClampNeg)], σ) rfl ?_
  obtain ⟨g2, h⟩ := rf_ifn h
  refine rf_gd wf0 rc_X7_get_ok 5 (8, [some (.ref 10), some (.int p0), some (.int p1)], [.int (σ.1 (rf_ra ly0 11 p0.toNatClampNeg) p1.toNatClampNeg)], σ) rfl rfl g2 rfl ?_
  obtain rfl := Option.some.inj h
  exact rf_ri rc_X7_get_ok 6 rfl rfl
def rc_X3_skipBlanks : List rf_E := [(0, .iconst 0, 1, 0), (1, .istore_n 3, 1, 3), (2, .iload_n 3, 1, 3), (3, .bipush 60, 2, 0), (5, .if_icmp .ge 45, 3, 50), (8, .aload_n 1, 1, 1), (9, .iload_n 2, 1, 2), (10, .aload_n 0, 1, 0), (11, .getfield 21, 3, 301), (14, .invokevirtual 42, 3, 0), (17, .ifCond .eq 33, 3, 50), (20, .aload_n 1, 1, 1), (21, .iload_n 2, 1, 2), (22, .aload_n 0, 1, 0), (23, .getfield 21, 3, 301), (26, .invokevirtual 46, 3, 0), (29, .bipush 32, 2, 0), (31, .if_icmp .ne 19, 3, 50), (34, .aload_n 0, 1, 0), (35, .dup, 1, 0), (36, .getfield 21, 3, 301), (39, .iconst 1, 1, 0), (40, .iadd, 1, 0), (41, .putfield 21, 3, 301), (44, .iinc 3 1, 3, 3), (47, .goto (-45), 3, 2), (50, .return_, 1, 0)]
theorem rc_X3_skipBlanks_ok : rf_rc mX3_skipBlanks rc_X3_skipBlanks = true := by decide +kernel
theorem mw_X3_skipBlanks : rf_mw mX3_skipBlanks := ⟨rf_mt_ok _ (List.mem_of_getElem? (i := 17) rfl), fun h => absurd h (by decide), fun _ => ⟨rf_mi_ok _ (List.mem_of_getElem? (i := 15) rfl), rf_mv_ok _ (List.mem_of_getElem? (i := 15) rfl)⟩, rf_mq_0 _ (List.mem_of_getElem? (i := 17) rfl)⟩
def f_X3_skipBlanks_b2 (l2 : Int32) (s2 : Int32 × rf_S) : Option ((Int32 × rf_S) ⊕ (rf_S)) := if 60 ≤ s2.1 then (some (.inr s2.2)) else ((f_X7_has l2 (s2.2.1 17 1) s2.2).bind (fun q2 => if q2 = 0 then (some (.inr s2.2)) else ((f_X7_get l2 (s2.2.1 17 1) s2.2).bind (fun q5 => if q5 ≠ 32 then (some (.inr s2.2)) else (some (.inl ((s2.1 + 1), (rf_sI s2.2 17 1 ((s2.2.1 17 1) + 1)))))))))
set_option maxHeartbeats 2000000 in
theorem ok_X3_skipBlanks_b2 (d : Nat) (l2 : Int32) (s2 : Int32 × rf_S) (o : ((Int32 × rf_S) ⊕ (rf_S))) (h : f_X3_skipBlanks_b2 l2 s2 = some o) {r : Option Value} {σr : rf_S} (kl : ∀ s', o = .inl s' → rf_G ly0 (d + 1) mX3_skipBlanks (2, [some (.ref 17), some (.ref 10), some (.int l2), some (.int s'.1)], [], s'.2) r σr) (kx : ∀ e, o = .inr e → rf_G ly0 (d + 1) mX3_skipBlanks (50, [none, none, none, none], [], e) r σr) : rf_G ly0 (d + 1) mX3_skipBlanks (2, [some (.ref 17), some (.ref 10), some (.int l2), some (.int s2.1)], [], s2.2) r σr := by
  unfold f_X3_skipBlanks_b2 at h
  refine rf_b wf0 rc_X3_skipBlanks_ok 2 2 (5, [some (.ref 17), some (.ref 10), some (.int l2), some (.int s2.1)], [.int 60, .int s2.1], s2.2) rfl ?_
  by_cases c1 : 60 ≤ s2.1
  · rw [if_pos c1] at h
    refine rf_t wf0 rc_X3_skipBlanks_ok 4 (50, [some (.ref 17), some (.ref 10), some (.int l2), some (.int s2.1)], [], s2.2) rfl rfl c1 rfl ?_
    refine rf_fg [false, false, false, false] [none, none, none, none] rfl ?_
    exact kx s2.2 (Option.some.inj h).symm
  · rw [if_neg c1] at h
    refine rf_f wf0 rc_X3_skipBlanks_ok 4 (8, [some (.ref 17), some (.ref 10), some (.int l2), some (.int s2.1)], [], s2.2) rfl rfl c1 rfl ?_
    refine rf_b wf0 rc_X3_skipBlanks_ok 5 4 (14, [some (.ref 17), some (.ref 10), some (.int l2), some (.int s2.1)], [.int (s2.2.1 17 1), .int l2, .ref 10], s2.2) rfl ?_
    obtain ⟨q2, h3, h⟩ := Option.bind_eq_some_iff.mp h
    refine rf_cv1 (Mt := mX7_has) wf0 rc_X3_skipBlanks_ok 9 false rfl (List.mem_of_getElem? (i := 19) rfl) mw_X7_has rfl 10 [.int l2, .int (s2.2.1 17 1)] [] rfl rfl rfl (Nat.le_of_ble_eq_true rfl) (ok_X7_has d l2 (s2.2.1 17 1) s2.2 q2 h3) ?_
    show rf_G _ _ _ (17, [some (.ref 17), some (.ref 10), some (.int l2), some (.int s2.1)], [.int q2], s2.2) _ _
    by_cases c4 : q2 = 0
    · rw [if_pos c4] at h
      refine rf_t wf0 rc_X3_skipBlanks_ok 10 (50, [some (.ref 17), some (.ref 10), some (.int l2), some (.int s2.1)], [], s2.2) rfl rfl c4 rfl ?_
      refine rf_fg [false, false, false, false] [none, none, none, none] rfl ?_
      exact kx s2.2 (Option.some.inj h).symm
    · rw [if_neg c4] at h
      refine rf_f wf0 rc_X3_skipBlanks_ok 10 (20, [some (.ref 17), some (.ref 10), some (.int l2), some (.int s2.1)], [], s2.2) rfl rfl c4 rfl ?_
      refine rf_b wf0 rc_X3_skipBlanks_ok 11 4 (26, [some (.ref 17), some (.ref 10), some (.int l2), some (.int s2.1)], [.int (s2.2.1 17 1), .int l2, .ref 10], s2.2) rfl ?_
      obtain ⟨q5, h6, h⟩ := Option.bind_eq_some_iff.mp h
      refine rf_cv1 (Mt := mX7_get) wf0 rc_X3_skipBlanks_ok 15 false rfl (List.mem_of_getElem? (i := 20) rfl) mw_X7_get rfl 10 [.int l2, .int (s2.2.1 17 1)] [] rfl rfl rfl (Nat.le_of_ble_eq_true rfl) (ok_X7_get d l2 (s2.2.1 17 1) s2.2 q5 h6) ?_
      show rf_G _ _ _ (29, [some (.ref 17), some (.ref 10), some (.int l2), some (.int s2.1)], [.int q5], s2.2) _ _
      refine rf_b wf0 rc_X3_skipBlanks_ok 16 1 (31, [some (.ref 17), some (.ref 10), some (.int l2), some (.int s2.1)], [.int 32, .int q5], s2.2) rfl ?_
      by_cases c7 : q5 ≠ 32
      · rw [if_pos c7] at h
        refine rf_t wf0 rc_X3_skipBlanks_ok 17 (50, [some (.ref 17), some (.ref 10), some (.int l2), some (.int s2.1)], [], s2.2) rfl rfl c7 rfl ?_
        refine rf_fg [false, false, false, false] [none, none, none, none] rfl ?_
        exact kx s2.2 (Option.some.inj h).symm
      · rw [if_neg c7] at h
        refine rf_f wf0 rc_X3_skipBlanks_ok 17 (34, [some (.ref 17), some (.ref 10), some (.int l2), some (.int s2.1)], [], s2.2) rfl rfl c7 rfl ?_
        refine rf_b wf0 rc_X3_skipBlanks_ok 18 8 (2, [some (.ref 17), some (.ref 10), some (.int l2), some (.int (s2.1 + 1))], [], (rf_sI s2.2 17 1 ((s2.2.1 17 1) + 1))) rfl ?_
        exact kl ((s2.1 + 1), (rf_sI s2.2 17 1 ((s2.2.1 17 1) + 1))) (Option.some.inj h).symm
def f_X3_skipBlanks (p1 : Int32) (σ : rf_S) : Option rf_S := (rf_lp (f_X3_skipBlanks_b2 p1) 5000 (0, σ)).bind (fun e8 => some e8)
set_option maxHeartbeats 2000000 in
theorem ok_X3_skipBlanks (d : Nat) (p1 : Int32) (σ : rf_S) (q : rf_S) (h : f_X3_skipBlanks p1 σ = some q) : rf_Ex ly0 (d + 2) mX3_skipBlanks [.ref 17, .ref 10, .int p1] σ none q := by
  unfold f_X3_skipBlanks at h
  refine rf_ex mw_X3_skipBlanks [some (.ref 17), some (.ref 10), some (.int p1), none] (Nat.le_of_ble_eq_true rfl) rfl ?_
  refine rf_b wf0 rc_X3_skipBlanks_ok 0 2 (2, [some (.ref 17), some (.ref 10), some (.int p1), some (.int 0)], [], σ) rfl ?_
  obtain ⟨e8, h9, h⟩ := Option.bind_eq_some_iff.mp h
  refine rf_lpG (b := f_X3_skipBlanks_b2 p1) (G := fun (s2 : Int32 × rf_S) => rf_G ly0 (d + 1) mX3_skipBlanks (2, [some (.ref 17), some (.ref 10), some (.int p1), some (.int s2.1)], [], s2.2) none q) (K := fun (e : (rf_S)) => rf_G ly0 (d + 1) mX3_skipBlanks (50, [none, none, none, none], [], e) none q) (fun (s2 : Int32 × rf_S) (o : (Int32 × rf_S) ⊕ (rf_S)) hb kl kx => ok_X3_skipBlanks_b2 d p1 s2 o hb kl kx) 5000 (0, σ) e8 h9 ?_
  show rf_G _ _ _ (50, [none, none, none, none], [], e8) _ _
  obtain rfl := Option.some.inj h
  exact rf_rv rc_X3_skipBlanks_ok 26 rfl rfl
def rc_X3_readNumber : List rf_E := [(0, .aload_n 0, 1, 0), (1, .getfield 21, 3, 301), (4, .istore 6, 2, 6), (6, .aload_n 0, 1, 0), (7, .iconst 0, 1, 0), (8, .putfield 71, 3, 302), (11, .iconst 0, 1, 0), (12, .istore 7, 2, 7), (14, .iload 7, 2, 7), (16, .iload_n 3, 1, 3), (17, .if_icmp .ge 82, 3, 99), (20, .aload_n 1, 1, 1), (21, .iload_n 2, 1, 2), (22, .aload_n 0, 1, 0), (23, .getfield 21, 3, 301), (26, .invokevirtual 42, 3, 0), (29, .ifCond .ne 9, 3, 38), (32, .aload_n 1, 1, 1), (33, .iload_n 2, 1, 2), (34, .invokevirtual 25, 3, 0), (37, .ireturn, 1, 0), (38, .aload_n 1, 1, 1), (39, .iload_n 2, 1, 2), (40, .aload_n 0, 1, 0), (41, .getfield 21, 3, 301), (44, .invokevirtual 46, 3, 0), (47, .bipush 48, 2, 0), (49, .isub, 1, 0), (50, .istore 8, 2, 8), (52, .iload 8, 2, 8), (54, .ifCond .lt 10, 3, 64), (57, .iload 8, 2, 8), (59, .bipush 9, 2, 0), (61, .if_icmp .le 8, 3, 69), (64, .aload_n 0, 1, 0), (65, .getfield 21, 3, 301), (68, .ireturn, 1, 0), (69, .aload_n 0, 1, 0), (70, .bipush 10, 2, 0), (72, .aload_n 0, 1, 0), (73, .getfield 71, 3, 302), (76, .imul, 1, 0), (77, .iload 8, 2, 8), (79, .iadd, 1, 0), (80, .putfield 71, 3, 302), (83, .aload_n 0, 1, 0), (84, .dup, 1, 0), (85, .getfield 21, 3, 301), (88, .iconst 1, 1, 0), (89, .iadd, 1, 0), (90, .putfield 21, 3, 301), (93, .iinc 7 1, 3, 7), (96, .goto (-82), 3, 14), (99, .aload_n 0, 1, 0), (100, .getfield 71, 3, 302), (103, .iload 4, 2, 4), (105, .if_icmp .lt 12, 3, 117), (108, .aload_n 0, 1, 0), (109, .getfield 71, 3, 302), (112, .iload 5, 2, 5), (114, .if_icmp .le 8, 3, 122), (117, .iload 6, 2, 6), (119, .goto 5, 3, 124), (122, .bipush (-9), 2, 0), (124, .ireturn, 1, 0)]
theorem rc_X3_readNumber_ok : rf_rc mX3_readNumber rc_X3_readNumber = true := by decide +kernel
theorem mw_X3_readNumber : rf_mw mX3_readNumber := ⟨rf_mt_ok _ (List.mem_of_getElem? (i := 21) rfl), fun h => absurd h (by decide), fun _ => ⟨rf_mi_ok _ (List.mem_of_getElem? (i := 19) rfl), rf_mv_ok _ (List.mem_of_getElem? (i := 19) rfl)⟩, rf_mq_0 _ (List.mem_of_getElem? (i := 21) rfl)⟩
def f_X3_readNumber_j64 (l2 : Int32) (l3 : Int32) (l4 : Int32) (l5 : Int32) (l6 : Int32) (σ : rf_S) : Option ((Int32 × rf_S) ⊕ ((rf_S) ⊕ (Int32 × rf_S))) := some (.inr (.inr ((σ.1 17 1), σ)))
set_option maxHeartbeats 2000000 in
theorem ok_X3_readNumber_j64 (d : Nat) (l2 : Int32) (l3 : Int32) (l4 : Int32) (l5 : Int32) (l6 : Int32) (σ : rf_S) (o : ((Int32 × rf_S) ⊕ ((rf_S) ⊕ (Int32 × rf_S)))) (h : f_X3_readNumber_j64 l2 l3 l4 l5 l6 σ = some o) {r : Option Value} {σr : rf_S} (kl : ∀ s', o = .inl s' → rf_G ly0 (d + 1) mX3_readNumber (14, [some (.ref 17), some (.ref 10), some (.int l2), some (.int l3), some (.int l4), some (.int l5), some (.int l6), some (.int s'.1), none], [], s'.2) r σr) (kx : ∀ e, o = .inr (.inl e) → rf_G ly0 (d + 1) mX3_readNumber (99, [some (.ref 17), none, none, none, some (.int l4), some (.int l5), some (.int l6), none, none], [], e) r σr) (kr : ∀ q : (Int32 × rf_S), o = .inr (.inr q) → r = (some (.int q.1) : Option Value) ∧ σr = q.2) : rf_G ly0 (d + 1) mX3_readNumber (64, [some (.ref 17), none, none, none, none, none, none, none, none], [], σ) r σr := by
  unfold f_X3_readNumber_j64 at h
  refine rf_b wf0 rc_X3_readNumber_ok 34 2 (68, [some (.ref 17), none, none, none, none, none, none, none, none], [.int (σ.1 17 1)], σ) rfl ?_
  obtain ⟨e1, e2⟩ := kr ((σ.1 17 1), σ) (Option.some.inj h).symm
  subst e1
  subst e2
  exact rf_ri rc_X3_readNumber_ok 36 rfl rfl
def f_X3_readNumber_b14 (l2 : Int32) (l3 : Int32) (l4 : Int32) (l5 : Int32) (l6 : Int32) (s14 : Int32 × rf_S) : Option ((Int32 × rf_S) ⊕ ((rf_S) ⊕ (Int32 × rf_S))) := if l3 ≤ s14.1 then (some (.inr (.inl s14.2))) else ((f_X7_has l2 (s14.2.1 17 1) s14.2).bind (fun q2 => if q2 ≠ 0 then ((f_X7_get l2 (s14.2.1 17 1) s14.2).bind (fun q5 => if (q5 - 48) < 0 then (f_X3_readNumber_j64 l2 l3 l4 l5 l6 s14.2) else (if (q5 - 48) ≤ 9 then ((some (rf_sI (rf_sI s14.2 17 2 ((10 * (s14.2.1 17 2)) + (q5 - 48))) 17 1 (((rf_sI s14.2 17 2 ((10 * (s14.2.1 17 2)) + (q5 - 48))).1 17 1) + 1))).bind (fun σ9 => some (.inl ((s14.1 + 1), σ9)))) else (f_X3_readNumber_j64 l2 l3 l4 l5 l6 s14.2)))) else ((f_X7_sizeOf l2 s14.2).bind (fun q11 => some (.inr (.inr (q11, s14.2)))))))
set_option maxHeartbeats 2000000 in
theorem ok_X3_readNumber_b14 (d : Nat) (l2 : Int32) (l3 : Int32) (l4 : Int32) (l5 : Int32) (l6 : Int32) (s14 : Int32 × rf_S) (o : ((Int32 × rf_S) ⊕ ((rf_S) ⊕ (Int32 × rf_S)))) (h : f_X3_readNumber_b14 l2 l3 l4 l5 l6 s14 = some o) {r : Option Value} {σr : rf_S} (kl : ∀ s', o = .inl s' → rf_G ly0 (d + 1) mX3_readNumber (14, [some (.ref 17), some (.ref 10), some (.int l2), some (.int l3), some (.int l4), some (.int l5), some (.int l6), some (.int s'.1), none], [], s'.2) r σr) (kx : ∀ e, o = .inr (.inl e) → rf_G ly0 (d + 1) mX3_readNumber (99, [some (.ref 17), none, none, none, some (.int l4), some (.int l5), some (.int l6), none, none], [], e) r σr) (kr : ∀ q : (Int32 × rf_S), o = .inr (.inr q) → r = (some (.int q.1) : Option Value) ∧ σr = q.2) : rf_G ly0 (d + 1) mX3_readNumber (14, [some (.ref 17), some (.ref 10), some (.int l2), some (.int l3), some (.int l4), some (.int l5), some (.int l6), some (.int s14.1), none], [], s14.2) r σr := by
  unfold f_X3_readNumber_b14 at h
  refine rf_b wf0 rc_X3_readNumber_ok 8 2 (17, [some (.ref 17), some (.ref 10), some (.int l2), some (.int l3), some (.int l4), some (.int l5), some (.int l6), some (.int s14.1), none], [.int l3, .int s14.1], s14.2) rfl ?_
  by_cases c1 : l3 ≤ s14.1
  · rw [if_pos c1] at h
    refine rf_t wf0 rc_X3_readNumber_ok 10 (99, [some (.ref 17), some (.ref 10), some (.int l2), some (.int l3), some (.int l4), some (.int l5), some (.int l6), some (.int s14.1), none], [], s14.2) rfl rfl c1 rfl ?_
    refine rf_fg [true, false, false, false, true, true, true, false, true] [some (.ref 17), none, none, none, some (.int l4), some (.int l5), some (.int l6), none, none] rfl ?_
    exact kx s14.2 (Option.some.inj h).symm
  · rw [if_neg c1] at h
    refine rf_f wf0 rc_X3_readNumber_ok 10 (20, [some (.ref 17), some (.ref 10), some (.int l2), some (.int l3), some (.int l4), some (.int l5), some (.int l6), some (.int s14.1), none], [], s14.2) rfl rfl c1 rfl ?_
    refine rf_b wf0 rc_X3_readNumber_ok 11 4 (26, [some (.ref 17), some (.ref 10), some (.int l2), some (.int l3), some (.int l4), some (.int l5), some (.int l6), some (.int s14.1), none], [.int (s14.2.1 17 1), .int l2, .ref 10], s14.2) rfl ?_
    obtain ⟨q2, h3, h⟩ := Option.bind_eq_some_iff.mp h
    refine rf_cv1 (Mt := mX7_has) wf0 rc_X3_readNumber_ok 15 false rfl (List.mem_of_getElem? (i := 19) rfl) mw_X7_has rfl 10 [.int l2, .int (s14.2.1 17 1)] [] rfl rfl rfl (Nat.le_of_ble_eq_true rfl) (ok_X7_has d l2 (s14.2.1 17 1) s14.2 q2 h3) ?_
    show rf_G _ _ _ (29, [some (.ref 17), some (.ref 10), some (.int l2), some (.int l3), some (.int l4), some (.int l5), some (.int l6), some (.int s14.1), none], [.int q2], s14.2) _ _
    by_cases c4 : q2 ≠ 0
    · rw [if_pos c4] at h
      refine rf_t wf0 rc_X3_readNumber_ok 16 (38, [some (.ref 17), some (.ref 10), some (.int l2), some (.int l3), some (.int l4), some (.int l5), some (.int l6), some (.int s14.1), none], [], s14.2) rfl rfl c4 rfl ?_
      refine rf_b wf0 rc_X3_readNumber_ok 21 4 (44, [some (.ref 17), some (.ref 10), some (.int l2), some (.int l3), some (.int l4), some (.int l5), some (.int l6), some (.int s14.1), none], [.int (s14.2.1 17 1), .int l2, .ref 10], s14.2) rfl ?_
      obtain ⟨q5, h6, h⟩ := Option.bind_eq_some_iff.mp h
      refine rf_cv1 (Mt := mX7_get) wf0 rc_X3_readNumber_ok 25 false rfl (List.mem_of_getElem? (i := 20) rfl) mw_X7_get rfl 10 [.int l2, .int (s14.2.1 17 1)] [] rfl rfl rfl (Nat.le_of_ble_eq_true rfl) (ok_X7_get d l2 (s14.2.1 17 1) s14.2 q5 h6) ?_
      show rf_G _ _ _ (47, [some (.ref 17), some (.ref 10), some (.int l2), some (.int l3), some (.int l4), some (.int l5), some (.int l6), some (.int s14.1), none], [.int q5], s14.2) _ _
      refine rf_b wf0 rc_X3_readNumber_ok 26 4 (54, [some (.ref 17), some (.ref 10), some (.int l2), some (.int l3), some (.int l4), some (.int l5), some (.int l6), some (.int s14.1), some (.int (q5 - 48))], [.int (q5 - 48)], s14.2) rfl ?_
      by_cases c7 : (q5 - 48) < 0
      · rw [if_pos c7] at h
        refine rf_t wf0 rc_X3_readNumber_ok 30 (64, [some (.ref 17), some (.ref 10), some (.int l2), some (.int l3), some (.int l4), some (.int l5), some (.int l6), some (.int s14.1), some (.int (q5 - 48))], [], s14.2) rfl rfl c7 rfl ?_
        refine rf_fg [true, false, false, false, false, false, false, false, false] [some (.ref 17), none, none, none, none, none, none, none, none] rfl ?_
        exact ok_X3_readNumber_j64 d l2 l3 l4 l5 l6 s14.2 o h kl kx kr
      · rw [if_neg c7] at h
        refine rf_f wf0 rc_X3_readNumber_ok 30 (57, [some (.ref 17), some (.ref 10), some (.int l2), some (.int l3), some (.int l4), some (.int l5), some (.int l6), some (.int s14.1), some (.int (q5 - 48))], [], s14.2) rfl rfl c7 rfl ?_
        refine rf_b wf0 rc_X3_readNumber_ok 31 2 (61, [some (.ref 17), some (.ref 10), some (.int l2), some (.int l3), some (.int l4), some (.int l5), some (.int l6), some (.int s14.1), some (.int (q5 - 48))], [.int 9, .int (q5 - 48)], s14.2) rfl ?_
        by_cases c8 : (q5 - 48) ≤ 9
        · rw [if_pos c8] at h
          refine rf_t wf0 rc_X3_readNumber_ok 33 (69, [some (.ref 17), some (.ref 10), some (.int l2), some (.int l3), some (.int l4), some (.int l5), some (.int l6), some (.int s14.1), some (.int (q5 - 48))], [], s14.2) rfl rfl c8 rfl ?_
          refine rf_b wf0 rc_X3_readNumber_ok 37 14 (93, [some (.ref 17), some (.ref 10), some (.int l2), some (.int l3), some (.int l4), some (.int l5), some (.int l6), some (.int s14.1), some (.int (q5 - 48))], [], (rf_sI (rf_sI s14.2 17 2 ((10 * (s14.2.1 17 2)) + (q5 - 48))) 17 1 (((rf_sI s14.2 17 2 ((10 * (s14.2.1 17 2)) + (q5 - 48))).1 17 1) + 1))) rfl ?_
          obtain ⟨σ9, h10, h⟩ := Option.bind_eq_some_iff.mp h
          refine rf_sgb (Option.some.inj h10) ?_
          refine rf_b wf0 rc_X3_readNumber_ok 51 2 (14, [some (.ref 17), some (.ref 10), some (.int l2), some (.int l3), some (.int l4), some (.int l5), some (.int l6), some (.int (s14.1 + 1)), some (.int (q5 - 48))], [], σ9) rfl ?_
          refine rf_fg [true, true, true, true, true, true, true, true, false] [some (.ref 17), some (.ref 10), some (.int l2), some (.int l3), some (.int l4), some (.int l5), some (.int l6), some (.int (s14.1 + 1)), none] rfl ?_
          exact kl ((s14.1 + 1), σ9) (Option.some.inj h).symm
        · rw [if_neg c8] at h
          refine rf_f wf0 rc_X3_readNumber_ok 33 (64, [some (.ref 17), some (.ref 10), some (.int l2), some (.int l3), some (.int l4), some (.int l5), some (.int l6), some (.int s14.1), some (.int (q5 - 48))], [], s14.2) rfl rfl c8 rfl ?_
          refine rf_fg [true, false, false, false, false, false, false, false, false] [some (.ref 17), none, none, none, none, none, none, none, none] rfl ?_
          exact ok_X3_readNumber_j64 d l2 l3 l4 l5 l6 s14.2 o h kl kx kr
    · rw [if_neg c4] at h
      refine rf_f wf0 rc_X3_readNumber_ok 16 (32, [some (.ref 17), some (.ref 10), some (.int l2), some (.int l3), some (.int l4), some (.int l5), some (.int l6), some (.int s14.1), none], [], s14.2) rfl rfl c4 rfl ?_
      refine rf_b wf0 rc_X3_readNumber_ok 17 2 (34, [some (.ref 17), some (.ref 10), some (.int l2), some (.int l3), some (.int l4), some (.int l5), some (.int l6), some (.int s14.1), none], [.int l2, .ref 10], s14.2) rfl ?_
      obtain ⟨q11, h12, h⟩ := Option.bind_eq_some_iff.mp h
      refine rf_cv1 (Mt := mX7_sizeOf) wf0 rc_X3_readNumber_ok 19 false rfl (List.mem_of_getElem? (i := 16) rfl) mw_X7_sizeOf rfl 10 [.int l2] [] rfl rfl rfl (Nat.le_of_ble_eq_true rfl) (ok_X7_sizeOf d l2 s14.2 q11 h12) ?_
      show rf_G _ _ _ (37, [some (.ref 17), some (.ref 10), some (.int l2), some (.int l3), some (.int l4), some (.int l5), some (.int l6), some (.int s14.1), none], [.int q11], s14.2) _ _
      obtain ⟨e1, e2⟩ := kr (q11, s14.2) (Option.some.inj h).symm
      subst e1
      subst e2
      exact rf_ri rc_X3_readNumber_ok 20 rfl rfl
def f_X3_readNumber (p1 : Int32) (p2 : Int32) (p3 : Int32) (p4 : Int32) (σ : rf_S) : Option (Int32 × rf_S) := (rf_lp (f_X3_readNumber_b14 p1 p2 p3 p4 (σ.1 17 1)) 5000 (0, (rf_sI σ 17 2 0))).bind (fun e13 => Sum.elim (fun z15 => if (z15.1 17 2) < p3 then (some ((σ.1 17 1), z15)) else (if (z15.1 17 2) ≤ p4 then (some ((-9), z15)) else (some ((σ.1 17 1), z15)))) (fun y18 => some y18) e13)
set_option maxHeartbeats 2000000 in
theorem ok_X3_readNumber (d : Nat) (p1 : Int32) (p2 : Int32) (p3 : Int32) (p4 : Int32) (σ : rf_S) (q : (Int32 × rf_S)) (h : f_X3_readNumber p1 p2 p3 p4 σ = some q) : rf_Ex ly0 (d + 2) mX3_readNumber [.ref 17, .ref 10, .int p1, .int p2, .int p3, .int p4] σ (some (.int q.1) : Option Value) q.2 := by
  unfold f_X3_readNumber at h
  refine rf_ex mw_X3_readNumber [some (.ref 17), some (.ref 10), some (.int p1), some (.int p2), some (.int p3), some (.int p4), none, none, none] (Nat.le_of_ble_eq_true rfl) rfl ?_
  refine rf_b wf0 rc_X3_readNumber_ok 0 8 (14, [some (.ref 17), some (.ref 10), some (.int p1), some (.int p2), some (.int p3), some (.int p4), some (.int (σ.1 17 1)), some (.int 0), none], [], (rf_sI σ 17 2 0)) rfl ?_
  obtain ⟨e13, h14, h⟩ := Option.bind_eq_some_iff.mp h
  refine rf_lpG (b := f_X3_readNumber_b14 p1 p2 p3 p4 (σ.1 17 1)) (G := fun (s14 : Int32 × rf_S) => rf_G ly0 (d + 1) mX3_readNumber (14, [some (.ref 17), some (.ref 10), some (.int p1), some (.int p2), some (.int p3), some (.int p4), some (.int (σ.1 17 1)), some (.int s14.1), none], [], s14.2) (some (.int q.1) : Option Value) q.2) (K := fun (e : ((rf_S) ⊕ (Int32 × rf_S))) => (∀ z, e = .inl z → rf_G ly0 (d + 1) mX3_readNumber (99, [some (.ref 17), none, none, none, some (.int p3), some (.int p4), some (.int (σ.1 17 1)), none, none], [], z) (some (.int q.1) : Option Value) q.2) ∧ (∀ y0 : (Int32 × rf_S), e = .inr y0 → (some (.int q.1) : Option Value) = (some (.int y0.1) : Option Value) ∧ q.2 = y0.2)) (fun (s14 : Int32 × rf_S) (o : (Int32 × rf_S) ⊕ ((rf_S) ⊕ (Int32 × rf_S))) hb kl kx => ok_X3_readNumber_b14 d p1 p2 p3 p4 (σ.1 17 1) s14 o hb kl (fun e he => (kx _ he).1 e rfl) (fun q hq => (kx _ hq).2 q rfl)) 5000 (0, (rf_sI σ 17 2 0)) e13 h14 ⟨?_, ?_⟩
  · intro z15 hz
    subst hz
    simp only [Sum.elim_inl] at h
    refine rf_b wf0 rc_X3_readNumber_ok 53 3 (105, [some (.ref 17), none, none, none, some (.int p3), some (.int p4), some (.int (σ.1 17 1)), none, none], [.int p3, .int (z15.1 17 2)], z15) rfl ?_
    by_cases c16 : (z15.1 17 2) < p3
    · rw [if_pos c16] at h
      refine rf_t wf0 rc_X3_readNumber_ok 56 (117, [some (.ref 17), none, none, none, some (.int p3), some (.int p4), some (.int (σ.1 17 1)), none, none], [], z15) rfl rfl c16 rfl ?_
      refine rf_b wf0 rc_X3_readNumber_ok 61 2 (124, [some (.ref 17), none, none, none, some (.int p3), some (.int p4), some (.int (σ.1 17 1)), none, none], [.int (σ.1 17 1)], z15) rfl ?_
      obtain rfl := Option.some.inj h
      exact rf_ri rc_X3_readNumber_ok 64 rfl rfl
    · rw [if_neg c16] at h
      refine rf_f wf0 rc_X3_readNumber_ok 56 (108, [some (.ref 17), none, none, none, some (.int p3), some (.int p4), some (.int (σ.1 17 1)), none, none], [], z15) rfl rfl c16 rfl ?_
      refine rf_b wf0 rc_X3_readNumber_ok 57 3 (114, [some (.ref 17), none, none, none, some (.int p3), some (.int p4), some (.int (σ.1 17 1)), none, none], [.int p4, .int (z15.1 17 2)], z15) rfl ?_
      by_cases c17 : (z15.1 17 2) ≤ p4
      · rw [if_pos c17] at h
        refine rf_t wf0 rc_X3_readNumber_ok 60 (122, [some (.ref 17), none, none, none, some (.int p3), some (.int p4), some (.int (σ.1 17 1)), none, none], [], z15) rfl rfl c17 rfl ?_
        refine rf_b wf0 rc_X3_readNumber_ok 63 1 (124, [some (.ref 17), none, none, none, some (.int p3), some (.int p4), some (.int (σ.1 17 1)), none, none], [.int (-9)], z15) rfl ?_
        obtain rfl := Option.some.inj h
        exact rf_ri rc_X3_readNumber_ok 64 rfl rfl
      · rw [if_neg c17] at h
        refine rf_f wf0 rc_X3_readNumber_ok 60 (117, [some (.ref 17), none, none, none, some (.int p3), some (.int p4), some (.int (σ.1 17 1)), none, none], [], z15) rfl rfl c17 rfl ?_
        refine rf_b wf0 rc_X3_readNumber_ok 61 2 (124, [some (.ref 17), none, none, none, some (.int p3), some (.int p4), some (.int (σ.1 17 1)), none, none], [.int (σ.1 17 1)], z15) rfl ?_
        obtain rfl := Option.some.inj h
        exact rf_ri rc_X3_readNumber_ok 64 rfl rfl
  · intro y18 hz
    subst hz
    simp only [Sum.elim_inr] at h
    obtain rfl := Option.some.inj h
    exact ⟨rfl, rfl⟩
def rc_X3_readRoom : List rf_E := [(0, .aload_n 0, 1, 0), (1, .dup, 1, 0), (2, .getfield 21, 3, 301), (5, .iconst 1, 1, 0), (6, .iadd, 1, 0), (7, .putfield 21, 3, 301), (10, .aload_n 0, 1, 0), (11, .aload_n 1, 1, 1), (12, .iload_n 2, 1, 2), (13, .iconst 2, 1, 0), (14, .iconst 0, 1, 0), (15, .bipush 30, 2, 0), (17, .invokevirtual 67, 3, 0), (20, .istore_n 3, 1, 3), (21, .iload_n 3, 1, 3), (22, .bipush (-9), 2, 0), (24, .if_icmp .eq 5, 3, 29), (27, .iload_n 3, 1, 3), (28, .ireturn, 1, 0), (29, .aload_n 0, 1, 0), (30, .getfield 71, 3, 302), (33, .istore 4, 2, 4), (35, .aload_n 0, 1, 0), (36, .aload_n 1, 1, 1), (37, .iload_n 2, 1, 2), (38, .iconst 2, 1, 0), (39, .iconst 1, 1, 0), (40, .bipush 31, 2, 0), (42, .invokevirtual 67, 3, 0), (45, .istore_n 3, 1, 3), (46, .iload_n 3, 1, 3), (47, .bipush (-9), 2, 0), (49, .if_icmp .eq 5, 3, 54), (52, .iload_n 3, 1, 3), (53, .ireturn, 1, 0), (54, .aload_n 0, 1, 0), (55, .getfield 12, 3, 300), (58, .iload 4, 2, 4), (60, .aload_n 0, 1, 0), (61, .getfield 71, 3, 302), (64, .invokevirtual 74, 3, 0), (67, .bipush (-9), 2, 0), (69, .ireturn, 1, 0)]
theorem rc_X3_readRoom_ok : rf_rc mX3_readRoom rc_X3_readRoom = true := by decide +kernel
theorem mw_X3_readRoom : rf_mw mX3_readRoom := ⟨rf_mt_ok _ (List.mem_of_getElem? (i := 19) rfl), fun h => absurd h (by decide), fun _ => ⟨rf_mi_ok _ (List.mem_of_getElem? (i := 17) rfl), rf_mv_ok _ (List.mem_of_getElem? (i := 17) rfl)⟩, rf_mq_0 _ (List.mem_of_getElem? (i := 19) rfl)⟩
def f_X3_readRoom (p1 : Int32) (σ : rf_S) : Option (Int32 × rf_S) := (f_X3_readNumber p1 2 0 30 (rf_sI σ 17 1 ((σ.1 17 1) + 1))).bind (fun q1 => if q1.1 = (-9) then ((f_X3_readNumber p1 2 1 31 q1.2).bind (fun q4 => if q4.1 = (-9) then ((f_X2_addRoom (q1.2.1 17 2) (q4.2.1 17 2) q4.2).bind (fun q7 => some ((-9), q7))) else (some (q4.1, q4.2)))) else (some (q1.1, q1.2)))
set_option maxHeartbeats 2000000 in
theorem ok_X3_readRoom (d : Nat) (p1 : Int32) (σ : rf_S) (q : (Int32 × rf_S)) (h : f_X3_readRoom p1 σ = some q) : rf_Ex ly0 (d + 3) mX3_readRoom [.ref 17, .ref 10, .int p1] σ (some (.int q.1) : Option Value) q.2 := by
  unfold f_X3_readRoom at h
  refine rf_ex mw_X3_readRoom [some (.ref 17), some (.ref 10), some (.int p1), none, none] (Nat.le_of_ble_eq_true rfl) rfl ?_
  refine rf_b wf0 rc_X3_readRoom_ok 0 12 (17, [some (.ref 17), some (.ref 10), some (.int p1), none, none], [.int 30, .int 0, .int 2, .int p1, .ref 10, .ref 17], (rf_sI σ 17 1 ((σ.1 17 1) + 1))) rfl ?_
  obtain ⟨q1, h2, h⟩ := Option.bind_eq_some_iff.mp h
  refine rf_cv1 (Mt := mX3_readNumber) wf0 rc_X3_readRoom_ok 12 false rfl (List.mem_of_getElem? (i := 26) rfl) mw_X3_readNumber rfl 17 [.ref 10, .int p1, .int 2, .int 0, .int 30] [] rfl rfl rfl (Nat.le_of_ble_eq_true rfl) (ok_X3_readNumber d p1 2 0 30 (rf_sI σ 17 1 ((σ.1 17 1) + 1)) q1 h2) ?_
  show rf_G _ _ _ (20, [some (.ref 17), some (.ref 10), some (.int p1), none, none], [.int q1.1], q1.2) _ _
  refine rf_b wf0 rc_X3_readRoom_ok 13 3 (24, [some (.ref 17), some (.ref 10), some (.int p1), some (.int q1.1), none], [.int (-9), .int q1.1], q1.2) rfl ?_
  by_cases c3 : q1.1 = (-9)
  · rw [if_pos c3] at h
    refine rf_t wf0 rc_X3_readRoom_ok 16 (29, [some (.ref 17), some (.ref 10), some (.int p1), some (.int q1.1), none], [], q1.2) rfl rfl c3 rfl ?_
    refine rf_b wf0 rc_X3_readRoom_ok 19 9 (42, [some (.ref 17), some (.ref 10), some (.int p1), some (.int q1.1), some (.int (q1.2.1 17 2))], [.int 31, .int 1, .int 2, .int p1, .ref 10, .ref 17], q1.2) rfl ?_
    obtain ⟨q4, h5, h⟩ := Option.bind_eq_some_iff.mp h
    refine rf_cv1 (Mt := mX3_readNumber) wf0 rc_X3_readRoom_ok 28 false rfl (List.mem_of_getElem? (i := 26) rfl) mw_X3_readNumber rfl 17 [.ref 10, .int p1, .int 2, .int 1, .int 31] [] rfl rfl rfl (Nat.le_of_ble_eq_true rfl) (ok_X3_readNumber d p1 2 1 31 q1.2 q4 h5) ?_
    show rf_G _ _ _ (45, [some (.ref 17), some (.ref 10), some (.int p1), some (.int q1.1), some (.int (q1.2.1 17 2))], [.int q4.1], q4.2) _ _
    refine rf_b wf0 rc_X3_readRoom_ok 29 3 (49, [some (.ref 17), some (.ref 10), some (.int p1), some (.int q4.1), some (.int (q1.2.1 17 2))], [.int (-9), .int q4.1], q4.2) rfl ?_
    by_cases c6 : q4.1 = (-9)
    · rw [if_pos c6] at h
      refine rf_t wf0 rc_X3_readRoom_ok 32 (54, [some (.ref 17), some (.ref 10), some (.int p1), some (.int q4.1), some (.int (q1.2.1 17 2))], [], q4.2) rfl rfl c6 rfl ?_
      refine rf_b wf0 rc_X3_readRoom_ok 35 5 (64, [some (.ref 17), some (.ref 10), some (.int p1), some (.int q4.1), some (.int (q1.2.1 17 2))], [.int (q4.2.1 17 2), .int (q1.2.1 17 2), .ref 18], q4.2) rfl ?_
      obtain ⟨q7, h8, h⟩ := Option.bind_eq_some_iff.mp h
      refine rf_cv1 (Mt := mX2_addRoom) wf0 rc_X3_readRoom_ok 40 false rfl (List.mem_of_getElem? (i := 27) rfl) mw_X2_addRoom rfl 18 [.int (q1.2.1 17 2), .int (q4.2.1 17 2)] [] rfl rfl rfl (Nat.le_of_ble_eq_true rfl) (ok_X2_addRoom d (q1.2.1 17 2) (q4.2.1 17 2) q4.2 q7 h8) ?_
      show rf_G _ _ _ (67, [some (.ref 17), some (.ref 10), some (.int p1), some (.int q4.1), some (.int (q1.2.1 17 2))], [], q7) _ _
      refine rf_b wf0 rc_X3_readRoom_ok 41 1 (69, [some (.ref 17), some (.ref 10), some (.int p1), some (.int q4.1), some (.int (q1.2.1 17 2))], [.int (-9)], q7) rfl ?_
      obtain rfl := Option.some.inj h
      exact rf_ri rc_X3_readRoom_ok 42 rfl rfl
    · rw [if_neg c6] at h
      refine rf_f wf0 rc_X3_readRoom_ok 32 (52, [some (.ref 17), some (.ref 10), some (.int p1), some (.int q4.1), some (.int (q1.2.1 17 2))], [], q4.2) rfl rfl c6 rfl ?_
      refine rf_b wf0 rc_X3_readRoom_ok 33 1 (53, [some (.ref 17), some (.ref 10), some (.int p1), some (.int q4.1), some (.int (q1.2.1 17 2))], [.int q4.1], q4.2) rfl ?_
      obtain rfl := Option.some.inj h
      exact rf_ri rc_X3_readRoom_ok 34 rfl rfl
  · rw [if_neg c3] at h
    refine rf_f wf0 rc_X3_readRoom_ok 16 (27, [some (.ref 17), some (.ref 10), some (.int p1), some (.int q1.1), none], [], q1.2) rfl rfl c3 rfl ?_
    refine rf_b wf0 rc_X3_readRoom_ok 17 1 (28, [some (.ref 17), some (.ref 10), some (.int p1), some (.int q1.1), none], [.int q1.1], q1.2) rfl ?_
    obtain rfl := Option.some.inj h
    exact rf_ri rc_X3_readRoom_ok 18 rfl rfl
def rc_X3_readMember : List rf_E := [(0, .aload_n 0, 1, 0), (1, .dup, 1, 0), (2, .getfield 21, 3, 301), (5, .iconst 1, 1, 0), (6, .iadd, 1, 0), (7, .putfield 21, 3, 301), (10, .aload_n 0, 1, 0), (11, .aload_n 1, 1, 1), (12, .iload_n 2, 1, 2), (13, .iconst 2, 1, 0), (14, .iconst 0, 1, 0), (15, .bipush 30, 2, 0), (17, .invokevirtual 67, 3, 0), (20, .istore 4, 2, 4), (22, .iload 4, 2, 4), (24, .bipush (-9), 2, 0), (26, .if_icmp .eq 6, 3, 32), (29, .iload 4, 2, 4), (31, .ireturn, 1, 0), (32, .aload_n 0, 1, 0), (33, .getfield 71, 3, 302), (36, .istore 5, 2, 5), (38, .aload_n 0, 1, 0), (39, .aload_n 1, 1, 1), (40, .iload_n 2, 1, 2), (41, .iconst 1, 1, 0), (42, .iconst 0, 1, 0), (43, .bipush 9, 2, 0), (45, .invokevirtual 67, 3, 0), (48, .istore 4, 2, 4), (50, .iload 4, 2, 4), (52, .bipush (-9), 2, 0), (54, .if_icmp .eq 6, 3, 60), (57, .iload 4, 2, 4), (59, .ireturn, 1, 0), (60, .aload_n 0, 1, 0), (61, .getfield 71, 3, 302), (64, .istore 6, 2, 6), (66, .aload_n 0, 1, 0), (67, .aload_n 1, 1, 1), (68, .iload_n 2, 1, 2), (69, .iconst 1, 1, 0), (70, .iconst 0, 1, 0), (71, .aload_n 0, 1, 0), (72, .getfield 12, 3, 300), (75, .getfield 78, 3, 206), (78, .iconst 1, 1, 0), (79, .isub, 1, 0), (80, .invokevirtual 67, 3, 0), (83, .istore 4, 2, 4), (85, .iload 4, 2, 4), (87, .bipush (-9), 2, 0), (89, .if_icmp .eq 6, 3, 95), (92, .iload 4, 2, 4), (94, .ireturn, 1, 0), (95, .aload_n 0, 1, 0), (96, .getfield 12, 3, 300), (99, .iload_n 3, 1, 3), (100, .iload 5, 2, 5), (102, .iload 6, 2, 6), (104, .aload_n 0, 1, 0), (105, .getfield 71, 3, 302), (108, .invokevirtual 81, 3, 0), (111, .bipush (-9), 2, 0), (113, .ireturn, 1, 0)]
theorem rc_X3_readMember_ok : rf_rc mX3_readMember rc_X3_readMember = true := by decide +kernel
theorem mw_X3_readMember : rf_mw mX3_readMember := ⟨rf_mt_ok _ (List.mem_of_getElem? (i := 20) rfl), fun h => absurd h (by decide), fun _ => ⟨rf_mi_ok _ (List.mem_of_getElem? (i := 18) rfl), rf_mv_ok _ (List.mem_of_getElem? (i := 18) rfl)⟩, rf_mq_0 _ (List.mem_of_getElem? (i := 20) rfl)⟩
def f_X3_readMember (p1 : Int32) (p2 : Int32) (σ : rf_S) : Option (Int32 × rf_S) := (f_X3_readNumber p1 2 0 30 (rf_sI σ 17 1 ((σ.1 17 1) + 1))).bind (fun q1 => if q1.1 = (-9) then ((f_X3_readNumber p1 1 0 9 q1.2).bind (fun q4 => if q4.1 = (-9) then ((f_X3_readNumber p1 1 0 ((q4.2.1 18 6) - 1) q4.2).bind (fun q7 => if q7.1 = (-9) then ((f_X2_addMember p2 (q1.2.1 17 2) (q4.2.1 17 2) (q7.2.1 17 2) q7.2).bind (fun q10 => some ((-9), q10))) else (some (q7.1, q7.2)))) else (some (q4.1, q4.2)))) else (some (q1.1, q1.2)))
set_option maxHeartbeats 2000000 in
theorem ok_X3_readMember (d : Nat) (p1 : Int32) (p2 : Int32) (σ : rf_S) (q : (Int32 × rf_S)) (h : f_X3_readMember p1 p2 σ = some q) : rf_Ex ly0 (d + 3) mX3_readMember [.ref 17, .ref 10, .int p1, .int p2] σ (some (.int q.1) : Option Value) q.2 := by
  unfold f_X3_readMember at h
  refine rf_ex mw_X3_readMember [some (.ref 17), some (.ref 10), some (.int p1), some (.int p2), none, none, none] (Nat.le_of_ble_eq_true rfl) rfl ?_
  refine rf_b wf0 rc_X3_readMember_ok 0 12 (17, [some (.ref 17), some (.ref 10), some (.int p1), some (.int p2), none, none, none], [.int 30, .int 0, .int 2, .int p1, .ref 10, .ref 17], (rf_sI σ 17 1 ((σ.1 17 1) + 1))) rfl ?_
  obtain ⟨q1, h2, h⟩ := Option.bind_eq_some_iff.mp h
  refine rf_cv1 (Mt := mX3_readNumber) wf0 rc_X3_readMember_ok 12 false rfl (List.mem_of_getElem? (i := 26) rfl) mw_X3_readNumber rfl 17 [.ref 10, .int p1, .int 2, .int 0, .int 30] [] rfl rfl rfl (Nat.le_of_ble_eq_true rfl) (ok_X3_readNumber d p1 2 0 30 (rf_sI σ 17 1 ((σ.1 17 1) + 1)) q1 h2) ?_
  show rf_G _ _ _ (20, [some (.ref 17), some (.ref 10), some (.int p1), some (.int p2), none, none, none], [.int q1.1], q1.2) _ _
  refine rf_b wf0 rc_X3_readMember_ok 13 3 (26, [some (.ref 17), some (.ref 10), some (.int p1), some (.int p2), some (.int q1.1), none, none], [.int (-9), .int q1.1], q1.2) rfl ?_
  by_cases c3 : q1.1 = (-9)
  · rw [if_pos c3] at h
    refine rf_t wf0 rc_X3_readMember_ok 16 (32, [some (.ref 17), some (.ref 10), some (.int p1), some (.int p2), some (.int q1.1), none, none], [], q1.2) rfl rfl c3 rfl ?_
    refine rf_b wf0 rc_X3_readMember_ok 19 9 (45, [some (.ref 17), some (.ref 10), some (.int p1), some (.int p2), some (.int q1.1), some (.int (q1.2.1 17 2)), none], [.int 9, .int 0, .int 1, .int p1, .ref 10, .ref 17], q1.2) rfl ?_
    obtain ⟨q4, h5, h⟩ := Option.bind_eq_some_iff.mp h
    refine rf_cv1 (Mt := mX3_readNumber) wf0 rc_X3_readMember_ok 28 false rfl (List.mem_of_getElem? (i := 26) rfl) mw_X3_readNumber rfl 17 [.ref 10, .int p1, .int 1, .int 0, .int 9] [] rfl rfl rfl (Nat.le_of_ble_eq_true rfl) (ok_X3_readNumber d p1 1 0 9 q1.2 q4 h5) ?_
    show rf_G _ _ _ (48, [some (.ref 17), some (.ref 10), some (.int p1), some (.int p2), some (.int q1.1), some (.int (q1.2.1 17 2)), none], [.int q4.1], q4.2) _ _
    refine rf_b wf0 rc_X3_readMember_ok 29 3 (54, [some (.ref 17), some (.ref 10), some (.int p1), some (.int p2), some (.int q4.1), some (.int (q1.2.1 17 2)), none], [.int (-9), .int q4.1], q4.2) rfl ?_
    by_cases c6 : q4.1 = (-9)
    · rw [if_pos c6] at h
      refine rf_t wf0 rc_X3_readMember_ok 32 (60, [some (.ref 17), some (.ref 10), some (.int p1), some (.int p2), some (.int q4.1), some (.int (q1.2.1 17 2)), none], [], q4.2) rfl rfl c6 rfl ?_
      refine rf_b wf0 rc_X3_readMember_ok 35 13 (80, [some (.ref 17), some (.ref 10), some (.int p1), some (.int p2), some (.int q4.1), some (.int (q1.2.1 17 2)), some (.int (q4.2.1 17 2))], [.int ((q4.2.1 18 6) - 1), .int 0, .int 1, .int p1, .ref 10, .ref 17], q4.2) rfl ?_
      obtain ⟨q7, h8, h⟩ := Option.bind_eq_some_iff.mp h
      refine rf_cv1 (Mt := mX3_readNumber) wf0 rc_X3_readMember_ok 48 false rfl (List.mem_of_getElem? (i := 26) rfl) mw_X3_readNumber rfl 17 [.ref 10, .int p1, .int 1, .int 0, .int ((q4.2.1 18 6) - 1)] [] rfl rfl rfl (Nat.le_of_ble_eq_true rfl) (ok_X3_readNumber d p1 1 0 ((q4.2.1 18 6) - 1) q4.2 q7 h8) ?_
      show rf_G _ _ _ (83, [some (.ref 17), some (.ref 10), some (.int p1), some (.int p2), some (.int q4.1), some (.int (q1.2.1 17 2)), some (.int (q4.2.1 17 2))], [.int q7.1], q7.2) _ _
      refine rf_b wf0 rc_X3_readMember_ok 49 3 (89, [some (.ref 17), some (.ref 10), some (.int p1), some (.int p2), some (.int q7.1), some (.int (q1.2.1 17 2)), some (.int (q4.2.1 17 2))], [.int (-9), .int q7.1], q7.2) rfl ?_
      by_cases c9 : q7.1 = (-9)
      · rw [if_pos c9] at h
        refine rf_t wf0 rc_X3_readMember_ok 52 (95, [some (.ref 17), some (.ref 10), some (.int p1), some (.int p2), some (.int q7.1), some (.int (q1.2.1 17 2)), some (.int (q4.2.1 17 2))], [], q7.2) rfl rfl c9 rfl ?_
        refine rf_b wf0 rc_X3_readMember_ok 55 7 (108, [some (.ref 17), some (.ref 10), some (.int p1), some (.int p2), some (.int q7.1), some (.int (q1.2.1 17 2)), some (.int (q4.2.1 17 2))], [.int (q7.2.1 17 2), .int (q4.2.1 17 2), .int (q1.2.1 17 2), .int p2, .ref 18], q7.2) rfl ?_
        obtain ⟨q10, h11, h⟩ := Option.bind_eq_some_iff.mp h
        refine rf_cv1 (Mt := mX2_addMember) wf0 rc_X3_readMember_ok 62 false rfl (List.mem_of_getElem? (i := 28) rfl) mw_X2_addMember rfl 18 [.int p2, .int (q1.2.1 17 2), .int (q4.2.1 17 2), .int (q7.2.1 17 2)] [] rfl rfl rfl (Nat.le_of_ble_eq_true rfl) (ok_X2_addMember d p2 (q1.2.1 17 2) (q4.2.1 17 2) (q7.2.1 17 2) q7.2 q10 h11) ?_
        show rf_G _ _ _ (111, [some (.ref 17), some (.ref 10), some (.int p1), some (.int p2), some (.int q7.1), some (.int (q1.2.1 17 2)), some (.int (q4.2.1 17 2))], [], q10) _ _
        refine rf_b wf0 rc_X3_readMember_ok 63 1 (113, [some (.ref 17), some (.ref 10), some (.int p1), some (.int p2), some (.int q7.1), some (.int (q1.2.1 17 2)), some (.int (q4.2.1 17 2))], [.int (-9)], q10) rfl ?_
        obtain rfl := Option.some.inj h
        exact rf_ri rc_X3_readMember_ok 64 rfl rfl
      · rw [if_neg c9] at h
        refine rf_f wf0 rc_X3_readMember_ok 52 (92, [some (.ref 17), some (.ref 10), some (.int p1), some (.int p2), some (.int q7.1), some (.int (q1.2.1 17 2)), some (.int (q4.2.1 17 2))], [], q7.2) rfl rfl c9 rfl ?_
        refine rf_b wf0 rc_X3_readMember_ok 53 1 (94, [some (.ref 17), some (.ref 10), some (.int p1), some (.int p2), some (.int q7.1), some (.int (q1.2.1 17 2)), some (.int (q4.2.1 17 2))], [.int q7.1], q7.2) rfl ?_
        obtain rfl := Option.some.inj h
        exact rf_ri rc_X3_readMember_ok 54 rfl rfl
    · rw [if_neg c6] at h
      refine rf_f wf0 rc_X3_readMember_ok 32 (57, [some (.ref 17), some (.ref 10), some (.int p1), some (.int p2), some (.int q4.1), some (.int (q1.2.1 17 2)), none], [], q4.2) rfl rfl c6 rfl ?_
      refine rf_b wf0 rc_X3_readMember_ok 33 1 (59, [some (.ref 17), some (.ref 10), some (.int p1), some (.int p2), some (.int q4.1), some (.int (q1.2.1 17 2)), none], [.int q4.1], q4.2) rfl ?_
      obtain rfl := Option.some.inj h
      exact rf_ri rc_X3_readMember_ok 34 rfl rfl
  · rw [if_neg c3] at h
    refine rf_f wf0 rc_X3_readMember_ok 16 (29, [some (.ref 17), some (.ref 10), some (.int p1), some (.int p2), some (.int q1.1), none, none], [], q1.2) rfl rfl c3 rfl ?_
    refine rf_b wf0 rc_X3_readMember_ok 17 1 (31, [some (.ref 17), some (.ref 10), some (.int p1), some (.int p2), some (.int q1.1), none, none], [.int q1.1], q1.2) rfl ?_
    obtain rfl := Option.some.inj h
    exact rf_ri rc_X3_readMember_ok 18 rfl rfl
def rc_X3_readItem : List rf_E := [(0, .aload_n 1, 1, 1), (1, .iload_n 2, 1, 2), (2, .aload_n 0, 1, 0), (3, .getfield 21, 3, 301), (6, .invokevirtual 46, 3, 0), (9, .istore_n 3, 1, 3), (10, .iload_n 3, 1, 3), (11, .bipush 114, 2, 0), (13, .if_icmp .ne 27, 3, 40), (16, .aload_n 0, 1, 0), (17, .getfield 12, 3, 300), (20, .invokevirtual 50, 3, 0), (23, .ifCond .eq 12, 3, 35), (26, .aload_n 0, 1, 0), (27, .aload_n 1, 1, 1), (28, .iload_n 2, 1, 2), (29, .invokevirtual 54, 3, 0), (32, .goto 7, 3, 39), (35, .aload_n 0, 1, 0), (36, .getfield 21, 3, 301), (39, .ireturn, 1, 0), (40, .iload_n 3, 1, 3), (41, .invokestatic 57, 3, 0), (44, .istore 4, 2, 4), (46, .iload 4, 2, 4), (48, .bipush (-9), 2, 0), (50, .if_icmp .eq 17, 3, 67), (53, .aload_n 0, 1, 0), (54, .getfield 12, 3, 300), (57, .invokevirtual 60, 3, 0), (60, .ifCond .eq 7, 3, 67), (63, .iconst 1, 1, 0), (64, .goto 4, 3, 68), (67, .iconst 0, 1, 0), (68, .istore 5, 2, 5), (70, .iload 5, 2, 5), (72, .ifCond .eq 14, 3, 86), (75, .aload_n 0, 1, 0), (76, .aload_n 1, 1, 1), (77, .iload_n 2, 1, 2), (78, .iload 4, 2, 4), (80, .invokevirtual 63, 3, 0), (83, .goto 7, 3, 90), (86, .aload_n 0, 1, 0), (87, .getfield 21, 3, 301), (90, .ireturn, 1, 0)]
theorem rc_X3_readItem_ok : rf_rc mX3_readItem rc_X3_readItem = true := by decide +kernel
theorem mw_X3_readItem : rf_mw mX3_readItem := ⟨rf_mt_ok _ (List.mem_of_getElem? (i := 18) rfl), fun h => absurd h (by decide), fun _ => ⟨rf_mi_ok _ (List.mem_of_getElem? (i := 16) rfl), rf_mv_ok _ (List.mem_of_getElem? (i := 16) rfl)⟩, rf_mq_0 _ (List.mem_of_getElem? (i := 18) rfl)⟩
def f_X3_readItem_j68 (l2 : Int32) (l4 : Int32) (t0 : Int32) (σ : rf_S) : Option (Int32 × rf_S) := if t0 = 0 then (some ((σ.1 17 1), σ)) else ((f_X3_readMember l2 l4 σ).bind (fun q8 => some (q8.1, q8.2)))
set_option maxHeartbeats 2000000 in
theorem ok_X3_readItem_j68 (d : Nat) (l2 : Int32) (l4 : Int32) (t0 : Int32) (σ : rf_S) (q : (Int32 × rf_S)) (h : f_X3_readItem_j68 l2 l4 t0 σ = some q) : rf_G ly0 (d + 3) mX3_readItem (68, [some (.ref 17), some (.ref 10), some (.int l2), none, some (.int l4), none], [.int t0], σ) (some (.int q.1) : Option Value) q.2 := by
  unfold f_X3_readItem_j68 at h
  refine rf_b wf0 rc_X3_readItem_ok 34 2 (72, [some (.ref 17), some (.ref 10), some (.int l2), none, some (.int l4), some (.int t0)], [.int t0], σ) rfl ?_
  by_cases c7 : t0 = 0
  · rw [if_pos c7] at h
    refine rf_t wf0 rc_X3_readItem_ok 36 (86, [some (.ref 17), some (.ref 10), some (.int l2), none, some (.int l4), some (.int t0)], [], σ) rfl rfl c7 rfl ?_
    refine rf_b wf0 rc_X3_readItem_ok 43 2 (90, [some (.ref 17), some (.ref 10), some (.int l2), none, some (.int l4), some (.int t0)], [.int (σ.1 17 1)], σ) rfl ?_
    obtain rfl := Option.some.inj h
    exact rf_ri rc_X3_readItem_ok 45 rfl rfl
  · rw [if_neg c7] at h
    refine rf_f wf0 rc_X3_readItem_ok 36 (75, [some (.ref 17), some (.ref 10), some (.int l2), none, some (.int l4), some (.int t0)], [], σ) rfl rfl c7 rfl ?_
    refine rf_b wf0 rc_X3_readItem_ok 37 4 (80, [some (.ref 17), some (.ref 10), some (.int l2), none, some (.int l4), some (.int t0)], [.int l4, .int l2, .ref 10, .ref 17], σ) rfl ?_
    obtain ⟨q8, h9, h⟩ := Option.bind_eq_some_iff.mp h
    refine rf_cv1 (Mt := mX3_readMember) wf0 rc_X3_readItem_ok 41 false rfl (List.mem_of_getElem? (i := 25) rfl) mw_X3_readMember rfl 17 [.ref 10, .int l2, .int l4] [] rfl rfl rfl (Nat.le_of_ble_eq_true rfl) (ok_X3_readMember d l2 l4 σ q8 h9) ?_
    show rf_G _ _ _ (83, [some (.ref 17), some (.ref 10), some (.int l2), none, some (.int l4), some (.int t0)], [.int q8.1], q8.2) _ _
    refine rf_b wf0 rc_X3_readItem_ok 42 1 (90, [some (.ref 17), some (.ref 10), some (.int l2), none, some (.int l4), some (.int t0)], [.int q8.1], q8.2) rfl ?_
    obtain rfl := Option.some.inj h
    exact rf_ri rc_X3_readItem_ok 45 rfl rfl
def f_X3_readItem_j67 (l2 : Int32) (l4 : Int32) (σ : rf_S) : Option (Int32 × rf_S) := f_X3_readItem_j68 l2 l4 0 σ
set_option maxHeartbeats 2000000 in
theorem ok_X3_readItem_j67 (d : Nat) (l2 : Int32) (l4 : Int32) (σ : rf_S) (q : (Int32 × rf_S)) (h : f_X3_readItem_j67 l2 l4 σ = some q) : rf_G ly0 (d + 3) mX3_readItem (67, [some (.ref 17), some (.ref 10), some (.int l2), none, some (.int l4), none], [], σ) (some (.int q.1) : Option Value) q.2 := by
  unfold f_X3_readItem_j67 at h
  refine rf_b wf0 rc_X3_readItem_ok 33 1 (68, [some (.ref 17), some (.ref 10), some (.int l2), none, some (.int l4), none], [.int 0], σ) rfl ?_
  exact ok_X3_readItem_j68 d l2 l4 0 σ q h
def f_X3_readItem (p1 : Int32) (σ : rf_S) : Option (Int32 × rf_S) := (f_X7_get p1 (σ.1 17 1) σ).bind (fun q1 => if q1 ≠ 114 then ((f_X3_kindBySign q1 σ).bind (fun q4 => if q4 = (-9) then (f_X3_readItem_j67 p1 q4 σ) else ((f_X2_hasSpaceForMember σ).bind (fun q10 => if q10 = 0 then (f_X3_readItem_j67 p1 q4 σ) else (f_X3_readItem_j68 p1 q4 1 σ))))) else ((f_X2_hasSpaceForRoom σ).bind (fun q13 => if q13 = 0 then (some ((σ.1 17 1), σ)) else ((f_X3_readRoom p1 σ).bind (fun q16 => some (q16.1, q16.2))))))
set_option maxHeartbeats 2000000 in
theorem ok_X3_readItem (d : Nat) (p1 : Int32) (σ : rf_S) (q : (Int32 × rf_S)) (h : f_X3_readItem p1 σ = some q) : rf_Ex ly0 (d + 4) mX3_readItem [.ref 17, .ref 10, .int p1] σ (some (.int q.1) : Option Value) q.2 := by
  unfold f_X3_readItem at h
  refine rf_ex mw_X3_readItem [some (.ref 17), some (.ref 10), some (.int p1), none, none, none] (Nat.le_of_ble_eq_true rfl) rfl ?_
  refine rf_b wf0 rc_X3_readItem_ok 0 4 (6, [some (.ref 17), some (.ref 10), some (.int p1), none, none, none], [.int (σ.1 17 1), .int p1, .ref 10], σ) rfl ?_
  obtain ⟨q1, h2, h⟩ := Option.bind_eq_some_iff.mp h
  refine rf_cv1 (Mt := mX7_get) wf0 rc_X3_readItem_ok 4 false rfl (List.mem_of_getElem? (i := 20) rfl) mw_X7_get rfl 10 [.int p1, .int (σ.1 17 1)] [] rfl rfl rfl (Nat.le_of_ble_eq_true rfl) (ok_X7_get (d + 2) p1 (σ.1 17 1) σ q1 h2) ?_
  show rf_G _ _ _ (9, [some (.ref 17), some (.ref 10), some (.int p1), none, none, none], [.int q1], σ) _ _
  refine rf_b wf0 rc_X3_readItem_ok 5 3 (13, [some (.ref 17), some (.ref 10), some (.int p1), some (.int q1), none, none], [.int 114, .int q1], σ) rfl ?_
  by_cases c3 : q1 ≠ 114
  · rw [if_pos c3] at h
    refine rf_t wf0 rc_X3_readItem_ok 8 (40, [some (.ref 17), some (.ref 10), some (.int p1), some (.int q1), none, none], [], σ) rfl rfl c3 rfl ?_
    refine rf_b wf0 rc_X3_readItem_ok 21 1 (41, [some (.ref 17), some (.ref 10), some (.int p1), some (.int q1), none, none], [.int q1], σ) rfl ?_
    obtain ⟨q4, h5, h⟩ := Option.bind_eq_some_iff.mp h
    refine rf_cs1 (Mt := mX3_kindBySign) rc_X3_readItem_ok 22 false rfl (List.mem_of_getElem? (i := 23) rfl) mw_X3_kindBySign rfl [.int q1] [] rfl rfl (Nat.le_of_ble_eq_true rfl) (ok_X3_kindBySign (d + 2) q1 σ q4 h5) ?_
    show rf_G _ _ _ (44, [some (.ref 17), some (.ref 10), some (.int p1), some (.int q1), none, none], [.int q4], σ) _ _
    refine rf_b wf0 rc_X3_readItem_ok 23 3 (50, [some (.ref 17), some (.ref 10), some (.int p1), some (.int q1), some (.int q4), none], [.int (-9), .int q4], σ) rfl ?_
    by_cases c6 : q4 = (-9)
    · rw [if_pos c6] at h
      refine rf_t wf0 rc_X3_readItem_ok 26 (67, [some (.ref 17), some (.ref 10), some (.int p1), some (.int q1), some (.int q4), none], [], σ) rfl rfl c6 rfl ?_
      refine rf_fg [true, true, true, false, true, true] [some (.ref 17), some (.ref 10), some (.int p1), none, some (.int q4), none] rfl ?_
      exact ok_X3_readItem_j67 d p1 q4 σ q h
    · rw [if_neg c6] at h
      refine rf_f wf0 rc_X3_readItem_ok 26 (53, [some (.ref 17), some (.ref 10), some (.int p1), some (.int q1), some (.int q4), none], [], σ) rfl rfl c6 rfl ?_
      refine rf_b wf0 rc_X3_readItem_ok 27 2 (57, [some (.ref 17), some (.ref 10), some (.int p1), some (.int q1), some (.int q4), none], [.ref 18], σ) rfl ?_
      obtain ⟨q10, h11, h⟩ := Option.bind_eq_some_iff.mp h
      refine rf_cv1 (Mt := mX2_hasSpaceForMember) wf0 rc_X3_readItem_ok 29 false rfl (List.mem_of_getElem? (i := 24) rfl) mw_X2_hasSpaceForMember rfl 18 [] [] rfl rfl rfl (Nat.le_of_ble_eq_true rfl) (ok_X2_hasSpaceForMember (d + 2)  σ q10 h11) ?_
      show rf_G _ _ _ (60, [some (.ref 17), some (.ref 10), some (.int p1), some (.int q1), some (.int q4), none], [.int q10], σ) _ _
      by_cases c12 : q10 = 0
      · rw [if_pos c12] at h
        refine rf_t wf0 rc_X3_readItem_ok 30 (67, [some (.ref 17), some (.ref 10), some (.int p1), some (.int q1), some (.int q4), none], [], σ) rfl rfl c12 rfl ?_
        refine rf_fg [true, true, true, false, true, true] [some (.ref 17), some (.ref 10), some (.int p1), none, some (.int q4), none] rfl ?_
        exact ok_X3_readItem_j67 d p1 q4 σ q h
      · rw [if_neg c12] at h
        refine rf_f wf0 rc_X3_readItem_ok 30 (63, [some (.ref 17), some (.ref 10), some (.int p1), some (.int q1), some (.int q4), none], [], σ) rfl rfl c12 rfl ?_
        refine rf_b wf0 rc_X3_readItem_ok 31 2 (68, [some (.ref 17), some (.ref 10), some (.int p1), some (.int q1), some (.int q4), none], [.int 1], σ) rfl ?_
        refine rf_fg [true, true, true, false, true, true] [some (.ref 17), some (.ref 10), some (.int p1), none, some (.int q4), none] rfl ?_
        exact ok_X3_readItem_j68 d p1 q4 1 σ q h
  · rw [if_neg c3] at h
    refine rf_f wf0 rc_X3_readItem_ok 8 (16, [some (.ref 17), some (.ref 10), some (.int p1), some (.int q1), none, none], [], σ) rfl rfl c3 rfl ?_
    refine rf_b wf0 rc_X3_readItem_ok 9 2 (20, [some (.ref 17), some (.ref 10), some (.int p1), some (.int q1), none, none], [.ref 18], σ) rfl ?_
    obtain ⟨q13, h14, h⟩ := Option.bind_eq_some_iff.mp h
    refine rf_cv1 (Mt := mX2_hasSpaceForRoom) wf0 rc_X3_readItem_ok 11 false rfl (List.mem_of_getElem? (i := 21) rfl) mw_X2_hasSpaceForRoom rfl 18 [] [] rfl rfl rfl (Nat.le_of_ble_eq_true rfl) (ok_X2_hasSpaceForRoom (d + 2)  σ q13 h14) ?_
    show rf_G _ _ _ (23, [some (.ref 17), some (.ref 10), some (.int p1), some (.int q1), none, none], [.int q13], σ) _ _
    by_cases c15 : q13 = 0
    · rw [if_pos c15] at h
      refine rf_t wf0 rc_X3_readItem_ok 12 (35, [some (.ref 17), some (.ref 10), some (.int p1), some (.int q1), none, none], [], σ) rfl rfl c15 rfl ?_
      refine rf_b wf0 rc_X3_readItem_ok 18 2 (39, [some (.ref 17), some (.ref 10), some (.int p1), some (.int q1), none, none], [.int (σ.1 17 1)], σ) rfl ?_
      obtain rfl := Option.some.inj h
      exact rf_ri rc_X3_readItem_ok 20 rfl rfl
    · rw [if_neg c15] at h
      refine rf_f wf0 rc_X3_readItem_ok 12 (26, [some (.ref 17), some (.ref 10), some (.int p1), some (.int q1), none, none], [], σ) rfl rfl c15 rfl ?_
      refine rf_b wf0 rc_X3_readItem_ok 13 3 (29, [some (.ref 17), some (.ref 10), some (.int p1), some (.int q1), none, none], [.int p1, .ref 10, .ref 17], σ) rfl ?_
      obtain ⟨q16, h17, h⟩ := Option.bind_eq_some_iff.mp h
      refine rf_cv1 (Mt := mX3_readRoom) wf0 rc_X3_readItem_ok 16 false rfl (List.mem_of_getElem? (i := 22) rfl) mw_X3_readRoom rfl 17 [.ref 10, .int p1] [] rfl rfl rfl (Nat.le_of_ble_eq_true rfl) (ok_X3_readRoom d p1 σ q16 h17) ?_
      show rf_G _ _ _ (32, [some (.ref 17), some (.ref 10), some (.int p1), some (.int q1), none, none], [.int q16.1], q16.2) _ _
      refine rf_b wf0 rc_X3_readItem_ok 17 1 (39, [some (.ref 17), some (.ref 10), some (.int p1), some (.int q1), none, none], [.int q16.1], q16.2) rfl ?_
      obtain rfl := Option.some.inj h
      exact rf_ri rc_X3_readItem_ok 20 rfl rfl
def rc_X3_read : List rf_E := [(0, .aload_n 0, 1, 0), (1, .getfield 12, 3, 300), (4, .invokevirtual 18, 3, 0), (7, .aload_n 0, 1, 0), (8, .iconst 0, 1, 0), (9, .putfield 21, 3, 301), (12, .aload_n 1, 1, 1), (13, .iload_n 2, 1, 2), (14, .invokevirtual 25, 3, 0), (17, .istore_n 3, 1, 3), (18, .iconst 0, 1, 0), (19, .istore 4, 2, 4), (21, .iload 4, 2, 4), (23, .bipush 10, 2, 0), (25, .if_icmp .gt 58, 3, 83), (28, .aload_n 0, 1, 0), (29, .aload_n 1, 1, 1), (30, .iload_n 2, 1, 2), (31, .invokevirtual 31, 3, 0), (34, .aload_n 0, 1, 0), (35, .getfield 21, 3, 301), (38, .iload_n 3, 1, 3), (39, .if_icmp .lt 20, 3, 59), (42, .aload_n 0, 1, 0), (43, .getfield 12, 3, 300), (46, .getfield 35, 3, 207), (49, .ifCond .ne 7, 3, 56), (52, .iload_n 3, 1, 3), (53, .goto 5, 3, 58), (56, .bipush (-9), 2, 0), (58, .ireturn, 1, 0), (59, .aload_n 0, 1, 0), (60, .aload_n 1, 1, 1), (61, .iload_n 2, 1, 2), (62, .invokevirtual 38, 3, 0), (65, .istore 5, 2, 5), (67, .iload 5, 2, 5), (69, .bipush (-9), 2, 0), (71, .if_icmp .eq 6, 3, 77), (74, .iload 5, 2, 5), (76, .ireturn, 1, 0), (77, .iinc 4 1, 3, 4), (80, .goto (-59), 3, 21), (83, .aload_n 0, 1, 0), (84, .getfield 21, 3, 301), (87, .ireturn, 1, 0)]
theorem rc_X3_read_ok : rf_rc mX3_read rc_X3_read = true := by decide +kernel
theorem mw_X3_read : rf_mw mX3_read := ⟨rf_mt_ok _ (List.mem_of_getElem? (i := 16) rfl), fun h => absurd h (by decide), fun _ => ⟨rf_mi_ok _ (List.mem_of_getElem? (i := 14) rfl), rf_mv_ok _ (List.mem_of_getElem? (i := 14) rfl)⟩, rf_mq_0 _ (List.mem_of_getElem? (i := 16) rfl)⟩
def f_X3_read_b21 (l2 : Int32) (l3 : Int32) (s21 : Int32 × rf_S) : Option ((Int32 × rf_S) ⊕ ((rf_S) ⊕ (Int32 × rf_S))) := if 10 < s21.1 then (some (.inr (.inl s21.2))) else ((f_X3_skipBlanks l2 s21.2).bind (fun q6 => if (q6.1 17 1) < l3 then ((f_X3_readItem l2 q6).bind (fun q9 => if q9.1 = (-9) then (some (.inl ((s21.1 + 1), q9.2))) else (some (.inr (.inr (q9.1, q9.2)))))) else (if (q6.1 18 7) ≠ 0 then (some (.inr (.inr ((-9), q6)))) else (some (.inr (.inr (l3, q6)))))))
set_option maxHeartbeats 2000000 in
theorem ok_X3_read_b21 (d : Nat) (l2 : Int32) (l3 : Int32) (s21 : Int32 × rf_S) (o : ((Int32 × rf_S) ⊕ ((rf_S) ⊕ (Int32 × rf_S)))) (h : f_X3_read_b21 l2 l3 s21 = some o) {r : Option Value} {σr : rf_S} (kl : ∀ s', o = .inl s' → rf_G ly0 (d + 4) mX3_read (21, [some (.ref 17), some (.ref 10), some (.int l2), some (.int l3), some (.int s'.1), none], [], s'.2) r σr) (kx : ∀ e, o = .inr (.inl e) → rf_G ly0 (d + 4) mX3_read (83, [some (.ref 17), none, none, none, none, none], [], e) r σr) (kr : ∀ q : (Int32 × rf_S), o = .inr (.inr q) → r = (some (.int q.1) : Option Value) ∧ σr = q.2) : rf_G ly0 (d + 4) mX3_read (21, [some (.ref 17), some (.ref 10), some (.int l2), some (.int l3), some (.int s21.1), none], [], s21.2) r σr := by
  unfold f_X3_read_b21 at h
  refine rf_b wf0 rc_X3_read_ok 12 2 (25, [some (.ref 17), some (.ref 10), some (.int l2), some (.int l3), some (.int s21.1), none], [.int 10, .int s21.1], s21.2) rfl ?_
  by_cases c5 : 10 < s21.1
  · rw [if_pos c5] at h
    refine rf_t wf0 rc_X3_read_ok 14 (83, [some (.ref 17), some (.ref 10), some (.int l2), some (.int l3), some (.int s21.1), none], [], s21.2) rfl rfl c5 rfl ?_
    refine rf_fg [true, false, false, false, false, true] [some (.ref 17), none, none, none, none, none] rfl ?_
    exact kx s21.2 (Option.some.inj h).symm
  · rw [if_neg c5] at h
    refine rf_f wf0 rc_X3_read_ok 14 (28, [some (.ref 17), some (.ref 10), some (.int l2), some (.int l3), some (.int s21.1), none], [], s21.2) rfl rfl c5 rfl ?_
    refine rf_b wf0 rc_X3_read_ok 15 3 (31, [some (.ref 17), some (.ref 10), some (.int l2), some (.int l3), some (.int s21.1), none], [.int l2, .ref 10, .ref 17], s21.2) rfl ?_
    obtain ⟨q6, h7, h⟩ := Option.bind_eq_some_iff.mp h
    refine rf_cv1 (Mt := mX3_skipBlanks) wf0 rc_X3_read_ok 18 false rfl (List.mem_of_getElem? (i := 17) rfl) mw_X3_skipBlanks rfl 17 [.ref 10, .int l2] [] rfl rfl rfl (Nat.le_of_ble_eq_true rfl) (ok_X3_skipBlanks (d + 2) l2 s21.2 q6 h7) ?_
    show rf_G _ _ _ (34, [some (.ref 17), some (.ref 10), some (.int l2), some (.int l3), some (.int s21.1), none], [], q6) _ _
    refine rf_b wf0 rc_X3_read_ok 19 3 (39, [some (.ref 17), some (.ref 10), some (.int l2), some (.int l3), some (.int s21.1), none], [.int l3, .int (q6.1 17 1)], q6) rfl ?_
    by_cases c8 : (q6.1 17 1) < l3
    · rw [if_pos c8] at h
      refine rf_t wf0 rc_X3_read_ok 22 (59, [some (.ref 17), some (.ref 10), some (.int l2), some (.int l3), some (.int s21.1), none], [], q6) rfl rfl c8 rfl ?_
      refine rf_b wf0 rc_X3_read_ok 31 3 (62, [some (.ref 17), some (.ref 10), some (.int l2), some (.int l3), some (.int s21.1), none], [.int l2, .ref 10, .ref 17], q6) rfl ?_
      obtain ⟨q9, h10, h⟩ := Option.bind_eq_some_iff.mp h
      refine rf_cv1 (Mt := mX3_readItem) wf0 rc_X3_read_ok 34 false rfl (List.mem_of_getElem? (i := 18) rfl) mw_X3_readItem rfl 17 [.ref 10, .int l2] [] rfl rfl rfl (Nat.le_of_ble_eq_true rfl) (ok_X3_readItem d l2 q6 q9 h10) ?_
      show rf_G _ _ _ (65, [some (.ref 17), some (.ref 10), some (.int l2), some (.int l3), some (.int s21.1), none], [.int q9.1], q9.2) _ _
      refine rf_b wf0 rc_X3_read_ok 35 3 (71, [some (.ref 17), some (.ref 10), some (.int l2), some (.int l3), some (.int s21.1), some (.int q9.1)], [.int (-9), .int q9.1], q9.2) rfl ?_
      by_cases c11 : q9.1 = (-9)
      · rw [if_pos c11] at h
        refine rf_t wf0 rc_X3_read_ok 38 (77, [some (.ref 17), some (.ref 10), some (.int l2), some (.int l3), some (.int s21.1), some (.int q9.1)], [], q9.2) rfl rfl c11 rfl ?_
        refine rf_b wf0 rc_X3_read_ok 41 2 (21, [some (.ref 17), some (.ref 10), some (.int l2), some (.int l3), some (.int (s21.1 + 1)), some (.int q9.1)], [], q9.2) rfl ?_
        refine rf_fg [true, true, true, true, true, false] [some (.ref 17), some (.ref 10), some (.int l2), some (.int l3), some (.int (s21.1 + 1)), none] rfl ?_
        exact kl ((s21.1 + 1), q9.2) (Option.some.inj h).symm
      · rw [if_neg c11] at h
        refine rf_f wf0 rc_X3_read_ok 38 (74, [some (.ref 17), some (.ref 10), some (.int l2), some (.int l3), some (.int s21.1), some (.int q9.1)], [], q9.2) rfl rfl c11 rfl ?_
        refine rf_b wf0 rc_X3_read_ok 39 1 (76, [some (.ref 17), some (.ref 10), some (.int l2), some (.int l3), some (.int s21.1), some (.int q9.1)], [.int q9.1], q9.2) rfl ?_
        obtain ⟨e1, e2⟩ := kr (q9.1, q9.2) (Option.some.inj h).symm
        subst e1
        subst e2
        exact rf_ri rc_X3_read_ok 40 rfl rfl
    · rw [if_neg c8] at h
      refine rf_f wf0 rc_X3_read_ok 22 (42, [some (.ref 17), some (.ref 10), some (.int l2), some (.int l3), some (.int s21.1), none], [], q6) rfl rfl c8 rfl ?_
      refine rf_b wf0 rc_X3_read_ok 23 3 (49, [some (.ref 17), some (.ref 10), some (.int l2), some (.int l3), some (.int s21.1), none], [.int (q6.1 18 7)], q6) rfl ?_
      by_cases c12 : (q6.1 18 7) ≠ 0
      · rw [if_pos c12] at h
        refine rf_t wf0 rc_X3_read_ok 26 (56, [some (.ref 17), some (.ref 10), some (.int l2), some (.int l3), some (.int s21.1), none], [], q6) rfl rfl c12 rfl ?_
        refine rf_b wf0 rc_X3_read_ok 29 1 (58, [some (.ref 17), some (.ref 10), some (.int l2), some (.int l3), some (.int s21.1), none], [.int (-9)], q6) rfl ?_
        obtain ⟨e1, e2⟩ := kr ((-9), q6) (Option.some.inj h).symm
        subst e1
        subst e2
        exact rf_ri rc_X3_read_ok 30 rfl rfl
      · rw [if_neg c12] at h
        refine rf_f wf0 rc_X3_read_ok 26 (52, [some (.ref 17), some (.ref 10), some (.int l2), some (.int l3), some (.int s21.1), none], [], q6) rfl rfl c12 rfl ?_
        refine rf_b wf0 rc_X3_read_ok 27 2 (58, [some (.ref 17), some (.ref 10), some (.int l2), some (.int l3), some (.int s21.1), none], [.int l3], q6) rfl ?_
        obtain ⟨e1, e2⟩ := kr (l3, q6) (Option.some.inj h).symm
        subst e1
        subst e2
        exact rf_ri rc_X3_read_ok 30 rfl rfl
def f_X3_read (p1 : Int32) (σ : rf_S) : Option (Int32 × rf_S) := (f_X2_clear σ).bind (fun q1 => (f_X7_sizeOf p1 (rf_sI q1 17 1 0)).bind (fun q3 => (rf_lp (f_X3_read_b21 p1 q3) 5000 (0, (rf_sI q1 17 1 0))).bind (fun e13 => Sum.elim (fun z15 => some ((z15.1 17 1), z15)) (fun y16 => some y16) e13)))
set_option maxHeartbeats 2000000 in
theorem ok_X3_read (d : Nat) (p1 : Int32) (σ : rf_S) (q : (Int32 × rf_S)) (h : f_X3_read p1 σ = some q) : rf_Ex ly0 (d + 5) mX3_read [.ref 17, .ref 10, .int p1] σ (some (.int q.1) : Option Value) q.2 := by
  unfold f_X3_read at h
  refine rf_ex mw_X3_read [some (.ref 17), some (.ref 10), some (.int p1), none, none, none] (Nat.le_of_ble_eq_true rfl) rfl ?_
  refine rf_b wf0 rc_X3_read_ok 0 2 (4, [some (.ref 17), some (.ref 10), some (.int p1), none, none, none], [.ref 18], σ) rfl ?_
  obtain ⟨q1, h2, h⟩ := Option.bind_eq_some_iff.mp h
  refine rf_cv1 (Mt := mX2_clear) wf0 rc_X3_read_ok 2 false rfl (List.mem_of_getElem? (i := 15) rfl) mw_X2_clear rfl 18 [] [] rfl rfl rfl (Nat.le_of_ble_eq_true rfl) (ok_X2_clear (d + 3)  σ q1 h2) ?_
  show rf_G _ _ _ (7, [some (.ref 17), some (.ref 10), some (.int p1), none, none, none], [], q1) _ _
  refine rf_b wf0 rc_X3_read_ok 3 5 (14, [some (.ref 17), some (.ref 10), some (.int p1), none, none, none], [.int p1, .ref 10], (rf_sI q1 17 1 0)) rfl ?_
  obtain ⟨q3, h4, h⟩ := Option.bind_eq_some_iff.mp h
  refine rf_cv1 (Mt := mX7_sizeOf) wf0 rc_X3_read_ok 8 false rfl (List.mem_of_getElem? (i := 16) rfl) mw_X7_sizeOf rfl 10 [.int p1] [] rfl rfl rfl (Nat.le_of_ble_eq_true rfl) (ok_X7_sizeOf (d + 3) p1 (rf_sI q1 17 1 0) q3 h4) ?_
  show rf_G _ _ _ (17, [some (.ref 17), some (.ref 10), some (.int p1), none, none, none], [.int q3], (rf_sI q1 17 1 0)) _ _
  refine rf_b wf0 rc_X3_read_ok 9 3 (21, [some (.ref 17), some (.ref 10), some (.int p1), some (.int q3), some (.int 0), none], [], (rf_sI q1 17 1 0)) rfl ?_
  obtain ⟨e13, h14, h⟩ := Option.bind_eq_some_iff.mp h
  refine rf_lpG (b := f_X3_read_b21 p1 q3) (G := fun (s21 : Int32 × rf_S) => rf_G ly0 (d + 4) mX3_read (21, [some (.ref 17), some (.ref 10), some (.int p1), some (.int q3), some (.int s21.1), none], [], s21.2) (some (.int q.1) : Option Value) q.2) (K := fun (e : ((rf_S) ⊕ (Int32 × rf_S))) => (∀ z, e = .inl z → rf_G ly0 (d + 4) mX3_read (83, [some (.ref 17), none, none, none, none, none], [], z) (some (.int q.1) : Option Value) q.2) ∧ (∀ y0 : (Int32 × rf_S), e = .inr y0 → (some (.int q.1) : Option Value) = (some (.int y0.1) : Option Value) ∧ q.2 = y0.2)) (fun (s21 : Int32 × rf_S) (o : (Int32 × rf_S) ⊕ ((rf_S) ⊕ (Int32 × rf_S))) hb kl kx => ok_X3_read_b21 d p1 q3 s21 o hb kl (fun e he => (kx _ he).1 e rfl) (fun q hq => (kx _ hq).2 q rfl)) 5000 (0, (rf_sI q1 17 1 0)) e13 h14 ⟨?_, ?_⟩
  · intro z15 hz
    subst hz
    simp only [Sum.elim_inl] at h
    refine rf_b wf0 rc_X3_read_ok 43 2 (87, [some (.ref 17), none, none, none, none, none], [.int (z15.1 17 1)], z15) rfl ?_
    obtain rfl := Option.some.inj h
    exact rf_ri rc_X3_read_ok 45 rfl rfl
  · intro y16 hz
    subst hz
    simp only [Sum.elim_inr] at h
    obtain rfl := Option.some.inj h
    exact ⟨rfl, rfl⟩
def rc_X4_make : List rf_E := [(0, .aload_n 0, 1, 0), (1, .getfield 11, 3, 400), (4, .iload_n 1, 1, 1), (5, .aaload, 1, 0), (6, .iconst 0, 1, 0), (7, .invokestatic 20, 3, 0), (10, .aload_n 0, 1, 0), (11, .getfield 16, 3, 401), (14, .iload_n 1, 1, 1), (15, .iload_n 2, 1, 2), (16, .iastore, 1, 0), (17, .return_, 1, 0)]
theorem rc_X4_make_ok : rf_rc mX4_make rc_X4_make = true := by decide +kernel
theorem mw_X4_make : rf_mw mX4_make := ⟨rf_mt_ok _ (List.mem_of_getElem? (i := 23) rfl), fun h => absurd h (by decide), fun _ => ⟨rf_mi_ok _ (List.mem_of_getElem? (i := 20) rfl), rf_mv_ok _ (List.mem_of_getElem? (i := 20) rfl)⟩, rf_mq_0 _ (List.mem_of_getElem? (i := 23) rfl)⟩
def f_X4_make (p0 : Int32) (p1 : Int32) (σ : rf_S) : Option rf_S := if rf_rk ly0 2 p0 = true then ((f_J_fillI (rf_ra ly0 2 p0.toNatClampNeg) 0 σ).bind (fun q2 => if rf_ck ly0 0 9 p0 = true then (some (rf_sI q2 9 p0.toNatClampNeg p1)) else none)) else none
set_option maxHeartbeats 2000000 in
theorem ok_X4_make (d : Nat) (p0 : Int32) (p1 : Int32) (σ : rf_S) (q : rf_S) (h : f_X4_make p0 p1 σ = some q) : rf_Ex ly0 (d + 2) mX4_make [.ref 1, .int p0, .int p1] σ none q := by
  unfold f_X4_make at h
  refine rf_ex mw_X4_make [some (.ref 1), some (.int p0), some (.int p1)] (Nat.le_of_ble_eq_true rfl) rfl ?_
  refine rf_b wf0 rc_X4_make_ok 0 3 (5, [some (.ref 1), some (.int p0), some (.int p1)], [.int p0, .ref 2], σ) rfl ?_
  obtain ⟨g1, h⟩ := rf_ifn h
  refine rf_gd wf0 rc_X4_make_ok 3 (6, [some (.ref 1), some (.int p0), some (.int p1)], [.ref (rf_ra ly0 2 p0.toNatClampNeg)], σ) rfl rfl g1 rfl ?_
  refine rf_b wf0 rc_X4_make_ok 4 1 (7, [some (.ref 1), some (.int p0), some (.int p1)], [.int 0, .ref (rf_ra ly0 2 p0.toNatClampNeg)], σ) rfl ?_
  obtain ⟨q2, h3, h⟩ := Option.bind_eq_some_iff.mp h
  refine rf_cs1 (Mt := mJ7_fill_53178) rc_X4_make_ok 5 false rfl (List.mem_of_getElem? (i := 29) rfl) mw_J_fillI rfl [.ref (rf_ra ly0 2 p0.toNatClampNeg), .int 0] [] rfl rfl (Nat.le_of_ble_eq_true rfl) (ok_J_fillI d (rf_ra ly0 2 p0.toNatClampNeg) 0 σ q2 h3) ?_
  show rf_G _ _ _ (10, [some (.ref 1), some (.int p0), some (.int p1)], [], q2) _ _
  refine rf_b wf0 rc_X4_make_ok 6 4 (16, [some (.ref 1), some (.int p0), some (.int p1)], [.int p1, .int p0, .ref 9], q2) rfl ?_
  obtain ⟨g4, h⟩ := rf_ifn h
  refine rf_gd wf0 rc_X4_make_ok 10 (17, [some (.ref 1), some (.int p0), some (.int p1)], [], (rf_sI q2 9 p0.toNatClampNeg p1)) rfl rfl g4 rfl ?_
  obtain rfl := Option.some.inj h
  exact rf_rv rc_X4_make_ok 11 rfl rfl
def rc_X4_remove : List rf_E := [(0, .aload_n 0, 1, 0), (1, .getfield 16, 3, 401), (4, .iload_n 1, 1, 1), (5, .iconst (-1), 1, 0), (6, .iastore, 1, 0), (7, .return_, 1, 0)]
theorem rc_X4_remove_ok : rf_rc mX4_remove rc_X4_remove = true := by decide +kernel
theorem mw_X4_remove : rf_mw mX4_remove := ⟨rf_mt_ok _ (List.mem_of_getElem? (i := 24) rfl), fun h => absurd h (by decide), fun _ => ⟨rf_mi_ok _ (List.mem_of_getElem? (i := 21) rfl), rf_mv_ok _ (List.mem_of_getElem? (i := 21) rfl)⟩, rf_mq_0 _ (List.mem_of_getElem? (i := 24) rfl)⟩
def f_X4_remove (p0 : Int32) (σ : rf_S) : Option rf_S := if rf_ck ly0 0 9 p0 = true then (some (rf_sI σ 9 p0.toNatClampNeg (-1))) else none
set_option maxHeartbeats 2000000 in
theorem ok_X4_remove (d : Nat) (p0 : Int32) (σ : rf_S) (q : rf_S) (h : f_X4_remove p0 σ = some q) : rf_Ex ly0 (d + 1) mX4_remove [.ref 1, .int p0] σ none q := by
  unfold f_X4_remove at h
  refine rf_ex mw_X4_remove [some (.ref 1), some (.int p0)] (Nat.le_of_ble_eq_true rfl) rfl ?_
  refine rf_b wf0 rc_X4_remove_ok 0 4 (6, [some (.ref 1), some (.int p0)], [.int (-1), .int p0, .ref 9], σ) rfl ?_
  obtain ⟨g1, h⟩ := rf_ifn h
  refine rf_gd wf0 rc_X4_remove_ok 4 (7, [some (.ref 1), some (.int p0)], [], (rf_sI σ 9 p0.toNatClampNeg (-1))) rfl rfl g1 rfl ?_
  obtain rfl := Option.some.inj h
  exact rf_rv rc_X4_remove_ok 5 rfl rfl
def rc_X4_isMissing : List rf_E := [(0, .aload_n 0, 1, 0), (1, .getfield 16, 3, 401), (4, .iload_n 1, 1, 1), (5, .iaload, 1, 0), (6, .ifCond .ge 7, 3, 13), (9, .iconst 1, 1, 0), (10, .goto 4, 3, 14), (13, .iconst 0, 1, 0), (14, .ireturn, 1, 0)]
theorem rc_X4_isMissing_ok : rf_rc mX4_isMissing rc_X4_isMissing = true := by decide +kernel
theorem mw_X4_isMissing : rf_mw mX4_isMissing := ⟨rf_mt_ok _ (List.mem_of_getElem? (i := 25) rfl), fun h => absurd h (by decide), fun _ => ⟨rf_mi_ok _ (List.mem_of_getElem? (i := 22) rfl), rf_mv_ok _ (List.mem_of_getElem? (i := 22) rfl)⟩, rf_mq_1 _ (List.mem_of_getElem? (i := 0) rfl)⟩
def f_X4_isMissing (p0 : Int32) (σ : rf_S) : Option Int32 := if rf_ck ly0 0 9 p0 = true then (if 0 ≤ (σ.1 9 p0.toNatClampNeg) then (some 0) else (some 1)) else none
set_option maxHeartbeats 2000000 in
theorem ok_X4_isMissing (d : Nat) (p0 : Int32) (σ : rf_S) (q : Int32) (h : f_X4_isMissing p0 σ = some q) : rf_Ex ly0 (d + 1) mX4_isMissing [.ref 1, .int p0] σ (some (.int q) : Option Value) σ := by
  unfold f_X4_isMissing at h
  refine rf_ex mw_X4_isMissing [some (.ref 1), some (.int p0)] (Nat.le_of_ble_eq_true rfl) rfl ?_
  refine rf_b wf0 rc_X4_isMissing_ok 0 3 (5, [some (.ref 1), some (.int p0)], [.int p0, .ref 9], σ) rfl ?_
  obtain ⟨g1, h⟩ := rf_ifn h
  refine rf_gd wf0 rc_X4_isMissing_ok 3 (6, [some (.ref 1), some (.int p0)], [.int (σ.1 9 p0.toNatClampNeg)], σ) rfl rfl g1 rfl ?_
  by_cases c2 : 0 ≤ (σ.1 9 p0.toNatClampNeg)
  · rw [if_pos c2] at h
    refine rf_t wf0 rc_X4_isMissing_ok 4 (13, [some (.ref 1), some (.int p0)], [], σ) rfl rfl c2 rfl ?_
    refine rf_b wf0 rc_X4_isMissing_ok 7 1 (14, [some (.ref 1), some (.int p0)], [.int 0], σ) rfl ?_
    obtain rfl := Option.some.inj h
    exact rf_rz rc_X4_isMissing_ok 8 rfl rfl (by decide)
  · rw [if_neg c2] at h
    refine rf_f wf0 rc_X4_isMissing_ok 4 (9, [some (.ref 1), some (.int p0)], [], σ) rfl rfl c2 rfl ?_
    refine rf_b wf0 rc_X4_isMissing_ok 5 2 (14, [some (.ref 1), some (.int p0)], [.int 1], σ) rfl ?_
    obtain rfl := Option.some.inj h
    exact rf_rz rc_X4_isMissing_ok 8 rfl rfl (by decide)
def rc_X4_sizeOf : List rf_E := [(0, .aload_n 0, 1, 0), (1, .getfield 16, 3, 401), (4, .iload_n 1, 1, 1), (5, .iaload, 1, 0), (6, .ireturn, 1, 0)]
theorem rc_X4_sizeOf_ok : rf_rc mX4_sizeOf rc_X4_sizeOf = true := by decide +kernel
theorem mw_X4_sizeOf : rf_mw mX4_sizeOf := ⟨rf_mt_ok _ (List.mem_of_getElem? (i := 26) rfl), fun h => absurd h (by decide), fun _ => ⟨rf_mi_ok _ (List.mem_of_getElem? (i := 23) rfl), rf_mv_ok _ (List.mem_of_getElem? (i := 23) rfl)⟩, rf_mq_1 _ (List.mem_of_getElem? (i := 1) rfl)⟩
def f_X4_sizeOf (p0 : Int32) (σ : rf_S) : Option Int32 := if rf_ck ly0 0 9 p0 = true then (some (σ.1 9 p0.toNatClampNeg)) else none
set_option maxHeartbeats 2000000 in
theorem ok_X4_sizeOf (d : Nat) (p0 : Int32) (σ : rf_S) (q : Int32) (h : f_X4_sizeOf p0 σ = some q) : rf_Ex ly0 (d + 1) mX4_sizeOf [.ref 1, .int p0] σ (some (.int q) : Option Value) σ := by
  unfold f_X4_sizeOf at h
  refine rf_ex mw_X4_sizeOf [some (.ref 1), some (.int p0)] (Nat.le_of_ble_eq_true rfl) rfl ?_
  refine rf_b wf0 rc_X4_sizeOf_ok 0 3 (5, [some (.ref 1), some (.int p0)], [.int p0, .ref 9], σ) rfl ?_
  obtain ⟨g1, h⟩ := rf_ifn h
  refine rf_gd wf0 rc_X4_sizeOf_ok 3 (6, [some (.ref 1), some (.int p0)], [.int (σ.1 9 p0.toNatClampNeg)], σ) rfl rfl g1 rfl ?_
  obtain rfl := Option.some.inj h
  exact rf_ri rc_X4_sizeOf_ok 4 rfl rfl
def rc_X4_has : List rf_E := [(0, .iload_n 2, 1, 2), (1, .ifCond .lt 17, 3, 18), (4, .iload_n 2, 1, 2), (5, .aload_n 0, 1, 0), (6, .getfield 16, 3, 401), (9, .iload_n 1, 1, 1), (10, .iaload, 1, 0), (11, .if_icmp .ge 7, 3, 18), (14, .iconst 1, 1, 0), (15, .goto 4, 3, 19), (18, .iconst 0, 1, 0), (19, .ireturn, 1, 0)]
theorem rc_X4_has_ok : rf_rc mX4_has rc_X4_has = true := by decide +kernel
theorem mw_X4_has : rf_mw mX4_has := ⟨rf_mt_ok _ (List.mem_of_getElem? (i := 27) rfl), fun h => absurd h (by decide), fun _ => ⟨rf_mi_ok _ (List.mem_of_getElem? (i := 24) rfl), rf_mv_ok _ (List.mem_of_getElem? (i := 24) rfl)⟩, rf_mq_1 _ (List.mem_of_getElem? (i := 2) rfl)⟩
def f_X4_has (p0 : Int32) (p1 : Int32) (σ : rf_S) : Option Int32 := if p1 < 0 then (some 0) else (if rf_ck ly0 0 9 p0 = true then (if (σ.1 9 p0.toNatClampNeg) ≤ p1 then (some 0) else (some 1)) else none)
set_option maxHeartbeats 2000000 in
theorem ok_X4_has (d : Nat) (p0 : Int32) (p1 : Int32) (σ : rf_S) (q : Int32) (h : f_X4_has p0 p1 σ = some q) : rf_Ex ly0 (d + 1) mX4_has [.ref 1, .int p0, .int p1] σ (some (.int q) : Option Value) σ := by
  unfold f_X4_has at h
  refine rf_ex mw_X4_has [some (.ref 1), some (.int p0), some (.int p1)] (Nat.le_of_ble_eq_true rfl) rfl ?_
  refine rf_b wf0 rc_X4_has_ok 0 1 (1, [some (.ref 1), some (.int p0), some (.int p1)], [.int p1], σ) rfl ?_
  by_cases c1 : p1 < 0
  · rw [if_pos c1] at h
    refine rf_t wf0 rc_X4_has_ok 1 (18, [some (.ref 1), some (.int p0), some (.int p1)], [], σ) rfl rfl c1 rfl ?_
    refine rf_b wf0 rc_X4_has_ok 10 1 (19, [some (.ref 1), some (.int p0), some (.int p1)], [.int 0], σ) rfl ?_
    obtain rfl := Option.some.inj h
    exact rf_rz rc_X4_has_ok 11 rfl rfl (by decide)
  · rw [if_neg c1] at h
    refine rf_f wf0 rc_X4_has_ok 1 (4, [some (.ref 1), some (.int p0), some (.int p1)], [], σ) rfl rfl c1 rfl ?_
    refine rf_b wf0 rc_X4_has_ok 2 4 (10, [some (.ref 1), some (.int p0), some (.int p1)], [.int p0, .ref 9, .int p1], σ) rfl ?_
    obtain ⟨g2, h⟩ := rf_ifn h
    refine rf_gd wf0 rc_X4_has_ok 6 (11, [some (.ref 1), some (.int p0), some (.int p1)], [.int (σ.1 9 p0.toNatClampNeg), .int p1], σ) rfl rfl g2 rfl ?_
    by_cases c3 : (σ.1 9 p0.toNatClampNeg) ≤ p1
    · rw [if_pos c3] at h
      refine rf_t wf0 rc_X4_has_ok 7 (18, [some (.ref 1), some (.int p0), some (.int p1)], [], σ) rfl rfl c3 rfl ?_
      refine rf_b wf0 rc_X4_has_ok 10 1 (19, [some (.ref 1), some (.int p0), some (.int p1)], [.int 0], σ) rfl ?_
      obtain rfl := Option.some.inj h
      exact rf_rz rc_X4_has_ok 11 rfl rfl (by decide)
    · rw [if_neg c3] at h
      refine rf_f wf0 rc_X4_has_ok 7 (14, [some (.ref 1), some (.int p0), some (.int p1)], [], σ) rfl rfl c3 rfl ?_
      refine rf_b wf0 rc_X4_has_ok 8 2 (19, [some (.ref 1), some (.int p0), some (.int p1)], [.int 1], σ) rfl ?_
      obtain rfl := Option.some.inj h
      exact rf_rz rc_X4_has_ok 11 rfl rfl (by decide)
def rc_X4_hasAll : List rf_E := [(0, .iload_n 2, 1, 2), (1, .ifCond .lt 19, 3, 20), (4, .iload_n 2, 1, 2), (5, .aload_n 0, 1, 0), (6, .getfield 16, 3, 401), (9, .iload_n 1, 1, 1), (10, .iaload, 1, 0), (11, .iload_n 3, 1, 3), (12, .isub, 1, 0), (13, .if_icmp .gt 7, 3, 20), (16, .iconst 1, 1, 0), (17, .goto 4, 3, 21), (20, .iconst 0, 1, 0), (21, .ireturn, 1, 0)]
theorem rc_X4_hasAll_ok : rf_rc mX4_hasAll rc_X4_hasAll = true := by decide +kernel
theorem mw_X4_hasAll : rf_mw mX4_hasAll := ⟨rf_mt_ok _ (List.mem_of_getElem? (i := 28) rfl), fun h => absurd h (by decide), fun _ => ⟨rf_mi_ok _ (List.mem_of_getElem? (i := 25) rfl), rf_mv_ok _ (List.mem_of_getElem? (i := 25) rfl)⟩, rf_mq_1 _ (List.mem_of_getElem? (i := 3) rfl)⟩
def f_X4_hasAll (p0 : Int32) (p1 : Int32) (p2 : Int32) (σ : rf_S) : Option Int32 := if p1 < 0 then (some 0) else (if rf_ck ly0 0 9 p0 = true then (if ((σ.1 9 p0.toNatClampNeg) - p2) < p1 then (some 0) else (some 1)) else none)
set_option maxHeartbeats 2000000 in
theorem ok_X4_hasAll (d : Nat) (p0 : Int32) (p1 : Int32) (p2 : Int32) (σ : rf_S) (q : Int32) (h : f_X4_hasAll p0 p1 p2 σ = some q) : rf_Ex ly0 (d + 1) mX4_hasAll [.ref 1, .int p0, .int p1, .int p2] σ (some (.int q) : Option Value) σ := by
  unfold f_X4_hasAll at h
  refine rf_ex mw_X4_hasAll [some (.ref 1), some (.int p0), some (.int p1), some (.int p2)] (Nat.le_of_ble_eq_true rfl) rfl ?_
  refine rf_b wf0 rc_X4_hasAll_ok 0 1 (1, [some (.ref 1), some (.int p0), some (.int p1), some (.int p2)], [.int p1], σ) rfl ?_
  by_cases c1 : p1 < 0
  · rw [if_pos c1] at h
    refine rf_t wf0 rc_X4_hasAll_ok 1 (20, [some (.ref 1), some (.int p0), some (.int p1), some (.int p2)], [], σ) rfl rfl c1 rfl ?_
    refine rf_b wf0 rc_X4_hasAll_ok 12 1 (21, [some (.ref 1), some (.int p0), some (.int p1), some (.int p2)], [.int 0], σ) rfl ?_
    obtain rfl := Option.some.inj h
    exact rf_rz rc_X4_hasAll_ok 13 rfl rfl (by decide)
  · rw [if_neg c1] at h
    refine rf_f wf0 rc_X4_hasAll_ok 1 (4, [some (.ref 1), some (.int p0), some (.int p1), some (.int p2)], [], σ) rfl rfl c1 rfl ?_
    refine rf_b wf0 rc_X4_hasAll_ok 2 4 (10, [some (.ref 1), some (.int p0), some (.int p1), some (.int p2)], [.int p0, .ref 9, .int p1], σ) rfl ?_
    obtain ⟨g2, h⟩ := rf_ifn h
    refine rf_gd wf0 rc_X4_hasAll_ok 6 (11, [some (.ref 1), some (.int p0), some (.int p1), some (.int p2)], [.int (σ.1 9 p0.toNatClampNeg), .int p1], σ) rfl rfl g2 rfl ?_
    refine rf_b wf0 rc_X4_hasAll_ok 7 2 (13, [some (.ref 1), some (.int p0), some (.int p1), some (.int p2)], [.int ((σ.1 9 p0.toNatClampNeg) - p2), .int p1], σ) rfl ?_
    by_cases c3 : ((σ.1 9 p0.toNatClampNeg) - p2) < p1
    · rw [if_pos c3] at h
      refine rf_t wf0 rc_X4_hasAll_ok 9 (20, [some (.ref 1), some (.int p0), some (.int p1), some (.int p2)], [], σ) rfl rfl c3 rfl ?_
      refine rf_b wf0 rc_X4_hasAll_ok 12 1 (21, [some (.ref 1), some (.int p0), some (.int p1), some (.int p2)], [.int 0], σ) rfl ?_
      obtain rfl := Option.some.inj h
      exact rf_rz rc_X4_hasAll_ok 13 rfl rfl (by decide)
    · rw [if_neg c3] at h
      refine rf_f wf0 rc_X4_hasAll_ok 9 (16, [some (.ref 1), some (.int p0), some (.int p1), some (.int p2)], [], σ) rfl rfl c3 rfl ?_
      refine rf_b wf0 rc_X4_hasAll_ok 10 2 (21, [some (.ref 1), some (.int p0), some (.int p1), some (.int p2)], [.int 1], σ) rfl ?_
      obtain rfl := Option.some.inj h
      exact rf_rz rc_X4_hasAll_ok 13 rfl rfl (by decide)
def rc_X4_get : List rf_E := [(0, .aload_n 0, 1, 0), (1, .getfield 11, 3, 400), (4, .iload_n 1, 1, 1), (5, .aaload, 1, 0), (6, .iload_n 2, 1, 2), (7, .iaload, 1, 0), (8, .ireturn, 1, 0)]
theorem rc_X4_get_ok : rf_rc mX4_get rc_X4_get = true := by decide +kernel
theorem mw_X4_get : rf_mw mX4_get := ⟨rf_mt_ok _ (List.mem_of_getElem? (i := 29) rfl), fun h => absurd h (by decide), fun _ => ⟨rf_mi_ok _ (List.mem_of_getElem? (i := 26) rfl), rf_mv_ok _ (List.mem_of_getElem? (i := 26) rfl)⟩, rf_mq_1 _ (List.mem_of_getElem? (i := 4) rfl)⟩
def f_X4_get (p0 : Int32) (p1 : Int32) (σ : rf_S) : Option Int32 := if rf_rk ly0 2 p0 = true then (if rf_ck ly0 0 (rf_ra ly0 2 p0.toNatClampNeg) p1 = true then (some (σ.1 (rf_ra ly0 2 p0.toNatClampNeg) p1.toNatClampNeg)) else none) else none
set_option maxHeartbeats 2000000 in
theorem ok_X4_get (d : Nat) (p0 : Int32) (p1 : Int32) (σ : rf_S) (q : Int32) (h : f_X4_get p0 p1 σ = some q) : rf_Ex ly0 (d + 1) mX4_get [.ref 1, .int p0, .int p1] σ (some (.int q) : Option Value) σ := by
  unfold f_X4_get at h
  refine rf_ex mw_X4_get [some (.ref 1), some (.int p0), some (.int p1)] (Nat.le_of_ble_eq_true rfl) rfl ?_
  refine rf_b wf0 rc_X4_get_ok 0 3 (5, [some (.ref 1), some (.int p0), some (.int p1)], [.int p0, .ref 2], σ) rfl ?_
  obtain ⟨g1, h⟩ := rf_ifn h
  refine rf_gd wf0 rc_X4_get_ok 3 (6, [some (.ref 1), some (.int p0), some (.int p1)], [.ref (rf_ra ly0 2 p0.toNatClampNeg)], σ) rfl rfl g1 rfl ?_
  refine rf_b wf0 rc_X4_get_ok 4 1 (7, [some (.ref 1), some (.int p0), some (.int p1)], [.int p1, .ref (rf_ra ly0 2 p0.toNatClampNeg)], σ) rfl ?_
  obtain ⟨g2, h⟩ := rf_ifn h
  refine rf_gd wf0 rc_X4_get_ok 5 (8, [some (.ref 1), some (.int p0), some (.int p1)], [.int (σ.1 (rf_ra ly0 2 p0.toNatClampNeg) p1.toNatClampNeg)], σ) rfl rfl g2 rfl ?_
  obtain rfl := Option.some.inj h
  exact rf_ri rc_X4_get_ok 6 rfl rfl
def rc_X4_set : List rf_E := [(0, .aload_n 0, 1, 0), (1, .getfield 11, 3, 400), (4, .iload_n 1, 1, 1), (5, .aaload, 1, 0), (6, .iload_n 2, 1, 2), (7, .iload_n 3, 1, 3), (8, .iastore, 1, 0), (9, .return_, 1, 0)]
theorem rc_X4_set_ok : rf_rc mX4_set rc_X4_set = true := by decide +kernel
theorem mw_X4_set : rf_mw mX4_set := ⟨rf_mt_ok _ (List.mem_of_getElem? (i := 30) rfl), fun h => absurd h (by decide), fun _ => ⟨rf_mi_ok _ (List.mem_of_getElem? (i := 27) rfl), rf_mv_ok _ (List.mem_of_getElem? (i := 27) rfl)⟩, rf_mq_1 _ (List.mem_of_getElem? (i := 5) rfl)⟩
def f_X4_set (p0 : Int32) (p1 : Int32) (p2 : Int32) (σ : rf_S) : Option rf_S := if rf_rk ly0 2 p0 = true then (if rf_ck ly0 0 (rf_ra ly0 2 p0.toNatClampNeg) p1 = true then (some (rf_sI σ (rf_ra ly0 2 p0.toNatClampNeg) p1.toNatClampNeg p2)) else none) else none
set_option maxHeartbeats 2000000 in
theorem ok_X4_set (d : Nat) (p0 : Int32) (p1 : Int32) (p2 : Int32) (σ : rf_S) (q : rf_S) (h : f_X4_set p0 p1 p2 σ = some q) : rf_Ex ly0 (d + 1) mX4_set [.ref 1, .int p0, .int p1, .int p2] σ none q := by
  unfold f_X4_set at h
  refine rf_ex mw_X4_set [some (.ref 1), some (.int p0), some (.int p1), some (.int p2)] (Nat.le_of_ble_eq_true rfl) rfl ?_
  refine rf_b wf0 rc_X4_set_ok 0 3 (5, [some (.ref 1), some (.int p0), some (.int p1), some (.int p2)], [.int p0, .ref 2], σ) rfl ?_
  obtain ⟨g1, h⟩ := rf_ifn h
  refine rf_gd wf0 rc_X4_set_ok 3 (6, [some (.ref 1), some (.int p0), some (.int p1), some (.int p2)], [.ref (rf_ra ly0 2 p0.toNatClampNeg)], σ) rfl rfl g1 rfl ?_
  refine rf_b wf0 rc_X4_set_ok 4 2 (8, [some (.ref 1), some (.int p0), some (.int p1), some (.int p2)], [.int p2, .int p1, .ref (rf_ra ly0 2 p0.toNatClampNeg)], σ) rfl ?_
  obtain ⟨g2, h⟩ := rf_ifn h
  refine rf_gd wf0 rc_X4_set_ok 6 (9, [some (.ref 1), some (.int p0), some (.int p1), some (.int p2)], [], (rf_sI σ (rf_ra ly0 2 p0.toNatClampNeg) p1.toNatClampNeg p2)) rfl rfl g2 rfl ?_
  obtain rfl := Option.some.inj h
  exact rf_rv rc_X4_set_ok 7 rfl rfl
def rc_X4_move : List rf_E := [(0, .aload_n 0, 1, 0), (1, .getfield 11, 3, 400), (4, .iload_n 1, 1, 1), (5, .aaload, 1, 0), (6, .iload_n 2, 1, 2), (7, .aload_n 0, 1, 0), (8, .getfield 11, 3, 400), (11, .iload_n 3, 1, 3), (12, .aaload, 1, 0), (13, .iload 4, 2, 4), (15, .iload 5, 2, 5), (17, .invokestatic 26, 3, 1000), (20, .return_, 1, 0)]
theorem rc_X4_move_ok : rf_rc mX4_move rc_X4_move = true := by decide +kernel
theorem mw_X4_move : rf_mw mX4_move := ⟨rf_mt_ok _ (List.mem_of_getElem? (i := 31) rfl), fun h => absurd h (by decide), fun _ => ⟨rf_mi_ok _ (List.mem_of_getElem? (i := 28) rfl), rf_mv_ok _ (List.mem_of_getElem? (i := 28) rfl)⟩, rf_mq_1 _ (List.mem_of_getElem? (i := 6) rfl)⟩
def f_X4_move (p0 : Int32) (p1 : Int32) (p2 : Int32) (p3 : Int32) (p4 : Int32) (σ : rf_S) : Option rf_S := if rf_rk ly0 2 p0 = true then (if rf_rk ly0 2 p2 = true then (if rf_cp ly0 (rf_ra ly0 2 p0.toNatClampNeg) p1 (rf_ra ly0 2 p2.toNatClampNeg) p3 p4 = true then ((some (rf_sA σ (rf_ra ly0 2 p2.toNatClampNeg) (va_cpy (σ.1 (rf_ra ly0 2 p0.toNatClampNeg)) (σ.1 (rf_ra ly0 2 p2.toNatClampNeg)) p1.toNatClampNeg p3.toNatClampNeg p4.toNatClampNeg))).bind (fun σ4 => some σ4)) else none) else none) else none
set_option maxHeartbeats 2000000 in
theorem ok_X4_move (d : Nat) (p0 : Int32) (p1 : Int32) (p2 : Int32) (p3 : Int32) (p4 : Int32) (σ : rf_S) (q : rf_S) (h : f_X4_move p0 p1 p2 p3 p4 σ = some q) : rf_Ex ly0 (d + 1) mX4_move [.ref 1, .int p0, .int p1, .int p2, .int p3, .int p4] σ none q := by
  unfold f_X4_move at h
  refine rf_ex mw_X4_move [some (.ref 1), some (.int p0), some (.int p1), some (.int p2), some (.int p3), some (.int p4)] (Nat.le_of_ble_eq_true rfl) rfl ?_
  refine rf_b wf0 rc_X4_move_ok 0 3 (5, [some (.ref 1), some (.int p0), some (.int p1), some (.int p2), some (.int p3), some (.int p4)], [.int p0, .ref 2], σ) rfl ?_
  obtain ⟨g1, h⟩ := rf_ifn h
  refine rf_gd wf0 rc_X4_move_ok 3 (6, [some (.ref 1), some (.int p0), some (.int p1), some (.int p2), some (.int p3), some (.int p4)], [.ref (rf_ra ly0 2 p0.toNatClampNeg)], σ) rfl rfl g1 rfl ?_
  refine rf_b wf0 rc_X4_move_ok 4 4 (12, [some (.ref 1), some (.int p0), some (.int p1), some (.int p2), some (.int p3), some (.int p4)], [.int p2, .ref 2, .int p1, .ref (rf_ra ly0 2 p0.toNatClampNeg)], σ) rfl ?_
  obtain ⟨g2, h⟩ := rf_ifn h
  refine rf_gd wf0 rc_X4_move_ok 8 (13, [some (.ref 1), some (.int p0), some (.int p1), some (.int p2), some (.int p3), some (.int p4)], [.ref (rf_ra ly0 2 p2.toNatClampNeg), .int p1, .ref (rf_ra ly0 2 p0.toNatClampNeg)], σ) rfl rfl g2 rfl ?_
  refine rf_b wf0 rc_X4_move_ok 9 2 (17, [some (.ref 1), some (.int p0), some (.int p1), some (.int p2), some (.int p3), some (.int p4)], [.int p4, .int p3, .ref (rf_ra ly0 2 p2.toNatClampNeg), .int p1, .ref (rf_ra ly0 2 p0.toNatClampNeg)], σ) rfl ?_
  obtain ⟨g3, h⟩ := rf_ifn h
  refine rf_gd wf0 rc_X4_move_ok 11 (20, [some (.ref 1), some (.int p0), some (.int p1), some (.int p2), some (.int p3), some (.int p4)], [], (rf_sA σ (rf_ra ly0 2 p2.toNatClampNeg) (va_cpy (σ.1 (rf_ra ly0 2 p0.toNatClampNeg)) (σ.1 (rf_ra ly0 2 p2.toNatClampNeg)) p1.toNatClampNeg p3.toNatClampNeg p4.toNatClampNeg))) rfl rfl g3 rfl ?_
  obtain ⟨σ4, h5, h⟩ := Option.bind_eq_some_iff.mp h
  refine rf_sgb (Option.some.inj h5) ?_
  obtain rfl := Option.some.inj h
  exact rf_rv rc_X4_move_ok 12 rfl rfl
def rc_X4_sum : List rf_E := [(0, .lconst 0, 1, 0), (1, .lstore_n 2, 1, 2), (2, .iconst 0, 1, 0), (3, .istore 4, 2, 4), (5, .iload 4, 2, 4), (7, .aload_n 0, 1, 0), (8, .getfield 16, 3, 401), (11, .iload_n 1, 1, 1), (12, .iaload, 1, 0), (13, .if_icmp .ge 22, 3, 35), (16, .lload_n 2, 1, 2), (17, .aload_n 0, 1, 0), (18, .getfield 11, 3, 400), (21, .iload_n 1, 1, 1), (22, .aaload, 1, 0), (23, .iload 4, 2, 4), (25, .iaload, 1, 0), (26, .i2l, 1, 0), (27, .ladd, 1, 0), (28, .lstore_n 2, 1, 2), (29, .iinc 4 1, 3, 4), (32, .goto (-27), 3, 5), (35, .lload_n 2, 1, 2), (36, .lreturn, 1, 0)]
theorem rc_X4_sum_ok : rf_rc mX4_sum rc_X4_sum = true := by decide +kernel
theorem mw_X4_sum : rf_mw mX4_sum := ⟨rf_mt_ok _ (List.mem_of_getElem? (i := 32) rfl), fun h => absurd h (by decide), fun _ => ⟨rf_mi_ok _ (List.mem_of_getElem? (i := 29) rfl), rf_mv_ok _ (List.mem_of_getElem? (i := 29) rfl)⟩, rf_mq_1 _ (List.mem_of_getElem? (i := 7) rfl)⟩
def f_X4_sum_b5 (l1 : Int32) (σ : rf_S) (s5 : Int64 × Int32) : Option ((Int64 × Int32) ⊕ (Int64)) := if rf_ck ly0 0 9 l1 = true then (if (σ.1 9 l1.toNatClampNeg) ≤ s5.2 then (some (.inr s5.1)) else (if rf_rk ly0 2 l1 = true then (if rf_ck ly0 0 (rf_ra ly0 2 l1.toNatClampNeg) s5.2 = true then (some (.inl ((s5.1 + ((σ.1 (rf_ra ly0 2 l1.toNatClampNeg) s5.2.toNatClampNeg).toInt64)), (s5.2 + 1)))) else none) else none)) else none
set_option maxHeartbeats 2000000 in
theorem ok_X4_sum_b5 (d : Nat) (l1 : Int32) (σ : rf_S) (s5 : Int64 × Int32) (o : ((Int64 × Int32) ⊕ (Int64))) (h : f_X4_sum_b5 l1 σ s5 = some o) {r : Option Value} {σr : rf_S} (kl : ∀ s', o = .inl s' → rf_G ly0 (d) mX4_sum (5, [some (.ref 1), some (.int l1), some (.long s'.1), none, some (.int s'.2)], [], σ) r σr) (kx : ∀ e, o = .inr e → rf_G ly0 (d) mX4_sum (35, [none, none, some (.long e), none, none], [], σ) r σr) : rf_G ly0 (d) mX4_sum (5, [some (.ref 1), some (.int l1), some (.long s5.1), none, some (.int s5.2)], [], σ) r σr := by
  unfold f_X4_sum_b5 at h
  refine rf_b wf0 rc_X4_sum_ok 4 4 (12, [some (.ref 1), some (.int l1), some (.long s5.1), none, some (.int s5.2)], [.int l1, .ref 9, .int s5.2], σ) rfl ?_
  obtain ⟨g1, h⟩ := rf_ifn h
  refine rf_gd wf0 rc_X4_sum_ok 8 (13, [some (.ref 1), some (.int l1), some (.long s5.1), none, some (.int s5.2)], [.int (σ.1 9 l1.toNatClampNeg), .int s5.2], σ) rfl rfl g1 rfl ?_
  by_cases c2 : (σ.1 9 l1.toNatClampNeg) ≤ s5.2
  · rw [if_pos c2] at h
    refine rf_t wf0 rc_X4_sum_ok 9 (35, [some (.ref 1), some (.int l1), some (.long s5.1), none, some (.int s5.2)], [], σ) rfl rfl c2 rfl ?_
    refine rf_fg [false, false, true, true, false] [none, none, some (.long s5.1), none, none] rfl ?_
    exact kx s5.1 (Option.some.inj h).symm
  · rw [if_neg c2] at h
    refine rf_f wf0 rc_X4_sum_ok 9 (16, [some (.ref 1), some (.int l1), some (.long s5.1), none, some (.int s5.2)], [], σ) rfl rfl c2 rfl ?_
    refine rf_b wf0 rc_X4_sum_ok 10 4 (22, [some (.ref 1), some (.int l1), some (.long s5.1), none, some (.int s5.2)], [.int l1, .ref 2, .long s5.1], σ) rfl ?_
    obtain ⟨g3, h⟩ := rf_ifn h
    refine rf_gd wf0 rc_X4_sum_ok 14 (23, [some (.ref 1), some (.int l1), some (.long s5.1), none, some (.int s5.2)], [.ref (rf_ra ly0 2 l1.toNatClampNeg), .long s5.1], σ) rfl rfl g3 rfl ?_
    refine rf_b wf0 rc_X4_sum_ok 15 1 (25, [some (.ref 1), some (.int l1), some (.long s5.1), none, some (.int s5.2)], [.int s5.2, .ref (rf_ra ly0 2 l1.toNatClampNeg), .long s5.1], σ) rfl ?_
    obtain ⟨g4, h⟩ := rf_ifn h
    refine rf_gd wf0 rc_X4_sum_ok 16 (26, [some (.ref 1), some (.int l1), some (.long s5.1), none, some (.int s5.2)], [.int (σ.1 (rf_ra ly0 2 l1.toNatClampNeg) s5.2.toNatClampNeg), .long s5.1], σ) rfl rfl g4 rfl ?_
    refine rf_b wf0 rc_X4_sum_ok 17 5 (5, [some (.ref 1), some (.int l1), some (.long (s5.1 + ((σ.1 (rf_ra ly0 2 l1.toNatClampNeg) s5.2.toNatClampNeg).toInt64))), none, some (.int (s5.2 + 1))], [], σ) rfl ?_
    exact kl ((s5.1 + ((σ.1 (rf_ra ly0 2 l1.toNatClampNeg) s5.2.toNatClampNeg).toInt64)), (s5.2 + 1)) (Option.some.inj h).symm
def f_X4_sum (p0 : Int32) (σ : rf_S) : Option Int64 := (rf_lp (f_X4_sum_b5 p0 σ) 5000 (0, 0)).bind (fun e5 => some e5)
set_option maxHeartbeats 2000000 in
theorem ok_X4_sum (d : Nat) (p0 : Int32) (σ : rf_S) (q : Int64) (h : f_X4_sum p0 σ = some q) : rf_Ex ly0 (d + 1) mX4_sum [.ref 1, .int p0] σ (some (.long q) : Option Value) σ := by
  unfold f_X4_sum at h
  refine rf_ex mw_X4_sum [some (.ref 1), some (.int p0), none, none, none] (Nat.le_of_ble_eq_true rfl) rfl ?_
  refine rf_b wf0 rc_X4_sum_ok 0 4 (5, [some (.ref 1), some (.int p0), some (.long 0), none, some (.int 0)], [], σ) rfl ?_
  obtain ⟨e5, h6, h⟩ := Option.bind_eq_some_iff.mp h
  refine rf_lpG (b := f_X4_sum_b5 p0 σ) (G := fun (s5 : Int64 × Int32) => rf_G ly0 (d) mX4_sum (5, [some (.ref 1), some (.int p0), some (.long s5.1), none, some (.int s5.2)], [], σ) (some (.long q) : Option Value) σ) (K := fun (e : (Int64)) => rf_G ly0 (d) mX4_sum (35, [none, none, some (.long e), none, none], [], σ) (some (.long q) : Option Value) σ) (fun (s5 : Int64 × Int32) (o : (Int64 × Int32) ⊕ (Int64)) hb kl kx => ok_X4_sum_b5 d p0 σ s5 o hb kl kx) 5000 (0, 0) e5 h6 ?_
  show rf_G _ _ _ (35, [none, none, some (.long e5), none, none], [], σ) _ _
  refine rf_b wf0 rc_X4_sum_ok 22 1 (36, [none, none, some (.long e5), none, none], [.long e5], σ) rfl ?_
  obtain rfl := Option.some.inj h
  exact rf_rl rc_X4_sum_ok 23 rfl rfl
def rc_X4_arePairs : List rf_E := [(0, .iconst 0, 1, 0), (1, .istore_n 3, 1, 3), (2, .iload_n 3, 1, 3), (3, .iconst 1, 1, 0), (4, .iadd, 1, 0), (5, .aload_n 0, 1, 0), (6, .getfield 16, 3, 401), (9, .iload_n 1, 1, 1), (10, .iaload, 1, 0), (11, .if_icmp .ge 55, 3, 66), (14, .aload_n 0, 1, 0), (15, .getfield 11, 3, 400), (18, .iload_n 1, 1, 1), (19, .aaload, 1, 0), (20, .iload_n 3, 1, 3), (21, .iaload, 1, 0), (22, .istore 4, 2, 4), (24, .aload_n 0, 1, 0), (25, .getfield 11, 3, 400), (28, .iload_n 1, 1, 1), (29, .aaload, 1, 0), (30, .iload_n 3, 1, 3), (31, .iconst 1, 1, 0), (32, .iadd, 1, 0), (33, .iaload, 1, 0), (34, .istore 5, 2, 5), (36, .iload 4, 2, 4), (38, .ifCond .lt 20, 3, 58), (41, .iload 4, 2, 4), (43, .iload_n 2, 1, 2), (44, .if_icmp .ge 14, 3, 58), (47, .iload 5, 2, 5), (49, .ifCond .lt 9, 3, 58), (52, .iload 5, 2, 5), (54, .iconst 1, 1, 0), (55, .if_icmp .le 5, 3, 60), (58, .iconst 0, 1, 0), (59, .ireturn, 1, 0), (60, .iinc 3 2, 3, 3), (63, .goto (-61), 3, 2), (66, .iconst 1, 1, 0), (67, .ireturn, 1, 0)]
theorem rc_X4_arePairs_ok : rf_rc mX4_arePairs rc_X4_arePairs = true := by decide +kernel
theorem mw_X4_arePairs : rf_mw mX4_arePairs := ⟨rf_mt_ok _ (List.mem_of_getElem? (i := 33) rfl), fun h => absurd h (by decide), fun _ => ⟨rf_mi_ok _ (List.mem_of_getElem? (i := 30) rfl), rf_mv_ok _ (List.mem_of_getElem? (i := 30) rfl)⟩, rf_mq_1 _ (List.mem_of_getElem? (i := 8) rfl)⟩
def f_X4_arePairs_b2 (l1 : Int32) (l2 : Int32) (σ : rf_S) (s2 : Int32) : Option ((Int32) ⊕ ((Unit) ⊕ Int32)) := if rf_ck ly0 0 9 l1 = true then (if (σ.1 9 l1.toNatClampNeg) ≤ (s2 + 1) then (some (.inr (.inl ()))) else (if rf_rk ly0 2 l1 = true then (if rf_ck ly0 0 (rf_ra ly0 2 l1.toNatClampNeg) s2 = true then (if rf_rk ly0 2 l1 = true then (if rf_ck ly0 0 (rf_ra ly0 2 l1.toNatClampNeg) (s2 + 1) = true then (if (σ.1 (rf_ra ly0 2 l1.toNatClampNeg) s2.toNatClampNeg) < 0 then (some (.inr (.inr 0))) else (if l2 ≤ (σ.1 (rf_ra ly0 2 l1.toNatClampNeg) s2.toNatClampNeg) then (some (.inr (.inr 0))) else (if (σ.1 (rf_ra ly0 2 l1.toNatClampNeg) (s2 + 1).toNatClampNeg) < 0 then (some (.inr (.inr 0))) else (if (σ.1 (rf_ra ly0 2 l1.toNatClampNeg) (s2 + 1).toNatClampNeg) ≤ 1 then (some (.inl (s2 + 2))) else (some (.inr (.inr 0))))))) else none) else none) else none) else none)) else none
set_option maxHeartbeats 2000000 in
theorem ok_X4_arePairs_b2 (d : Nat) (l1 : Int32) (l2 : Int32) (σ : rf_S) (s2 : Int32) (o : ((Int32) ⊕ ((Unit) ⊕ Int32))) (h : f_X4_arePairs_b2 l1 l2 σ s2 = some o) {r : Option Value} {σr : rf_S} (kl : ∀ s', o = .inl s' → rf_G ly0 (d) mX4_arePairs (2, [some (.ref 1), some (.int l1), some (.int l2), some (.int s'), none, none], [], σ) r σr) (kx : ∀ e, o = .inr (.inl e) → rf_G ly0 (d) mX4_arePairs (66, [none, none, none, none, none, none], [], σ) r σr) (kr : ∀ q : Int32, o = .inr (.inr q) → r = (some (.int q) : Option Value) ∧ σr = σ) : rf_G ly0 (d) mX4_arePairs (2, [some (.ref 1), some (.int l1), some (.int l2), some (.int s2), none, none], [], σ) r σr := by
  unfold f_X4_arePairs_b2 at h
  refine rf_b wf0 rc_X4_arePairs_ok 2 6 (10, [some (.ref 1), some (.int l1), some (.int l2), some (.int s2), none, none], [.int l1, .ref 9, .int (s2 + 1)], σ) rfl ?_
  obtain ⟨g1, h⟩ := rf_ifn h
  refine rf_gd wf0 rc_X4_arePairs_ok 8 (11, [some (.ref 1), some (.int l1), some (.int l2), some (.int s2), none, none], [.int (σ.1 9 l1.toNatClampNeg), .int (s2 + 1)], σ) rfl rfl g1 rfl ?_
  by_cases c2 : (σ.1 9 l1.toNatClampNeg) ≤ (s2 + 1)
  · rw [if_pos c2] at h
    refine rf_t wf0 rc_X4_arePairs_ok 9 (66, [some (.ref 1), some (.int l1), some (.int l2), some (.int s2), none, none], [], σ) rfl rfl c2 rfl ?_
    refine rf_fg [false, false, false, false, true, true] [none, none, none, none, none, none] rfl ?_
    exact kx () (Option.some.inj h).symm
  · rw [if_neg c2] at h
    refine rf_f wf0 rc_X4_arePairs_ok 9 (14, [some (.ref 1), some (.int l1), some (.int l2), some (.int s2), none, none], [], σ) rfl rfl c2 rfl ?_
    refine rf_b wf0 rc_X4_arePairs_ok 10 3 (19, [some (.ref 1), some (.int l1), some (.int l2), some (.int s2), none, none], [.int l1, .ref 2], σ) rfl ?_
    obtain ⟨g3, h⟩ := rf_ifn h
    refine rf_gd wf0 rc_X4_arePairs_ok 13 (20, [some (.ref 1), some (.int l1), some (.int l2), some (.int s2), none, none], [.ref (rf_ra ly0 2 l1.toNatClampNeg)], σ) rfl rfl g3 rfl ?_
    refine rf_b wf0 rc_X4_arePairs_ok 14 1 (21, [some (.ref 1), some (.int l1), some (.int l2), some (.int s2), none, none], [.int s2, .ref (rf_ra ly0 2 l1.toNatClampNeg)], σ) rfl ?_
    obtain ⟨g4, h⟩ := rf_ifn h
    refine rf_gd wf0 rc_X4_arePairs_ok 15 (22, [some (.ref 1), some (.int l1), some (.int l2), some (.int s2), none, none], [.int (σ.1 (rf_ra ly0 2 l1.toNatClampNeg) s2.toNatClampNeg)], σ) rfl rfl g4 rfl ?_
    refine rf_b wf0 rc_X4_arePairs_ok 16 4 (29, [some (.ref 1), some (.int l1), some (.int l2), some (.int s2), some (.int (σ.1 (rf_ra ly0 2 l1.toNatClampNeg) s2.toNatClampNeg)), none], [.int l1, .ref 2], σ) rfl ?_
    obtain ⟨g5, h⟩ := rf_ifn h
    refine rf_gd wf0 rc_X4_arePairs_ok 20 (30, [some (.ref 1), some (.int l1), some (.int l2), some (.int s2), some (.int (σ.1 (rf_ra ly0 2 l1.toNatClampNeg) s2.toNatClampNeg)), none], [.ref (rf_ra ly0 2 l1.toNatClampNeg)], σ) rfl rfl g5 rfl ?_
    refine rf_b wf0 rc_X4_arePairs_ok 21 3 (33, [some (.ref 1), some (.int l1), some (.int l2), some (.int s2), some (.int (σ.1 (rf_ra ly0 2 l1.toNatClampNeg) s2.toNatClampNeg)), none], [.int (s2 + 1), .ref (rf_ra ly0 2 l1.toNatClampNeg)], σ) rfl ?_
    obtain ⟨g6, h⟩ := rf_ifn h
    refine rf_gd wf0 rc_X4_arePairs_ok 24 (34, [some (.ref 1), some (.int l1), some (.int l2), some (.int s2), some (.int (σ.1 (rf_ra ly0 2 l1.toNatClampNeg) s2.toNatClampNeg)), none], [.int (σ.1 (rf_ra ly0 2 l1.toNatClampNeg) (s2 + 1).toNatClampNeg)], σ) rfl rfl g6 rfl ?_
    refine rf_b wf0 rc_X4_arePairs_ok 25 2 (38, [some (.ref 1), some (.int l1), some (.int l2), some (.int s2), some (.int (σ.1 (rf_ra ly0 2 l1.toNatClampNeg) s2.toNatClampNeg)), some (.int (σ.1 (rf_ra ly0 2 l1.toNatClampNeg) (s2 + 1).toNatClampNeg))], [.int (σ.1 (rf_ra ly0 2 l1.toNatClampNeg) s2.toNatClampNeg)], σ) rfl ?_
    by_cases c7 : (σ.1 (rf_ra ly0 2 l1.toNatClampNeg) s2.toNatClampNeg) < 0
    · rw [if_pos c7] at h
      refine rf_t wf0 rc_X4_arePairs_ok 27 (58, [some (.ref 1), some (.int l1), some (.int l2), some (.int s2), some (.int (σ.1 (rf_ra ly0 2 l1.toNatClampNeg) s2.toNatClampNeg)), some (.int (σ.1 (rf_ra ly0 2 l1.toNatClampNeg) (s2 + 1).toNatClampNeg))], [], σ) rfl rfl c7 rfl ?_
      refine rf_b wf0 rc_X4_arePairs_ok 36 1 (59, [some (.ref 1), some (.int l1), some (.int l2), some (.int s2), some (.int (σ.1 (rf_ra ly0 2 l1.toNatClampNeg) s2.toNatClampNeg)), some (.int (σ.1 (rf_ra ly0 2 l1.toNatClampNeg) (s2 + 1).toNatClampNeg))], [.int 0], σ) rfl ?_
      obtain ⟨e1, e2⟩ := kr 0 (Option.some.inj h).symm
      subst e1
      subst e2
      exact rf_rz rc_X4_arePairs_ok 37 rfl rfl (by decide)
    · rw [if_neg c7] at h
      refine rf_f wf0 rc_X4_arePairs_ok 27 (41, [some (.ref 1), some (.int l1), some (.int l2), some (.int s2), some (.int (σ.1 (rf_ra ly0 2 l1.toNatClampNeg) s2.toNatClampNeg)), some (.int (σ.1 (rf_ra ly0 2 l1.toNatClampNeg) (s2 + 1).toNatClampNeg))], [], σ) rfl rfl c7 rfl ?_
      refine rf_b wf0 rc_X4_arePairs_ok 28 2 (44, [some (.ref 1), some (.int l1), some (.int l2), some (.int s2), some (.int (σ.1 (rf_ra ly0 2 l1.toNatClampNeg) s2.toNatClampNeg)), some (.int (σ.1 (rf_ra ly0 2 l1.toNatClampNeg) (s2 + 1).toNatClampNeg))], [.int l2, .int (σ.1 (rf_ra ly0 2 l1.toNatClampNeg) s2.toNatClampNeg)], σ) rfl ?_
      by_cases c8 : l2 ≤ (σ.1 (rf_ra ly0 2 l1.toNatClampNeg) s2.toNatClampNeg)
      · rw [if_pos c8] at h
        refine rf_t wf0 rc_X4_arePairs_ok 30 (58, [some (.ref 1), some (.int l1), some (.int l2), some (.int s2), some (.int (σ.1 (rf_ra ly0 2 l1.toNatClampNeg) s2.toNatClampNeg)), some (.int (σ.1 (rf_ra ly0 2 l1.toNatClampNeg) (s2 + 1).toNatClampNeg))], [], σ) rfl rfl c8 rfl ?_
        refine rf_b wf0 rc_X4_arePairs_ok 36 1 (59, [some (.ref 1), some (.int l1), some (.int l2), some (.int s2), some (.int (σ.1 (rf_ra ly0 2 l1.toNatClampNeg) s2.toNatClampNeg)), some (.int (σ.1 (rf_ra ly0 2 l1.toNatClampNeg) (s2 + 1).toNatClampNeg))], [.int 0], σ) rfl ?_
        obtain ⟨e1, e2⟩ := kr 0 (Option.some.inj h).symm
        subst e1
        subst e2
        exact rf_rz rc_X4_arePairs_ok 37 rfl rfl (by decide)
      · rw [if_neg c8] at h
        refine rf_f wf0 rc_X4_arePairs_ok 30 (47, [some (.ref 1), some (.int l1), some (.int l2), some (.int s2), some (.int (σ.1 (rf_ra ly0 2 l1.toNatClampNeg) s2.toNatClampNeg)), some (.int (σ.1 (rf_ra ly0 2 l1.toNatClampNeg) (s2 + 1).toNatClampNeg))], [], σ) rfl rfl c8 rfl ?_
        refine rf_b wf0 rc_X4_arePairs_ok 31 1 (49, [some (.ref 1), some (.int l1), some (.int l2), some (.int s2), some (.int (σ.1 (rf_ra ly0 2 l1.toNatClampNeg) s2.toNatClampNeg)), some (.int (σ.1 (rf_ra ly0 2 l1.toNatClampNeg) (s2 + 1).toNatClampNeg))], [.int (σ.1 (rf_ra ly0 2 l1.toNatClampNeg) (s2 + 1).toNatClampNeg)], σ) rfl ?_
        by_cases c9 : (σ.1 (rf_ra ly0 2 l1.toNatClampNeg) (s2 + 1).toNatClampNeg) < 0
        · rw [if_pos c9] at h
          refine rf_t wf0 rc_X4_arePairs_ok 32 (58, [some (.ref 1), some (.int l1), some (.int l2), some (.int s2), some (.int (σ.1 (rf_ra ly0 2 l1.toNatClampNeg) s2.toNatClampNeg)), some (.int (σ.1 (rf_ra ly0 2 l1.toNatClampNeg) (s2 + 1).toNatClampNeg))], [], σ) rfl rfl c9 rfl ?_
          refine rf_b wf0 rc_X4_arePairs_ok 36 1 (59, [some (.ref 1), some (.int l1), some (.int l2), some (.int s2), some (.int (σ.1 (rf_ra ly0 2 l1.toNatClampNeg) s2.toNatClampNeg)), some (.int (σ.1 (rf_ra ly0 2 l1.toNatClampNeg) (s2 + 1).toNatClampNeg))], [.int 0], σ) rfl ?_
          obtain ⟨e1, e2⟩ := kr 0 (Option.some.inj h).symm
          subst e1
          subst e2
          exact rf_rz rc_X4_arePairs_ok 37 rfl rfl (by decide)
        · rw [if_neg c9] at h
          refine rf_f wf0 rc_X4_arePairs_ok 32 (52, [some (.ref 1), some (.int l1), some (.int l2), some (.int s2), some (.int (σ.1 (rf_ra ly0 2 l1.toNatClampNeg) s2.toNatClampNeg)), some (.int (σ.1 (rf_ra ly0 2 l1.toNatClampNeg) (s2 + 1).toNatClampNeg))], [], σ) rfl rfl c9 rfl ?_
          refine rf_b wf0 rc_X4_arePairs_ok 33 2 (55, [some (.ref 1), some (.int l1), some (.int l2), some (.int s2), some (.int (σ.1 (rf_ra ly0 2 l1.toNatClampNeg) s2.toNatClampNeg)), some (.int (σ.1 (rf_ra ly0 2 l1.toNatClampNeg) (s2 + 1).toNatClampNeg))], [.int 1, .int (σ.1 (rf_ra ly0 2 l1.toNatClampNeg) (s2 + 1).toNatClampNeg)], σ) rfl ?_
          by_cases c10 : (σ.1 (rf_ra ly0 2 l1.toNatClampNeg) (s2 + 1).toNatClampNeg) ≤ 1
          · rw [if_pos c10] at h
            refine rf_t wf0 rc_X4_arePairs_ok 35 (60, [some (.ref 1), some (.int l1), some (.int l2), some (.int s2), some (.int (σ.1 (rf_ra ly0 2 l1.toNatClampNeg) s2.toNatClampNeg)), some (.int (σ.1 (rf_ra ly0 2 l1.toNatClampNeg) (s2 + 1).toNatClampNeg))], [], σ) rfl rfl c10 rfl ?_
            refine rf_b wf0 rc_X4_arePairs_ok 38 2 (2, [some (.ref 1), some (.int l1), some (.int l2), some (.int (s2 + 2)), some (.int (σ.1 (rf_ra ly0 2 l1.toNatClampNeg) s2.toNatClampNeg)), some (.int (σ.1 (rf_ra ly0 2 l1.toNatClampNeg) (s2 + 1).toNatClampNeg))], [], σ) rfl ?_
            refine rf_fg [true, true, true, true, false, false] [some (.ref 1), some (.int l1), some (.int l2), some (.int (s2 + 2)), none, none] rfl ?_
            exact kl (s2 + 2) (Option.some.inj h).symm
          · rw [if_neg c10] at h
            refine rf_f wf0 rc_X4_arePairs_ok 35 (58, [some (.ref 1), some (.int l1), some (.int l2), some (.int s2), some (.int (σ.1 (rf_ra ly0 2 l1.toNatClampNeg) s2.toNatClampNeg)), some (.int (σ.1 (rf_ra ly0 2 l1.toNatClampNeg) (s2 + 1).toNatClampNeg))], [], σ) rfl rfl c10 rfl ?_
            refine rf_b wf0 rc_X4_arePairs_ok 36 1 (59, [some (.ref 1), some (.int l1), some (.int l2), some (.int s2), some (.int (σ.1 (rf_ra ly0 2 l1.toNatClampNeg) s2.toNatClampNeg)), some (.int (σ.1 (rf_ra ly0 2 l1.toNatClampNeg) (s2 + 1).toNatClampNeg))], [.int 0], σ) rfl ?_
            obtain ⟨e1, e2⟩ := kr 0 (Option.some.inj h).symm
            subst e1
            subst e2
            exact rf_rz rc_X4_arePairs_ok 37 rfl rfl (by decide)
def f_X4_arePairs (p0 : Int32) (p1 : Int32) (σ : rf_S) : Option Int32 := (rf_lp (f_X4_arePairs_b2 p0 p1 σ) 5000 0).bind (fun e11 => Sum.elim (fun z13 => some 1) (fun y14 => some y14) e11)
set_option maxHeartbeats 2000000 in
theorem ok_X4_arePairs (d : Nat) (p0 : Int32) (p1 : Int32) (σ : rf_S) (q : Int32) (h : f_X4_arePairs p0 p1 σ = some q) : rf_Ex ly0 (d + 1) mX4_arePairs [.ref 1, .int p0, .int p1] σ (some (.int q) : Option Value) σ := by
  unfold f_X4_arePairs at h
  refine rf_ex mw_X4_arePairs [some (.ref 1), some (.int p0), some (.int p1), none, none, none] (Nat.le_of_ble_eq_true rfl) rfl ?_
  refine rf_b wf0 rc_X4_arePairs_ok 0 2 (2, [some (.ref 1), some (.int p0), some (.int p1), some (.int 0), none, none], [], σ) rfl ?_
  obtain ⟨e11, h12, h⟩ := Option.bind_eq_some_iff.mp h
  refine rf_lpG (b := f_X4_arePairs_b2 p0 p1 σ) (G := fun (s2 : Int32) => rf_G ly0 (d) mX4_arePairs (2, [some (.ref 1), some (.int p0), some (.int p1), some (.int s2), none, none], [], σ) (some (.int q) : Option Value) σ) (K := fun (e : ((Unit) ⊕ Int32)) => (∀ z, e = .inl z → rf_G ly0 (d) mX4_arePairs (66, [none, none, none, none, none, none], [], σ) (some (.int q) : Option Value) σ) ∧ (∀ y0 : Int32, e = .inr y0 → (some (.int q) : Option Value) = (some (.int y0) : Option Value) ∧ σ = σ)) (fun (s2 : Int32) (o : (Int32) ⊕ ((Unit) ⊕ Int32)) hb kl kx => ok_X4_arePairs_b2 d p0 p1 σ s2 o hb kl (fun e he => (kx _ he).1 e rfl) (fun q hq => (kx _ hq).2 q rfl)) 5000 0 e11 h12 ⟨?_, ?_⟩
  · intro z13 hz
    subst hz
    simp only [Sum.elim_inl] at h
    refine rf_b wf0 rc_X4_arePairs_ok 40 1 (67, [none, none, none, none, none, none], [.int 1], σ) rfl ?_
    obtain rfl := Option.some.inj h
    exact rf_rz rc_X4_arePairs_ok 41 rfl rfl (by decide)
  · intro y14 hz
    subst hz
    simp only [Sum.elim_inr] at h
    obtain rfl := Option.some.inj h
    exact ⟨rfl, rfl⟩
def rc_X8_rooms : List rf_E := [(0, .aload_n 0, 1, 0), (1, .getfield 12, 3, 800), (4, .getfield 70, 3, 206), (7, .ireturn, 1, 0)]
theorem rc_X8_rooms_ok : rf_rc mX8_rooms rc_X8_rooms = true := by decide +kernel
theorem mw_X8_rooms : rf_mw mX8_rooms := ⟨rf_mt_ok _ (List.mem_of_getElem? (i := 48) rfl), fun h => absurd h (by decide), fun _ => ⟨rf_mi_ok _ (List.mem_of_getElem? (i := 45) rfl), rf_mv_ok _ (List.mem_of_getElem? (i := 45) rfl)⟩, rf_mq_1 _ (List.mem_of_getElem? (i := 23) rfl)⟩
def f_X8_rooms (σ : rf_S) : Option Int32 := some (σ.1 26 6)
set_option maxHeartbeats 2000000 in
theorem ok_X8_rooms (d : Nat) (σ : rf_S) (q : Int32) (h : f_X8_rooms σ = some q) : rf_Ex ly0 (d + 1) mX8_rooms [.ref 25] σ (some (.int q) : Option Value) σ := by
  unfold f_X8_rooms at h
  refine rf_ex mw_X8_rooms [some (.ref 25)] (Nat.le_of_ble_eq_true rfl) rfl ?_
  refine rf_b wf0 rc_X8_rooms_ok 0 3 (7, [some (.ref 25)], [.int (σ.1 26 6)], σ) rfl ?_
  obtain rfl := Option.some.inj h
  exact rf_ri rc_X8_rooms_ok 3 rfl rfl
def rc_X8_likeAt : List rf_E := [(0, .aload_n 0, 1, 0), (1, .iload_n 1, 1, 1), (2, .invokevirtual 115, 3, 0), (5, .istore_n 3, 1, 3), (6, .iload_n 3, 1, 3), (7, .iload_n 3, 1, 3), (8, .iload_n 2, 1, 2), (9, .ishr, 1, 0), (10, .iconst 1, 1, 0), (11, .iand, 1, 0), (12, .iconst 1, 1, 0), (13, .if_icmp .ne 7, 3, 20), (16, .iconst 1, 1, 0), (17, .goto 4, 3, 21), (20, .iconst 0, 1, 0), (21, .invokestatic 121, 3, 0), (24, .ireturn, 1, 0)]
theorem rc_X8_likeAt_ok : rf_rc mX8_likeAt rc_X8_likeAt = true := by decide +kernel
theorem mw_X8_likeAt : rf_mw mX8_likeAt := ⟨rf_mt_ok _ (List.mem_of_getElem? (i := 67) rfl), fun h => absurd h (by decide), fun _ => ⟨rf_mi_ok _ (List.mem_of_getElem? (i := 62) rfl), rf_mv_ok _ (List.mem_of_getElem? (i := 62) rfl)⟩, rf_mq_2 _ (List.mem_of_getElem? (i := 17) rfl)⟩
def f_X8_likeAt_j21 (t0 : Int32) (t1 : Int32) (σ : rf_S) : Option Int32 := (f_X9_seen t1 t0 σ).bind (fun q4 => some q4)
set_option maxHeartbeats 2000000 in
theorem ok_X8_likeAt_j21 (d : Nat) (t0 : Int32) (t1 : Int32) (σ : rf_S) (q : Int32) (h : f_X8_likeAt_j21 t0 t1 σ = some q) : rf_G ly0 (d + 3) mX8_likeAt (21, [none, none, none, none], [.int t0, .int t1], σ) (some (.int q) : Option Value) σ := by
  unfold f_X8_likeAt_j21 at h
  obtain ⟨q4, h5, h⟩ := Option.bind_eq_some_iff.mp h
  refine rf_cs1 (Mt := mX9_seen) rc_X8_likeAt_ok 15 true rfl (List.mem_of_getElem? (i := 56) rfl) mw_X9_seen rfl [.int t1, .int t0] [] rfl rfl (Nat.le_of_ble_eq_true rfl) (ok_X9_seen (d + 2) t1 t0 σ q4 h5) ?_
  show rf_G _ _ _ (24, [none, none, none, none], [.int q4], σ) _ _
  obtain rfl := Option.some.inj h
  exact rf_ri rc_X8_likeAt_ok 16 rfl rfl
def f_X8_likeAt (p0 : Int32) (p1 : Int32) (σ : rf_S) : Option Int32 := (f_X8_does p0 σ).bind (fun q1 => if ((q1 >>> (p1 &&& 31)) &&& 1) ≠ 1 then (f_X8_likeAt_j21 0 q1 σ) else (f_X8_likeAt_j21 1 q1 σ))
set_option maxHeartbeats 2000000 in
theorem ok_X8_likeAt (d : Nat) (p0 : Int32) (p1 : Int32) (σ : rf_S) (q : Int32) (h : f_X8_likeAt p0 p1 σ = some q) : rf_Ex ly0 (d + 4) mX8_likeAt [.ref 25, .int p0, .int p1] σ (some (.int q) : Option Value) σ := by
  unfold f_X8_likeAt at h
  refine rf_ex mw_X8_likeAt [some (.ref 25), some (.int p0), some (.int p1), none] (Nat.le_of_ble_eq_true rfl) rfl ?_
  refine rf_b wf0 rc_X8_likeAt_ok 0 2 (2, [some (.ref 25), some (.int p0), some (.int p1), none], [.int p0, .ref 25], σ) rfl ?_
  obtain ⟨q1, h2, h⟩ := Option.bind_eq_some_iff.mp h
  refine rf_cv1 (Mt := mX8_does) wf0 rc_X8_likeAt_ok 2 false rfl (List.mem_of_getElem? (i := 54) rfl) mw_X8_does rfl 25 [.int p0] [] rfl rfl rfl (Nat.le_of_ble_eq_true rfl) (ok_X8_does d p0 σ q1 h2) ?_
  show rf_G _ _ _ (5, [some (.ref 25), some (.int p0), some (.int p1), none], [.int q1], σ) _ _
  refine rf_b wf0 rc_X8_likeAt_ok 3 8 (13, [some (.ref 25), some (.int p0), some (.int p1), some (.int q1)], [.int 1, .int ((q1 >>> (p1 &&& 31)) &&& 1), .int q1], σ) rfl ?_
  by_cases c3 : ((q1 >>> (p1 &&& 31)) &&& 1) ≠ 1
  · rw [if_pos c3] at h
    refine rf_t wf0 rc_X8_likeAt_ok 11 (20, [some (.ref 25), some (.int p0), some (.int p1), some (.int q1)], [.int q1], σ) rfl rfl c3 rfl ?_
    refine rf_b wf0 rc_X8_likeAt_ok 14 1 (21, [some (.ref 25), some (.int p0), some (.int p1), some (.int q1)], [.int 0, .int q1], σ) rfl ?_
    refine rf_fg [false, false, false, false] [none, none, none, none] rfl ?_
    exact ok_X8_likeAt_j21 d 0 q1 σ q h
  · rw [if_neg c3] at h
    refine rf_f wf0 rc_X8_likeAt_ok 11 (16, [some (.ref 25), some (.int p0), some (.int p1), some (.int q1)], [.int q1], σ) rfl rfl c3 rfl ?_
    refine rf_b wf0 rc_X8_likeAt_ok 12 2 (21, [some (.ref 25), some (.int p0), some (.int p1), some (.int q1)], [.int 1, .int q1], σ) rfl ?_
    refine rf_fg [false, false, false, false] [none, none, none, none] rfl ?_
    exact ok_X8_likeAt_j21 d 1 q1 σ q h
def rc_X8_needOf : List rf_E := [(0, .aload_n 0, 1, 0), (1, .getfield 12, 3, 800), (4, .getfield 77, 3, 201), (7, .iload_n 1, 1, 1), (8, .iaload, 1, 0), (9, .ireturn, 1, 0)]
theorem rc_X8_needOf_ok : rf_rc mX8_needOf rc_X8_needOf = true := by decide +kernel
theorem mw_X8_needOf : rf_mw mX8_needOf := ⟨rf_mt_ok _ (List.mem_of_getElem? (i := 52) rfl), fun h => absurd h (by decide), fun _ => ⟨rf_mi_ok _ (List.mem_of_getElem? (i := 49) rfl), rf_mv_ok _ (List.mem_of_getElem? (i := 49) rfl)⟩, rf_mq_2 _ (List.mem_of_getElem? (i := 2) rfl)⟩
def f_X8_needOf (p0 : Int32) (σ : rf_S) : Option Int32 := if rf_ck ly0 0 28 p0 = true then (some (σ.1 28 p0.toNatClampNeg)) else none
set_option maxHeartbeats 2000000 in
theorem ok_X8_needOf (d : Nat) (p0 : Int32) (σ : rf_S) (q : Int32) (h : f_X8_needOf p0 σ = some q) : rf_Ex ly0 (d + 1) mX8_needOf [.ref 25, .int p0] σ (some (.int q) : Option Value) σ := by
  unfold f_X8_needOf at h
  refine rf_ex mw_X8_needOf [some (.ref 25), some (.int p0)] (Nat.le_of_ble_eq_true rfl) rfl ?_
  refine rf_b wf0 rc_X8_needOf_ok 0 4 (8, [some (.ref 25), some (.int p0)], [.int p0, .ref 28], σ) rfl ?_
  obtain ⟨g1, h⟩ := rf_ifn h
  refine rf_gd wf0 rc_X8_needOf_ok 4 (9, [some (.ref 25), some (.int p0)], [.int (σ.1 28 p0.toNatClampNeg)], σ) rfl rfl g1 rfl ?_
  obtain rfl := Option.some.inj h
  exact rf_ri rc_X8_needOf_ok 5 rfl rfl
def rc_X5_compare : List rf_E := [(0, .iconst 0, 1, 0), (1, .istore_n 3, 1, 3), (2, .iconst 0, 1, 0), (3, .istore 4, 2, 4), (5, .iload 4, 2, 4), (7, .aload_n 1, 1, 1), (8, .invokevirtual 30, 3, 0), (11, .if_icmp .ge 31, 3, 42), (14, .aload_n 0, 1, 0), (15, .getfield 15, 3, 501), (18, .iload 4, 2, 4), (20, .iaload, 1, 0), (21, .invokestatic 71, 3, 0), (24, .aload_n 1, 1, 1), (25, .iload 4, 2, 4), (27, .invokevirtual 76, 3, 0), (30, .if_icmp .gt 6, 3, 36), (33, .iinc 3 1, 3, 3), (36, .iinc 4 1, 3, 4), (39, .goto (-34), 3, 5), (42, .iload_n 3, 1, 3), (43, .aload_n 0, 1, 0), (44, .getfield 47, 3, 504), (47, .if_icmp .gt 19, 3, 66), (50, .iload_n 3, 1, 3), (51, .aload_n 0, 1, 0), (52, .getfield 47, 3, 504), (55, .if_icmp .ne 36, 3, 91), (58, .iload_n 2, 1, 2), (59, .aload_n 0, 1, 0), (60, .getfield 51, 3, 505), (63, .if_icmp .ge 28, 3, 91), (66, .aload_n 0, 1, 0), (67, .iload_n 3, 1, 3), (68, .putfield 47, 3, 504), (71, .aload_n 0, 1, 0), (72, .iload_n 2, 1, 2), (73, .putfield 51, 3, 505), (76, .aload_n 0, 1, 0), (77, .getfield 18, 3, 502), (80, .iconst 0, 1, 0), (81, .aload_n 0, 1, 0), (82, .getfield 21, 3, 503), (85, .iconst 0, 1, 0), (86, .bipush 6, 2, 0), (88, .invokestatic 79, 3, 1000), (91, .return_, 1, 0)]
theorem rc_X5_compare_ok : rf_rc mX5_compare rc_X5_compare = true := by decide +kernel
theorem mw_X5_compare : rf_mw mX5_compare := ⟨rf_mt_ok _ (List.mem_of_getElem? (i := 36) rfl), fun h => absurd h (by decide), fun _ => ⟨rf_mi_ok _ (List.mem_of_getElem? (i := 33) rfl), rf_mv_ok _ (List.mem_of_getElem? (i := 33) rfl)⟩, rf_mq_1 _ (List.mem_of_getElem? (i := 11) rfl)⟩
def f_X5_compare_j36 (l2 : Int32) (l3 : Int32) (l4 : Int32) (σ : rf_S) : Option ((Int32 × Int32) ⊕ (Int32)) := some (.inl (l3, (l4 + 1)))
set_option maxHeartbeats 2000000 in
theorem ok_X5_compare_j36 (d : Nat) (l2 : Int32) (l3 : Int32) (l4 : Int32) (σ : rf_S) (o : ((Int32 × Int32) ⊕ (Int32))) (h : f_X5_compare_j36 l2 l3 l4 σ = some o) {r : Option Value} {σr : rf_S} (kl : ∀ s', o = .inl s' → rf_G ly0 (d + 1) mX5_compare (5, [some (.ref 45), some (.ref 25), some (.int l2), some (.int s'.1), some (.int s'.2)], [], σ) r σr) (kx : ∀ e, o = .inr e → rf_G ly0 (d + 1) mX5_compare (42, [some (.ref 45), none, some (.int l2), some (.int e), none], [], σ) r σr) : rf_G ly0 (d + 1) mX5_compare (36, [some (.ref 45), some (.ref 25), some (.int l2), some (.int l3), some (.int l4)], [], σ) r σr := by
  unfold f_X5_compare_j36 at h
  refine rf_b wf0 rc_X5_compare_ok 18 2 (5, [some (.ref 45), some (.ref 25), some (.int l2), some (.int l3), some (.int (l4 + 1))], [], σ) rfl ?_
  exact kl (l3, (l4 + 1)) (Option.some.inj h).symm
def f_X5_compare_b5 (l2 : Int32) (σ : rf_S) (s5 : Int32 × Int32) : Option ((Int32 × Int32) ⊕ (Int32)) := (f_X8_rooms σ).bind (fun q1 => if q1 ≤ s5.2 then (some (.inr s5.1)) else (if rf_ck ly0 0 47 s5.2 = true then ((f_J_bitCount (σ.1 47 s5.2.toNatClampNeg) σ).bind (fun q5 => (f_X8_needOf s5.2 σ).bind (fun q7 => if q7 < q5 then (f_X5_compare_j36 l2 s5.1 s5.2 σ) else (f_X5_compare_j36 l2 (s5.1 + 1) s5.2 σ)))) else none))
set_option maxHeartbeats 2000000 in
theorem ok_X5_compare_b5 (d : Nat) (l2 : Int32) (σ : rf_S) (s5 : Int32 × Int32) (o : ((Int32 × Int32) ⊕ (Int32))) (h : f_X5_compare_b5 l2 σ s5 = some o) {r : Option Value} {σr : rf_S} (kl : ∀ s', o = .inl s' → rf_G ly0 (d + 1) mX5_compare (5, [some (.ref 45), some (.ref 25), some (.int l2), some (.int s'.1), some (.int s'.2)], [], σ) r σr) (kx : ∀ e, o = .inr e → rf_G ly0 (d + 1) mX5_compare (42, [some (.ref 45), none, some (.int l2), some (.int e), none], [], σ) r σr) : rf_G ly0 (d + 1) mX5_compare (5, [some (.ref 45), some (.ref 25), some (.int l2), some (.int s5.1), some (.int s5.2)], [], σ) r σr := by
  unfold f_X5_compare_b5 at h
  refine rf_b wf0 rc_X5_compare_ok 4 2 (8, [some (.ref 45), some (.ref 25), some (.int l2), some (.int s5.1), some (.int s5.2)], [.ref 25, .int s5.2], σ) rfl ?_
  obtain ⟨q1, h2, h⟩ := Option.bind_eq_some_iff.mp h
  refine rf_cv1 (Mt := mX8_rooms) wf0 rc_X5_compare_ok 6 false rfl (List.mem_of_getElem? (i := 31) rfl) mw_X8_rooms rfl 25 [] [.int s5.2] rfl rfl rfl (Nat.le_of_ble_eq_true rfl) (ok_X8_rooms d  σ q1 h2) ?_
  show rf_G _ _ _ (11, [some (.ref 45), some (.ref 25), some (.int l2), some (.int s5.1), some (.int s5.2)], [.int q1, .int s5.2], σ) _ _
  by_cases c3 : q1 ≤ s5.2
  · rw [if_pos c3] at h
    refine rf_t wf0 rc_X5_compare_ok 7 (42, [some (.ref 45), some (.ref 25), some (.int l2), some (.int s5.1), some (.int s5.2)], [], σ) rfl rfl c3 rfl ?_
    refine rf_fg [true, false, true, true, false] [some (.ref 45), none, some (.int l2), some (.int s5.1), none] rfl ?_
    exact kx s5.1 (Option.some.inj h).symm
  · rw [if_neg c3] at h
    refine rf_f wf0 rc_X5_compare_ok 7 (14, [some (.ref 45), some (.ref 25), some (.int l2), some (.int s5.1), some (.int s5.2)], [], σ) rfl rfl c3 rfl ?_
    refine rf_b wf0 rc_X5_compare_ok 8 3 (20, [some (.ref 45), some (.ref 25), some (.int l2), some (.int s5.1), some (.int s5.2)], [.int s5.2, .ref 47], σ) rfl ?_
    obtain ⟨g4, h⟩ := rf_ifn h
    refine rf_gd wf0 rc_X5_compare_ok 11 (21, [some (.ref 45), some (.ref 25), some (.int l2), some (.int s5.1), some (.int s5.2)], [.int (σ.1 47 s5.2.toNatClampNeg)], σ) rfl rfl g4 rfl ?_
    obtain ⟨q5, h6, h⟩ := Option.bind_eq_some_iff.mp h
    refine rf_cs1 (Mt := mJ6_bitCount_0f7a4) rc_X5_compare_ok 12 false rfl (List.mem_of_getElem? (i := 36) rfl) mw_J_bitCount rfl [.int (σ.1 47 s5.2.toNatClampNeg)] [] rfl rfl (Nat.le_of_ble_eq_true rfl) (ok_J_bitCount d (σ.1 47 s5.2.toNatClampNeg) σ q5 h6) ?_
    show rf_G _ _ _ (24, [some (.ref 45), some (.ref 25), some (.int l2), some (.int s5.1), some (.int s5.2)], [.int q5], σ) _ _
    refine rf_b wf0 rc_X5_compare_ok 13 2 (27, [some (.ref 45), some (.ref 25), some (.int l2), some (.int s5.1), some (.int s5.2)], [.int s5.2, .ref 25, .int q5], σ) rfl ?_
    obtain ⟨q7, h8, h⟩ := Option.bind_eq_some_iff.mp h
    refine rf_cv1 (Mt := mX8_needOf) wf0 rc_X5_compare_ok 15 false rfl (List.mem_of_getElem? (i := 37) rfl) mw_X8_needOf rfl 25 [.int s5.2] [.int q5] rfl rfl rfl (Nat.le_of_ble_eq_true rfl) (ok_X8_needOf d s5.2 σ q7 h8) ?_
    show rf_G _ _ _ (30, [some (.ref 45), some (.ref 25), some (.int l2), some (.int s5.1), some (.int s5.2)], [.int q7, .int q5], σ) _ _
    by_cases c9 : q7 < q5
    · rw [if_pos c9] at h
      refine rf_t wf0 rc_X5_compare_ok 16 (36, [some (.ref 45), some (.ref 25), some (.int l2), some (.int s5.1), some (.int s5.2)], [], σ) rfl rfl c9 rfl ?_
      exact ok_X5_compare_j36 d l2 s5.1 s5.2 σ o h kl kx
    · rw [if_neg c9] at h
      refine rf_f wf0 rc_X5_compare_ok 16 (33, [some (.ref 45), some (.ref 25), some (.int l2), some (.int s5.1), some (.int s5.2)], [], σ) rfl rfl c9 rfl ?_
      refine rf_b wf0 rc_X5_compare_ok 17 1 (36, [some (.ref 45), some (.ref 25), some (.int l2), some (.int (s5.1 + 1)), some (.int s5.2)], [], σ) rfl ?_
      exact ok_X5_compare_j36 d l2 (s5.1 + 1) s5.2 σ o h kl kx
def f_X5_compare_j66 (l2 : Int32) (l3 : Int32) (σ : rf_S) : Option rf_S := if rf_cp ly0 48 0 49 0 6 = true then ((some (rf_sA (rf_sI (rf_sI σ 45 4 l3) 45 5 l2) 49 (va_cpy ((rf_sI (rf_sI σ 45 4 l3) 45 5 l2).1 48) ((rf_sI (rf_sI σ 45 4 l3) 45 5 l2).1 49) (0 : Int32).toNatClampNeg (0 : Int32).toNatClampNeg (6 : Int32).toNatClampNeg))).bind (fun σ14 => some σ14)) else none
set_option maxHeartbeats 2000000 in
theorem ok_X5_compare_j66 (d : Nat) (l2 : Int32) (l3 : Int32) (σ : rf_S) (q : rf_S) (h : f_X5_compare_j66 l2 l3 σ = some q) : rf_G ly0 (d + 1) mX5_compare (66, [some (.ref 45), none, some (.int l2), some (.int l3), none], [], σ) none q := by
  unfold f_X5_compare_j66 at h
  refine rf_b wf0 rc_X5_compare_ok 32 13 (88, [some (.ref 45), none, some (.int l2), some (.int l3), none], [.int 6, .int 0, .ref 49, .int 0, .ref 48], (rf_sI (rf_sI σ 45 4 l3) 45 5 l2)) rfl ?_
  obtain ⟨g13, h⟩ := rf_ifn h
  refine rf_gd wf0 rc_X5_compare_ok 45 (91, [some (.ref 45), none, some (.int l2), some (.int l3), none], [], (rf_sA (rf_sI (rf_sI σ 45 4 l3) 45 5 l2) 49 (va_cpy ((rf_sI (rf_sI σ 45 4 l3) 45 5 l2).1 48) ((rf_sI (rf_sI σ 45 4 l3) 45 5 l2).1 49) (0 : Int32).toNatClampNeg (0 : Int32).toNatClampNeg (6 : Int32).toNatClampNeg))) rfl rfl g13 rfl ?_
  obtain ⟨σ14, h15, h⟩ := Option.bind_eq_some_iff.mp h
  refine rf_sgb (Option.some.inj h15) ?_
  obtain rfl := Option.some.inj h
  exact rf_rv rc_X5_compare_ok 46 rfl rfl
def f_X5_compare (p1 : Int32) (σ : rf_S) : Option rf_S := (rf_lp (f_X5_compare_b5 p1 σ) 5000 (0, 0)).bind (fun e10 => if (σ.1 45 4) < e10 then (f_X5_compare_j66 p1 e10 σ) else (if e10 ≠ (σ.1 45 4) then (some σ) else (if (σ.1 45 5) ≤ p1 then (some σ) else (f_X5_compare_j66 p1 e10 σ))))
set_option maxHeartbeats 2000000 in
theorem ok_X5_compare (d : Nat) (p1 : Int32) (σ : rf_S) (q : rf_S) (h : f_X5_compare p1 σ = some q) : rf_Ex ly0 (d + 2) mX5_compare [.ref 45, .ref 25, .int p1] σ none q := by
  unfold f_X5_compare at h
  refine rf_ex mw_X5_compare [some (.ref 45), some (.ref 25), some (.int p1), none, none] (Nat.le_of_ble_eq_true rfl) rfl ?_
  refine rf_b wf0 rc_X5_compare_ok 0 4 (5, [some (.ref 45), some (.ref 25), some (.int p1), some (.int 0), some (.int 0)], [], σ) rfl ?_
  obtain ⟨e10, h11, h⟩ := Option.bind_eq_some_iff.mp h
  refine rf_lpG (b := f_X5_compare_b5 p1 σ) (G := fun (s5 : Int32 × Int32) => rf_G ly0 (d + 1) mX5_compare (5, [some (.ref 45), some (.ref 25), some (.int p1), some (.int s5.1), some (.int s5.2)], [], σ) none q) (K := fun (e : (Int32)) => rf_G ly0 (d + 1) mX5_compare (42, [some (.ref 45), none, some (.int p1), some (.int e), none], [], σ) none q) (fun (s5 : Int32 × Int32) (o : (Int32 × Int32) ⊕ (Int32)) hb kl kx => ok_X5_compare_b5 d p1 σ s5 o hb kl kx) 5000 (0, 0) e10 h11 ?_
  show rf_G _ _ _ (42, [some (.ref 45), none, some (.int p1), some (.int e10), none], [], σ) _ _
  refine rf_b wf0 rc_X5_compare_ok 20 3 (47, [some (.ref 45), none, some (.int p1), some (.int e10), none], [.int (σ.1 45 4), .int e10], σ) rfl ?_
  by_cases c12 : (σ.1 45 4) < e10
  · rw [if_pos c12] at h
    refine rf_t wf0 rc_X5_compare_ok 23 (66, [some (.ref 45), none, some (.int p1), some (.int e10), none], [], σ) rfl rfl c12 rfl ?_
    exact ok_X5_compare_j66 d p1 e10 σ q h
  · rw [if_neg c12] at h
    refine rf_f wf0 rc_X5_compare_ok 23 (50, [some (.ref 45), none, some (.int p1), some (.int e10), none], [], σ) rfl rfl c12 rfl ?_
    refine rf_b wf0 rc_X5_compare_ok 24 3 (55, [some (.ref 45), none, some (.int p1), some (.int e10), none], [.int (σ.1 45 4), .int e10], σ) rfl ?_
    by_cases c16 : e10 ≠ (σ.1 45 4)
    · rw [if_pos c16] at h
      refine rf_t wf0 rc_X5_compare_ok 27 (91, [some (.ref 45), none, some (.int p1), some (.int e10), none], [], σ) rfl rfl c16 rfl ?_
      obtain rfl := Option.some.inj h
      exact rf_rv rc_X5_compare_ok 46 rfl rfl
    · rw [if_neg c16] at h
      refine rf_f wf0 rc_X5_compare_ok 27 (58, [some (.ref 45), none, some (.int p1), some (.int e10), none], [], σ) rfl rfl c16 rfl ?_
      refine rf_b wf0 rc_X5_compare_ok 28 3 (63, [some (.ref 45), none, some (.int p1), some (.int e10), none], [.int (σ.1 45 5), .int p1], σ) rfl ?_
      by_cases c17 : (σ.1 45 5) ≤ p1
      · rw [if_pos c17] at h
        refine rf_t wf0 rc_X5_compare_ok 31 (91, [some (.ref 45), none, some (.int p1), some (.int e10), none], [], σ) rfl rfl c17 rfl ?_
        obtain rfl := Option.some.inj h
        exact rf_rv rc_X5_compare_ok 46 rfl rfl
      · rw [if_neg c17] at h
        refine rf_f wf0 rc_X5_compare_ok 31 (66, [some (.ref 45), none, some (.int p1), some (.int e10), none], [], σ) rfl rfl c17 rfl ?_
        exact ok_X5_compare_j66 d p1 e10 σ q h
def rc_X5_sendFrom : List rf_E := [(0, .iload_n 3, 1, 3), (1, .iload 4, 2, 4), (3, .if_icmp .gt 22, 3, 25), (6, .aload_n 0, 1, 0), (7, .getfield 47, 3, 504), (10, .aload_n 1, 1, 1), (11, .invokevirtual 30, 3, 0), (14, .if_icmp .ne 12, 3, 26), (17, .iload_n 3, 1, 3), (18, .aload_n 0, 1, 0), (19, .getfield 51, 3, 505), (22, .if_icmp .lt 4, 3, 26), (25, .return_, 1, 0), (26, .iload_n 2, 1, 2), (27, .aload_n 1, 1, 1), (28, .invokevirtual 24, 3, 0), (31, .if_icmp .ge 9, 3, 40), (34, .iload_n 2, 1, 2), (35, .bipush 6, 2, 0), (37, .if_icmp .lt 10, 3, 47), (40, .aload_n 0, 1, 0), (41, .aload_n 1, 1, 1), (42, .iload_n 3, 1, 3), (43, .invokevirtual 58, 3, 0), (46, .return_, 1, 0), (47, .iconst 0, 1, 0), (48, .istore 5, 2, 5), (50, .iload 5, 2, 5), (52, .aload_n 1, 1, 1), (53, .invokevirtual 30, 3, 0), (56, .if_icmp .ge 80, 3, 136), (59, .aload_n 0, 1, 0), (60, .getfield 15, 3, 501), (63, .iload 5, 2, 5), (65, .iaload, 1, 0), (66, .istore 6, 2, 6), (68, .aload_n 0, 1, 0), (69, .getfield 15, 3, 501), (72, .iload 5, 2, 5), (74, .dup2, 1, 0), (75, .iaload, 1, 0), (76, .aload_n 0, 1, 0), (77, .getfield 9, 3, 500), (80, .iload_n 2, 1, 2), (81, .iconst 4, 1, 0), (82, .imul, 1, 0), (83, .iload 5, 2, 5), (85, .iadd, 1, 0), (86, .iaload, 1, 0), (87, .iand, 1, 0), (88, .iastore, 1, 0), (89, .aload_n 0, 1, 0), (90, .getfield 18, 3, 502), (93, .iload_n 2, 1, 2), (94, .iload 5, 2, 5), (96, .iastore, 1, 0), (97, .aload_n 0, 1, 0), (98, .aload_n 1, 1, 1), (99, .iload_n 2, 1, 2), (100, .iconst 1, 1, 0), (101, .iadd, 1, 0), (102, .iload_n 3, 1, 3), (103, .iload 5, 2, 5), (105, .aload_n 1, 1, 1), (106, .getfield 62, 3, 802), (109, .iload_n 2, 1, 2), (110, .iaload, 1, 0), (111, .isub, 1, 0), (112, .invokestatic 65, 3, 1001), (115, .iadd, 1, 0), (116, .iload 4, 2, 4), (118, .invokevirtual 54, 3, 0), (121, .aload_n 0, 1, 0), (122, .getfield 15, 3, 501), (125, .iload 5, 2, 5), (127, .iload 6, 2, 6), (129, .iastore, 1, 0), (130, .iinc 5 1, 3, 5), (133, .goto (-83), 3, 50), (136, .return_, 1, 0)]
theorem rc_X5_sendFrom_ok : rf_rc mX5_sendFrom rc_X5_sendFrom = true := by decide +kernel
theorem mw_X5_sendFrom : rf_mw mX5_sendFrom := ⟨rf_mt_ok _ (List.mem_of_getElem? (i := 35) rfl), fun h => absurd h (by decide), fun _ => ⟨rf_mi_ok _ (List.mem_of_getElem? (i := 32) rfl), rf_mv_ok _ (List.mem_of_getElem? (i := 32) rfl)⟩, rf_mq_1 _ (List.mem_of_getElem? (i := 10) rfl)⟩
def f_X5_sendFrom_j40 (rec : Int32 → Int32 → Int32 → rf_S → Option rf_S) (l3 : Int32) (σ : rf_S) : Option rf_S := (f_X5_compare l3 σ).bind (fun q8 => some q8)
set_option maxHeartbeats 2000000 in
theorem ok_X5_sendFrom_j40 (d : Nat) (rec : Int32 → Int32 → Int32 → rf_S → Option rf_S) (l3 : Int32) (σ : rf_S) (q : rf_S) (hrec : ∀ (p1 : Int32) (p2 : Int32) (p3 : Int32) (σ : rf_S) (q : rf_S), rec p1 p2 p3 σ = some q → rf_Ex ly0 (d + 2) mX5_sendFrom [.ref 45, .ref 25, .int p1, .int p2, .int p3] σ none q) (h : f_X5_sendFrom_j40 rec l3 σ = some q) : rf_G ly0 (d + 2) mX5_sendFrom (40, [some (.ref 45), some (.ref 25), none, some (.int l3), none, none, none], [], σ) none q := by
  unfold f_X5_sendFrom_j40 at h
  refine rf_b wf0 rc_X5_sendFrom_ok 20 3 (43, [some (.ref 45), some (.ref 25), none, some (.int l3), none, none, none], [.int l3, .ref 25, .ref 45], σ) rfl ?_
  obtain ⟨q8, h9, h⟩ := Option.bind_eq_some_iff.mp h
  refine rf_cv1 (Mt := mX5_compare) wf0 rc_X5_sendFrom_ok 23 false rfl (List.mem_of_getElem? (i := 35) rfl) mw_X5_compare rfl 45 [.ref 25, .int l3] [] rfl rfl rfl (Nat.le_of_ble_eq_true rfl) (ok_X5_compare d l3 σ q8 h9) ?_
  show rf_G _ _ _ (46, [some (.ref 45), some (.ref 25), none, some (.int l3), none, none, none], [], q8) _ _
  obtain rfl := Option.some.inj h
  exact rf_rv rc_X5_sendFrom_ok 24 rfl rfl
def f_X5_sendFrom_b50 (rec : Int32 → Int32 → Int32 → rf_S → Option rf_S) (l2 : Int32) (l3 : Int32) (l4 : Int32) (s50 : Int32 × rf_S) : Option ((Int32 × rf_S) ⊕ (rf_S)) := (f_X8_rooms s50.2).bind (fun q11 => if q11 ≤ s50.1 then (some (.inr s50.2)) else (if rf_ck ly0 0 47 s50.1 = true then (if rf_ck ly0 0 47 s50.1 = true then (if rf_ck ly0 0 46 ((l2 * 4) + s50.1) = true then (if rf_ck ly0 0 47 s50.1 = true then ((some (rf_sI s50.2 47 s50.1.toNatClampNeg ((s50.2.1 47 s50.1.toNatClampNeg) &&& (s50.2.1 46 ((l2 * 4) + s50.1).toNatClampNeg)))).bind (fun σ18 => if rf_ck ly0 0 48 l2 = true then (if rf_ck ly0 0 34 l2 = true then ((rec (l2 + 1) (l3 + (if 0 ≤ (s50.1 - ((rf_sI σ18 48 l2.toNatClampNeg s50.1).1 34 l2.toNatClampNeg)) then (s50.1 - ((rf_sI σ18 48 l2.toNatClampNeg s50.1).1 34 l2.toNatClampNeg)) else 0 - (s50.1 - ((rf_sI σ18 48 l2.toNatClampNeg s50.1).1 34 l2.toNatClampNeg)))) l4 (rf_sI σ18 48 l2.toNatClampNeg s50.1)).bind (fun q22 => if rf_ck ly0 0 47 s50.1 = true then (some (.inl ((s50.1 + 1), (rf_sI q22 47 s50.1.toNatClampNeg (s50.2.1 47 s50.1.toNatClampNeg))))) else none)) else none) else none)) else none) else none) else none) else none))
set_option maxHeartbeats 2000000 in
theorem ok_X5_sendFrom_b50 (d : Nat) (rec : Int32 → Int32 → Int32 → rf_S → Option rf_S) (l2 : Int32) (l3 : Int32) (l4 : Int32) (s50 : Int32 × rf_S) (o : ((Int32 × rf_S) ⊕ (rf_S))) (hrec : ∀ (p1 : Int32) (p2 : Int32) (p3 : Int32) (σ : rf_S) (q : rf_S), rec p1 p2 p3 σ = some q → rf_Ex ly0 (d + 2) mX5_sendFrom [.ref 45, .ref 25, .int p1, .int p2, .int p3] σ none q) (h : f_X5_sendFrom_b50 rec l2 l3 l4 s50 = some o) {r : Option Value} {σr : rf_S} (kl : ∀ s', o = .inl s' → rf_G ly0 (d + 2) mX5_sendFrom (50, [some (.ref 45), some (.ref 25), some (.int l2), some (.int l3), some (.int l4), some (.int s'.1), none], [], s'.2) r σr) (kx : ∀ e, o = .inr e → rf_G ly0 (d + 2) mX5_sendFrom (136, [none, none, none, none, none, none, none], [], e) r σr) : rf_G ly0 (d + 2) mX5_sendFrom (50, [some (.ref 45), some (.ref 25), some (.int l2), some (.int l3), some (.int l4), some (.int s50.1), none], [], s50.2) r σr := by
  unfold f_X5_sendFrom_b50 at h
  refine rf_b wf0 rc_X5_sendFrom_ok 27 2 (53, [some (.ref 45), some (.ref 25), some (.int l2), some (.int l3), some (.int l4), some (.int s50.1), none], [.ref 25, .int s50.1], s50.2) rfl ?_
  obtain ⟨q11, h12, h⟩ := Option.bind_eq_some_iff.mp h
  refine rf_cv1 (Mt := mX8_rooms) wf0 rc_X5_sendFrom_ok 29 false rfl (List.mem_of_getElem? (i := 31) rfl) mw_X8_rooms rfl 25 [] [.int s50.1] rfl rfl rfl (Nat.le_of_ble_eq_true rfl) (ok_X8_rooms (d + 1)  s50.2 q11 h12) ?_
  show rf_G _ _ _ (56, [some (.ref 45), some (.ref 25), some (.int l2), some (.int l3), some (.int l4), some (.int s50.1), none], [.int q11, .int s50.1], s50.2) _ _
  by_cases c13 : q11 ≤ s50.1
  · rw [if_pos c13] at h
    refine rf_t wf0 rc_X5_sendFrom_ok 30 (136, [some (.ref 45), some (.ref 25), some (.int l2), some (.int l3), some (.int l4), some (.int s50.1), none], [], s50.2) rfl rfl c13 rfl ?_
    refine rf_fg [false, false, false, false, false, false, true] [none, none, none, none, none, none, none] rfl ?_
    exact kx s50.2 (Option.some.inj h).symm
  · rw [if_neg c13] at h
    refine rf_f wf0 rc_X5_sendFrom_ok 30 (59, [some (.ref 45), some (.ref 25), some (.int l2), some (.int l3), some (.int l4), some (.int s50.1), none], [], s50.2) rfl rfl c13 rfl ?_
    refine rf_b wf0 rc_X5_sendFrom_ok 31 3 (65, [some (.ref 45), some (.ref 25), some (.int l2), some (.int l3), some (.int l4), some (.int s50.1), none], [.int s50.1, .ref 47], s50.2) rfl ?_
    obtain ⟨g14, h⟩ := rf_ifn h
    refine rf_gd wf0 rc_X5_sendFrom_ok 34 (66, [some (.ref 45), some (.ref 25), some (.int l2), some (.int l3), some (.int l4), some (.int s50.1), none], [.int (s50.2.1 47 s50.1.toNatClampNeg)], s50.2) rfl rfl g14 rfl ?_
    refine rf_b wf0 rc_X5_sendFrom_ok 35 5 (75, [some (.ref 45), some (.ref 25), some (.int l2), some (.int l3), some (.int l4), some (.int s50.1), some (.int (s50.2.1 47 s50.1.toNatClampNeg))], [.int s50.1, .ref 47, .int s50.1, .ref 47], s50.2) rfl ?_
    obtain ⟨g15, h⟩ := rf_ifn h
    refine rf_gd wf0 rc_X5_sendFrom_ok 40 (76, [some (.ref 45), some (.ref 25), some (.int l2), some (.int l3), some (.int l4), some (.int s50.1), some (.int (s50.2.1 47 s50.1.toNatClampNeg))], [.int (s50.2.1 47 s50.1.toNatClampNeg), .int s50.1, .ref 47], s50.2) rfl rfl g15 rfl ?_
    refine rf_b wf0 rc_X5_sendFrom_ok 41 7 (86, [some (.ref 45), some (.ref 25), some (.int l2), some (.int l3), some (.int l4), some (.int s50.1), some (.int (s50.2.1 47 s50.1.toNatClampNeg))], [.int ((l2 * 4) + s50.1), .ref 46, .int (s50.2.1 47 s50.1.toNatClampNeg), .int s50.1, .ref 47], s50.2) rfl ?_
    obtain ⟨g16, h⟩ := rf_ifn h
    refine rf_gd wf0 rc_X5_sendFrom_ok 48 (87, [some (.ref 45), some (.ref 25), some (.int l2), some (.int l3), some (.int l4), some (.int s50.1), some (.int (s50.2.1 47 s50.1.toNatClampNeg))], [.int (s50.2.1 46 ((l2 * 4) + s50.1).toNatClampNeg), .int (s50.2.1 47 s50.1.toNatClampNeg), .int s50.1, .ref 47], s50.2) rfl rfl g16 rfl ?_
    refine rf_b wf0 rc_X5_sendFrom_ok 49 1 (88, [some (.ref 45), some (.ref 25), some (.int l2), some (.int l3), some (.int l4), some (.int s50.1), some (.int (s50.2.1 47 s50.1.toNatClampNeg))], [.int ((s50.2.1 47 s50.1.toNatClampNeg) &&& (s50.2.1 46 ((l2 * 4) + s50.1).toNatClampNeg)), .int s50.1, .ref 47], s50.2) rfl ?_
    obtain ⟨g17, h⟩ := rf_ifn h
    refine rf_gd wf0 rc_X5_sendFrom_ok 50 (89, [some (.ref 45), some (.ref 25), some (.int l2), some (.int l3), some (.int l4), some (.int s50.1), some (.int (s50.2.1 47 s50.1.toNatClampNeg))], [], (rf_sI s50.2 47 s50.1.toNatClampNeg ((s50.2.1 47 s50.1.toNatClampNeg) &&& (s50.2.1 46 ((l2 * 4) + s50.1).toNatClampNeg)))) rfl rfl g17 rfl ?_
    obtain ⟨σ18, h19, h⟩ := Option.bind_eq_some_iff.mp h
    refine rf_sgb (Option.some.inj h19) ?_
    refine rf_b wf0 rc_X5_sendFrom_ok 51 4 (96, [some (.ref 45), some (.ref 25), some (.int l2), some (.int l3), some (.int l4), some (.int s50.1), some (.int (s50.2.1 47 s50.1.toNatClampNeg))], [.int s50.1, .int l2, .ref 48], σ18) rfl ?_
    obtain ⟨g20, h⟩ := rf_ifn h
    refine rf_gd wf0 rc_X5_sendFrom_ok 55 (97, [some (.ref 45), some (.ref 25), some (.int l2), some (.int l3), some (.int l4), some (.int s50.1), some (.int (s50.2.1 47 s50.1.toNatClampNeg))], [], (rf_sI σ18 48 l2.toNatClampNeg s50.1)) rfl rfl g20 rfl ?_
    refine rf_b wf0 rc_X5_sendFrom_ok 56 10 (110, [some (.ref 45), some (.ref 25), some (.int l2), some (.int l3), some (.int l4), some (.int s50.1), some (.int (s50.2.1 47 s50.1.toNatClampNeg))], [.int l2, .ref 34, .int s50.1, .int l3, .int (l2 + 1), .ref 25, .ref 45], (rf_sI σ18 48 l2.toNatClampNeg s50.1)) rfl ?_
    obtain ⟨g21, h⟩ := rf_ifn h
    refine rf_gd wf0 rc_X5_sendFrom_ok 66 (111, [some (.ref 45), some (.ref 25), some (.int l2), some (.int l3), some (.int l4), some (.int s50.1), some (.int (s50.2.1 47 s50.1.toNatClampNeg))], [.int ((rf_sI σ18 48 l2.toNatClampNeg s50.1).1 34 l2.toNatClampNeg), .int s50.1, .int l3, .int (l2 + 1), .ref 25, .ref 45], (rf_sI σ18 48 l2.toNatClampNeg s50.1)) rfl rfl g21 rfl ?_
    refine rf_b wf0 rc_X5_sendFrom_ok 67 4 (118, [some (.ref 45), some (.ref 25), some (.int l2), some (.int l3), some (.int l4), some (.int s50.1), some (.int (s50.2.1 47 s50.1.toNatClampNeg))], [.int l4, .int (l3 + (if 0 ≤ (s50.1 - ((rf_sI σ18 48 l2.toNatClampNeg s50.1).1 34 l2.toNatClampNeg)) then (s50.1 - ((rf_sI σ18 48 l2.toNatClampNeg s50.1).1 34 l2.toNatClampNeg)) else 0 - (s50.1 - ((rf_sI σ18 48 l2.toNatClampNeg s50.1).1 34 l2.toNatClampNeg)))), .int (l2 + 1), .ref 25, .ref 45], (rf_sI σ18 48 l2.toNatClampNeg s50.1)) rfl ?_
    obtain ⟨q22, h23, h⟩ := Option.bind_eq_some_iff.mp h
    refine rf_cv1 (Mt := mX5_sendFrom) wf0 rc_X5_sendFrom_ok 71 false rfl (List.mem_of_getElem? (i := 34) rfl) mw_X5_sendFrom rfl 45 [.ref 25, .int (l2 + 1), .int (l3 + (if 0 ≤ (s50.1 - ((rf_sI σ18 48 l2.toNatClampNeg s50.1).1 34 l2.toNatClampNeg)) then (s50.1 - ((rf_sI σ18 48 l2.toNatClampNeg s50.1).1 34 l2.toNatClampNeg)) else 0 - (s50.1 - ((rf_sI σ18 48 l2.toNatClampNeg s50.1).1 34 l2.toNatClampNeg)))), .int l4] [] rfl rfl rfl (Nat.le_of_ble_eq_true rfl) (hrec (l2 + 1) (l3 + (if 0 ≤ (s50.1 - ((rf_sI σ18 48 l2.toNatClampNeg s50.1).1 34 l2.toNatClampNeg)) then (s50.1 - ((rf_sI σ18 48 l2.toNatClampNeg s50.1).1 34 l2.toNatClampNeg)) else 0 - (s50.1 - ((rf_sI σ18 48 l2.toNatClampNeg s50.1).1 34 l2.toNatClampNeg)))) l4 (rf_sI σ18 48 l2.toNatClampNeg s50.1) q22 h23) ?_
    show rf_G _ _ _ (121, [some (.ref 45), some (.ref 25), some (.int l2), some (.int l3), some (.int l4), some (.int s50.1), some (.int (s50.2.1 47 s50.1.toNatClampNeg))], [], q22) _ _
    refine rf_b wf0 rc_X5_sendFrom_ok 72 4 (129, [some (.ref 45), some (.ref 25), some (.int l2), some (.int l3), some (.int l4), some (.int s50.1), some (.int (s50.2.1 47 s50.1.toNatClampNeg))], [.int (s50.2.1 47 s50.1.toNatClampNeg), .int s50.1, .ref 47], q22) rfl ?_
    obtain ⟨g24, h⟩ := rf_ifn h
    refine rf_gd wf0 rc_X5_sendFrom_ok 76 (130, [some (.ref 45), some (.ref 25), some (.int l2), some (.int l3), some (.int l4), some (.int s50.1), some (.int (s50.2.1 47 s50.1.toNatClampNeg))], [], (rf_sI q22 47 s50.1.toNatClampNeg (s50.2.1 47 s50.1.toNatClampNeg))) rfl rfl g24 rfl ?_
    refine rf_b wf0 rc_X5_sendFrom_ok 77 2 (50, [some (.ref 45), some (.ref 25), some (.int l2), some (.int l3), some (.int l4), some (.int (s50.1 + 1)), some (.int (s50.2.1 47 s50.1.toNatClampNeg))], [], (rf_sI q22 47 s50.1.toNatClampNeg (s50.2.1 47 s50.1.toNatClampNeg))) rfl ?_
    refine rf_fg [true, true, true, true, true, true, false] [some (.ref 45), some (.ref 25), some (.int l2), some (.int l3), some (.int l4), some (.int (s50.1 + 1)), none] rfl ?_
    exact kl ((s50.1 + 1), (rf_sI q22 47 s50.1.toNatClampNeg (s50.2.1 47 s50.1.toNatClampNeg))) (Option.some.inj h).symm
def f_X5_sendFrom_j26 (rec : Int32 → Int32 → Int32 → rf_S → Option rf_S) (l2 : Int32) (l3 : Int32) (l4 : Int32) (σ : rf_S) : Option rf_S := (f_X8_members σ).bind (fun q5 => if q5 ≤ l2 then (f_X5_sendFrom_j40 rec l3 σ) else (if l2 < 6 then ((rf_lp (f_X5_sendFrom_b50 rec l2 l3 l4) 5000 (0, σ)).bind (fun e25 => some e25)) else (f_X5_sendFrom_j40 rec l3 σ)))
set_option maxHeartbeats 2000000 in
theorem ok_X5_sendFrom_j26 (d : Nat) (rec : Int32 → Int32 → Int32 → rf_S → Option rf_S) (l2 : Int32) (l3 : Int32) (l4 : Int32) (σ : rf_S) (q : rf_S) (hrec : ∀ (p1 : Int32) (p2 : Int32) (p3 : Int32) (σ : rf_S) (q : rf_S), rec p1 p2 p3 σ = some q → rf_Ex ly0 (d + 2) mX5_sendFrom [.ref 45, .ref 25, .int p1, .int p2, .int p3] σ none q) (h : f_X5_sendFrom_j26 rec l2 l3 l4 σ = some q) : rf_G ly0 (d + 2) mX5_sendFrom (26, [some (.ref 45), some (.ref 25), some (.int l2), some (.int l3), some (.int l4), none, none], [], σ) none q := by
  unfold f_X5_sendFrom_j26 at h
  refine rf_b wf0 rc_X5_sendFrom_ok 13 2 (28, [some (.ref 45), some (.ref 25), some (.int l2), some (.int l3), some (.int l4), none, none], [.ref 25, .int l2], σ) rfl ?_
  obtain ⟨q5, h6, h⟩ := Option.bind_eq_some_iff.mp h
  refine rf_cv1 (Mt := mX8_members) wf0 rc_X5_sendFrom_ok 15 false rfl (List.mem_of_getElem? (i := 30) rfl) mw_X8_members rfl 25 [] [.int l2] rfl rfl rfl (Nat.le_of_ble_eq_true rfl) (ok_X8_members (d + 1)  σ q5 h6) ?_
  show rf_G _ _ _ (31, [some (.ref 45), some (.ref 25), some (.int l2), some (.int l3), some (.int l4), none, none], [.int q5, .int l2], σ) _ _
  by_cases c7 : q5 ≤ l2
  · rw [if_pos c7] at h
    refine rf_t wf0 rc_X5_sendFrom_ok 16 (40, [some (.ref 45), some (.ref 25), some (.int l2), some (.int l3), some (.int l4), none, none], [], σ) rfl rfl c7 rfl ?_
    refine rf_fg [true, true, false, true, false, true, true] [some (.ref 45), some (.ref 25), none, some (.int l3), none, none, none] rfl ?_
    exact ok_X5_sendFrom_j40 d rec l3 σ q hrec h
  · rw [if_neg c7] at h
    refine rf_f wf0 rc_X5_sendFrom_ok 16 (34, [some (.ref 45), some (.ref 25), some (.int l2), some (.int l3), some (.int l4), none, none], [], σ) rfl rfl c7 rfl ?_
    refine rf_b wf0 rc_X5_sendFrom_ok 17 2 (37, [some (.ref 45), some (.ref 25), some (.int l2), some (.int l3), some (.int l4), none, none], [.int 6, .int l2], σ) rfl ?_
    by_cases c10 : l2 < 6
    · rw [if_pos c10] at h
      refine rf_t wf0 rc_X5_sendFrom_ok 19 (47, [some (.ref 45), some (.ref 25), some (.int l2), some (.int l3), some (.int l4), none, none], [], σ) rfl rfl c10 rfl ?_
      refine rf_b wf0 rc_X5_sendFrom_ok 25 2 (50, [some (.ref 45), some (.ref 25), some (.int l2), some (.int l3), some (.int l4), some (.int 0), none], [], σ) rfl ?_
      obtain ⟨e25, h26, h⟩ := Option.bind_eq_some_iff.mp h
      refine rf_lpG (b := f_X5_sendFrom_b50 rec l2 l3 l4) (G := fun (s50 : Int32 × rf_S) => rf_G ly0 (d + 2) mX5_sendFrom (50, [some (.ref 45), some (.ref 25), some (.int l2), some (.int l3), some (.int l4), some (.int s50.1), none], [], s50.2) none q) (K := fun (e : (rf_S)) => rf_G ly0 (d + 2) mX5_sendFrom (136, [none, none, none, none, none, none, none], [], e) none q) (fun (s50 : Int32 × rf_S) (o : (Int32 × rf_S) ⊕ (rf_S)) hb kl kx => ok_X5_sendFrom_b50 d rec l2 l3 l4 s50 o hrec hb kl kx) 5000 (0, σ) e25 h26 ?_
      show rf_G _ _ _ (136, [none, none, none, none, none, none, none], [], e25) _ _
      obtain rfl := Option.some.inj h
      exact rf_rv rc_X5_sendFrom_ok 79 rfl rfl
    · rw [if_neg c10] at h
      refine rf_f wf0 rc_X5_sendFrom_ok 19 (40, [some (.ref 45), some (.ref 25), some (.int l2), some (.int l3), some (.int l4), none, none], [], σ) rfl rfl c10 rfl ?_
      refine rf_fg [true, true, false, true, false, true, true] [some (.ref 45), some (.ref 25), none, some (.int l3), none, none, none] rfl ?_
      exact ok_X5_sendFrom_j40 d rec l3 σ q hrec h
def f_X5_sendFrom_s (rec : Int32 → Int32 → Int32 → rf_S → Option rf_S) (p1 : Int32) (p2 : Int32) (p3 : Int32) (σ : rf_S) : Option rf_S := if p3 < p2 then (some σ) else ((f_X8_rooms σ).bind (fun q2 => if (σ.1 45 4) ≠ q2 then (f_X5_sendFrom_j26 rec p1 p2 p3 σ) else (if p2 < (σ.1 45 5) then (f_X5_sendFrom_j26 rec p1 p2 p3 σ) else (some σ))))
set_option maxHeartbeats 2000000 in
theorem ok_X5_sendFrom_s (d : Nat) (rec : Int32 → Int32 → Int32 → rf_S → Option rf_S) (p1 : Int32) (p2 : Int32) (p3 : Int32) (σ : rf_S) (q : rf_S) (hrec : ∀ (p1 : Int32) (p2 : Int32) (p3 : Int32) (σ : rf_S) (q : rf_S), rec p1 p2 p3 σ = some q → rf_Ex ly0 (d + 2) mX5_sendFrom [.ref 45, .ref 25, .int p1, .int p2, .int p3] σ none q) (h : f_X5_sendFrom_s rec p1 p2 p3 σ = some q) : rf_Ex ly0 (d + 3) mX5_sendFrom [.ref 45, .ref 25, .int p1, .int p2, .int p3] σ none q := by
  unfold f_X5_sendFrom_s at h
  refine rf_ex mw_X5_sendFrom [some (.ref 45), some (.ref 25), some (.int p1), some (.int p2), some (.int p3), none, none] (Nat.le_of_ble_eq_true rfl) rfl ?_
  refine rf_b wf0 rc_X5_sendFrom_ok 0 2 (3, [some (.ref 45), some (.ref 25), some (.int p1), some (.int p2), some (.int p3), none, none], [.int p3, .int p2], σ) rfl ?_
  by_cases c1 : p3 < p2
  · rw [if_pos c1] at h
    refine rf_t wf0 rc_X5_sendFrom_ok 2 (25, [some (.ref 45), some (.ref 25), some (.int p1), some (.int p2), some (.int p3), none, none], [], σ) rfl rfl c1 rfl ?_
    obtain rfl := Option.some.inj h
    exact rf_rv rc_X5_sendFrom_ok 12 rfl rfl
  · rw [if_neg c1] at h
    refine rf_f wf0 rc_X5_sendFrom_ok 2 (6, [some (.ref 45), some (.ref 25), some (.int p1), some (.int p2), some (.int p3), none, none], [], σ) rfl rfl c1 rfl ?_
    refine rf_b wf0 rc_X5_sendFrom_ok 3 3 (11, [some (.ref 45), some (.ref 25), some (.int p1), some (.int p2), some (.int p3), none, none], [.ref 25, .int (σ.1 45 4)], σ) rfl ?_
    obtain ⟨q2, h3, h⟩ := Option.bind_eq_some_iff.mp h
    refine rf_cv1 (Mt := mX8_rooms) wf0 rc_X5_sendFrom_ok 6 false rfl (List.mem_of_getElem? (i := 31) rfl) mw_X8_rooms rfl 25 [] [.int (σ.1 45 4)] rfl rfl rfl (Nat.le_of_ble_eq_true rfl) (ok_X8_rooms (d + 1)  σ q2 h3) ?_
    show rf_G _ _ _ (14, [some (.ref 45), some (.ref 25), some (.int p1), some (.int p2), some (.int p3), none, none], [.int q2, .int (σ.1 45 4)], σ) _ _
    by_cases c4 : (σ.1 45 4) ≠ q2
    · rw [if_pos c4] at h
      refine rf_t wf0 rc_X5_sendFrom_ok 7 (26, [some (.ref 45), some (.ref 25), some (.int p1), some (.int p2), some (.int p3), none, none], [], σ) rfl rfl c4 rfl ?_
      exact ok_X5_sendFrom_j26 d rec p1 p2 p3 σ q hrec h
    · rw [if_neg c4] at h
      refine rf_f wf0 rc_X5_sendFrom_ok 7 (17, [some (.ref 45), some (.ref 25), some (.int p1), some (.int p2), some (.int p3), none, none], [], σ) rfl rfl c4 rfl ?_
      refine rf_b wf0 rc_X5_sendFrom_ok 8 3 (22, [some (.ref 45), some (.ref 25), some (.int p1), some (.int p2), some (.int p3), none, none], [.int (σ.1 45 5), .int p2], σ) rfl ?_
      by_cases c27 : p2 < (σ.1 45 5)
      · rw [if_pos c27] at h
        refine rf_t wf0 rc_X5_sendFrom_ok 11 (26, [some (.ref 45), some (.ref 25), some (.int p1), some (.int p2), some (.int p3), none, none], [], σ) rfl rfl c27 rfl ?_
        exact ok_X5_sendFrom_j26 d rec p1 p2 p3 σ q hrec h
      · rw [if_neg c27] at h
        refine rf_f wf0 rc_X5_sendFrom_ok 11 (25, [some (.ref 45), some (.ref 25), some (.int p1), some (.int p2), some (.int p3), none, none], [], σ) rfl rfl c27 rfl ?_
        obtain rfl := Option.some.inj h
        exact rf_rv rc_X5_sendFrom_ok 12 rfl rfl
def f_X5_sendFrom : Nat → Int32 → Int32 → Int32 → rf_S → Option rf_S
  | 0 => fun _ _ _ _ => none
  | n + 1 => f_X5_sendFrom_s (f_X5_sendFrom n)
theorem ok_X5_sendFrom_n : ∀ (n d : Nat) (p1 : Int32) (p2 : Int32) (p3 : Int32) (σ : rf_S) (q : rf_S), f_X5_sendFrom n p1 p2 p3 σ = some q → rf_Ex ly0 (d + n + 3) mX5_sendFrom [.ref 45, .ref 25, .int p1, .int p2, .int p3] σ none q
  | 0, d, p1, p2, p3, σ, q, h => by cases h
  | n + 1, d, p1, p2, p3, σ, q, h => ok_X5_sendFrom_s (d + (n + 1)) (f_X5_sendFrom n) p1 p2 p3 σ q (fun p1 p2 p3 σ q h => ok_X5_sendFrom_n n d p1 p2 p3 σ q h) h
theorem ok_X5_sendFrom (d : Nat) (p1 : Int32) (p2 : Int32) (p3 : Int32) (σ : rf_S) (q : rf_S) (h : f_X5_sendFrom 8 p1 p2 p3 σ = some q) : rf_Ex ly0 (d + 11) mX5_sendFrom [.ref 45, .ref 25, .int p1, .int p2, .int p3] σ none q := ok_X5_sendFrom_n 8 d p1 p2 p3 σ q h
def rc_X5_seek : List rf_E := [(0, .iconst 0, 1, 0), (1, .istore_n 3, 1, 3), (2, .iload_n 3, 1, 3), (3, .aload_n 1, 1, 1), (4, .invokevirtual 24, 3, 0), (7, .if_icmp .ge 50, 3, 57), (10, .iconst 0, 1, 0), (11, .istore 4, 2, 4), (13, .iload 4, 2, 4), (15, .aload_n 1, 1, 1), (16, .invokevirtual 30, 3, 0), (19, .if_icmp .ge 32, 3, 51), (22, .aload_n 0, 1, 0), (23, .getfield 9, 3, 500), (26, .iload_n 3, 1, 3), (27, .iconst 4, 1, 0), (28, .imul, 1, 0), (29, .iload 4, 2, 4), (31, .iadd, 1, 0), (32, .aload_n 1, 1, 1), (33, .iload_n 3, 1, 3), (34, .aload_n 1, 1, 1), (35, .getfield 33, 3, 801), (38, .iload 4, 2, 4), (40, .iaload, 1, 0), (41, .invokevirtual 36, 3, 0), (44, .iastore, 1, 0), (45, .iinc 4 1, 3, 4), (48, .goto (-35), 3, 13), (51, .iinc 3 1, 3, 3), (54, .goto (-52), 3, 2), (57, .aload_n 0, 1, 0), (58, .getfield 15, 3, 501), (61, .ldc 40, 2, 2147483647), (63, .invokestatic 41, 3, 0), (66, .aload_n 0, 1, 0), (67, .iconst (-1), 1, 0), (68, .putfield 47, 3, 504), (71, .aload_n 0, 1, 0), (72, .iconst 0, 1, 0), (73, .putfield 51, 3, 505), (76, .aload_n 0, 1, 0), (77, .aload_n 1, 1, 1), (78, .iconst 0, 1, 0), (79, .iconst 0, 1, 0), (80, .iload_n 2, 1, 2), (81, .invokevirtual 54, 3, 0), (84, .return_, 1, 0)]
theorem rc_X5_seek_ok : rf_rc mX5_seek rc_X5_seek = true := by decide +kernel
theorem mw_X5_seek : rf_mw mX5_seek := ⟨rf_mt_ok _ (List.mem_of_getElem? (i := 34) rfl), fun h => absurd h (by decide), fun _ => ⟨rf_mi_ok _ (List.mem_of_getElem? (i := 31) rfl), rf_mv_ok _ (List.mem_of_getElem? (i := 31) rfl)⟩, rf_mq_1 _ (List.mem_of_getElem? (i := 9) rfl)⟩
def f_X5_seek_b13 (l2 : Int32) (l3 : Int32) (s13 : Int32 × rf_S) : Option ((Int32 × rf_S) ⊕ (rf_S)) := (f_X8_rooms s13.2).bind (fun q4 => if q4 ≤ s13.1 then (some (.inr s13.2)) else (if rf_ck ly0 0 33 s13.1 = true then ((f_X8_likeAt l3 (s13.2.1 33 s13.1.toNatClampNeg) s13.2).bind (fun q8 => if rf_ck ly0 0 46 ((l3 * 4) + s13.1) = true then (some (.inl ((s13.1 + 1), (rf_sI s13.2 46 ((l3 * 4) + s13.1).toNatClampNeg q8)))) else none)) else none))
set_option maxHeartbeats 2000000 in
theorem ok_X5_seek_b13 (d : Nat) (l2 : Int32) (l3 : Int32) (s13 : Int32 × rf_S) (o : ((Int32 × rf_S) ⊕ (rf_S))) (h : f_X5_seek_b13 l2 l3 s13 = some o) {r : Option Value} {σr : rf_S} (kl : ∀ s', o = .inl s' → rf_G ly0 (d + 11) mX5_seek (13, [some (.ref 45), some (.ref 25), some (.int l2), some (.int l3), some (.int s'.1)], [], s'.2) r σr) (kx : ∀ e, o = .inr e → rf_G ly0 (d + 11) mX5_seek (51, [some (.ref 45), some (.ref 25), some (.int l2), some (.int l3), none], [], e) r σr) : rf_G ly0 (d + 11) mX5_seek (13, [some (.ref 45), some (.ref 25), some (.int l2), some (.int l3), some (.int s13.1)], [], s13.2) r σr := by
  unfold f_X5_seek_b13 at h
  refine rf_b wf0 rc_X5_seek_ok 8 2 (16, [some (.ref 45), some (.ref 25), some (.int l2), some (.int l3), some (.int s13.1)], [.ref 25, .int s13.1], s13.2) rfl ?_
  obtain ⟨q4, h5, h⟩ := Option.bind_eq_some_iff.mp h
  refine rf_cv1 (Mt := mX8_rooms) wf0 rc_X5_seek_ok 10 false rfl (List.mem_of_getElem? (i := 31) rfl) mw_X8_rooms rfl 25 [] [.int s13.1] rfl rfl rfl (Nat.le_of_ble_eq_true rfl) (ok_X8_rooms (d + 10)  s13.2 q4 h5) ?_
  show rf_G _ _ _ (19, [some (.ref 45), some (.ref 25), some (.int l2), some (.int l3), some (.int s13.1)], [.int q4, .int s13.1], s13.2) _ _
  by_cases c6 : q4 ≤ s13.1
  · rw [if_pos c6] at h
    refine rf_t wf0 rc_X5_seek_ok 11 (51, [some (.ref 45), some (.ref 25), some (.int l2), some (.int l3), some (.int s13.1)], [], s13.2) rfl rfl c6 rfl ?_
    refine rf_fg [true, true, true, true, false] [some (.ref 45), some (.ref 25), some (.int l2), some (.int l3), none] rfl ?_
    exact kx s13.2 (Option.some.inj h).symm
  · rw [if_neg c6] at h
    refine rf_f wf0 rc_X5_seek_ok 11 (22, [some (.ref 45), some (.ref 25), some (.int l2), some (.int l3), some (.int s13.1)], [], s13.2) rfl rfl c6 rfl ?_
    refine rf_b wf0 rc_X5_seek_ok 12 12 (40, [some (.ref 45), some (.ref 25), some (.int l2), some (.int l3), some (.int s13.1)], [.int s13.1, .ref 33, .int l3, .ref 25, .int ((l3 * 4) + s13.1), .ref 46], s13.2) rfl ?_
    obtain ⟨g7, h⟩ := rf_ifn h
    refine rf_gd wf0 rc_X5_seek_ok 24 (41, [some (.ref 45), some (.ref 25), some (.int l2), some (.int l3), some (.int s13.1)], [.int (s13.2.1 33 s13.1.toNatClampNeg), .int l3, .ref 25, .int ((l3 * 4) + s13.1), .ref 46], s13.2) rfl rfl g7 rfl ?_
    obtain ⟨q8, h9, h⟩ := Option.bind_eq_some_iff.mp h
    refine rf_cv1 (Mt := mX8_likeAt) wf0 rc_X5_seek_ok 25 false rfl (List.mem_of_getElem? (i := 32) rfl) mw_X8_likeAt rfl 25 [.int l3, .int (s13.2.1 33 s13.1.toNatClampNeg)] [.int ((l3 * 4) + s13.1), .ref 46] rfl rfl rfl (Nat.le_of_ble_eq_true rfl) (ok_X8_likeAt (d + 7) l3 (s13.2.1 33 s13.1.toNatClampNeg) s13.2 q8 h9) ?_
    show rf_G _ _ _ (44, [some (.ref 45), some (.ref 25), some (.int l2), some (.int l3), some (.int s13.1)], [.int q8, .int ((l3 * 4) + s13.1), .ref 46], s13.2) _ _
    obtain ⟨g10, h⟩ := rf_ifn h
    refine rf_gd wf0 rc_X5_seek_ok 26 (45, [some (.ref 45), some (.ref 25), some (.int l2), some (.int l3), some (.int s13.1)], [], (rf_sI s13.2 46 ((l3 * 4) + s13.1).toNatClampNeg q8)) rfl rfl g10 rfl ?_
    refine rf_b wf0 rc_X5_seek_ok 27 2 (13, [some (.ref 45), some (.ref 25), some (.int l2), some (.int l3), some (.int (s13.1 + 1))], [], (rf_sI s13.2 46 ((l3 * 4) + s13.1).toNatClampNeg q8)) rfl ?_
    exact kl ((s13.1 + 1), (rf_sI s13.2 46 ((l3 * 4) + s13.1).toNatClampNeg q8)) (Option.some.inj h).symm
def f_X5_seek_b2 (l2 : Int32) (s2 : Int32 × rf_S) : Option ((Int32 × rf_S) ⊕ (rf_S)) := (f_X8_members s2.2).bind (fun q1 => if q1 ≤ s2.1 then (some (.inr s2.2)) else ((rf_lp (f_X5_seek_b13 l2 s2.1) 5000 (0, s2.2)).bind (fun e11 => some (.inl ((s2.1 + 1), e11)))))
set_option maxHeartbeats 2000000 in
theorem ok_X5_seek_b2 (d : Nat) (l2 : Int32) (s2 : Int32 × rf_S) (o : ((Int32 × rf_S) ⊕ (rf_S))) (h : f_X5_seek_b2 l2 s2 = some o) {r : Option Value} {σr : rf_S} (kl : ∀ s', o = .inl s' → rf_G ly0 (d + 11) mX5_seek (2, [some (.ref 45), some (.ref 25), some (.int l2), some (.int s'.1), none], [], s'.2) r σr) (kx : ∀ e, o = .inr e → rf_G ly0 (d + 11) mX5_seek (57, [some (.ref 45), some (.ref 25), some (.int l2), none, none], [], e) r σr) : rf_G ly0 (d + 11) mX5_seek (2, [some (.ref 45), some (.ref 25), some (.int l2), some (.int s2.1), none], [], s2.2) r σr := by
  unfold f_X5_seek_b2 at h
  refine rf_b wf0 rc_X5_seek_ok 2 2 (4, [some (.ref 45), some (.ref 25), some (.int l2), some (.int s2.1), none], [.ref 25, .int s2.1], s2.2) rfl ?_
  obtain ⟨q1, h2, h⟩ := Option.bind_eq_some_iff.mp h
  refine rf_cv1 (Mt := mX8_members) wf0 rc_X5_seek_ok 4 false rfl (List.mem_of_getElem? (i := 30) rfl) mw_X8_members rfl 25 [] [.int s2.1] rfl rfl rfl (Nat.le_of_ble_eq_true rfl) (ok_X8_members (d + 10)  s2.2 q1 h2) ?_
  show rf_G _ _ _ (7, [some (.ref 45), some (.ref 25), some (.int l2), some (.int s2.1), none], [.int q1, .int s2.1], s2.2) _ _
  by_cases c3 : q1 ≤ s2.1
  · rw [if_pos c3] at h
    refine rf_t wf0 rc_X5_seek_ok 5 (57, [some (.ref 45), some (.ref 25), some (.int l2), some (.int s2.1), none], [], s2.2) rfl rfl c3 rfl ?_
    refine rf_fg [true, true, true, false, true] [some (.ref 45), some (.ref 25), some (.int l2), none, none] rfl ?_
    exact kx s2.2 (Option.some.inj h).symm
  · rw [if_neg c3] at h
    refine rf_f wf0 rc_X5_seek_ok 5 (10, [some (.ref 45), some (.ref 25), some (.int l2), some (.int s2.1), none], [], s2.2) rfl rfl c3 rfl ?_
    refine rf_b wf0 rc_X5_seek_ok 6 2 (13, [some (.ref 45), some (.ref 25), some (.int l2), some (.int s2.1), some (.int 0)], [], s2.2) rfl ?_
    obtain ⟨e11, h12, h⟩ := Option.bind_eq_some_iff.mp h
    refine rf_lpG (b := f_X5_seek_b13 l2 s2.1) (G := fun (s13 : Int32 × rf_S) => rf_G ly0 (d + 11) mX5_seek (13, [some (.ref 45), some (.ref 25), some (.int l2), some (.int s2.1), some (.int s13.1)], [], s13.2) r σr) (K := fun (e : (rf_S)) => rf_G ly0 (d + 11) mX5_seek (51, [some (.ref 45), some (.ref 25), some (.int l2), some (.int s2.1), none], [], e) r σr) (fun (s13 : Int32 × rf_S) (o : (Int32 × rf_S) ⊕ (rf_S)) hb kl kx => ok_X5_seek_b13 d l2 s2.1 s13 o hb kl kx) 5000 (0, s2.2) e11 h12 ?_
    show rf_G _ _ _ (51, [some (.ref 45), some (.ref 25), some (.int l2), some (.int s2.1), none], [], e11) _ _
    refine rf_b wf0 rc_X5_seek_ok 29 2 (2, [some (.ref 45), some (.ref 25), some (.int l2), some (.int (s2.1 + 1)), none], [], e11) rfl ?_
    exact kl ((s2.1 + 1), e11) (Option.some.inj h).symm
def f_X5_seek (p1 : Int32) (σ : rf_S) : Option rf_S := (rf_lp (f_X5_seek_b2 p1) 5000 (0, σ)).bind (fun e13 => (f_J_fillI 47 2147483647 e13).bind (fun q15 => (f_X5_sendFrom 8 0 0 p1 (rf_sI (rf_sI q15 45 4 (-1)) 45 5 0)).bind (fun q17 => some q17)))
set_option maxHeartbeats 2000000 in
theorem ok_X5_seek (d : Nat) (p1 : Int32) (σ : rf_S) (q : rf_S) (h : f_X5_seek p1 σ = some q) : rf_Ex ly0 (d + 12) mX5_seek [.ref 45, .ref 25, .int p1] σ none q := by
  unfold f_X5_seek at h
  refine rf_ex mw_X5_seek [some (.ref 45), some (.ref 25), some (.int p1), none, none] (Nat.le_of_ble_eq_true rfl) rfl ?_
  refine rf_b wf0 rc_X5_seek_ok 0 2 (2, [some (.ref 45), some (.ref 25), some (.int p1), some (.int 0), none], [], σ) rfl ?_
  obtain ⟨e13, h14, h⟩ := Option.bind_eq_some_iff.mp h
  refine rf_lpG (b := f_X5_seek_b2 p1) (G := fun (s2 : Int32 × rf_S) => rf_G ly0 (d + 11) mX5_seek (2, [some (.ref 45), some (.ref 25), some (.int p1), some (.int s2.1), none], [], s2.2) none q) (K := fun (e : (rf_S)) => rf_G ly0 (d + 11) mX5_seek (57, [some (.ref 45), some (.ref 25), some (.int p1), none, none], [], e) none q) (fun (s2 : Int32 × rf_S) (o : (Int32 × rf_S) ⊕ (rf_S)) hb kl kx => ok_X5_seek_b2 d p1 s2 o hb kl kx) 5000 (0, σ) e13 h14 ?_
  show rf_G _ _ _ (57, [some (.ref 45), some (.ref 25), some (.int p1), none, none], [], e13) _ _
  refine rf_b wf0 rc_X5_seek_ok 31 3 (63, [some (.ref 45), some (.ref 25), some (.int p1), none, none], [.int 2147483647, .ref 47], e13) rfl ?_
  obtain ⟨q15, h16, h⟩ := Option.bind_eq_some_iff.mp h
  refine rf_cs1 (Mt := mJ7_fill_53178) rc_X5_seek_ok 34 false rfl (List.mem_of_getElem? (i := 33) rfl) mw_J_fillI rfl [.ref 47, .int 2147483647] [] rfl rfl (Nat.le_of_ble_eq_true rfl) (ok_J_fillI (d + 10) 47 2147483647 e13 q15 h16) ?_
  show rf_G _ _ _ (66, [some (.ref 45), some (.ref 25), some (.int p1), none, none], [], q15) _ _
  refine rf_b wf0 rc_X5_seek_ok 35 11 (81, [some (.ref 45), some (.ref 25), some (.int p1), none, none], [.int p1, .int 0, .int 0, .ref 25, .ref 45], (rf_sI (rf_sI q15 45 4 (-1)) 45 5 0)) rfl ?_
  obtain ⟨q17, h18, h⟩ := Option.bind_eq_some_iff.mp h
  refine rf_cv1 (Mt := mX5_sendFrom) wf0 rc_X5_seek_ok 46 false rfl (List.mem_of_getElem? (i := 34) rfl) mw_X5_sendFrom rfl 45 [.ref 25, .int 0, .int 0, .int p1] [] rfl rfl rfl (Nat.le_of_ble_eq_true rfl) (ok_X5_sendFrom d 0 0 p1 (rf_sI (rf_sI q15 45 4 (-1)) 45 5 0) q17 h18) ?_
  show rf_G _ _ _ (84, [some (.ref 45), some (.ref 25), some (.int p1), none, none], [], q17) _ _
  obtain rfl := Option.some.inj h
  exact rf_rv rc_X5_seek_ok 47 rfl rfl
def rc_X6_look : List rf_E := [(0, .aload_n 0, 1, 0), (1, .getfield 9, 3, 600), (4, .iconst 0, 1, 0), (5, .invokestatic 18, 3, 0), (8, .iconst 0, 1, 0), (9, .istore_n 2, 1, 2), (10, .iload_n 2, 1, 2), (11, .aload_n 1, 1, 1), (12, .invokevirtual 24, 3, 0), (15, .if_icmp .ge 49, 3, 64), (18, .aload_n 1, 1, 1), (19, .iload_n 2, 1, 2), (20, .invokevirtual 30, 3, 0), (23, .istore_n 3, 1, 3), (24, .iconst 0, 1, 0), (25, .istore 4, 2, 4), (27, .iload 4, 2, 4), (29, .bipush 30, 2, 0), (31, .if_icmp .gt 27, 3, 58), (34, .aload_n 0, 1, 0), (35, .getfield 9, 3, 600), (38, .iload 4, 2, 4), (40, .dup2, 1, 0), (41, .iaload, 1, 0), (42, .iload_n 3, 1, 3), (43, .iload 4, 2, 4), (45, .ishr, 1, 0), (46, .iconst 1, 1, 0), (47, .iand, 1, 0), (48, .iload_n 2, 1, 2), (49, .ishl, 1, 0), (50, .ior, 1, 0), (51, .iastore, 1, 0), (52, .iinc 4 1, 3, 4), (55, .goto (-28), 3, 27), (58, .iinc 2 1, 3, 2), (61, .goto (-51), 3, 10), (64, .return_, 1, 0)]
theorem rc_X6_look_ok : rf_rc mX6_look rc_X6_look = true := by decide +kernel
theorem mw_X6_look : rf_mw mX6_look := ⟨rf_mt_ok _ (List.mem_of_getElem? (i := 37) rfl), fun h => absurd h (by decide), fun _ => ⟨rf_mi_ok _ (List.mem_of_getElem? (i := 34) rfl), rf_mv_ok _ (List.mem_of_getElem? (i := 34) rfl)⟩, rf_mq_1 _ (List.mem_of_getElem? (i := 12) rfl)⟩
def f_X6_look_b27 (l2 : Int32) (l3 : Int32) (s27 : Int32 × rf_S) : Option ((Int32 × rf_S) ⊕ (rf_S)) := if 30 < s27.1 then (some (.inr s27.2)) else (if rf_ck ly0 0 51 s27.1 = true then (if rf_ck ly0 0 51 s27.1 = true then ((some (rf_sI s27.2 51 s27.1.toNatClampNeg ((s27.2.1 51 s27.1.toNatClampNeg) ||| (((l3 >>> (s27.1 &&& 31)) &&& 1) <<< (l2 &&& 31))))).bind (fun σ11 => some (.inl ((s27.1 + 1), σ11)))) else none) else none)
set_option maxHeartbeats 2000000 in
theorem ok_X6_look_b27 (d : Nat) (l2 : Int32) (l3 : Int32) (s27 : Int32 × rf_S) (o : ((Int32 × rf_S) ⊕ (rf_S))) (h : f_X6_look_b27 l2 l3 s27 = some o) {r : Option Value} {σr : rf_S} (kl : ∀ s', o = .inl s' → rf_G ly0 (d + 3) mX6_look (27, [some (.ref 50), some (.ref 25), some (.int l2), some (.int l3), some (.int s'.1)], [], s'.2) r σr) (kx : ∀ e, o = .inr e → rf_G ly0 (d + 3) mX6_look (58, [some (.ref 50), some (.ref 25), some (.int l2), none, none], [], e) r σr) : rf_G ly0 (d + 3) mX6_look (27, [some (.ref 50), some (.ref 25), some (.int l2), some (.int l3), some (.int s27.1)], [], s27.2) r σr := by
  unfold f_X6_look_b27 at h
  refine rf_b wf0 rc_X6_look_ok 16 2 (31, [some (.ref 50), some (.ref 25), some (.int l2), some (.int l3), some (.int s27.1)], [.int 30, .int s27.1], s27.2) rfl ?_
  by_cases c8 : 30 < s27.1
  · rw [if_pos c8] at h
    refine rf_t wf0 rc_X6_look_ok 18 (58, [some (.ref 50), some (.ref 25), some (.int l2), some (.int l3), some (.int s27.1)], [], s27.2) rfl rfl c8 rfl ?_
    refine rf_fg [true, true, true, false, false] [some (.ref 50), some (.ref 25), some (.int l2), none, none] rfl ?_
    exact kx s27.2 (Option.some.inj h).symm
  · rw [if_neg c8] at h
    refine rf_f wf0 rc_X6_look_ok 18 (34, [some (.ref 50), some (.ref 25), some (.int l2), some (.int l3), some (.int s27.1)], [], s27.2) rfl rfl c8 rfl ?_
    refine rf_b wf0 rc_X6_look_ok 19 4 (41, [some (.ref 50), some (.ref 25), some (.int l2), some (.int l3), some (.int s27.1)], [.int s27.1, .ref 51, .int s27.1, .ref 51], s27.2) rfl ?_
    obtain ⟨g9, h⟩ := rf_ifn h
    refine rf_gd wf0 rc_X6_look_ok 23 (42, [some (.ref 50), some (.ref 25), some (.int l2), some (.int l3), some (.int s27.1)], [.int (s27.2.1 51 s27.1.toNatClampNeg), .int s27.1, .ref 51], s27.2) rfl rfl g9 rfl ?_
    refine rf_b wf0 rc_X6_look_ok 24 8 (51, [some (.ref 50), some (.ref 25), some (.int l2), some (.int l3), some (.int s27.1)], [.int ((s27.2.1 51 s27.1.toNatClampNeg) ||| (((l3 >>> (s27.1 &&& 31)) &&& 1) <<< (l2 &&& 31))), .int s27.1, .ref 51], s27.2) rfl ?_
    obtain ⟨g10, h⟩ := rf_ifn h
    refine rf_gd wf0 rc_X6_look_ok 32 (52, [some (.ref 50), some (.ref 25), some (.int l2), some (.int l3), some (.int s27.1)], [], (rf_sI s27.2 51 s27.1.toNatClampNeg ((s27.2.1 51 s27.1.toNatClampNeg) ||| (((l3 >>> (s27.1 &&& 31)) &&& 1) <<< (l2 &&& 31))))) rfl rfl g10 rfl ?_
    obtain ⟨σ11, h12, h⟩ := Option.bind_eq_some_iff.mp h
    refine rf_sgb (Option.some.inj h12) ?_
    refine rf_b wf0 rc_X6_look_ok 33 2 (27, [some (.ref 50), some (.ref 25), some (.int l2), some (.int l3), some (.int (s27.1 + 1))], [], σ11) rfl ?_
    exact kl ((s27.1 + 1), σ11) (Option.some.inj h).symm
def f_X6_look_b10 (s10 : Int32 × rf_S) : Option ((Int32 × rf_S) ⊕ (rf_S)) := (f_X8_members s10.2).bind (fun q3 => if q3 ≤ s10.1 then (some (.inr s10.2)) else ((f_X8_does s10.1 s10.2).bind (fun q6 => (rf_lp (f_X6_look_b27 s10.1 q6) 5000 (0, s10.2)).bind (fun e13 => some (.inl ((s10.1 + 1), e13))))))
set_option maxHeartbeats 2000000 in
theorem ok_X6_look_b10 (d : Nat) (s10 : Int32 × rf_S) (o : ((Int32 × rf_S) ⊕ (rf_S))) (h : f_X6_look_b10 s10 = some o) {r : Option Value} {σr : rf_S} (kl : ∀ s', o = .inl s' → rf_G ly0 (d + 3) mX6_look (10, [some (.ref 50), some (.ref 25), some (.int s'.1), none, none], [], s'.2) r σr) (kx : ∀ e, o = .inr e → rf_G ly0 (d + 3) mX6_look (64, [none, none, none, none, none], [], e) r σr) : rf_G ly0 (d + 3) mX6_look (10, [some (.ref 50), some (.ref 25), some (.int s10.1), none, none], [], s10.2) r σr := by
  unfold f_X6_look_b10 at h
  refine rf_b wf0 rc_X6_look_ok 6 2 (12, [some (.ref 50), some (.ref 25), some (.int s10.1), none, none], [.ref 25, .int s10.1], s10.2) rfl ?_
  obtain ⟨q3, h4, h⟩ := Option.bind_eq_some_iff.mp h
  refine rf_cv1 (Mt := mX8_members) wf0 rc_X6_look_ok 8 false rfl (List.mem_of_getElem? (i := 39) rfl) mw_X8_members rfl 25 [] [.int s10.1] rfl rfl rfl (Nat.le_of_ble_eq_true rfl) (ok_X8_members (d + 2)  s10.2 q3 h4) ?_
  show rf_G _ _ _ (15, [some (.ref 50), some (.ref 25), some (.int s10.1), none, none], [.int q3, .int s10.1], s10.2) _ _
  by_cases c5 : q3 ≤ s10.1
  · rw [if_pos c5] at h
    refine rf_t wf0 rc_X6_look_ok 9 (64, [some (.ref 50), some (.ref 25), some (.int s10.1), none, none], [], s10.2) rfl rfl c5 rfl ?_
    refine rf_fg [false, false, false, true, true] [none, none, none, none, none] rfl ?_
    exact kx s10.2 (Option.some.inj h).symm
  · rw [if_neg c5] at h
    refine rf_f wf0 rc_X6_look_ok 9 (18, [some (.ref 50), some (.ref 25), some (.int s10.1), none, none], [], s10.2) rfl rfl c5 rfl ?_
    refine rf_b wf0 rc_X6_look_ok 10 2 (20, [some (.ref 50), some (.ref 25), some (.int s10.1), none, none], [.int s10.1, .ref 25], s10.2) rfl ?_
    obtain ⟨q6, h7, h⟩ := Option.bind_eq_some_iff.mp h
    refine rf_cv1 (Mt := mX8_does) wf0 rc_X6_look_ok 12 false rfl (List.mem_of_getElem? (i := 40) rfl) mw_X8_does rfl 25 [.int s10.1] [] rfl rfl rfl (Nat.le_of_ble_eq_true rfl) (ok_X8_does d s10.1 s10.2 q6 h7) ?_
    show rf_G _ _ _ (23, [some (.ref 50), some (.ref 25), some (.int s10.1), none, none], [.int q6], s10.2) _ _
    refine rf_b wf0 rc_X6_look_ok 13 3 (27, [some (.ref 50), some (.ref 25), some (.int s10.1), some (.int q6), some (.int 0)], [], s10.2) rfl ?_
    obtain ⟨e13, h14, h⟩ := Option.bind_eq_some_iff.mp h
    refine rf_lpG (b := f_X6_look_b27 s10.1 q6) (G := fun (s27 : Int32 × rf_S) => rf_G ly0 (d + 3) mX6_look (27, [some (.ref 50), some (.ref 25), some (.int s10.1), some (.int q6), some (.int s27.1)], [], s27.2) r σr) (K := fun (e : (rf_S)) => rf_G ly0 (d + 3) mX6_look (58, [some (.ref 50), some (.ref 25), some (.int s10.1), none, none], [], e) r σr) (fun (s27 : Int32 × rf_S) (o : (Int32 × rf_S) ⊕ (rf_S)) hb kl kx => ok_X6_look_b27 d s10.1 q6 s27 o hb kl kx) 5000 (0, s10.2) e13 h14 ?_
    show rf_G _ _ _ (58, [some (.ref 50), some (.ref 25), some (.int s10.1), none, none], [], e13) _ _
    refine rf_b wf0 rc_X6_look_ok 35 2 (10, [some (.ref 50), some (.ref 25), some (.int (s10.1 + 1)), none, none], [], e13) rfl ?_
    exact kl ((s10.1 + 1), e13) (Option.some.inj h).symm
def f_X6_look (σ : rf_S) : Option rf_S := (f_J_fillI 51 0 σ).bind (fun q1 => (rf_lp f_X6_look_b10 5000 (0, q1)).bind (fun e15 => some e15))
set_option maxHeartbeats 2000000 in
theorem ok_X6_look (d : Nat) (σ : rf_S) (q : rf_S) (h : f_X6_look σ = some q) : rf_Ex ly0 (d + 4) mX6_look [.ref 50, .ref 25] σ none q := by
  unfold f_X6_look at h
  refine rf_ex mw_X6_look [some (.ref 50), some (.ref 25), none, none, none] (Nat.le_of_ble_eq_true rfl) rfl ?_
  refine rf_b wf0 rc_X6_look_ok 0 3 (5, [some (.ref 50), some (.ref 25), none, none, none], [.int 0, .ref 51], σ) rfl ?_
  obtain ⟨q1, h2, h⟩ := Option.bind_eq_some_iff.mp h
  refine rf_cs1 (Mt := mJ7_fill_53178) rc_X6_look_ok 3 false rfl (List.mem_of_getElem? (i := 38) rfl) mw_J_fillI rfl [.ref 51, .int 0] [] rfl rfl (Nat.le_of_ble_eq_true rfl) (ok_J_fillI (d + 2) 51 0 σ q1 h2) ?_
  show rf_G _ _ _ (8, [some (.ref 50), some (.ref 25), none, none, none], [], q1) _ _
  refine rf_b wf0 rc_X6_look_ok 4 2 (10, [some (.ref 50), some (.ref 25), some (.int 0), none, none], [], q1) rfl ?_
  obtain ⟨e15, h16, h⟩ := Option.bind_eq_some_iff.mp h
  refine rf_lpG (b := f_X6_look_b10) (G := fun (s10 : Int32 × rf_S) => rf_G ly0 (d + 3) mX6_look (10, [some (.ref 50), some (.ref 25), some (.int s10.1), none, none], [], s10.2) none q) (K := fun (e : (rf_S)) => rf_G ly0 (d + 3) mX6_look (64, [none, none, none, none, none], [], e) none q) (fun (s10 : Int32 × rf_S) (o : (Int32 × rf_S) ⊕ (rf_S)) hb kl kx => ok_X6_look_b10 d  s10 o hb kl kx) 5000 (0, q1) e15 h16 ?_
  show rf_G _ _ _ (64, [none, none, none, none, none], [], e15) _ _
  obtain rfl := Option.some.inj h
  exact rf_rv rc_X6_look_ok 37 rfl rfl
