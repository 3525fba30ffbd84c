def rc_X10_town : List rf_E := [(0, .iload_n 1, 1, 1), (1, .iconst 0, 1, 0), (2, .iconst 3, 1, 0), (3, .invokestatic 78, 3, 0), (6, .ifCond .ne 5, 3, 11), (9, .iconst (-1), 1, 0), (10, .ireturn, 1, 0), (11, .aload_n 0, 1, 0), (12, .getfield 16, 3, 1002), (15, .iload_n 1, 1, 1), (16, .iaload, 1, 0), (17, .ifCond .ge 9, 3, 26), (20, .aload_n 0, 1, 0), (21, .iconst 1, 1, 0), (22, .invokevirtual 85, 3, 0), (25, .ireturn, 1, 0), (26, .aload_n 0, 1, 0), (27, .iload_n 1, 1, 1), (28, .invokevirtual 140, 3, 0), (31, .bipush (-9), 2, 0), (33, .if_icmp .eq 6, 3, 39), (36, .bipush (-4), 2, 0), (38, .ireturn, 1, 0), (39, .iconst 0, 1, 0), (40, .istore_n 2, 1, 2), (41, .iload_n 2, 1, 2), (42, .bipush 25, 2, 0), (44, .if_icmp .ge 16, 3, 60), (47, .aload_n 0, 1, 0), (48, .getfield 47, 3, 1022), (51, .iload_n 2, 1, 2), (52, .iconst 0, 1, 0), (53, .iastore, 1, 0), (54, .iinc 2 1, 3, 2), (57, .goto (-16), 3, 41), (60, .aload_n 0, 1, 0), (61, .aload_n 0, 1, 0), (62, .getfield 115, 3, 1012), (65, .putfield 82, 3, 1016), (68, .aload_n 0, 1, 0), (69, .aload_n 0, 1, 0), (70, .getfield 118, 3, 1013), (73, .putfield 75, 3, 1017), (76, .iconst 0, 1, 0), (77, .istore_n 2, 1, 2), (78, .iload_n 2, 1, 2), (79, .aload_n 0, 1, 0), (80, .getfield 82, 3, 1016), (83, .if_icmp .ge 39, 3, 122), (86, .aload_n 0, 1, 0), (87, .getfield 47, 3, 1022), (90, .iload_n 2, 1, 2), (91, .aload_n 0, 1, 0), (92, .getfield 29, 3, 1014), (95, .iconst 2, 1, 0), (96, .iload_n 2, 1, 2), (97, .imul, 1, 0), (98, .iaload, 1, 0), (99, .iastore, 1, 0), (100, .aload_n 0, 1, 0), (101, .getfield 35, 3, 1018), (104, .iload_n 2, 1, 2), (105, .aload_n 0, 1, 0), (106, .getfield 29, 3, 1014), (109, .iconst 2, 1, 0), (110, .iload_n 2, 1, 2), (111, .imul, 1, 0), (112, .iconst 1, 1, 0), (113, .iadd, 1, 0), (114, .iaload, 1, 0), (115, .iastore, 1, 0), (116, .iinc 2 1, 3, 2), (119, .goto (-41), 3, 78), (122, .iconst 0, 1, 0), (123, .istore_n 2, 1, 2), (124, .iload_n 2, 1, 2), (125, .aload_n 0, 1, 0), (126, .getfield 75, 3, 1017), (129, .if_icmp .ge 73, 3, 202), (132, .aload_n 0, 1, 0), (133, .getfield 38, 3, 1019), (136, .iload_n 2, 1, 2), (137, .aload_n 0, 1, 0), (138, .getfield 32, 3, 1015), (141, .iconst 4, 1, 0), (142, .iload_n 2, 1, 2), (143, .imul, 1, 0), (144, .iaload, 1, 0), (145, .iastore, 1, 0), (146, .aload_n 0, 1, 0), (147, .getfield 41, 3, 1020), (150, .iload_n 2, 1, 2), (151, .aload_n 0, 1, 0), (152, .getfield 32, 3, 1015), (155, .iconst 4, 1, 0), (156, .iload_n 2, 1, 2), (157, .imul, 1, 0), (158, .iconst 1, 1, 0), (159, .iadd, 1, 0), (160, .iaload, 1, 0), (161, .iastore, 1, 0), (162, .aload_n 0, 1, 0), (163, .getfield 44, 3, 1021), (166, .iload_n 2, 1, 2), (167, .aload_n 0, 1, 0), (168, .getfield 32, 3, 1015), (171, .iconst 4, 1, 0), (172, .iload_n 2, 1, 2), (173, .imul, 1, 0), (174, .iconst 2, 1, 0), (175, .iadd, 1, 0), (176, .iaload, 1, 0), (177, .iastore, 1, 0), (178, .aload_n 0, 1, 0), (179, .getfield 47, 3, 1022), (182, .iconst 4, 1, 0), (183, .iload_n 2, 1, 2), (184, .iadd, 1, 0), (185, .aload_n 0, 1, 0), (186, .getfield 32, 3, 1015), (189, .iconst 4, 1, 0), (190, .iload_n 2, 1, 2), (191, .imul, 1, 0), (192, .iconst 3, 1, 0), (193, .iadd, 1, 0), (194, .iaload, 1, 0), (195, .iastore, 1, 0), (196, .iinc 2 1, 3, 2), (199, .goto (-75), 3, 124), (202, .aload_n 0, 1, 0), (203, .iconst 0, 1, 0), (204, .putfield 143, 3, 1025), (207, .iconst 0, 1, 0), (208, .istore_n 2, 1, 2), (209, .iload_n 2, 1, 2), (210, .iconst 3, 1, 0), (211, .if_icmp .ge 16, 3, 227), (214, .aload_n 0, 1, 0), (215, .getfield 62, 3, 1028), (218, .iload_n 2, 1, 2), (219, .iconst (-1), 1, 0), (220, .iastore, 1, 0), (221, .iinc 2 1, 3, 2), (224, .goto (-15), 3, 209), (227, .aload_n 0, 1, 0), (228, .getfield 75, 3, 1017), (231, .ireturn, 1, 0)]
theorem rc_X10_town_ok : rf_rc mX10_town rc_X10_town = true := by decide +kernel
theorem mw_X10_town : rf_mw mX10_town := ⟨rf_mt_ok _ (List.mem_of_getElem? (i := 176) rfl), fun h => absurd h (by decide), fun _ => ⟨rf_mi_ok _ (List.mem_of_getElem? (i := 157) rfl), rf_mv_ok _ (List.mem_of_getElem? (i := 157) rfl)⟩, rf_mq_7 _ (List.mem_of_getElem? (i := 1) rfl)⟩
def f_X10_town_b41 (s41 : Int32 × rf_S) : Option ((Int32 × rf_S) ⊕ (rf_S)) := if 25 ≤ s41.1 then (some (.inr s41.2)) else (if rf_ck ly1 0 12 s41.1 = true then (some (.inl ((s41.1 + 1), (rf_sI s41.2 12 s41.1.toNatClampNeg 0)))) else none)
set_option maxHeartbeats 2000000 in
theorem ok_X10_town_b41 (d : Nat) (s41 : Int32 × rf_S) (o : ((Int32 × rf_S) ⊕ (rf_S))) (h : f_X10_town_b41 s41 = some o) {r : Option Value} {σr : rf_S} (kl : ∀ s', o = .inl s' → rf_G ly1 (d + 5) mX10_town (41, [some (.ref 0), none, some (.int s'.1)], [], s'.2) r σr) (kx : ∀ e, o = .inr e → rf_G ly1 (d + 5) mX10_town (60, [some (.ref 0), none, none], [], e) r σr) : rf_G ly1 (d + 5) mX10_town (41, [some (.ref 0), none, some (.int s41.1)], [], s41.2) r σr := by
  unfold f_X10_town_b41 at h
  refine rf_b wf1 rc_X10_town_ok 25 2 (44, [some (.ref 0), none, some (.int s41.1)], [.int 25, .int s41.1], s41.2) rfl ?_
  by_cases c9 : 25 ≤ s41.1
  · rw [if_pos c9] at h
    refine rf_t wf1 rc_X10_town_ok 27 (60, [some (.ref 0), none, some (.int s41.1)], [], s41.2) rfl rfl c9 rfl ?_
    refine rf_fg [true, true, false] [some (.ref 0), none, none] rfl ?_
    exact kx s41.2 (Option.some.inj h).symm
  · rw [if_neg c9] at h
    refine rf_f wf1 rc_X10_town_ok 27 (47, [some (.ref 0), none, some (.int s41.1)], [], s41.2) rfl rfl c9 rfl ?_
    refine rf_b wf1 rc_X10_town_ok 28 4 (53, [some (.ref 0), none, some (.int s41.1)], [.int 0, .int s41.1, .ref 12], s41.2) rfl ?_
    obtain ⟨g10, h⟩ := rf_ifn h
    refine rf_gd wf1 rc_X10_town_ok 32 (54, [some (.ref 0), none, some (.int s41.1)], [], (rf_sI s41.2 12 s41.1.toNatClampNeg 0)) rfl rfl g10 rfl ?_
    refine rf_b wf1 rc_X10_town_ok 33 2 (41, [some (.ref 0), none, some (.int (s41.1 + 1))], [], (rf_sI s41.2 12 s41.1.toNatClampNeg 0)) rfl ?_
    exact kl ((s41.1 + 1), (rf_sI s41.2 12 s41.1.toNatClampNeg 0)) (Option.some.inj h).symm
def f_X10_town_b78 (s78 : Int32 × rf_S) : Option ((Int32 × rf_S) ⊕ (rf_S)) := if (s78.2.1 0 16) ≤ s78.1 then (some (.inr s78.2)) else (if rf_ck ly1 0 6 (2 * s78.1) = true then (if rf_ck ly1 0 12 s78.1 = true then ((some (rf_sI s78.2 12 s78.1.toNatClampNeg (s78.2.1 6 (2 * s78.1).toNatClampNeg))).bind (fun σ18 => if rf_ck ly1 0 6 ((2 * s78.1) + 1) = true then (if rf_ck ly1 0 8 s78.1 = true then ((some (rf_sI σ18 8 s78.1.toNatClampNeg (σ18.1 6 ((2 * s78.1) + 1).toNatClampNeg))).bind (fun σ22 => some (.inl ((s78.1 + 1), σ22)))) else none) else none)) else none) else none)
set_option maxHeartbeats 2000000 in
theorem ok_X10_town_b78 (d : Nat) (s78 : Int32 × rf_S) (o : ((Int32 × rf_S) ⊕ (rf_S))) (h : f_X10_town_b78 s78 = some o) {r : Option Value} {σr : rf_S} (kl : ∀ s', o = .inl s' → rf_G ly1 (d + 5) mX10_town (78, [some (.ref 0), none, some (.int s'.1)], [], s'.2) r σr) (kx : ∀ e, o = .inr e → rf_G ly1 (d + 5) mX10_town (122, [some (.ref 0), none, none], [], e) r σr) : rf_G ly1 (d + 5) mX10_town (78, [some (.ref 0), none, some (.int s78.1)], [], s78.2) r σr := by
  unfold f_X10_town_b78 at h
  refine rf_b wf1 rc_X10_town_ok 45 3 (83, [some (.ref 0), none, some (.int s78.1)], [.int (s78.2.1 0 16), .int s78.1], s78.2) rfl ?_
  by_cases c15 : (s78.2.1 0 16) ≤ s78.1
  · rw [if_pos c15] at h
    refine rf_t wf1 rc_X10_town_ok 48 (122, [some (.ref 0), none, some (.int s78.1)], [], s78.2) rfl rfl c15 rfl ?_
    refine rf_fg [true, true, false] [some (.ref 0), none, none] rfl ?_
    exact kx s78.2 (Option.some.inj h).symm
  · rw [if_neg c15] at h
    refine rf_f wf1 rc_X10_town_ok 48 (86, [some (.ref 0), none, some (.int s78.1)], [], s78.2) rfl rfl c15 rfl ?_
    refine rf_b wf1 rc_X10_town_ok 49 8 (98, [some (.ref 0), none, some (.int s78.1)], [.int (2 * s78.1), .ref 6, .int s78.1, .ref 12], s78.2) rfl ?_
    obtain ⟨g16, h⟩ := rf_ifn h
    refine rf_gd wf1 rc_X10_town_ok 57 (99, [some (.ref 0), none, some (.int s78.1)], [.int (s78.2.1 6 (2 * s78.1).toNatClampNeg), .int s78.1, .ref 12], s78.2) rfl rfl g16 rfl ?_
    obtain ⟨g17, h⟩ := rf_ifn h
    refine rf_gd wf1 rc_X10_town_ok 58 (100, [some (.ref 0), none, some (.int s78.1)], [], (rf_sI s78.2 12 s78.1.toNatClampNeg (s78.2.1 6 (2 * s78.1).toNatClampNeg))) rfl rfl g17 rfl ?_
    obtain ⟨σ18, h19, h⟩ := Option.bind_eq_some_iff.mp h
    refine rf_sgb (Option.some.inj h19) ?_
    refine rf_b wf1 rc_X10_town_ok 59 10 (114, [some (.ref 0), none, some (.int s78.1)], [.int ((2 * s78.1) + 1), .ref 6, .int s78.1, .ref 8], σ18) rfl ?_
    obtain ⟨g20, h⟩ := rf_ifn h
    refine rf_gd wf1 rc_X10_town_ok 69 (115, [some (.ref 0), none, some (.int s78.1)], [.int (σ18.1 6 ((2 * s78.1) + 1).toNatClampNeg), .int s78.1, .ref 8], σ18) rfl rfl g20 rfl ?_
    obtain ⟨g21, h⟩ := rf_ifn h
    refine rf_gd wf1 rc_X10_town_ok 70 (116, [some (.ref 0), none, some (.int s78.1)], [], (rf_sI σ18 8 s78.1.toNatClampNeg (σ18.1 6 ((2 * s78.1) + 1).toNatClampNeg))) rfl rfl g21 rfl ?_
    obtain ⟨σ22, h23, h⟩ := Option.bind_eq_some_iff.mp h
    refine rf_sgb (Option.some.inj h23) ?_
    refine rf_b wf1 rc_X10_town_ok 71 2 (78, [some (.ref 0), none, some (.int (s78.1 + 1))], [], σ22) rfl ?_
    exact kl ((s78.1 + 1), σ22) (Option.some.inj h).symm
def f_X10_town_b124 (s124 : Int32 × rf_S) : Option ((Int32 × rf_S) ⊕ (rf_S)) := if (s124.2.1 0 17) ≤ s124.1 then (some (.inr s124.2)) else (if rf_ck ly1 0 7 (4 * s124.1) = true then (if rf_ck ly1 0 9 s124.1 = true then ((some (rf_sI s124.2 9 s124.1.toNatClampNeg (s124.2.1 7 (4 * s124.1).toNatClampNeg))).bind (fun σ29 => if rf_ck ly1 0 7 ((4 * s124.1) + 1) = true then (if rf_ck ly1 0 10 s124.1 = true then ((some (rf_sI σ29 10 s124.1.toNatClampNeg (σ29.1 7 ((4 * s124.1) + 1).toNatClampNeg))).bind (fun σ33 => if rf_ck ly1 0 7 ((4 * s124.1) + 2) = true then (if rf_ck ly1 0 11 s124.1 = true then ((some (rf_sI σ33 11 s124.1.toNatClampNeg (σ33.1 7 ((4 * s124.1) + 2).toNatClampNeg))).bind (fun σ37 => if rf_ck ly1 0 7 ((4 * s124.1) + 3) = true then (if rf_ck ly1 0 12 (4 + s124.1) = true then ((some (rf_sI σ37 12 (4 + s124.1).toNatClampNeg (σ37.1 7 ((4 * s124.1) + 3).toNatClampNeg))).bind (fun σ41 => some (.inl ((s124.1 + 1), σ41)))) else none) else none)) else none) else none)) else none) else none)) else none) else none)
set_option maxHeartbeats 2000000 in
theorem ok_X10_town_b124 (d : Nat) (s124 : Int32 × rf_S) (o : ((Int32 × rf_S) ⊕ (rf_S))) (h : f_X10_town_b124 s124 = some o) {r : Option Value} {σr : rf_S} (kl : ∀ s', o = .inl s' → rf_G ly1 (d + 5) mX10_town (124, [some (.ref 0), none, some (.int s'.1)], [], s'.2) r σr) (kx : ∀ e, o = .inr e → rf_G ly1 (d + 5) mX10_town (202, [some (.ref 0), none, none], [], e) r σr) : rf_G ly1 (d + 5) mX10_town (124, [some (.ref 0), none, some (.int s124.1)], [], s124.2) r σr := by
  unfold f_X10_town_b124 at h
  refine rf_b wf1 rc_X10_town_ok 75 3 (129, [some (.ref 0), none, some (.int s124.1)], [.int (s124.2.1 0 17), .int s124.1], s124.2) rfl ?_
  by_cases c26 : (s124.2.1 0 17) ≤ s124.1
  · rw [if_pos c26] at h
    refine rf_t wf1 rc_X10_town_ok 78 (202, [some (.ref 0), none, some (.int s124.1)], [], s124.2) rfl rfl c26 rfl ?_
    refine rf_fg [true, true, false] [some (.ref 0), none, none] rfl ?_
    exact kx s124.2 (Option.some.inj h).symm
  · rw [if_neg c26] at h
    refine rf_f wf1 rc_X10_town_ok 78 (132, [some (.ref 0), none, some (.int s124.1)], [], s124.2) rfl rfl c26 rfl ?_
    refine rf_b wf1 rc_X10_town_ok 79 8 (144, [some (.ref 0), none, some (.int s124.1)], [.int (4 * s124.1), .ref 7, .int s124.1, .ref 9], s124.2) rfl ?_
    obtain ⟨g27, h⟩ := rf_ifn h
    refine rf_gd wf1 rc_X10_town_ok 87 (145, [some (.ref 0), none, some (.int s124.1)], [.int (s124.2.1 7 (4 * s124.1).toNatClampNeg), .int s124.1, .ref 9], s124.2) rfl rfl g27 rfl ?_
    obtain ⟨g28, h⟩ := rf_ifn h
    refine rf_gd wf1 rc_X10_town_ok 88 (146, [some (.ref 0), none, some (.int s124.1)], [], (rf_sI s124.2 9 s124.1.toNatClampNeg (s124.2.1 7 (4 * s124.1).toNatClampNeg))) rfl rfl g28 rfl ?_
    obtain ⟨σ29, h30, h⟩ := Option.bind_eq_some_iff.mp h
    refine rf_sgb (Option.some.inj h30) ?_
    refine rf_b wf1 rc_X10_town_ok 89 10 (160, [some (.ref 0), none, some (.int s124.1)], [.int ((4 * s124.1) + 1), .ref 7, .int s124.1, .ref 10], σ29) rfl ?_
    obtain ⟨g31, h⟩ := rf_ifn h
    refine rf_gd wf1 rc_X10_town_ok 99 (161, [some (.ref 0), none, some (.int s124.1)], [.int (σ29.1 7 ((4 * s124.1) + 1).toNatClampNeg), .int s124.1, .ref 10], σ29) rfl rfl g31 rfl ?_
    obtain ⟨g32, h⟩ := rf_ifn h
    refine rf_gd wf1 rc_X10_town_ok 100 (162, [some (.ref 0), none, some (.int s124.1)], [], (rf_sI σ29 10 s124.1.toNatClampNeg (σ29.1 7 ((4 * s124.1) + 1).toNatClampNeg))) rfl rfl g32 rfl ?_
    obtain ⟨σ33, h34, h⟩ := Option.bind_eq_some_iff.mp h
    refine rf_sgb (Option.some.inj h34) ?_
    refine rf_b wf1 rc_X10_town_ok 101 10 (176, [some (.ref 0), none, some (.int s124.1)], [.int ((4 * s124.1) + 2), .ref 7, .int s124.1, .ref 11], σ33) rfl ?_
    obtain ⟨g35, h⟩ := rf_ifn h
    refine rf_gd wf1 rc_X10_town_ok 111 (177, [some (.ref 0), none, some (.int s124.1)], [.int (σ33.1 7 ((4 * s124.1) + 2).toNatClampNeg), .int s124.1, .ref 11], σ33) rfl rfl g35 rfl ?_
    obtain ⟨g36, h⟩ := rf_ifn h
    refine rf_gd wf1 rc_X10_town_ok 112 (178, [some (.ref 0), none, some (.int s124.1)], [], (rf_sI σ33 11 s124.1.toNatClampNeg (σ33.1 7 ((4 * s124.1) + 2).toNatClampNeg))) rfl rfl g36 rfl ?_
    obtain ⟨σ37, h38, h⟩ := Option.bind_eq_some_iff.mp h
    refine rf_sgb (Option.some.inj h38) ?_
    refine rf_b wf1 rc_X10_town_ok 113 12 (194, [some (.ref 0), none, some (.int s124.1)], [.int ((4 * s124.1) + 3), .ref 7, .int (4 + s124.1), .ref 12], σ37) rfl ?_
    obtain ⟨g39, h⟩ := rf_ifn h
    refine rf_gd wf1 rc_X10_town_ok 125 (195, [some (.ref 0), none, some (.int s124.1)], [.int (σ37.1 7 ((4 * s124.1) + 3).toNatClampNeg), .int (4 + s124.1), .ref 12], σ37) rfl rfl g39 rfl ?_
    obtain ⟨g40, h⟩ := rf_ifn h
    refine rf_gd wf1 rc_X10_town_ok 126 (196, [some (.ref 0), none, some (.int s124.1)], [], (rf_sI σ37 12 (4 + s124.1).toNatClampNeg (σ37.1 7 ((4 * s124.1) + 3).toNatClampNeg))) rfl rfl g40 rfl ?_
    obtain ⟨σ41, h42, h⟩ := Option.bind_eq_some_iff.mp h
    refine rf_sgb (Option.some.inj h42) ?_
    refine rf_b wf1 rc_X10_town_ok 127 2 (124, [some (.ref 0), none, some (.int (s124.1 + 1))], [], σ41) rfl ?_
    exact kl ((s124.1 + 1), σ41) (Option.some.inj h).symm
def f_X10_town_b209 (s209 : Int32 × rf_S) : Option ((Int32 × rf_S) ⊕ (rf_S)) := if 3 ≤ s209.1 then (some (.inr s209.2)) else (if rf_ck ly1 0 17 s209.1 = true then (some (.inl ((s209.1 + 1), (rf_sI s209.2 17 s209.1.toNatClampNeg (-1))))) else none)
set_option maxHeartbeats 2000000 in
theorem ok_X10_town_b209 (d : Nat) (s209 : Int32 × rf_S) (o : ((Int32 × rf_S) ⊕ (rf_S))) (h : f_X10_town_b209 s209 = some o) {r : Option Value} {σr : rf_S} (kl : ∀ s', o = .inl s' → rf_G ly1 (d + 5) mX10_town (209, [some (.ref 0), none, some (.int s'.1)], [], s'.2) r σr) (kx : ∀ e, o = .inr e → rf_G ly1 (d + 5) mX10_town (227, [some (.ref 0), none, none], [], e) r σr) : rf_G ly1 (d + 5) mX10_town (209, [some (.ref 0), none, some (.int s209.1)], [], s209.2) r σr := by
  unfold f_X10_town_b209 at h
  refine rf_b wf1 rc_X10_town_ok 134 2 (211, [some (.ref 0), none, some (.int s209.1)], [.int 3, .int s209.1], s209.2) rfl ?_
  by_cases c45 : 3 ≤ s209.1
  · rw [if_pos c45] at h
    refine rf_t wf1 rc_X10_town_ok 136 (227, [some (.ref 0), none, some (.int s209.1)], [], s209.2) rfl rfl c45 rfl ?_
    refine rf_fg [true, true, false] [some (.ref 0), none, none] rfl ?_
    exact kx s209.2 (Option.some.inj h).symm
  · rw [if_neg c45] at h
    refine rf_f wf1 rc_X10_town_ok 136 (214, [some (.ref 0), none, some (.int s209.1)], [], s209.2) rfl rfl c45 rfl ?_
    refine rf_b wf1 rc_X10_town_ok 137 4 (220, [some (.ref 0), none, some (.int s209.1)], [.int (-1), .int s209.1, .ref 17], s209.2) rfl ?_
    obtain ⟨g46, h⟩ := rf_ifn h
    refine rf_gd wf1 rc_X10_town_ok 141 (221, [some (.ref 0), none, some (.int s209.1)], [], (rf_sI s209.2 17 s209.1.toNatClampNeg (-1))) rfl rfl g46 rfl ?_
    refine rf_b wf1 rc_X10_town_ok 142 2 (209, [some (.ref 0), none, some (.int (s209.1 + 1))], [], (rf_sI s209.2 17 s209.1.toNatClampNeg (-1))) rfl ?_
    exact kl ((s209.1 + 1), (rf_sI s209.2 17 s209.1.toNatClampNeg (-1))) (Option.some.inj h).symm
def f_X10_town (p0 : Int32) (σ : rf_S) : Option (Int32 × rf_S) := (f_X10_in p0 0 3 σ).bind (fun q1 => if q1 ≠ 0 then (if rf_ck ly1 0 3 p0 = true then (if 0 ≤ (σ.1 3 p0.toNatClampNeg) then ((f_X10_read p0 σ).bind (fun q6 => if q6.1 = (-9) then ((rf_lp f_X10_town_b41 5000 (0, q6.2)).bind (fun e11 => (some (rf_sI (rf_sI e11 0 16 (e11.1 0 12)) 0 17 ((rf_sI e11 0 16 (e11.1 0 12)).1 0 13))).bind (fun σ13 => (rf_lp f_X10_town_b78 5000 (0, σ13)).bind (fun e24 => (rf_lp f_X10_town_b124 5000 (0, e24)).bind (fun e43 => (rf_lp f_X10_town_b209 5000 (0, (rf_sI e43 0 25 0))).bind (fun e47 => some ((e47.1 0 17), e47))))))) else (some ((-4), q6.2)))) else ((f_X10_finds 1 σ).bind (fun q49 => some (q49.1, q49.2)))) else none) else (some ((-1), σ)))
set_option maxHeartbeats 2000000 in
theorem ok_X10_town (d : Nat) (p0 : Int32) (σ : rf_S) (q : (Int32 × rf_S)) (h : f_X10_town p0 σ = some q) : rf_Ex ly1 (d + 6) mX10_town [.ref 0, .int p0] σ (some (.int q.1) : Option Value) q.2 := by
  unfold f_X10_town at h
  refine rf_ex mw_X10_town [some (.ref 0), some (.int p0), none] (Nat.le_of_ble_eq_true rfl) rfl ?_
  refine rf_b wf1 rc_X10_town_ok 0 3 (3, [some (.ref 0), some (.int p0), none], [.int 3, .int 0, .int p0], σ) rfl ?_
  obtain ⟨q1, h2, h⟩ := Option.bind_eq_some_iff.mp h
  refine rf_cs1 (Mt := mX10_in) rc_X10_town_ok 3 false rfl (List.mem_of_getElem? (i := 143) rfl) mw_X10_in rfl [.int p0, .int 0, .int 3] [] rfl rfl (Nat.le_of_ble_eq_true rfl) (ok_X10_in (d + 4) p0 0 3 σ q1 h2) ?_
  show rf_G _ _ _ (6, [some (.ref 0), some (.int p0), none], [.int q1], σ) _ _
  by_cases c3 : q1 ≠ 0
  · rw [if_pos c3] at h
    refine rf_t wf1 rc_X10_town_ok 4 (11, [some (.ref 0), some (.int p0), none], [], σ) rfl rfl c3 rfl ?_
    refine rf_b wf1 rc_X10_town_ok 7 3 (16, [some (.ref 0), some (.int p0), none], [.int p0, .ref 3], σ) rfl ?_
    obtain ⟨g4, h⟩ := rf_ifn h
    refine rf_gd wf1 rc_X10_town_ok 10 (17, [some (.ref 0), some (.int p0), none], [.int (σ.1 3 p0.toNatClampNeg)], σ) rfl rfl g4 rfl ?_
    by_cases c5 : 0 ≤ (σ.1 3 p0.toNatClampNeg)
    · rw [if_pos c5] at h
      refine rf_t wf1 rc_X10_town_ok 11 (26, [some (.ref 0), some (.int p0), none], [], σ) rfl rfl c5 rfl ?_
      refine rf_b wf1 rc_X10_town_ok 16 2 (28, [some (.ref 0), some (.int p0), none], [.int p0, .ref 0], σ) rfl ?_
      obtain ⟨q6, h7, h⟩ := Option.bind_eq_some_iff.mp h
      refine rf_cv1 (Mt := mX10_read) wf1 rc_X10_town_ok 18 false rfl (List.mem_of_getElem? (i := 156) rfl) mw_X10_read rfl 0 [.int p0] [] rfl rfl rfl (Nat.le_of_ble_eq_true rfl) (ok_X10_read d p0 σ q6 h7) ?_
      show rf_G _ _ _ (31, [some (.ref 0), some (.int p0), none], [.int q6.1], q6.2) _ _
      refine rf_b wf1 rc_X10_town_ok 19 1 (33, [some (.ref 0), some (.int p0), none], [.int (-9), .int q6.1], q6.2) rfl ?_
      by_cases c8 : q6.1 = (-9)
      · rw [if_pos c8] at h
        refine rf_t wf1 rc_X10_town_ok 20 (39, [some (.ref 0), some (.int p0), none], [], q6.2) rfl rfl c8 rfl ?_
        refine rf_b wf1 rc_X10_town_ok 23 2 (41, [some (.ref 0), some (.int p0), some (.int 0)], [], q6.2) rfl ?_
        refine rf_fg [true, false, true] [some (.ref 0), none, some (.int 0)] rfl ?_
        obtain ⟨e11, h12, h⟩ := Option.bind_eq_some_iff.mp h
        refine rf_lpG (b := f_X10_town_b41) (G := fun (s41 : Int32 × rf_S) => rf_G ly1 (d + 5) mX10_town (41, [some (.ref 0), none, some (.int s41.1)], [], s41.2) (some (.int q.1) : Option Value) q.2) (K := fun (e : (rf_S)) => rf_G ly1 (d + 5) mX10_town (60, [some (.ref 0), none, none], [], e) (some (.int q.1) : Option Value) q.2) (fun (s41 : Int32 × rf_S) (o : (Int32 × rf_S) ⊕ (rf_S)) hb kl kx => ok_X10_town_b41 d  s41 o hb kl kx) 5000 (0, q6.2) e11 h12 ?_
        show rf_G _ _ _ (60, [some (.ref 0), none, none], [], e11) _ _
        refine rf_b wf1 rc_X10_town_ok 35 8 (76, [some (.ref 0), none, none], [], (rf_sI (rf_sI e11 0 16 (e11.1 0 12)) 0 17 ((rf_sI e11 0 16 (e11.1 0 12)).1 0 13))) rfl ?_
        obtain ⟨σ13, h14, h⟩ := Option.bind_eq_some_iff.mp h
        refine rf_sgb (Option.some.inj h14) ?_
        refine rf_b wf1 rc_X10_town_ok 43 2 (78, [some (.ref 0), none, some (.int 0)], [], σ13) rfl ?_
        obtain ⟨e24, h25, h⟩ := Option.bind_eq_some_iff.mp h
        refine rf_lpG (b := f_X10_town_b78) (G := fun (s78 : Int32 × rf_S) => rf_G ly1 (d + 5) mX10_town (78, [some (.ref 0), none, some (.int s78.1)], [], s78.2) (some (.int q.1) : Option Value) q.2) (K := fun (e : (rf_S)) => rf_G ly1 (d + 5) mX10_town (122, [some (.ref 0), none, none], [], e) (some (.int q.1) : Option Value) q.2) (fun (s78 : Int32 × rf_S) (o : (Int32 × rf_S) ⊕ (rf_S)) hb kl kx => ok_X10_town_b78 d  s78 o hb kl kx) 5000 (0, σ13) e24 h25 ?_
        show rf_G _ _ _ (122, [some (.ref 0), none, none], [], e24) _ _
        refine rf_b wf1 rc_X10_town_ok 73 2 (124, [some (.ref 0), none, some (.int 0)], [], e24) rfl ?_
        obtain ⟨e43, h44, h⟩ := Option.bind_eq_some_iff.mp h
        refine rf_lpG (b := f_X10_town_b124) (G := fun (s124 : Int32 × rf_S) => rf_G ly1 (d + 5) mX10_town (124, [some (.ref 0), none, some (.int s124.1)], [], s124.2) (some (.int q.1) : Option Value) q.2) (K := fun (e : (rf_S)) => rf_G ly1 (d + 5) mX10_town (202, [some (.ref 0), none, none], [], e) (some (.int q.1) : Option Value) q.2) (fun (s124 : Int32 × rf_S) (o : (Int32 × rf_S) ⊕ (rf_S)) hb kl kx => ok_X10_town_b124 d  s124 o hb kl kx) 5000 (0, e24) e43 h44 ?_
        show rf_G _ _ _ (202, [some (.ref 0), none, none], [], e43) _ _
        refine rf_b wf1 rc_X10_town_ok 129 5 (209, [some (.ref 0), none, some (.int 0)], [], (rf_sI e43 0 25 0)) rfl ?_
        obtain ⟨e47, h48, h⟩ := Option.bind_eq_some_iff.mp h
        refine rf_lpG (b := f_X10_town_b209) (G := fun (s209 : Int32 × rf_S) => rf_G ly1 (d + 5) mX10_town (209, [some (.ref 0), none, some (.int s209.1)], [], s209.2) (some (.int q.1) : Option Value) q.2) (K := fun (e : (rf_S)) => rf_G ly1 (d + 5) mX10_town (227, [some (.ref 0), none, none], [], e) (some (.int q.1) : Option Value) q.2) (fun (s209 : Int32 × rf_S) (o : (Int32 × rf_S) ⊕ (rf_S)) hb kl kx => ok_X10_town_b209 d  s209 o hb kl kx) 5000 (0, (rf_sI e43 0 25 0)) e47 h48 ?_
        show rf_G _ _ _ (227, [some (.ref 0), none, none], [], e47) _ _
        refine rf_b wf1 rc_X10_town_ok 144 2 (231, [some (.ref 0), none, none], [.int (e47.1 0 17)], e47) rfl ?_
        obtain rfl := Option.some.inj h
        exact rf_ri rc_X10_town_ok 146 rfl rfl
      · rw [if_neg c8] at h
        refine rf_f wf1 rc_X10_town_ok 20 (36, [some (.ref 0), some (.int p0), none], [], q6.2) rfl rfl c8 rfl ?_
        refine rf_b wf1 rc_X10_town_ok 21 1 (38, [some (.ref 0), some (.int p0), none], [.int (-4)], q6.2) rfl ?_
        obtain rfl := Option.some.inj h
        exact rf_ri rc_X10_town_ok 22 rfl rfl
    · rw [if_neg c5] at h
      refine rf_f wf1 rc_X10_town_ok 11 (20, [some (.ref 0), some (.int p0), none], [], σ) rfl rfl c5 rfl ?_
      refine rf_b wf1 rc_X10_town_ok 12 2 (22, [some (.ref 0), some (.int p0), none], [.int 1, .ref 0], σ) rfl ?_
      obtain ⟨q49, h50, h⟩ := Option.bind_eq_some_iff.mp h
      refine rf_cv1 (Mt := mX10_finds) wf1 rc_X10_town_ok 14 false rfl (List.mem_of_getElem? (i := 144) rfl) mw_X10_finds rfl 0 [.int 1] [] rfl rfl rfl (Nat.le_of_ble_eq_true rfl) (ok_X10_finds (d + 4) 1 σ q49 h50) ?_
      show rf_G _ _ _ (25, [some (.ref 0), some (.int p0), none], [.int q49.1], q49.2) _ _
      obtain rfl := Option.some.inj h
      exact rf_ri rc_X10_town_ok 15 rfl rfl
  · rw [if_neg c3] at h
    refine rf_f wf1 rc_X10_town_ok 4 (9, [some (.ref 0), some (.int p0), none], [], σ) rfl rfl c3 rfl ?_
    refine rf_b wf1 rc_X10_town_ok 5 1 (10, [some (.ref 0), some (.int p0), none], [.int (-1)], σ) rfl ?_
    obtain rfl := Option.some.inj h
    exact rf_ri rc_X10_town_ok 6 rfl rfl
def rc_X10_feelsBy : List rf_E := [(0, .iload_n 2, 1, 2), (1, .aload_n 0, 1, 0), (2, .bipush 23, 2, 0), (4, .iaload, 1, 0), (5, .ifCond .le 7, 3, 12), (8, .iconst 1, 1, 0), (9, .goto 4, 3, 13), (12, .iconst 0, 1, 0), (13, .iadd, 1, 0), (14, .istore_n 3, 1, 3), (15, .iload_n 3, 1, 3), (16, .iload_n 1, 1, 1), (17, .iconst 3, 1, 0), (18, .if_icmp .eq 8, 3, 26), (21, .iload_n 1, 1, 1), (22, .iconst 5, 1, 0), (23, .if_icmp .ne 7, 3, 30), (26, .iconst 2, 1, 0), (27, .goto 4, 3, 31), (30, .iconst 0, 1, 0), (31, .iadd, 1, 0), (32, .istore_n 3, 1, 3), (33, .iload_n 1, 1, 1), (34, .iconst 5, 1, 0), (35, .if_icmp .ne 15, 3, 50), (38, .iload_n 3, 1, 3), (39, .aload_n 0, 1, 0), (40, .bipush 22, 2, 0), (42, .iaload, 1, 0), (43, .bipush 6, 2, 0), (45, .idiv, 1, 0), (46, .isub, 1, 0), (47, .goto 4, 3, 51), (50, .iload_n 3, 1, 3), (51, .ireturn, 1, 0)]
theorem rc_X10_feelsBy_ok : rf_rc mX10_feelsBy rc_X10_feelsBy = true := by decide +kernel
theorem mw_X10_feelsBy : rf_mw mX10_feelsBy := ⟨rf_mt_ok _ (List.mem_of_getElem? (i := 177) rfl), fun _ => rf_ms_ok _ (List.mem_of_getElem? (i := 19) rfl), fun h => absurd h (by decide), rf_mq_7 _ (List.mem_of_getElem? (i := 2) rfl)⟩
def f_X10_feelsBy_j31 (l0 : Nat) (l1 : Int32) (t0 : Int32) (t1 : Int32) (σ : rf_S) : Option Int32 := if l1 ≠ 5 then (some (t1 + t0)) else (if rf_ck ly1 0 l0 22 = true then (some ((t1 + t0) - ((σ.1 l0 (22 : Int32).toNatClampNeg) / 6))) else none)
set_option maxHeartbeats 2000000 in
theorem ok_X10_feelsBy_j31 (d : Nat) (l0 : Nat) (l1 : Int32) (t0 : Int32) (t1 : Int32) (σ : rf_S) (q : Int32) (h : f_X10_feelsBy_j31 l0 l1 t0 t1 σ = some q) : rf_G ly1 (d) mX10_feelsBy (31, [some (.ref l0), some (.int l1), none, none], [.int t0, .int t1], σ) (some (.int q) : Option Value) σ := by
  unfold f_X10_feelsBy_j31 at h
  refine rf_b wf1 rc_X10_feelsBy_ok 20 4 (35, [some (.ref l0), some (.int l1), none, some (.int (t1 + t0))], [.int 5, .int l1], σ) rfl ?_
  by_cases c4 : l1 ≠ 5
  · rw [if_pos c4] at h
    refine rf_t wf1 rc_X10_feelsBy_ok 24 (50, [some (.ref l0), some (.int l1), none, some (.int (t1 + t0))], [], σ) rfl rfl c4 rfl ?_
    refine rf_b wf1 rc_X10_feelsBy_ok 33 1 (51, [some (.ref l0), some (.int l1), none, some (.int (t1 + t0))], [.int (t1 + t0)], σ) rfl ?_
    obtain rfl := Option.some.inj h
    exact rf_ri rc_X10_feelsBy_ok 34 rfl rfl
  · rw [if_neg c4] at h
    refine rf_f wf1 rc_X10_feelsBy_ok 24 (38, [some (.ref l0), some (.int l1), none, some (.int (t1 + t0))], [], σ) rfl rfl c4 rfl ?_
    refine rf_b wf1 rc_X10_feelsBy_ok 25 3 (42, [some (.ref l0), some (.int l1), none, some (.int (t1 + t0))], [.int 22, .ref l0, .int (t1 + t0)], σ) rfl ?_
    obtain ⟨g5, h⟩ := rf_ifn h
    refine rf_gd wf1 rc_X10_feelsBy_ok 28 (43, [some (.ref l0), some (.int l1), none, some (.int (t1 + t0))], [.int (σ.1 l0 (22 : Int32).toNatClampNeg), .int (t1 + t0)], σ) rfl rfl g5 rfl ?_
    refine rf_b wf1 rc_X10_feelsBy_ok 29 1 (45, [some (.ref l0), some (.int l1), none, some (.int (t1 + t0))], [.int 6, .int (σ.1 l0 (22 : Int32).toNatClampNeg), .int (t1 + t0)], σ) rfl ?_
    refine rf_nz wf1 rc_X10_feelsBy_ok 30 (46, [some (.ref l0), some (.int l1), none, some (.int (t1 + t0))], [.int ((σ.1 l0 (22 : Int32).toNatClampNeg) / 6), .int (t1 + t0)], σ) rfl rfl (c := (6 : Int32) = 0) (by decide) rfl ?_
    refine rf_b wf1 rc_X10_feelsBy_ok 31 2 (51, [some (.ref l0), some (.int l1), none, some (.int (t1 + t0))], [.int ((t1 + t0) - ((σ.1 l0 (22 : Int32).toNatClampNeg) / 6))], σ) rfl ?_
    obtain rfl := Option.some.inj h
    exact rf_ri rc_X10_feelsBy_ok 34 rfl rfl
def f_X10_feelsBy_j26 (l0 : Nat) (l1 : Int32) (t0 : Int32) (σ : rf_S) : Option Int32 := f_X10_feelsBy_j31 l0 l1 2 t0 σ
set_option maxHeartbeats 2000000 in
theorem ok_X10_feelsBy_j26 (d : Nat) (l0 : Nat) (l1 : Int32) (t0 : Int32) (σ : rf_S) (q : Int32) (h : f_X10_feelsBy_j26 l0 l1 t0 σ = some q) : rf_G ly1 (d) mX10_feelsBy (26, [some (.ref l0), some (.int l1), none, none], [.int t0], σ) (some (.int q) : Option Value) σ := by
  unfold f_X10_feelsBy_j26 at h
  refine rf_b wf1 rc_X10_feelsBy_ok 17 2 (31, [some (.ref l0), some (.int l1), none, none], [.int 2, .int t0], σ) rfl ?_
  exact ok_X10_feelsBy_j31 d l0 l1 2 t0 σ q h
def f_X10_feelsBy_j13 (l0 : Nat) (l1 : Int32) (t0 : Int32) (t1 : Int32) (σ : rf_S) : Option Int32 := if l1 = 3 then (f_X10_feelsBy_j26 l0 l1 (t1 + t0) σ) else (if l1 ≠ 5 then (f_X10_feelsBy_j31 l0 l1 0 (t1 + t0) σ) else (f_X10_feelsBy_j26 l0 l1 (t1 + t0) σ))
set_option maxHeartbeats 2000000 in
theorem ok_X10_feelsBy_j13 (d : Nat) (l0 : Nat) (l1 : Int32) (t0 : Int32) (t1 : Int32) (σ : rf_S) (q : Int32) (h : f_X10_feelsBy_j13 l0 l1 t0 t1 σ = some q) : rf_G ly1 (d) mX10_feelsBy (13, [some (.ref l0), some (.int l1), none, none], [.int t0, .int t1], σ) (some (.int q) : Option Value) σ := by
  unfold f_X10_feelsBy_j13 at h
  refine rf_b wf1 rc_X10_feelsBy_ok 8 5 (18, [some (.ref l0), some (.int l1), none, some (.int (t1 + t0))], [.int 3, .int l1, .int (t1 + t0)], σ) rfl ?_
  by_cases c3 : l1 = 3
  · rw [if_pos c3] at h
    refine rf_t wf1 rc_X10_feelsBy_ok 13 (26, [some (.ref l0), some (.int l1), none, some (.int (t1 + t0))], [.int (t1 + t0)], σ) rfl rfl c3 rfl ?_
    refine rf_fg [true, true, true, false] [some (.ref l0), some (.int l1), none, none] rfl ?_
    exact ok_X10_feelsBy_j26 d l0 l1 (t1 + t0) σ q h
  · rw [if_neg c3] at h
    refine rf_f wf1 rc_X10_feelsBy_ok 13 (21, [some (.ref l0), some (.int l1), none, some (.int (t1 + t0))], [.int (t1 + t0)], σ) rfl rfl c3 rfl ?_
    refine rf_b wf1 rc_X10_feelsBy_ok 14 2 (23, [some (.ref l0), some (.int l1), none, some (.int (t1 + t0))], [.int 5, .int l1, .int (t1 + t0)], σ) rfl ?_
    by_cases c7 : l1 ≠ 5
    · rw [if_pos c7] at h
      refine rf_t wf1 rc_X10_feelsBy_ok 16 (30, [some (.ref l0), some (.int l1), none, some (.int (t1 + t0))], [.int (t1 + t0)], σ) rfl rfl c7 rfl ?_
      refine rf_b wf1 rc_X10_feelsBy_ok 19 1 (31, [some (.ref l0), some (.int l1), none, some (.int (t1 + t0))], [.int 0, .int (t1 + t0)], σ) rfl ?_
      refine rf_fg [true, true, true, false] [some (.ref l0), some (.int l1), none, none] rfl ?_
      exact ok_X10_feelsBy_j31 d l0 l1 0 (t1 + t0) σ q h
    · rw [if_neg c7] at h
      refine rf_f wf1 rc_X10_feelsBy_ok 16 (26, [some (.ref l0), some (.int l1), none, some (.int (t1 + t0))], [.int (t1 + t0)], σ) rfl rfl c7 rfl ?_
      refine rf_fg [true, true, true, false] [some (.ref l0), some (.int l1), none, none] rfl ?_
      exact ok_X10_feelsBy_j26 d l0 l1 (t1 + t0) σ q h
def f_X10_feelsBy (p0 : Nat) (p1 : Int32) (p2 : Int32) (σ : rf_S) : Option Int32 := if rf_ck ly1 0 p0 23 = true then (if (σ.1 p0 (23 : Int32).toNatClampNeg) ≤ 0 then (f_X10_feelsBy_j13 p0 p1 0 p2 σ) else (f_X10_feelsBy_j13 p0 p1 1 p2 σ)) else none
set_option maxHeartbeats 2000000 in
theorem ok_X10_feelsBy (d : Nat) (p0 : Nat) (p1 : Int32) (p2 : Int32) (σ : rf_S) (q : Int32) (h : f_X10_feelsBy p0 p1 p2 σ = some q) : rf_Ex ly1 (d + 1) mX10_feelsBy [.ref p0, .int p1, .int p2] σ (some (.int q) : Option Value) σ := by
  unfold f_X10_feelsBy at h
  refine rf_ex mw_X10_feelsBy [some (.ref p0), some (.int p1), some (.int p2), none] (Nat.le_of_ble_eq_true rfl) rfl ?_
  refine rf_b wf1 rc_X10_feelsBy_ok 0 3 (4, [some (.ref p0), some (.int p1), some (.int p2), none], [.int 23, .ref p0, .int p2], σ) rfl ?_
  obtain ⟨g1, h⟩ := rf_ifn h
  refine rf_gd wf1 rc_X10_feelsBy_ok 3 (5, [some (.ref p0), some (.int p1), some (.int p2), none], [.int (σ.1 p0 (23 : Int32).toNatClampNeg), .int p2], σ) rfl rfl g1 rfl ?_
  by_cases c2 : (σ.1 p0 (23 : Int32).toNatClampNeg) ≤ 0
  · rw [if_pos c2] at h
    refine rf_t wf1 rc_X10_feelsBy_ok 4 (12, [some (.ref p0), some (.int p1), some (.int p2), none], [.int p2], σ) rfl rfl c2 rfl ?_
    refine rf_b wf1 rc_X10_feelsBy_ok 7 1 (13, [some (.ref p0), some (.int p1), some (.int p2), none], [.int 0, .int p2], σ) rfl ?_
    refine rf_fg [true, true, false, true] [some (.ref p0), some (.int p1), none, none] rfl ?_
    exact ok_X10_feelsBy_j13 d p0 p1 0 p2 σ q h
  · rw [if_neg c2] at h
    refine rf_f wf1 rc_X10_feelsBy_ok 4 (8, [some (.ref p0), some (.int p1), some (.int p2), none], [.int p2], σ) rfl rfl c2 rfl ?_
    refine rf_b wf1 rc_X10_feelsBy_ok 5 2 (13, [some (.ref p0), some (.int p1), some (.int p2), none], [.int 1, .int p2], σ) rfl ?_
    refine rf_fg [true, true, false, true] [some (.ref p0), some (.int p1), none, none] rfl ?_
    exact ok_X10_feelsBy_j13 d p0 p1 1 p2 σ q h
def rc_X10_feels : List rf_E := [(0, .aload_n 1, 1, 1), (1, .aload_n 0, 1, 0), (2, .getfield 38, 3, 1019), (5, .iload_n 2, 1, 2), (6, .iaload, 1, 0), (7, .aload_n 0, 1, 0), (8, .getfield 41, 3, 1020), (11, .iload_n 2, 1, 2), (12, .iaload, 1, 0), (13, .aload_n 1, 1, 1), (14, .bipush 16, 2, 0), (16, .iload_n 2, 1, 2), (17, .iadd, 1, 0), (18, .iaload, 1, 0), (19, .iadd, 1, 0), (20, .invokestatic 146, 3, 0), (23, .ireturn, 1, 0)]
theorem rc_X10_feels_ok : rf_rc mX10_feels rc_X10_feels = true := by decide +kernel
theorem mw_X10_feels : rf_mw mX10_feels := ⟨rf_mt_ok _ (List.mem_of_getElem? (i := 178) rfl), fun h => absurd h (by decide), fun _ => ⟨rf_mi_ok _ (List.mem_of_getElem? (i := 158) rfl), rf_mv_ok _ (List.mem_of_getElem? (i := 158) rfl)⟩, rf_mq_7 _ (List.mem_of_getElem? (i := 3) rfl)⟩
def f_X10_feels (p0 : Nat) (p1 : Int32) (σ : rf_S) : Option Int32 := if rf_ck ly1 0 9 p1 = true then (if rf_ck ly1 0 10 p1 = true then (if rf_ck ly1 0 p0 (16 + p1) = true then ((f_X10_feelsBy p0 (σ.1 9 p1.toNatClampNeg) ((σ.1 10 p1.toNatClampNeg) + (σ.1 p0 (16 + p1).toNatClampNeg)) σ).bind (fun q4 => some q4)) else none) else none) else none
set_option maxHeartbeats 2000000 in
theorem ok_X10_feels (d : Nat) (p0 : Nat) (p1 : Int32) (σ : rf_S) (q : Int32) (h : f_X10_feels p0 p1 σ = some q) : rf_Ex ly1 (d + 2) mX10_feels [.ref 0, .ref p0, .int p1] σ (some (.int q) : Option Value) σ := by
  unfold f_X10_feels at h
  refine rf_ex mw_X10_feels [some (.ref 0), some (.ref p0), some (.int p1)] (Nat.le_of_ble_eq_true rfl) rfl ?_
  refine rf_b wf1 rc_X10_feels_ok 0 4 (6, [some (.ref 0), some (.ref p0), some (.int p1)], [.int p1, .ref 9, .ref p0], σ) rfl ?_
  obtain ⟨g1, h⟩ := rf_ifn h
  refine rf_gd wf1 rc_X10_feels_ok 4 (7, [some (.ref 0), some (.ref p0), some (.int p1)], [.int (σ.1 9 p1.toNatClampNeg), .ref p0], σ) rfl rfl g1 rfl ?_
  refine rf_b wf1 rc_X10_feels_ok 5 3 (12, [some (.ref 0), some (.ref p0), some (.int p1)], [.int p1, .ref 10, .int (σ.1 9 p1.toNatClampNeg), .ref p0], σ) rfl ?_
  obtain ⟨g2, h⟩ := rf_ifn h
  refine rf_gd wf1 rc_X10_feels_ok 8 (13, [some (.ref 0), some (.ref p0), some (.int p1)], [.int (σ.1 10 p1.toNatClampNeg), .int (σ.1 9 p1.toNatClampNeg), .ref p0], σ) rfl rfl g2 rfl ?_
  refine rf_b wf1 rc_X10_feels_ok 9 4 (18, [some (.ref 0), some (.ref p0), some (.int p1)], [.int (16 + p1), .ref p0, .int (σ.1 10 p1.toNatClampNeg), .int (σ.1 9 p1.toNatClampNeg), .ref p0], σ) rfl ?_
  obtain ⟨g3, h⟩ := rf_ifn h
  refine rf_gd wf1 rc_X10_feels_ok 13 (19, [some (.ref 0), some (.ref p0), some (.int p1)], [.int (σ.1 p0 (16 + p1).toNatClampNeg), .int (σ.1 10 p1.toNatClampNeg), .int (σ.1 9 p1.toNatClampNeg), .ref p0], σ) rfl rfl g3 rfl ?_
  refine rf_b wf1 rc_X10_feels_ok 14 1 (20, [some (.ref 0), some (.ref p0), some (.int p1)], [.int ((σ.1 10 p1.toNatClampNeg) + (σ.1 p0 (16 + p1).toNatClampNeg)), .int (σ.1 9 p1.toNatClampNeg), .ref p0], σ) rfl ?_
  obtain ⟨q4, h5, h⟩ := Option.bind_eq_some_iff.mp h
  refine rf_cs1 (Mt := mX10_feelsBy) rc_X10_feels_ok 15 false rfl (List.mem_of_getElem? (i := 157) rfl) mw_X10_feelsBy rfl [.ref p0, .int (σ.1 9 p1.toNatClampNeg), .int ((σ.1 10 p1.toNatClampNeg) + (σ.1 p0 (16 + p1).toNatClampNeg))] [] rfl rfl (Nat.le_of_ble_eq_true rfl) (ok_X10_feelsBy d p0 (σ.1 9 p1.toNatClampNeg) ((σ.1 10 p1.toNatClampNeg) + (σ.1 p0 (16 + p1).toNatClampNeg)) σ q4 h5) ?_
  show rf_G _ _ _ (23, [some (.ref 0), some (.ref p0), some (.int p1)], [.int q4], σ) _ _
  obtain rfl := Option.some.inj h
  exact rf_ri rc_X10_feels_ok 16 rfl rfl
def rc_X10_doesBy : List rf_E := [(0, .iload_n 0, 1, 0), (1, .tableswitch 71 1 4 #[31, 53, 71, 42], 31, 0), (32, .iload_n 3, 1, 3), (33, .iload_n 1, 1, 1), (34, .if_icmp .gt 7, 3, 41), (37, .iconst 1, 1, 0), (38, .goto 4, 3, 42), (41, .iconst 0, 1, 0), (42, .ireturn, 1, 0), (43, .iload_n 3, 1, 3), (44, .iload_n 1, 1, 1), (45, .if_icmp .le 7, 3, 52), (48, .iconst 1, 1, 0), (49, .goto 4, 3, 53), (52, .iconst 0, 1, 0), (53, .ireturn, 1, 0), (54, .iload_n 3, 1, 3), (55, .iload_n 1, 1, 1), (56, .if_icmp .lt 14, 3, 70), (59, .iload_n 3, 1, 3), (60, .iload_n 1, 1, 1), (61, .iload_n 2, 1, 2), (62, .iadd, 1, 0), (63, .if_icmp .gt 7, 3, 70), (66, .iconst 1, 1, 0), (67, .goto 4, 3, 71), (70, .iconst 0, 1, 0), (71, .ireturn, 1, 0), (72, .iload_n 3, 1, 3), (73, .iload_n 1, 1, 1), (74, .if_icmp .lt 7, 3, 81), (77, .iconst 1, 1, 0), (78, .goto 4, 3, 82), (81, .iconst 0, 1, 0), (82, .ireturn, 1, 0)]
theorem rc_X10_doesBy_ok : rf_rc mX10_doesBy rc_X10_doesBy = true := by decide +kernel
theorem mw_X10_doesBy : rf_mw mX10_doesBy := ⟨rf_mt_ok _ (List.mem_of_getElem? (i := 179) rfl), fun _ => rf_ms_ok _ (List.mem_of_getElem? (i := 20) rfl), fun h => absurd h (by decide), rf_mq_7 _ (List.mem_of_getElem? (i := 4) rfl)⟩
def f_X10_doesBy (p0 : Int32) (p1 : Int32) (p2 : Int32) (p3 : Int32) (σ : rf_S) : Option Int32 := if p0 = 1 then (if p1 < p3 then (some 0) else (some 1)) else (if p0 = 2 then (if p3 < p1 then (some 0) else (if (p1 + p2) < p3 then (some 0) else (some 1))) else (if p0 = 3 then (if p3 < p1 then (some 0) else (some 1)) else (if p0 = 4 then (if p3 ≤ p1 then (some 0) else (some 1)) else (if p3 < p1 then (some 0) else (some 1)))))
set_option maxHeartbeats 2000000 in
theorem ok_X10_doesBy (d : Nat) (p0 : Int32) (p1 : Int32) (p2 : Int32) (p3 : Int32) (σ : rf_S) (q : Int32) (h : f_X10_doesBy p0 p1 p2 p3 σ = some q) : rf_Ex ly1 (d + 1) mX10_doesBy [.int p0, .int p1, .int p2, .int p3] σ (some (.int q) : Option Value) σ := by
  unfold f_X10_doesBy at h
  refine rf_ex mw_X10_doesBy [some (.int p0), some (.int p1), some (.int p2), some (.int p3)] (Nat.le_of_ble_eq_true rfl) rfl ?_
  refine rf_b wf1 rc_X10_doesBy_ok 0 1 (1, [some (.int p0), some (.int p1), some (.int p2), some (.int p3)], [.int p0], σ) rfl ?_
  by_cases c1 : p0 = 1
  · rw [if_pos c1] at h
    refine rf_sw rc_X10_doesBy_ok 1 32 rfl c1 (by decide) (by decide) rfl (by decide) ?_
    refine rf_b wf1 rc_X10_doesBy_ok 2 2 (34, [some (.int p0), some (.int p1), some (.int p2), some (.int p3)], [.int p1, .int p3], σ) rfl ?_
    by_cases c2 : p1 < p3
    · rw [if_pos c2] at h
      refine rf_t wf1 rc_X10_doesBy_ok 4 (41, [some (.int p0), some (.int p1), some (.int p2), some (.int p3)], [], σ) rfl rfl c2 rfl ?_
      refine rf_b wf1 rc_X10_doesBy_ok 7 1 (42, [some (.int p0), some (.int p1), some (.int p2), some (.int p3)], [.int 0], σ) rfl ?_
      obtain rfl := Option.some.inj h
      exact rf_rz rc_X10_doesBy_ok 8 rfl rfl (by decide)
    · rw [if_neg c2] at h
      refine rf_f wf1 rc_X10_doesBy_ok 4 (37, [some (.int p0), some (.int p1), some (.int p2), some (.int p3)], [], σ) rfl rfl c2 rfl ?_
      refine rf_b wf1 rc_X10_doesBy_ok 5 2 (42, [some (.int p0), some (.int p1), some (.int p2), some (.int p3)], [.int 1], σ) rfl ?_
      obtain rfl := Option.some.inj h
      exact rf_rz rc_X10_doesBy_ok 8 rfl rfl (by decide)
  · rw [if_neg c1] at h
    by_cases c3 : p0 = 2
    · rw [if_pos c3] at h
      refine rf_sw rc_X10_doesBy_ok 1 54 rfl c3 (by decide) (by decide) rfl (by decide) ?_
      refine rf_b wf1 rc_X10_doesBy_ok 16 2 (56, [some (.int p0), some (.int p1), some (.int p2), some (.int p3)], [.int p1, .int p3], σ) rfl ?_
      by_cases c4 : p3 < p1
      · rw [if_pos c4] at h
        refine rf_t wf1 rc_X10_doesBy_ok 18 (70, [some (.int p0), some (.int p1), some (.int p2), some (.int p3)], [], σ) rfl rfl c4 rfl ?_
        refine rf_b wf1 rc_X10_doesBy_ok 26 1 (71, [some (.int p0), some (.int p1), some (.int p2), some (.int p3)], [.int 0], σ) rfl ?_
        obtain rfl := Option.some.inj h
        exact rf_rz rc_X10_doesBy_ok 27 rfl rfl (by decide)
      · rw [if_neg c4] at h
        refine rf_f wf1 rc_X10_doesBy_ok 18 (59, [some (.int p0), some (.int p1), some (.int p2), some (.int p3)], [], σ) rfl rfl c4 rfl ?_
        refine rf_b wf1 rc_X10_doesBy_ok 19 4 (63, [some (.int p0), some (.int p1), some (.int p2), some (.int p3)], [.int (p1 + p2), .int p3], σ) rfl ?_
        by_cases c5 : (p1 + p2) < p3
        · rw [if_pos c5] at h
          refine rf_t wf1 rc_X10_doesBy_ok 23 (70, [some (.int p0), some (.int p1), some (.int p2), some (.int p3)], [], σ) rfl rfl c5 rfl ?_
          refine rf_b wf1 rc_X10_doesBy_ok 26 1 (71, [some (.int p0), some (.int p1), some (.int p2), some (.int p3)], [.int 0], σ) rfl ?_
          obtain rfl := Option.some.inj h
          exact rf_rz rc_X10_doesBy_ok 27 rfl rfl (by decide)
        · rw [if_neg c5] at h
          refine rf_f wf1 rc_X10_doesBy_ok 23 (66, [some (.int p0), some (.int p1), some (.int p2), some (.int p3)], [], σ) rfl rfl c5 rfl ?_
          refine rf_b wf1 rc_X10_doesBy_ok 24 2 (71, [some (.int p0), some (.int p1), some (.int p2), some (.int p3)], [.int 1], σ) rfl ?_
          obtain rfl := Option.some.inj h
          exact rf_rz rc_X10_doesBy_ok 27 rfl rfl (by decide)
    · rw [if_neg c3] at h
      by_cases c6 : p0 = 3
      · rw [if_pos c6] at h
        refine rf_sw rc_X10_doesBy_ok 1 72 rfl c6 (by decide) (by decide) rfl (by decide) ?_
        refine rf_b wf1 rc_X10_doesBy_ok 28 2 (74, [some (.int p0), some (.int p1), some (.int p2), some (.int p3)], [.int p1, .int p3], σ) rfl ?_
        by_cases c7 : p3 < p1
        · rw [if_pos c7] at h
          refine rf_t wf1 rc_X10_doesBy_ok 30 (81, [some (.int p0), some (.int p1), some (.int p2), some (.int p3)], [], σ) rfl rfl c7 rfl ?_
          refine rf_b wf1 rc_X10_doesBy_ok 33 1 (82, [some (.int p0), some (.int p1), some (.int p2), some (.int p3)], [.int 0], σ) rfl ?_
          obtain rfl := Option.some.inj h
          exact rf_rz rc_X10_doesBy_ok 34 rfl rfl (by decide)
        · rw [if_neg c7] at h
          refine rf_f wf1 rc_X10_doesBy_ok 30 (77, [some (.int p0), some (.int p1), some (.int p2), some (.int p3)], [], σ) rfl rfl c7 rfl ?_
          refine rf_b wf1 rc_X10_doesBy_ok 31 2 (82, [some (.int p0), some (.int p1), some (.int p2), some (.int p3)], [.int 1], σ) rfl ?_
          obtain rfl := Option.some.inj h
          exact rf_rz rc_X10_doesBy_ok 34 rfl rfl (by decide)
      · rw [if_neg c6] at h
        by_cases c8 : p0 = 4
        · rw [if_pos c8] at h
          refine rf_sw rc_X10_doesBy_ok 1 43 rfl c8 (by decide) (by decide) rfl (by decide) ?_
          refine rf_b wf1 rc_X10_doesBy_ok 9 2 (45, [some (.int p0), some (.int p1), some (.int p2), some (.int p3)], [.int p1, .int p3], σ) rfl ?_
          by_cases c9 : p3 ≤ p1
          · rw [if_pos c9] at h
            refine rf_t wf1 rc_X10_doesBy_ok 11 (52, [some (.int p0), some (.int p1), some (.int p2), some (.int p3)], [], σ) rfl rfl c9 rfl ?_
            refine rf_b wf1 rc_X10_doesBy_ok 14 1 (53, [some (.int p0), some (.int p1), some (.int p2), some (.int p3)], [.int 0], σ) rfl ?_
            obtain rfl := Option.some.inj h
            exact rf_rz rc_X10_doesBy_ok 15 rfl rfl (by decide)
          · rw [if_neg c9] at h
            refine rf_f wf1 rc_X10_doesBy_ok 11 (48, [some (.int p0), some (.int p1), some (.int p2), some (.int p3)], [], σ) rfl rfl c9 rfl ?_
            refine rf_b wf1 rc_X10_doesBy_ok 12 2 (53, [some (.int p0), some (.int p1), some (.int p2), some (.int p3)], [.int 1], σ) rfl ?_
            obtain rfl := Option.some.inj h
            exact rf_rz rc_X10_doesBy_ok 15 rfl rfl (by decide)
        · rw [if_neg c8] at h
          refine rf_sd rc_X10_doesBy_ok 1 [1, 2, 3, 4] 72 rfl (by intro k hk; simp only [List.mem_cons, List.not_mem_nil, or_false] at hk; rcases hk with rfl | rfl | rfl | rfl <;> assumption) (by decide) (by decide) ?_
          refine rf_b wf1 rc_X10_doesBy_ok 28 2 (74, [some (.int p0), some (.int p1), some (.int p2), some (.int p3)], [.int p1, .int p3], σ) rfl ?_
          by_cases c10 : p3 < p1
          · rw [if_pos c10] at h
            refine rf_t wf1 rc_X10_doesBy_ok 30 (81, [some (.int p0), some (.int p1), some (.int p2), some (.int p3)], [], σ) rfl rfl c10 rfl ?_
            refine rf_b wf1 rc_X10_doesBy_ok 33 1 (82, [some (.int p0), some (.int p1), some (.int p2), some (.int p3)], [.int 0], σ) rfl ?_
            obtain rfl := Option.some.inj h
            exact rf_rz rc_X10_doesBy_ok 34 rfl rfl (by decide)
          · rw [if_neg c10] at h
            refine rf_f wf1 rc_X10_doesBy_ok 30 (77, [some (.int p0), some (.int p1), some (.int p2), some (.int p3)], [], σ) rfl rfl c10 rfl ?_
            refine rf_b wf1 rc_X10_doesBy_ok 31 2 (82, [some (.int p0), some (.int p1), some (.int p2), some (.int p3)], [.int 1], σ) rfl ?_
            obtain rfl := Option.some.inj h
            exact rf_rz rc_X10_doesBy_ok 34 rfl rfl (by decide)
def rc_X10_wouldAt : List rf_E := [(0, .aload_n 0, 1, 0), (1, .getfield 38, 3, 1019), (4, .iload_n 2, 1, 2), (5, .iaload, 1, 0), (6, .aload_n 0, 1, 0), (7, .aload_n 1, 1, 1), (8, .iload_n 2, 1, 2), (9, .invokevirtual 150, 3, 0), (12, .aload_n 0, 1, 0), (13, .getfield 44, 3, 1021), (16, .iload_n 2, 1, 2), (17, .iaload, 1, 0), (18, .iload_n 3, 1, 3), (19, .invokestatic 154, 3, 0), (22, .ireturn, 1, 0)]
theorem rc_X10_wouldAt_ok : rf_rc mX10_wouldAt rc_X10_wouldAt = true := by decide +kernel
theorem mw_X10_wouldAt : rf_mw mX10_wouldAt := ⟨rf_mt_ok _ (List.mem_of_getElem? (i := 180) rfl), fun h => absurd h (by decide), fun _ => ⟨rf_mi_ok _ (List.mem_of_getElem? (i := 159) rfl), rf_mv_ok _ (List.mem_of_getElem? (i := 159) rfl)⟩, rf_mq_7 _ (List.mem_of_getElem? (i := 5) rfl)⟩
def f_X10_wouldAt (p0 : Nat) (p1 : Int32) (p2 : Int32) (σ : rf_S) : Option Int32 := if rf_ck ly1 0 9 p1 = true then ((f_X10_feels p0 p1 σ).bind (fun q2 => if rf_ck ly1 0 11 p1 = true then ((f_X10_doesBy (σ.1 9 p1.toNatClampNeg) q2 (σ.1 11 p1.toNatClampNeg) p2 σ).bind (fun q5 => if q5 = 0 ∨ q5 = 1 then some q5 else none)) else none)) else none
set_option maxHeartbeats 2000000 in
theorem ok_X10_wouldAt (d : Nat) (p0 : Nat) (p1 : Int32) (p2 : Int32) (σ : rf_S) (q : Int32) (h : f_X10_wouldAt p0 p1 p2 σ = some q) : rf_Ex ly1 (d + 3) mX10_wouldAt [.ref 0, .ref p0, .int p1, .int p2] σ (some (.int q) : Option Value) σ := by
  unfold f_X10_wouldAt at h
  refine rf_ex mw_X10_wouldAt [some (.ref 0), some (.ref p0), some (.int p1), some (.int p2)] (Nat.le_of_ble_eq_true rfl) rfl ?_
  refine rf_b wf1 rc_X10_wouldAt_ok 0 3 (5, [some (.ref 0), some (.ref p0), some (.int p1), some (.int p2)], [.int p1, .ref 9], σ) rfl ?_
  obtain ⟨g1, h⟩ := rf_ifn h
  refine rf_gd wf1 rc_X10_wouldAt_ok 3 (6, [some (.ref 0), some (.ref p0), some (.int p1), some (.int p2)], [.int (σ.1 9 p1.toNatClampNeg)], σ) rfl rfl g1 rfl ?_
  refine rf_b wf1 rc_X10_wouldAt_ok 4 3 (9, [some (.ref 0), some (.ref p0), some (.int p1), some (.int p2)], [.int p1, .ref p0, .ref 0, .int (σ.1 9 p1.toNatClampNeg)], σ) rfl ?_
  obtain ⟨q2, h3, h⟩ := Option.bind_eq_some_iff.mp h
  refine rf_cv1 (Mt := mX10_feels) wf1 rc_X10_wouldAt_ok 7 false rfl (List.mem_of_getElem? (i := 158) rfl) mw_X10_feels rfl 0 [.ref p0, .int p1] [.int (σ.1 9 p1.toNatClampNeg)] rfl rfl rfl (Nat.le_of_ble_eq_true rfl) (ok_X10_feels d p0 p1 σ q2 h3) ?_
  show rf_G _ _ _ (12, [some (.ref 0), some (.ref p0), some (.int p1), some (.int p2)], [.int q2, .int (σ.1 9 p1.toNatClampNeg)], σ) _ _
  refine rf_b wf1 rc_X10_wouldAt_ok 8 3 (17, [some (.ref 0), some (.ref p0), some (.int p1), some (.int p2)], [.int p1, .ref 11, .int q2, .int (σ.1 9 p1.toNatClampNeg)], σ) rfl ?_
  obtain ⟨g4, h⟩ := rf_ifn h
  refine rf_gd wf1 rc_X10_wouldAt_ok 11 (18, [some (.ref 0), some (.ref p0), some (.int p1), some (.int p2)], [.int (σ.1 11 p1.toNatClampNeg), .int q2, .int (σ.1 9 p1.toNatClampNeg)], σ) rfl rfl g4 rfl ?_
  refine rf_b wf1 rc_X10_wouldAt_ok 12 1 (19, [some (.ref 0), some (.ref p0), some (.int p1), some (.int p2)], [.int p2, .int (σ.1 11 p1.toNatClampNeg), .int q2, .int (σ.1 9 p1.toNatClampNeg)], σ) rfl ?_
  obtain ⟨q5, h6, h⟩ := Option.bind_eq_some_iff.mp h
  refine rf_cs1 (Mt := mX10_doesBy) rc_X10_wouldAt_ok 13 false rfl (List.mem_of_getElem? (i := 159) rfl) mw_X10_doesBy rfl [.int (σ.1 9 p1.toNatClampNeg), .int q2, .int (σ.1 11 p1.toNatClampNeg), .int p2] [] rfl rfl (Nat.le_of_ble_eq_true rfl) (ok_X10_doesBy (d + 1) (σ.1 9 p1.toNatClampNeg) q2 (σ.1 11 p1.toNatClampNeg) p2 σ q5 h6) ?_
  show rf_G _ _ _ (22, [some (.ref 0), some (.ref p0), some (.int p1), some (.int p2)], [.int q5], σ) _ _
  obtain ⟨g7, h⟩ := rf_ifn h
  obtain rfl := Option.some.inj h
  exact rf_rz rc_X10_wouldAt_ok 14 rfl rfl g7
def rc_X10_doesAt : List rf_E := [(0, .aload_n 1, 1, 1), (1, .bipush 10, 2, 0), (3, .iload_n 2, 1, 2), (4, .iadd, 1, 0), (5, .iaload, 1, 0), (6, .ifCond .ne 17, 3, 23), (9, .aload_n 0, 1, 0), (10, .aload_n 1, 1, 1), (11, .iload_n 2, 1, 2), (12, .iload_n 3, 1, 3), (13, .invokevirtual 158, 3, 0), (16, .ifCond .eq 7, 3, 23), (19, .iconst 1, 1, 0), (20, .goto 4, 3, 24), (23, .iconst 0, 1, 0), (24, .ireturn, 1, 0)]
theorem rc_X10_doesAt_ok : rf_rc mX10_doesAt rc_X10_doesAt = true := by decide +kernel
theorem mw_X10_doesAt : rf_mw mX10_doesAt := ⟨rf_mt_ok _ (List.mem_of_getElem? (i := 181) rfl), fun h => absurd h (by decide), fun _ => ⟨rf_mi_ok _ (List.mem_of_getElem? (i := 160) rfl), rf_mv_ok _ (List.mem_of_getElem? (i := 160) rfl)⟩, rf_mq_7 _ (List.mem_of_getElem? (i := 6) rfl)⟩
def f_X10_doesAt (p0 : Nat) (p1 : Int32) (p2 : Int32) (σ : rf_S) : Option Int32 := if rf_ck ly1 0 p0 (10 + p1) = true then (if (σ.1 p0 (10 + p1).toNatClampNeg) ≠ 0 then (some 0) else ((f_X10_wouldAt p0 p1 p2 σ).bind (fun q3 => if q3 = 0 then (some 0) else (some 1)))) else none
set_option maxHeartbeats 2000000 in
theorem ok_X10_doesAt (d : Nat) (p0 : Nat) (p1 : Int32) (p2 : Int32) (σ : rf_S) (q : Int32) (h : f_X10_doesAt p0 p1 p2 σ = some q) : rf_Ex ly1 (d + 4) mX10_doesAt [.ref 0, .ref p0, .int p1, .int p2] σ (some (.int q) : Option Value) σ := by
  unfold f_X10_doesAt at h
  refine rf_ex mw_X10_doesAt [some (.ref 0), some (.ref p0), some (.int p1), some (.int p2)] (Nat.le_of_ble_eq_true rfl) rfl ?_
  refine rf_b wf1 rc_X10_doesAt_ok 0 4 (5, [some (.ref 0), some (.ref p0), some (.int p1), some (.int p2)], [.int (10 + p1), .ref p0], σ) rfl ?_
  obtain ⟨g1, h⟩ := rf_ifn h
  refine rf_gd wf1 rc_X10_doesAt_ok 4 (6, [some (.ref 0), some (.ref p0), some (.int p1), some (.int p2)], [.int (σ.1 p0 (10 + p1).toNatClampNeg)], σ) rfl rfl g1 rfl ?_
  by_cases c2 : (σ.1 p0 (10 + p1).toNatClampNeg) ≠ 0
  · rw [if_pos c2] at h
    refine rf_t wf1 rc_X10_doesAt_ok 5 (23, [some (.ref 0), some (.ref p0), some (.int p1), some (.int p2)], [], σ) rfl rfl c2 rfl ?_
    refine rf_b wf1 rc_X10_doesAt_ok 14 1 (24, [some (.ref 0), some (.ref p0), some (.int p1), some (.int p2)], [.int 0], σ) rfl ?_
    obtain rfl := Option.some.inj h
    exact rf_rz rc_X10_doesAt_ok 15 rfl rfl (by decide)
  · rw [if_neg c2] at h
    refine rf_f wf1 rc_X10_doesAt_ok 5 (9, [some (.ref 0), some (.ref p0), some (.int p1), some (.int p2)], [], σ) rfl rfl c2 rfl ?_
    refine rf_b wf1 rc_X10_doesAt_ok 6 4 (13, [some (.ref 0), some (.ref p0), some (.int p1), some (.int p2)], [.int p2, .int p1, .ref p0, .ref 0], σ) rfl ?_
    obtain ⟨q3, h4, h⟩ := Option.bind_eq_some_iff.mp h
    refine rf_cv1 (Mt := mX10_wouldAt) wf1 rc_X10_doesAt_ok 10 false rfl (List.mem_of_getElem? (i := 160) rfl) mw_X10_wouldAt rfl 0 [.ref p0, .int p1, .int p2] [] rfl rfl rfl (Nat.le_of_ble_eq_true rfl) (ok_X10_wouldAt d p0 p1 p2 σ q3 h4) ?_
    show rf_G _ _ _ (16, [some (.ref 0), some (.ref p0), some (.int p1), some (.int p2)], [.int q3], σ) _ _
    by_cases c5 : q3 = 0
    · rw [if_pos c5] at h
      refine rf_t wf1 rc_X10_doesAt_ok 11 (23, [some (.ref 0), some (.ref p0), some (.int p1), some (.int p2)], [], σ) rfl rfl c5 rfl ?_
      refine rf_b wf1 rc_X10_doesAt_ok 14 1 (24, [some (.ref 0), some (.ref p0), some (.int p1), some (.int p2)], [.int 0], σ) rfl ?_
      obtain rfl := Option.some.inj h
      exact rf_rz rc_X10_doesAt_ok 15 rfl rfl (by decide)
    · rw [if_neg c5] at h
      refine rf_f wf1 rc_X10_doesAt_ok 11 (19, [some (.ref 0), some (.ref p0), some (.int p1), some (.int p2)], [], σ) rfl rfl c5 rfl ?_
      refine rf_b wf1 rc_X10_doesAt_ok 12 2 (24, [some (.ref 0), some (.ref p0), some (.int p1), some (.int p2)], [.int 1], σ) rfl ?_
      obtain rfl := Option.some.inj h
      exact rf_rz rc_X10_doesAt_ok 15 rfl rfl (by decide)
def rc_X10_does : List rf_E := [(0, .aload_n 0, 1, 0), (1, .aload_n 1, 1, 1), (2, .iload_n 2, 1, 2), (3, .aload_n 1, 1, 1), (4, .aload_n 1, 1, 1), (5, .iconst 4, 1, 0), (6, .iload_n 2, 1, 2), (7, .iadd, 1, 0), (8, .iaload, 1, 0), (9, .iaload, 1, 0), (10, .invokevirtual 162, 3, 0), (13, .ireturn, 1, 0)]
theorem rc_X10_does_ok : rf_rc mX10_does rc_X10_does = true := by decide +kernel
theorem mw_X10_does : rf_mw mX10_does := ⟨rf_mt_ok _ (List.mem_of_getElem? (i := 182) rfl), fun h => absurd h (by decide), fun _ => ⟨rf_mi_ok _ (List.mem_of_getElem? (i := 161) rfl), rf_mv_ok _ (List.mem_of_getElem? (i := 161) rfl)⟩, rf_mq_7 _ (List.mem_of_getElem? (i := 7) rfl)⟩
def f_X10_does (p0 : Nat) (p1 : Int32) (σ : rf_S) : Option Int32 := if rf_ck ly1 0 p0 (4 + p1) = true then (if rf_ck ly1 0 p0 (σ.1 p0 (4 + p1).toNatClampNeg) = true then ((f_X10_doesAt p0 p1 (σ.1 p0 (σ.1 p0 (4 + p1).toNatClampNeg).toNatClampNeg) σ).bind (fun q3 => if q3 = 0 ∨ q3 = 1 then some q3 else none)) else none) else none
set_option maxHeartbeats 2000000 in
theorem ok_X10_does (d : Nat) (p0 : Nat) (p1 : Int32) (σ : rf_S) (q : Int32) (h : f_X10_does p0 p1 σ = some q) : rf_Ex ly1 (d + 5) mX10_does [.ref 0, .ref p0, .int p1] σ (some (.int q) : Option Value) σ := by
  unfold f_X10_does at h
  refine rf_ex mw_X10_does [some (.ref 0), some (.ref p0), some (.int p1)] (Nat.le_of_ble_eq_true rfl) rfl ?_
  refine rf_b wf1 rc_X10_does_ok 0 8 (8, [some (.ref 0), some (.ref p0), some (.int p1)], [.int (4 + p1), .ref p0, .ref p0, .int p1, .ref p0, .ref 0], σ) rfl ?_
  obtain ⟨g1, h⟩ := rf_ifn h
  refine rf_gd wf1 rc_X10_does_ok 8 (9, [some (.ref 0), some (.ref p0), some (.int p1)], [.int (σ.1 p0 (4 + p1).toNatClampNeg), .ref p0, .int p1, .ref p0, .ref 0], σ) rfl rfl g1 rfl ?_
  obtain ⟨g2, h⟩ := rf_ifn h
  refine rf_gd wf1 rc_X10_does_ok 9 (10, [some (.ref 0), some (.ref p0), some (.int p1)], [.int (σ.1 p0 (σ.1 p0 (4 + p1).toNatClampNeg).toNatClampNeg), .int p1, .ref p0, .ref 0], σ) rfl rfl g2 rfl ?_
  obtain ⟨q3, h4, h⟩ := Option.bind_eq_some_iff.mp h
  refine rf_cv1 (Mt := mX10_doesAt) wf1 rc_X10_does_ok 10 false rfl (List.mem_of_getElem? (i := 161) rfl) mw_X10_doesAt rfl 0 [.ref p0, .int p1, .int (σ.1 p0 (σ.1 p0 (4 + p1).toNatClampNeg).toNatClampNeg)] [] rfl rfl rfl (Nat.le_of_ble_eq_true rfl) (ok_X10_doesAt d p0 p1 (σ.1 p0 (σ.1 p0 (4 + p1).toNatClampNeg).toNatClampNeg) σ q3 h4) ?_
  show rf_G _ _ _ (13, [some (.ref 0), some (.ref p0), some (.int p1)], [.int q3], σ) _ _
  obtain ⟨g5, h⟩ := rf_ifn h
  obtain rfl := Option.some.inj h
  exact rf_rz rc_X10_does_ok 11 rfl rfl g5
def rc_X10_thereIn : List rf_E := [(0, .iconst 0, 1, 0), (1, .istore_n 3, 1, 3), (2, .iconst 0, 1, 0), (3, .istore 4, 2, 4), (5, .iload 4, 2, 4), (7, .aload_n 0, 1, 0), (8, .getfield 75, 3, 1017), (11, .if_icmp .ge 30, 3, 41), (14, .iload_n 3, 1, 3), (15, .aload_n 1, 1, 1), (16, .iconst 4, 1, 0), (17, .iload 4, 2, 4), (19, .iadd, 1, 0), (20, .iaload, 1, 0), (21, .iload_n 2, 1, 2), (22, .if_icmp .ne 10, 3, 32), (25, .iconst 1, 1, 0), (26, .iload 4, 2, 4), (28, .ishl, 1, 0), (29, .goto 4, 3, 33), (32, .iconst 0, 1, 0), (33, .ior, 1, 0), (34, .istore_n 3, 1, 3), (35, .iinc 4 1, 3, 4), (38, .goto (-33), 3, 5), (41, .iload_n 3, 1, 3), (42, .ireturn, 1, 0)]
theorem rc_X10_thereIn_ok : rf_rc mX10_thereIn rc_X10_thereIn = true := by decide +kernel
theorem mw_X10_thereIn : rf_mw mX10_thereIn := ⟨rf_mt_ok _ (List.mem_of_getElem? (i := 183) rfl), fun h => absurd h (by decide), fun _ => ⟨rf_mi_ok _ (List.mem_of_getElem? (i := 162) rfl), rf_mv_ok _ (List.mem_of_getElem? (i := 162) rfl)⟩, rf_mq_7 _ (List.mem_of_getElem? (i := 8) rfl)⟩
def f_X10_thereIn_j33 (l1 : Nat) (l2 : Int32) (l4 : Int32) (t0 : Int32) (t1 : Int32) (σ : rf_S) : Option ((Int32 × Int32) ⊕ (Int32)) := some (.inl ((t1 ||| t0), (l4 + 1)))
set_option maxHeartbeats 2000000 in
theorem ok_X10_thereIn_j33 (d : Nat) (l1 : Nat) (l2 : Int32) (l4 : Int32) (t0 : Int32) (t1 : Int32) (σ : rf_S) (o : ((Int32 × Int32) ⊕ (Int32))) (h : f_X10_thereIn_j33 l1 l2 l4 t0 t1 σ = some o) {r : Option Value} {σr : rf_S} (kl : ∀ s', o = .inl s' → rf_G ly1 (d) mX10_thereIn (5, [some (.ref 0), some (.ref l1), some (.int l2), some (.int s'.1), some (.int s'.2)], [], σ) r σr) (kx : ∀ e, o = .inr e → rf_G ly1 (d) mX10_thereIn (41, [none, none, none, some (.int e), none], [], σ) r σr) : rf_G ly1 (d) mX10_thereIn (33, [some (.ref 0), some (.ref l1), some (.int l2), none, some (.int l4)], [.int t0, .int t1], σ) r σr := by
  unfold f_X10_thereIn_j33 at h
  refine rf_b wf1 rc_X10_thereIn_ok 21 4 (5, [some (.ref 0), some (.ref l1), some (.int l2), some (.int (t1 ||| t0)), some (.int (l4 + 1))], [], σ) rfl ?_
  exact kl ((t1 ||| t0), (l4 + 1)) (Option.some.inj h).symm
def f_X10_thereIn_b5 (l1 : Nat) (l2 : Int32) (σ : rf_S) (s5 : Int32 × Int32) : Option ((Int32 × Int32) ⊕ (Int32)) := if (σ.1 0 17) ≤ s5.2 then (some (.inr s5.1)) else (if rf_ck ly1 0 l1 (4 + s5.2) = true then (if (σ.1 l1 (4 + s5.2).toNatClampNeg) ≠ l2 then (f_X10_thereIn_j33 l1 l2 s5.2 0 s5.1 σ) else (f_X10_thereIn_j33 l1 l2 s5.2 (1 <<< (s5.2 &&& 31)) s5.1 σ)) else none)
set_option maxHeartbeats 2000000 in
theorem ok_X10_thereIn_b5 (d : Nat) (l1 : Nat) (l2 : Int32) (σ : rf_S) (s5 : Int32 × Int32) (o : ((Int32 × Int32) ⊕ (Int32))) (h : f_X10_thereIn_b5 l1 l2 σ s5 = some o) {r : Option Value} {σr : rf_S} (kl : ∀ s', o = .inl s' → rf_G ly1 (d) mX10_thereIn (5, [some (.ref 0), some (.ref l1), some (.int l2), some (.int s'.1), some (.int s'.2)], [], σ) r σr) (kx : ∀ e, o = .inr e → rf_G ly1 (d) mX10_thereIn (41, [none, none, none, some (.int e), none], [], σ) r σr) : rf_G ly1 (d) mX10_thereIn (5, [some (.ref 0), some (.ref l1), some (.int l2), some (.int s5.1), some (.int s5.2)], [], σ) r σr := by
  unfold f_X10_thereIn_b5 at h
  refine rf_b wf1 rc_X10_thereIn_ok 4 3 (11, [some (.ref 0), some (.ref l1), some (.int l2), some (.int s5.1), some (.int s5.2)], [.int (σ.1 0 17), .int s5.2], σ) rfl ?_
  by_cases c1 : (σ.1 0 17) ≤ s5.2
  · rw [if_pos c1] at h
    refine rf_t wf1 rc_X10_thereIn_ok 7 (41, [some (.ref 0), some (.ref l1), some (.int l2), some (.int s5.1), some (.int s5.2)], [], σ) rfl rfl c1 rfl ?_
    refine rf_fg [false, false, false, true, false] [none, none, none, some (.int s5.1), none] rfl ?_
    exact kx s5.1 (Option.some.inj h).symm
  · rw [if_neg c1] at h
    refine rf_f wf1 rc_X10_thereIn_ok 7 (14, [some (.ref 0), some (.ref l1), some (.int l2), some (.int s5.1), some (.int s5.2)], [], σ) rfl rfl c1 rfl ?_
    refine rf_b wf1 rc_X10_thereIn_ok 8 5 (20, [some (.ref 0), some (.ref l1), some (.int l2), some (.int s5.1), some (.int s5.2)], [.int (4 + s5.2), .ref l1, .int s5.1], σ) rfl ?_
    obtain ⟨g2, h⟩ := rf_ifn h
    refine rf_gd wf1 rc_X10_thereIn_ok 13 (21, [some (.ref 0), some (.ref l1), some (.int l2), some (.int s5.1), some (.int s5.2)], [.int (σ.1 l1 (4 + s5.2).toNatClampNeg), .int s5.1], σ) rfl rfl g2 rfl ?_
    refine rf_b wf1 rc_X10_thereIn_ok 14 1 (22, [some (.ref 0), some (.ref l1), some (.int l2), some (.int s5.1), some (.int s5.2)], [.int l2, .int (σ.1 l1 (4 + s5.2).toNatClampNeg), .int s5.1], σ) rfl ?_
    by_cases c3 : (σ.1 l1 (4 + s5.2).toNatClampNeg) ≠ l2
    · rw [if_pos c3] at h
      refine rf_t wf1 rc_X10_thereIn_ok 15 (32, [some (.ref 0), some (.ref l1), some (.int l2), some (.int s5.1), some (.int s5.2)], [.int s5.1], σ) rfl rfl c3 rfl ?_
      refine rf_b wf1 rc_X10_thereIn_ok 20 1 (33, [some (.ref 0), some (.ref l1), some (.int l2), some (.int s5.1), some (.int s5.2)], [.int 0, .int s5.1], σ) rfl ?_
      refine rf_fg [true, true, true, false, true] [some (.ref 0), some (.ref l1), some (.int l2), none, some (.int s5.2)] rfl ?_
      exact ok_X10_thereIn_j33 d l1 l2 s5.2 0 s5.1 σ o h kl kx
    · rw [if_neg c3] at h
      refine rf_f wf1 rc_X10_thereIn_ok 15 (25, [some (.ref 0), some (.ref l1), some (.int l2), some (.int s5.1), some (.int s5.2)], [.int s5.1], σ) rfl rfl c3 rfl ?_
      refine rf_b wf1 rc_X10_thereIn_ok 16 4 (33, [some (.ref 0), some (.ref l1), some (.int l2), some (.int s5.1), some (.int s5.2)], [.int (1 <<< (s5.2 &&& 31)), .int s5.1], σ) rfl ?_
      refine rf_fg [true, true, true, false, true] [some (.ref 0), some (.ref l1), some (.int l2), none, some (.int s5.2)] rfl ?_
      exact ok_X10_thereIn_j33 d l1 l2 s5.2 (1 <<< (s5.2 &&& 31)) s5.1 σ o h kl kx
def f_X10_thereIn (p0 : Nat) (p1 : Int32) (σ : rf_S) : Option Int32 := (rf_lp (f_X10_thereIn_b5 p0 p1 σ) 5000 (0, 0)).bind (fun e4 => some e4)
set_option maxHeartbeats 2000000 in
theorem ok_X10_thereIn (d : Nat) (p0 : Nat) (p1 : Int32) (σ : rf_S) (q : Int32) (h : f_X10_thereIn p0 p1 σ = some q) : rf_Ex ly1 (d + 1) mX10_thereIn [.ref 0, .ref p0, .int p1] σ (some (.int q) : Option Value) σ := by
  unfold f_X10_thereIn at h
  refine rf_ex mw_X10_thereIn [some (.ref 0), some (.ref p0), some (.int p1), none, none] (Nat.le_of_ble_eq_true rfl) rfl ?_
  refine rf_b wf1 rc_X10_thereIn_ok 0 4 (5, [some (.ref 0), some (.ref p0), some (.int p1), some (.int 0), some (.int 0)], [], σ) rfl ?_
  obtain ⟨e4, h5, h⟩ := Option.bind_eq_some_iff.mp h
  refine rf_lpG (b := f_X10_thereIn_b5 p0 p1 σ) (G := fun (s5 : Int32 × Int32) => rf_G ly1 (d) mX10_thereIn (5, [some (.ref 0), some (.ref p0), some (.int p1), some (.int s5.1), some (.int s5.2)], [], σ) (some (.int q) : Option Value) σ) (K := fun (e : (Int32)) => rf_G ly1 (d) mX10_thereIn (41, [none, none, none, some (.int e), none], [], σ) (some (.int q) : Option Value) σ) (fun (s5 : Int32 × Int32) (o : (Int32 × Int32) ⊕ (Int32)) hb kl kx => ok_X10_thereIn_b5 d p0 p1 σ s5 o hb kl kx) 5000 (0, 0) e4 h5 ?_
  show rf_G _ _ _ (41, [none, none, none, some (.int e4), none], [], σ) _ _
  refine rf_b wf1 rc_X10_thereIn_ok 25 1 (42, [none, none, none, some (.int e4), none], [.int e4], σ) rfl ?_
  obtain rfl := Option.some.inj h
  exact rf_ri rc_X10_thereIn_ok 26 rfl rfl
def rc_X10_doing : List rf_E := [(0, .iconst 0, 1, 0), (1, .istore_n 2, 1, 2), (2, .iconst 0, 1, 0), (3, .istore_n 3, 1, 3), (4, .iload_n 3, 1, 3), (5, .aload_n 0, 1, 0), (6, .getfield 75, 3, 1017), (9, .if_icmp .ge 28, 3, 37), (12, .iload_n 2, 1, 2), (13, .aload_n 0, 1, 0), (14, .aload_n 1, 1, 1), (15, .iload_n 3, 1, 3), (16, .invokevirtual 165, 3, 0), (19, .ifCond .eq 9, 3, 28), (22, .iconst 1, 1, 0), (23, .iload_n 3, 1, 3), (24, .ishl, 1, 0), (25, .goto 4, 3, 29), (28, .iconst 0, 1, 0), (29, .ior, 1, 0), (30, .istore_n 2, 1, 2), (31, .iinc 3 1, 3, 3), (34, .goto (-30), 3, 4), (37, .iload_n 2, 1, 2), (38, .ireturn, 1, 0)]
theorem rc_X10_doing_ok : rf_rc mX10_doing rc_X10_doing = true := by decide +kernel
theorem mw_X10_doing : rf_mw mX10_doing := ⟨rf_mt_ok _ (List.mem_of_getElem? (i := 184) rfl), fun h => absurd h (by decide), fun _ => ⟨rf_mi_ok _ (List.mem_of_getElem? (i := 163) rfl), rf_mv_ok _ (List.mem_of_getElem? (i := 163) rfl)⟩, rf_mq_7 _ (List.mem_of_getElem? (i := 9) rfl)⟩
def f_X10_doing_j29 (l1 : Nat) (l3 : Int32) (t0 : Int32) (t1 : Int32) (σ : rf_S) : Option ((Int32 × Int32) ⊕ (Int32)) := some (.inl ((t1 ||| t0), (l3 + 1)))
set_option maxHeartbeats 2000000 in
theorem ok_X10_doing_j29 (d : Nat) (l1 : Nat) (l3 : Int32) (t0 : Int32) (t1 : Int32) (σ : rf_S) (o : ((Int32 × Int32) ⊕ (Int32))) (h : f_X10_doing_j29 l1 l3 t0 t1 σ = some o) {r : Option Value} {σr : rf_S} (kl : ∀ s', o = .inl s' → rf_G ly1 (d + 5) mX10_doing (4, [some (.ref 0), some (.ref l1), some (.int s'.1), some (.int s'.2)], [], σ) r σr) (kx : ∀ e, o = .inr e → rf_G ly1 (d + 5) mX10_doing (37, [none, none, some (.int e), none], [], σ) r σr) : rf_G ly1 (d + 5) mX10_doing (29, [some (.ref 0), some (.ref l1), none, some (.int l3)], [.int t0, .int t1], σ) r σr := by
  unfold f_X10_doing_j29 at h
  refine rf_b wf1 rc_X10_doing_ok 19 4 (4, [some (.ref 0), some (.ref l1), some (.int (t1 ||| t0)), some (.int (l3 + 1))], [], σ) rfl ?_
  exact kl ((t1 ||| t0), (l3 + 1)) (Option.some.inj h).symm
def f_X10_doing_b4 (l1 : Nat) (σ : rf_S) (s4 : Int32 × Int32) : Option ((Int32 × Int32) ⊕ (Int32)) := if (σ.1 0 17) ≤ s4.2 then (some (.inr s4.1)) else ((f_X10_does l1 s4.2 σ).bind (fun q2 => if q2 = 0 then (f_X10_doing_j29 l1 s4.2 0 s4.1 σ) else (f_X10_doing_j29 l1 s4.2 (1 <<< (s4.2 &&& 31)) s4.1 σ)))
set_option maxHeartbeats 2000000 in
theorem ok_X10_doing_b4 (d : Nat) (l1 : Nat) (σ : rf_S) (s4 : Int32 × Int32) (o : ((Int32 × Int32) ⊕ (Int32))) (h : f_X10_doing_b4 l1 σ s4 = some o) {r : Option Value} {σr : rf_S} (kl : ∀ s', o = .inl s' → rf_G ly1 (d + 5) mX10_doing (4, [some (.ref 0), some (.ref l1), some (.int s'.1), some (.int s'.2)], [], σ) r σr) (kx : ∀ e, o = .inr e → rf_G ly1 (d + 5) mX10_doing (37, [none, none, some (.int e), none], [], σ) r σr) : rf_G ly1 (d + 5) mX10_doing (4, [some (.ref 0), some (.ref l1), some (.int s4.1), some (.int s4.2)], [], σ) r σr := by
  unfold f_X10_doing_b4 at h
  refine rf_b wf1 rc_X10_doing_ok 4 3 (9, [some (.ref 0), some (.ref l1), some (.int s4.1), some (.int s4.2)], [.int (σ.1 0 17), .int s4.2], σ) rfl ?_
  by_cases c1 : (σ.1 0 17) ≤ s4.2
  · rw [if_pos c1] at h
    refine rf_t wf1 rc_X10_doing_ok 7 (37, [some (.ref 0), some (.ref l1), some (.int s4.1), some (.int s4.2)], [], σ) rfl rfl c1 rfl ?_
    refine rf_fg [false, false, true, false] [none, none, some (.int s4.1), none] rfl ?_
    exact kx s4.1 (Option.some.inj h).symm
  · rw [if_neg c1] at h
    refine rf_f wf1 rc_X10_doing_ok 7 (12, [some (.ref 0), some (.ref l1), some (.int s4.1), some (.int s4.2)], [], σ) rfl rfl c1 rfl ?_
    refine rf_b wf1 rc_X10_doing_ok 8 4 (16, [some (.ref 0), some (.ref l1), some (.int s4.1), some (.int s4.2)], [.int s4.2, .ref l1, .ref 0, .int s4.1], σ) rfl ?_
    obtain ⟨q2, h3, h⟩ := Option.bind_eq_some_iff.mp h
    refine rf_cv1 (Mt := mX10_does) wf1 rc_X10_doing_ok 12 false rfl (List.mem_of_getElem? (i := 162) rfl) mw_X10_does rfl 0 [.ref l1, .int s4.2] [.int s4.1] rfl rfl rfl (Nat.le_of_ble_eq_true rfl) (ok_X10_does d l1 s4.2 σ q2 h3) ?_
    show rf_G _ _ _ (19, [some (.ref 0), some (.ref l1), some (.int s4.1), some (.int s4.2)], [.int q2, .int s4.1], σ) _ _
    by_cases c4 : q2 = 0
    · rw [if_pos c4] at h
      refine rf_t wf1 rc_X10_doing_ok 13 (28, [some (.ref 0), some (.ref l1), some (.int s4.1), some (.int s4.2)], [.int s4.1], σ) rfl rfl c4 rfl ?_
      refine rf_b wf1 rc_X10_doing_ok 18 1 (29, [some (.ref 0), some (.ref l1), some (.int s4.1), some (.int s4.2)], [.int 0, .int s4.1], σ) rfl ?_
      refine rf_fg [true, true, false, true] [some (.ref 0), some (.ref l1), none, some (.int s4.2)] rfl ?_
      exact ok_X10_doing_j29 d l1 s4.2 0 s4.1 σ o h kl kx
    · rw [if_neg c4] at h
      refine rf_f wf1 rc_X10_doing_ok 13 (22, [some (.ref 0), some (.ref l1), some (.int s4.1), some (.int s4.2)], [.int s4.1], σ) rfl rfl c4 rfl ?_
      refine rf_b wf1 rc_X10_doing_ok 14 4 (29, [some (.ref 0), some (.ref l1), some (.int s4.1), some (.int s4.2)], [.int (1 <<< (s4.2 &&& 31)), .int s4.1], σ) rfl ?_
      refine rf_fg [true, true, false, true] [some (.ref 0), some (.ref l1), none, some (.int s4.2)] rfl ?_
      exact ok_X10_doing_j29 d l1 s4.2 (1 <<< (s4.2 &&& 31)) s4.1 σ o h kl kx
def f_X10_doing (p0 : Nat) (σ : rf_S) : Option Int32 := (rf_lp (f_X10_doing_b4 p0 σ) 5000 (0, 0)).bind (fun e5 => some e5)
set_option maxHeartbeats 2000000 in
theorem ok_X10_doing (d : Nat) (p0 : Nat) (σ : rf_S) (q : Int32) (h : f_X10_doing p0 σ = some q) : rf_Ex ly1 (d + 6) mX10_doing [.ref 0, .ref p0] σ (some (.int q) : Option Value) σ := by
  unfold f_X10_doing at h
  refine rf_ex mw_X10_doing [some (.ref 0), some (.ref p0), none, none] (Nat.le_of_ble_eq_true rfl) rfl ?_
  refine rf_b wf1 rc_X10_doing_ok 0 4 (4, [some (.ref 0), some (.ref p0), some (.int 0), some (.int 0)], [], σ) rfl ?_
  obtain ⟨e5, h6, h⟩ := Option.bind_eq_some_iff.mp h
  refine rf_lpG (b := f_X10_doing_b4 p0 σ) (G := fun (s4 : Int32 × Int32) => rf_G ly1 (d + 5) mX10_doing (4, [some (.ref 0), some (.ref p0), some (.int s4.1), some (.int s4.2)], [], σ) (some (.int q) : Option Value) σ) (K := fun (e : (Int32)) => rf_G ly1 (d + 5) mX10_doing (37, [none, none, some (.int e), none], [], σ) (some (.int q) : Option Value) σ) (fun (s4 : Int32 × Int32) (o : (Int32 × Int32) ⊕ (Int32)) hb kl kx => ok_X10_doing_b4 d p0 σ s4 o hb kl kx) 5000 (0, 0) e5 h6 ?_
  show rf_G _ _ _ (37, [none, none, some (.int e5), none], [], σ) _ _
  refine rf_b wf1 rc_X10_doing_ok 23 1 (38, [none, none, some (.int e5), none], [.int e5], σ) rfl ?_
  obtain rfl := Option.some.inj h
  exact rf_ri rc_X10_doing_ok 24 rfl rfl
def rc_X10_memberTells : List rf_E := [(0, .iload_n 2, 1, 2), (1, .tableswitch 103 0 6 #[43, 50, 57, 64, 73, 83, 93], 43, 0), (44, .aload_n 0, 1, 0), (45, .getfield 38, 3, 1019), (48, .iload_n 1, 1, 1), (49, .iaload, 1, 0), (50, .ireturn, 1, 0), (51, .aload_n 0, 1, 0), (52, .getfield 41, 3, 1020), (55, .iload_n 1, 1, 1), (56, .iaload, 1, 0), (57, .ireturn, 1, 0), (58, .aload_n 0, 1, 0), (59, .getfield 44, 3, 1021), (62, .iload_n 1, 1, 1), (63, .iaload, 1, 0), (64, .ireturn, 1, 0), (65, .aload_n 0, 1, 0), (66, .getfield 47, 3, 1022), (69, .iconst 4, 1, 0), (70, .iload_n 1, 1, 1), (71, .iadd, 1, 0), (72, .iaload, 1, 0), (73, .ireturn, 1, 0), (74, .aload_n 0, 1, 0), (75, .getfield 47, 3, 1022), (78, .bipush 10, 2, 0), (80, .iload_n 1, 1, 1), (81, .iadd, 1, 0), (82, .iaload, 1, 0), (83, .ireturn, 1, 0), (84, .aload_n 0, 1, 0), (85, .getfield 47, 3, 1022), (88, .bipush 16, 2, 0), (90, .iload_n 1, 1, 1), (91, .iadd, 1, 0), (92, .iaload, 1, 0), (93, .ireturn, 1, 0), (94, .aload_n 0, 1, 0), (95, .aload_n 0, 1, 0), (96, .getfield 47, 3, 1022), (99, .iload_n 1, 1, 1), (100, .invokevirtual 150, 3, 0), (103, .ireturn, 1, 0), (104, .aload_n 0, 1, 0), (105, .aload_n 0, 1, 0), (106, .getfield 47, 3, 1022), (109, .iload_n 1, 1, 1), (110, .invokevirtual 165, 3, 0), (113, .ifCond .eq 7, 3, 120), (116, .iconst 1, 1, 0), (117, .goto 4, 3, 121), (120, .iconst 0, 1, 0), (121, .ireturn, 1, 0)]
theorem rc_X10_memberTells_ok : rf_rc mX10_memberTells rc_X10_memberTells = true := by decide +kernel
theorem mw_X10_memberTells : rf_mw mX10_memberTells := ⟨rf_mt_ok _ (List.mem_of_getElem? (i := 185) rfl), fun h => absurd h (by decide), fun _ => ⟨rf_mi_ok _ (List.mem_of_getElem? (i := 164) rfl), rf_mv_ok _ (List.mem_of_getElem? (i := 164) rfl)⟩, rf_mq_7 _ (List.mem_of_getElem? (i := 10) rfl)⟩
def f_X10_memberTells (p0 : Int32) (p1 : Int32) (σ : rf_S) : Option Int32 := if p1 = 0 then (if rf_ck ly1 0 9 p0 = true then (some (σ.1 9 p0.toNatClampNeg)) else none) else (if p1 = 1 then (if rf_ck ly1 0 10 p0 = true then (some (σ.1 10 p0.toNatClampNeg)) else none) else (if p1 = 2 then (if rf_ck ly1 0 11 p0 = true then (some (σ.1 11 p0.toNatClampNeg)) else none) else (if p1 = 3 then (if rf_ck ly1 0 12 (4 + p0) = true then (some (σ.1 12 (4 + p0).toNatClampNeg)) else none) else (if p1 = 4 then (if rf_ck ly1 0 12 (10 + p0) = true then (some (σ.1 12 (10 + p0).toNatClampNeg)) else none) else (if p1 = 5 then (if rf_ck ly1 0 12 (16 + p0) = true then (some (σ.1 12 (16 + p0).toNatClampNeg)) else none) else (if p1 = 6 then ((f_X10_feels 12 p0 σ).bind (fun q14 => some q14)) else ((f_X10_does 12 p0 σ).bind (fun q16 => if q16 = 0 then (some 0) else (some 1)))))))))
set_option maxHeartbeats 2000000 in
theorem ok_X10_memberTells (d : Nat) (p0 : Int32) (p1 : Int32) (σ : rf_S) (q : Int32) (h : f_X10_memberTells p0 p1 σ = some q) : rf_Ex ly1 (d + 6) mX10_memberTells [.ref 0, .int p0, .int p1] σ (some (.int q) : Option Value) σ := by
  unfold f_X10_memberTells at h
  refine rf_ex mw_X10_memberTells [some (.ref 0), some (.int p0), some (.int p1)] (Nat.le_of_ble_eq_true rfl) rfl ?_
  refine rf_b wf1 rc_X10_memberTells_ok 0 1 (1, [some (.ref 0), some (.int p0), some (.int p1)], [.int p1], σ) rfl ?_
  by_cases c1 : p1 = 0
  · rw [if_pos c1] at h
    refine rf_sw rc_X10_memberTells_ok 1 44 rfl c1 (by decide) (by decide) rfl (by decide) ?_
    refine rf_b wf1 rc_X10_memberTells_ok 2 3 (49, [some (.ref 0), some (.int p0), some (.int p1)], [.int p0, .ref 9], σ) rfl ?_
    obtain ⟨g2, h⟩ := rf_ifn h
    refine rf_gd wf1 rc_X10_memberTells_ok 5 (50, [some (.ref 0), some (.int p0), some (.int p1)], [.int (σ.1 9 p0.toNatClampNeg)], σ) rfl rfl g2 rfl ?_
    obtain rfl := Option.some.inj h
    exact rf_ri rc_X10_memberTells_ok 6 rfl rfl
  · rw [if_neg c1] at h
    by_cases c3 : p1 = 1
    · rw [if_pos c3] at h
      refine rf_sw rc_X10_memberTells_ok 1 51 rfl c3 (by decide) (by decide) rfl (by decide) ?_
      refine rf_b wf1 rc_X10_memberTells_ok 7 3 (56, [some (.ref 0), some (.int p0), some (.int p1)], [.int p0, .ref 10], σ) rfl ?_
      obtain ⟨g4, h⟩ := rf_ifn h
      refine rf_gd wf1 rc_X10_memberTells_ok 10 (57, [some (.ref 0), some (.int p0), some (.int p1)], [.int (σ.1 10 p0.toNatClampNeg)], σ) rfl rfl g4 rfl ?_
      obtain rfl := Option.some.inj h
      exact rf_ri rc_X10_memberTells_ok 11 rfl rfl
    · rw [if_neg c3] at h
      by_cases c5 : p1 = 2
      · rw [if_pos c5] at h
        refine rf_sw rc_X10_memberTells_ok 1 58 rfl c5 (by decide) (by decide) rfl (by decide) ?_
        refine rf_b wf1 rc_X10_memberTells_ok 12 3 (63, [some (.ref 0), some (.int p0), some (.int p1)], [.int p0, .ref 11], σ) rfl ?_
        obtain ⟨g6, h⟩ := rf_ifn h
        refine rf_gd wf1 rc_X10_memberTells_ok 15 (64, [some (.ref 0), some (.int p0), some (.int p1)], [.int (σ.1 11 p0.toNatClampNeg)], σ) rfl rfl g6 rfl ?_
        obtain rfl := Option.some.inj h
        exact rf_ri rc_X10_memberTells_ok 16 rfl rfl
      · rw [if_neg c5] at h
        by_cases c7 : p1 = 3
        · rw [if_pos c7] at h
          refine rf_sw rc_X10_memberTells_ok 1 65 rfl c7 (by decide) (by decide) rfl (by decide) ?_
          refine rf_b wf1 rc_X10_memberTells_ok 17 5 (72, [some (.ref 0), some (.int p0), some (.int p1)], [.int (4 + p0), .ref 12], σ) rfl ?_
          obtain ⟨g8, h⟩ := rf_ifn h
          refine rf_gd wf1 rc_X10_memberTells_ok 22 (73, [some (.ref 0), some (.int p0), some (.int p1)], [.int (σ.1 12 (4 + p0).toNatClampNeg)], σ) rfl rfl g8 rfl ?_
          obtain rfl := Option.some.inj h
          exact rf_ri rc_X10_memberTells_ok 23 rfl rfl
        · rw [if_neg c7] at h
          by_cases c9 : p1 = 4
          · rw [if_pos c9] at h
            refine rf_sw rc_X10_memberTells_ok 1 74 rfl c9 (by decide) (by decide) rfl (by decide) ?_
            refine rf_b wf1 rc_X10_memberTells_ok 24 5 (82, [some (.ref 0), some (.int p0), some (.int p1)], [.int (10 + p0), .ref 12], σ) rfl ?_
            obtain ⟨g10, h⟩ := rf_ifn h
            refine rf_gd wf1 rc_X10_memberTells_ok 29 (83, [some (.ref 0), some (.int p0), some (.int p1)], [.int (σ.1 12 (10 + p0).toNatClampNeg)], σ) rfl rfl g10 rfl ?_
            obtain rfl := Option.some.inj h
            exact rf_ri rc_X10_memberTells_ok 30 rfl rfl
          · rw [if_neg c9] at h
            by_cases c11 : p1 = 5
            · rw [if_pos c11] at h
              refine rf_sw rc_X10_memberTells_ok 1 84 rfl c11 (by decide) (by decide) rfl (by decide) ?_
              refine rf_b wf1 rc_X10_memberTells_ok 31 5 (92, [some (.ref 0), some (.int p0), some (.int p1)], [.int (16 + p0), .ref 12], σ) rfl ?_
              obtain ⟨g12, h⟩ := rf_ifn h
              refine rf_gd wf1 rc_X10_memberTells_ok 36 (93, [some (.ref 0), some (.int p0), some (.int p1)], [.int (σ.1 12 (16 + p0).toNatClampNeg)], σ) rfl rfl g12 rfl ?_
              obtain rfl := Option.some.inj h
              exact rf_ri rc_X10_memberTells_ok 37 rfl rfl
            · rw [if_neg c11] at h
              by_cases c13 : p1 = 6
              · rw [if_pos c13] at h
                refine rf_sw rc_X10_memberTells_ok 1 94 rfl c13 (by decide) (by decide) rfl (by decide) ?_
                refine rf_b wf1 rc_X10_memberTells_ok 38 4 (100, [some (.ref 0), some (.int p0), some (.int p1)], [.int p0, .ref 12, .ref 0], σ) rfl ?_
                obtain ⟨q14, h15, h⟩ := Option.bind_eq_some_iff.mp h
                refine rf_cv1 (Mt := mX10_feels) wf1 rc_X10_memberTells_ok 42 false rfl (List.mem_of_getElem? (i := 158) rfl) mw_X10_feels rfl 0 [.ref 12, .int p0] [] rfl rfl rfl (Nat.le_of_ble_eq_true rfl) (ok_X10_feels (d + 3) 12 p0 σ q14 h15) ?_
                show rf_G _ _ _ (103, [some (.ref 0), some (.int p0), some (.int p1)], [.int q14], σ) _ _
                obtain rfl := Option.some.inj h
                exact rf_ri rc_X10_memberTells_ok 43 rfl rfl
              · rw [if_neg c13] at h
                refine rf_sd rc_X10_memberTells_ok 1 [0, 1, 2, 3, 4, 5, 6] 104 rfl (by intro k hk; simp only [List.mem_cons, List.not_mem_nil, or_false] at hk; rcases hk with rfl | rfl | rfl | rfl | rfl | rfl | rfl <;> assumption) (by decide) (by decide) ?_
                refine rf_b wf1 rc_X10_memberTells_ok 44 4 (110, [some (.ref 0), some (.int p0), some (.int p1)], [.int p0, .ref 12, .ref 0], σ) rfl ?_
                obtain ⟨q16, h17, h⟩ := Option.bind_eq_some_iff.mp h
                refine rf_cv1 (Mt := mX10_does) wf1 rc_X10_memberTells_ok 48 false rfl (List.mem_of_getElem? (i := 162) rfl) mw_X10_does rfl 0 [.ref 12, .int p0] [] rfl rfl rfl (Nat.le_of_ble_eq_true rfl) (ok_X10_does d 12 p0 σ q16 h17) ?_
                show rf_G _ _ _ (113, [some (.ref 0), some (.int p0), some (.int p1)], [.int q16], σ) _ _
                by_cases c18 : q16 = 0
                · rw [if_pos c18] at h
                  refine rf_t wf1 rc_X10_memberTells_ok 49 (120, [some (.ref 0), some (.int p0), some (.int p1)], [], σ) rfl rfl c18 rfl ?_
                  refine rf_b wf1 rc_X10_memberTells_ok 52 1 (121, [some (.ref 0), some (.int p0), some (.int p1)], [.int 0], σ) rfl ?_
                  obtain rfl := Option.some.inj h
                  exact rf_ri rc_X10_memberTells_ok 53 rfl rfl
                · rw [if_neg c18] at h
                  refine rf_f wf1 rc_X10_memberTells_ok 49 (116, [some (.ref 0), some (.int p0), some (.int p1)], [], σ) rfl rfl c18 rfl ?_
                  refine rf_b wf1 rc_X10_memberTells_ok 50 2 (121, [some (.ref 0), some (.int p0), some (.int p1)], [.int 1], σ) rfl ?_
                  obtain rfl := Option.some.inj h
                  exact rf_ri rc_X10_memberTells_ok 53 rfl rfl
def rc_X10_member : List rf_E := [(0, .aload_n 0, 1, 0), (1, .iload_n 1, 1, 1), (2, .invokevirtual 169, 3, 0), (5, .ifCond .eq 26, 3, 31), (8, .iload_n 2, 1, 2), (9, .iconst 0, 1, 0), (10, .bipush 7, 2, 0), (12, .invokestatic 78, 3, 0), (15, .ifCond .eq 16, 3, 31), (18, .aload_n 0, 1, 0), (19, .aload_n 0, 1, 0), (20, .iload_n 1, 1, 1), (21, .iload_n 2, 1, 2), (22, .invokevirtual 172, 3, 0), (25, .invokevirtual 93, 3, 0), (28, .goto 4, 3, 32), (31, .iconst (-1), 1, 0), (32, .ireturn, 1, 0)]
theorem rc_X10_member_ok : rf_rc mX10_member rc_X10_member = true := by decide +kernel
theorem mw_X10_member : rf_mw mX10_member := ⟨rf_mt_ok _ (List.mem_of_getElem? (i := 186) rfl), fun h => absurd h (by decide), fun _ => ⟨rf_mi_ok _ (List.mem_of_getElem? (i := 165) rfl), rf_mv_ok _ (List.mem_of_getElem? (i := 165) rfl)⟩, rf_mq_7 _ (List.mem_of_getElem? (i := 11) rfl)⟩
def f_X10_member (p0 : Int32) (p1 : Int32) (σ : rf_S) : Option (Int32 × rf_S) := (f_X10_isOne p0 σ).bind (fun q1 => if q1 = 0 then (some ((-1), σ)) else ((f_X10_in p1 0 7 σ).bind (fun q4 => if q4 = 0 then (some ((-1), σ)) else ((f_X10_memberTells p0 p1 σ).bind (fun q7 => (f_X10_tells q7 σ).bind (fun q9 => some (q9.1, q9.2)))))))
set_option maxHeartbeats 2000000 in
theorem ok_X10_member (d : Nat) (p0 : Int32) (p1 : Int32) (σ : rf_S) (q : (Int32 × rf_S)) (h : f_X10_member p0 p1 σ = some q) : rf_Ex ly1 (d + 7) mX10_member [.ref 0, .int p0, .int p1] σ (some (.int q.1) : Option Value) q.2 := by
  unfold f_X10_member at h
  refine rf_ex mw_X10_member [some (.ref 0), some (.int p0), some (.int p1)] (Nat.le_of_ble_eq_true rfl) rfl ?_
  refine rf_b wf1 rc_X10_member_ok 0 2 (2, [some (.ref 0), some (.int p0), some (.int p1)], [.int p0, .ref 0], σ) rfl ?_
  obtain ⟨q1, h2, h⟩ := Option.bind_eq_some_iff.mp h
  refine rf_cv1 (Mt := mX10_isOne) wf1 rc_X10_member_ok 2 false rfl (List.mem_of_getElem? (i := 163) rfl) mw_X10_isOne rfl 0 [.int p0] [] rfl rfl rfl (Nat.le_of_ble_eq_true rfl) (ok_X10_isOne (d + 4) p0 σ q1 h2) ?_
  show rf_G _ _ _ (5, [some (.ref 0), some (.int p0), some (.int p1)], [.int q1], σ) _ _
  by_cases c3 : q1 = 0
  · rw [if_pos c3] at h
    refine rf_t wf1 rc_X10_member_ok 3 (31, [some (.ref 0), some (.int p0), some (.int p1)], [], σ) rfl rfl c3 rfl ?_
    refine rf_b wf1 rc_X10_member_ok 16 1 (32, [some (.ref 0), some (.int p0), some (.int p1)], [.int (-1)], σ) rfl ?_
    obtain rfl := Option.some.inj h
    exact rf_ri rc_X10_member_ok 17 rfl rfl
  · rw [if_neg c3] at h
    refine rf_f wf1 rc_X10_member_ok 3 (8, [some (.ref 0), some (.int p0), some (.int p1)], [], σ) rfl rfl c3 rfl ?_
    refine rf_b wf1 rc_X10_member_ok 4 3 (12, [some (.ref 0), some (.int p0), some (.int p1)], [.int 7, .int 0, .int p1], σ) rfl ?_
    obtain ⟨q4, h5, h⟩ := Option.bind_eq_some_iff.mp h
    refine rf_cs1 (Mt := mX10_in) rc_X10_member_ok 7 false rfl (List.mem_of_getElem? (i := 143) rfl) mw_X10_in rfl [.int p1, .int 0, .int 7] [] rfl rfl (Nat.le_of_ble_eq_true rfl) (ok_X10_in (d + 5) p1 0 7 σ q4 h5) ?_
    show rf_G _ _ _ (15, [some (.ref 0), some (.int p0), some (.int p1)], [.int q4], σ) _ _
    by_cases c6 : q4 = 0
    · rw [if_pos c6] at h
      refine rf_t wf1 rc_X10_member_ok 8 (31, [some (.ref 0), some (.int p0), some (.int p1)], [], σ) rfl rfl c6 rfl ?_
      refine rf_b wf1 rc_X10_member_ok 16 1 (32, [some (.ref 0), some (.int p0), some (.int p1)], [.int (-1)], σ) rfl ?_
      obtain rfl := Option.some.inj h
      exact rf_ri rc_X10_member_ok 17 rfl rfl
    · rw [if_neg c6] at h
      refine rf_f wf1 rc_X10_member_ok 8 (18, [some (.ref 0), some (.int p0), some (.int p1)], [], σ) rfl rfl c6 rfl ?_
      refine rf_b wf1 rc_X10_member_ok 9 4 (22, [some (.ref 0), some (.int p0), some (.int p1)], [.int p1, .int p0, .ref 0, .ref 0], σ) rfl ?_
      obtain ⟨q7, h8, h⟩ := Option.bind_eq_some_iff.mp h
      refine rf_cv1 (Mt := mX10_memberTells) wf1 rc_X10_member_ok 13 false rfl (List.mem_of_getElem? (i := 164) rfl) mw_X10_memberTells rfl 0 [.int p0, .int p1] [.ref 0] rfl rfl rfl (Nat.le_of_ble_eq_true rfl) (ok_X10_memberTells d p0 p1 σ q7 h8) ?_
      show rf_G _ _ _ (25, [some (.ref 0), some (.int p0), some (.int p1)], [.int q7, .ref 0], σ) _ _
      obtain ⟨q9, h10, h⟩ := Option.bind_eq_some_iff.mp h
      refine rf_cv1 (Mt := mX10_tells) wf1 rc_X10_member_ok 14 false rfl (List.mem_of_getElem? (i := 146) rfl) mw_X10_tells rfl 0 [.int q7] [] rfl rfl rfl (Nat.le_of_ble_eq_true rfl) (ok_X10_tells (d + 5) q7 σ q9 h10) ?_
      show rf_G _ _ _ (28, [some (.ref 0), some (.int p0), some (.int p1)], [.int q9.1], q9.2) _ _
      refine rf_b wf1 rc_X10_member_ok 15 1 (32, [some (.ref 0), some (.int p0), some (.int p1)], [.int q9.1], q9.2) rfl ?_
      obtain rfl := Option.some.inj h
      exact rf_ri rc_X10_member_ok 17 rfl rfl
def rc_X10_room : List rf_E := [(0, .aload_n 0, 1, 0), (1, .iload_n 1, 1, 1), (2, .invokevirtual 175, 3, 0), (5, .ifCond .eq 12, 3, 17), (8, .iload_n 2, 1, 2), (9, .iconst 0, 1, 0), (10, .iconst 3, 1, 0), (11, .invokestatic 78, 3, 0), (14, .ifCond .ne 5, 3, 19), (17, .iconst (-1), 1, 0), (18, .ireturn, 1, 0), (19, .iload_n 2, 1, 2), (20, .ifCond .ne 12, 3, 32), (23, .aload_n 0, 1, 0), (24, .getfield 47, 3, 1022), (27, .iload_n 1, 1, 1), (28, .iaload, 1, 0), (29, .goto 52, 3, 81), (32, .iload_n 2, 1, 2), (33, .iconst 1, 1, 0), (34, .if_icmp .ne 12, 3, 46), (37, .aload_n 0, 1, 0), (38, .getfield 35, 3, 1018), (41, .iload_n 1, 1, 1), (42, .iaload, 1, 0), (43, .goto 38, 3, 81), (46, .iload_n 2, 1, 2), (47, .iconst 2, 1, 0), (48, .if_icmp .ne 15, 3, 63), (51, .aload_n 0, 1, 0), (52, .aload_n 0, 1, 0), (53, .getfield 47, 3, 1022), (56, .iload_n 1, 1, 1), (57, .invokevirtual 178, 3, 0), (60, .goto 21, 3, 81), (63, .aload_n 0, 1, 0), (64, .aload_n 0, 1, 0), (65, .getfield 47, 3, 1022), (68, .iload_n 1, 1, 1), (69, .invokevirtual 178, 3, 0), (72, .aload_n 0, 1, 0), (73, .aload_n 0, 1, 0), (74, .getfield 47, 3, 1022), (77, .invokevirtual 181, 3, 0), (80, .iand, 1, 0), (81, .ireturn, 1, 0)]
theorem rc_X10_room_ok : rf_rc mX10_room rc_X10_room = true := by decide +kernel
theorem mw_X10_room : rf_mw mX10_room := ⟨rf_mt_ok _ (List.mem_of_getElem? (i := 187) rfl), fun h => absurd h (by decide), fun _ => ⟨rf_mi_ok _ (List.mem_of_getElem? (i := 166) rfl), rf_mv_ok _ (List.mem_of_getElem? (i := 166) rfl)⟩, rf_mq_7 _ (List.mem_of_getElem? (i := 12) rfl)⟩
def f_X10_room (p0 : Int32) (p1 : Int32) (σ : rf_S) : Option Int32 := (f_X10_isRoom p0 σ).bind (fun q1 => if q1 = 0 then (some (-1)) else ((f_X10_in p1 0 3 σ).bind (fun q4 => if q4 ≠ 0 then (if p1 ≠ 0 then (if p1 ≠ 1 then (if p1 ≠ 2 then ((f_X10_thereIn 12 p0 σ).bind (fun q10 => (f_X10_doing 12 σ).bind (fun q12 => some (q10 &&& q12)))) else ((f_X10_thereIn 12 p0 σ).bind (fun q14 => some q14))) else (if rf_ck ly1 0 8 p0 = true then (some (σ.1 8 p0.toNatClampNeg)) else none)) else (if rf_ck ly1 0 12 p0 = true then (some (σ.1 12 p0.toNatClampNeg)) else none)) else (some (-1)))))
set_option maxHeartbeats 2000000 in
theorem ok_X10_room (d : Nat) (p0 : Int32) (p1 : Int32) (σ : rf_S) (q : Int32) (h : f_X10_room p0 p1 σ = some q) : rf_Ex ly1 (d + 7) mX10_room [.ref 0, .int p0, .int p1] σ (some (.int q) : Option Value) σ := by
  unfold f_X10_room at h
  refine rf_ex mw_X10_room [some (.ref 0), some (.int p0), some (.int p1)] (Nat.le_of_ble_eq_true rfl) rfl ?_
  refine rf_b wf1 rc_X10_room_ok 0 2 (2, [some (.ref 0), some (.int p0), some (.int p1)], [.int p0, .ref 0], σ) rfl ?_
  obtain ⟨q1, h2, h⟩ := Option.bind_eq_some_iff.mp h
  refine rf_cv1 (Mt := mX10_isRoom) wf1 rc_X10_room_ok 2 false rfl (List.mem_of_getElem? (i := 165) rfl) mw_X10_isRoom rfl 0 [.int p0] [] rfl rfl rfl (Nat.le_of_ble_eq_true rfl) (ok_X10_isRoom (d + 4) p0 σ q1 h2) ?_
  show rf_G _ _ _ (5, [some (.ref 0), some (.int p0), some (.int p1)], [.int q1], σ) _ _
  by_cases c3 : q1 = 0
  · rw [if_pos c3] at h
    refine rf_t wf1 rc_X10_room_ok 3 (17, [some (.ref 0), some (.int p0), some (.int p1)], [], σ) rfl rfl c3 rfl ?_
    refine rf_b wf1 rc_X10_room_ok 9 1 (18, [some (.ref 0), some (.int p0), some (.int p1)], [.int (-1)], σ) rfl ?_
    obtain rfl := Option.some.inj h
    exact rf_ri rc_X10_room_ok 10 rfl rfl
  · rw [if_neg c3] at h
    refine rf_f wf1 rc_X10_room_ok 3 (8, [some (.ref 0), some (.int p0), some (.int p1)], [], σ) rfl rfl c3 rfl ?_
    refine rf_b wf1 rc_X10_room_ok 4 3 (11, [some (.ref 0), some (.int p0), some (.int p1)], [.int 3, .int 0, .int p1], σ) rfl ?_
    obtain ⟨q4, h5, h⟩ := Option.bind_eq_some_iff.mp h
    refine rf_cs1 (Mt := mX10_in) rc_X10_room_ok 7 false rfl (List.mem_of_getElem? (i := 143) rfl) mw_X10_in rfl [.int p1, .int 0, .int 3] [] rfl rfl (Nat.le_of_ble_eq_true rfl) (ok_X10_in (d + 5) p1 0 3 σ q4 h5) ?_
    show rf_G _ _ _ (14, [some (.ref 0), some (.int p0), some (.int p1)], [.int q4], σ) _ _
    by_cases c6 : q4 ≠ 0
    · rw [if_pos c6] at h
      refine rf_t wf1 rc_X10_room_ok 8 (19, [some (.ref 0), some (.int p0), some (.int p1)], [], σ) rfl rfl c6 rfl ?_
      refine rf_b wf1 rc_X10_room_ok 11 1 (20, [some (.ref 0), some (.int p0), some (.int p1)], [.int p1], σ) rfl ?_
      by_cases c7 : p1 ≠ 0
      · rw [if_pos c7] at h
        refine rf_t wf1 rc_X10_room_ok 12 (32, [some (.ref 0), some (.int p0), some (.int p1)], [], σ) rfl rfl c7 rfl ?_
        refine rf_b wf1 rc_X10_room_ok 18 2 (34, [some (.ref 0), some (.int p0), some (.int p1)], [.int 1, .int p1], σ) rfl ?_
        by_cases c8 : p1 ≠ 1
        · rw [if_pos c8] at h
          refine rf_t wf1 rc_X10_room_ok 20 (46, [some (.ref 0), some (.int p0), some (.int p1)], [], σ) rfl rfl c8 rfl ?_
          refine rf_b wf1 rc_X10_room_ok 26 2 (48, [some (.ref 0), some (.int p0), some (.int p1)], [.int 2, .int p1], σ) rfl ?_
          by_cases c9 : p1 ≠ 2
          · rw [if_pos c9] at h
            refine rf_t wf1 rc_X10_room_ok 28 (63, [some (.ref 0), some (.int p0), some (.int p1)], [], σ) rfl rfl c9 rfl ?_
            refine rf_b wf1 rc_X10_room_ok 35 4 (69, [some (.ref 0), some (.int p0), some (.int p1)], [.int p0, .ref 12, .ref 0], σ) rfl ?_
            obtain ⟨q10, h11, h⟩ := Option.bind_eq_some_iff.mp h
            refine rf_cv1 (Mt := mX10_thereIn) wf1 rc_X10_room_ok 39 false rfl (List.mem_of_getElem? (i := 166) rfl) mw_X10_thereIn rfl 0 [.ref 12, .int p0] [] rfl rfl rfl (Nat.le_of_ble_eq_true rfl) (ok_X10_thereIn (d + 5) 12 p0 σ q10 h11) ?_
            show rf_G _ _ _ (72, [some (.ref 0), some (.int p0), some (.int p1)], [.int q10], σ) _ _
            refine rf_b wf1 rc_X10_room_ok 40 3 (77, [some (.ref 0), some (.int p0), some (.int p1)], [.ref 12, .ref 0, .int q10], σ) rfl ?_
            obtain ⟨q12, h13, h⟩ := Option.bind_eq_some_iff.mp h
            refine rf_cv1 (Mt := mX10_doing) wf1 rc_X10_room_ok 43 false rfl (List.mem_of_getElem? (i := 167) rfl) mw_X10_doing rfl 0 [.ref 12] [.int q10] rfl rfl rfl (Nat.le_of_ble_eq_true rfl) (ok_X10_doing d 12 σ q12 h13) ?_
            show rf_G _ _ _ (80, [some (.ref 0), some (.int p0), some (.int p1)], [.int q12, .int q10], σ) _ _
            refine rf_b wf1 rc_X10_room_ok 44 1 (81, [some (.ref 0), some (.int p0), some (.int p1)], [.int (q10 &&& q12)], σ) rfl ?_
            obtain rfl := Option.some.inj h
            exact rf_ri rc_X10_room_ok 45 rfl rfl
          · rw [if_neg c9] at h
            refine rf_f wf1 rc_X10_room_ok 28 (51, [some (.ref 0), some (.int p0), some (.int p1)], [], σ) rfl rfl c9 rfl ?_
            refine rf_b wf1 rc_X10_room_ok 29 4 (57, [some (.ref 0), some (.int p0), some (.int p1)], [.int p0, .ref 12, .ref 0], σ) rfl ?_
            obtain ⟨q14, h15, h⟩ := Option.bind_eq_some_iff.mp h
            refine rf_cv1 (Mt := mX10_thereIn) wf1 rc_X10_room_ok 33 false rfl (List.mem_of_getElem? (i := 166) rfl) mw_X10_thereIn rfl 0 [.ref 12, .int p0] [] rfl rfl rfl (Nat.le_of_ble_eq_true rfl) (ok_X10_thereIn (d + 5) 12 p0 σ q14 h15) ?_
            show rf_G _ _ _ (60, [some (.ref 0), some (.int p0), some (.int p1)], [.int q14], σ) _ _
            refine rf_b wf1 rc_X10_room_ok 34 1 (81, [some (.ref 0), some (.int p0), some (.int p1)], [.int q14], σ) rfl ?_
            obtain rfl := Option.some.inj h
            exact rf_ri rc_X10_room_ok 45 rfl rfl
        · rw [if_neg c8] at h
          refine rf_f wf1 rc_X10_room_ok 20 (37, [some (.ref 0), some (.int p0), some (.int p1)], [], σ) rfl rfl c8 rfl ?_
          refine rf_b wf1 rc_X10_room_ok 21 3 (42, [some (.ref 0), some (.int p0), some (.int p1)], [.int p0, .ref 8], σ) rfl ?_
          obtain ⟨g16, h⟩ := rf_ifn h
          refine rf_gd wf1 rc_X10_room_ok 24 (43, [some (.ref 0), some (.int p0), some (.int p1)], [.int (σ.1 8 p0.toNatClampNeg)], σ) rfl rfl g16 rfl ?_
          refine rf_b wf1 rc_X10_room_ok 25 1 (81, [some (.ref 0), some (.int p0), some (.int p1)], [.int (σ.1 8 p0.toNatClampNeg)], σ) rfl ?_
          obtain rfl := Option.some.inj h
          exact rf_ri rc_X10_room_ok 45 rfl rfl
      · rw [if_neg c7] at h
        refine rf_f wf1 rc_X10_room_ok 12 (23, [some (.ref 0), some (.int p0), some (.int p1)], [], σ) rfl rfl c7 rfl ?_
        refine rf_b wf1 rc_X10_room_ok 13 3 (28, [some (.ref 0), some (.int p0), some (.int p1)], [.int p0, .ref 12], σ) rfl ?_
        obtain ⟨g17, h⟩ := rf_ifn h
        refine rf_gd wf1 rc_X10_room_ok 16 (29, [some (.ref 0), some (.int p0), some (.int p1)], [.int (σ.1 12 p0.toNatClampNeg)], σ) rfl rfl g17 rfl ?_
        refine rf_b wf1 rc_X10_room_ok 17 1 (81, [some (.ref 0), some (.int p0), some (.int p1)], [.int (σ.1 12 p0.toNatClampNeg)], σ) rfl ?_
        obtain rfl := Option.some.inj h
        exact rf_ri rc_X10_room_ok 45 rfl rfl
    · rw [if_neg c6] at h
      refine rf_f wf1 rc_X10_room_ok 8 (17, [some (.ref 0), some (.int p0), some (.int p1)], [], σ) rfl rfl c6 rfl ?_
      refine rf_b wf1 rc_X10_room_ok 9 1 (18, [some (.ref 0), some (.int p0), some (.int p1)], [.int (-1)], σ) rfl ?_
      obtain rfl := Option.some.inj h
      exact rf_ri rc_X10_room_ok 10 rfl rfl
def rc_X10_is : List rf_E := [(0, .iload_n 0, 1, 0), (1, .iload_n 1, 1, 1), (2, .if_icmp .eq 23, 3, 25), (5, .iload_n 0, 1, 0), (6, .iconst 4, 1, 0), (7, .if_icmp .ne 8, 3, 15), (10, .iload_n 1, 1, 1), (11, .iconst 1, 1, 0), (12, .if_icmp .eq 13, 3, 25), (15, .iload_n 0, 1, 0), (16, .iconst 5, 1, 0), (17, .if_icmp .ne 12, 3, 29), (20, .iload_n 1, 1, 1), (21, .iconst 3, 1, 0), (22, .if_icmp .ne 7, 3, 29), (25, .iconst 1, 1, 0), (26, .goto 4, 3, 30), (29, .iconst 0, 1, 0), (30, .ireturn, 1, 0)]
theorem rc_X10_is_ok : rf_rc mX10_is rc_X10_is = true := by decide +kernel
theorem mw_X10_is : rf_mw mX10_is := ⟨rf_mt_ok _ (List.mem_of_getElem? (i := 188) rfl), fun _ => rf_ms_ok _ (List.mem_of_getElem? (i := 21) rfl), fun h => absurd h (by decide), rf_mq_7 _ (List.mem_of_getElem? (i := 13) rfl)⟩
def f_X10_is_j15 (l0 : Int32) (l1 : Int32) (σ : rf_S) : Option Int32 := if l0 ≠ 5 then (some 0) else (if l1 ≠ 3 then (some 0) else (some 1))
set_option maxHeartbeats 2000000 in
theorem ok_X10_is_j15 (d : Nat) (l0 : Int32) (l1 : Int32) (σ : rf_S) (q : Int32) (h : f_X10_is_j15 l0 l1 σ = some q) : rf_G ly1 (d) mX10_is (15, [some (.int l0), some (.int l1)], [], σ) (some (.int q) : Option Value) σ := by
  unfold f_X10_is_j15 at h
  refine rf_b wf1 rc_X10_is_ok 9 2 (17, [some (.int l0), some (.int l1)], [.int 5, .int l0], σ) rfl ?_
  by_cases c3 : l0 ≠ 5
  · rw [if_pos c3] at h
    refine rf_t wf1 rc_X10_is_ok 11 (29, [some (.int l0), some (.int l1)], [], σ) rfl rfl c3 rfl ?_
    refine rf_b wf1 rc_X10_is_ok 17 1 (30, [some (.int l0), some (.int l1)], [.int 0], σ) rfl ?_
    obtain rfl := Option.some.inj h
    exact rf_rz rc_X10_is_ok 18 rfl rfl (by decide)
  · rw [if_neg c3] at h
    refine rf_f wf1 rc_X10_is_ok 11 (20, [some (.int l0), some (.int l1)], [], σ) rfl rfl c3 rfl ?_
    refine rf_b wf1 rc_X10_is_ok 12 2 (22, [some (.int l0), some (.int l1)], [.int 3, .int l1], σ) rfl ?_
    by_cases c4 : l1 ≠ 3
    · rw [if_pos c4] at h
      refine rf_t wf1 rc_X10_is_ok 14 (29, [some (.int l0), some (.int l1)], [], σ) rfl rfl c4 rfl ?_
      refine rf_b wf1 rc_X10_is_ok 17 1 (30, [some (.int l0), some (.int l1)], [.int 0], σ) rfl ?_
      obtain rfl := Option.some.inj h
      exact rf_rz rc_X10_is_ok 18 rfl rfl (by decide)
    · rw [if_neg c4] at h
      refine rf_f wf1 rc_X10_is_ok 14 (25, [some (.int l0), some (.int l1)], [], σ) rfl rfl c4 rfl ?_
      refine rf_b wf1 rc_X10_is_ok 15 2 (30, [some (.int l0), some (.int l1)], [.int 1], σ) rfl ?_
      obtain rfl := Option.some.inj h
      exact rf_rz rc_X10_is_ok 18 rfl rfl (by decide)
def f_X10_is (p0 : Int32) (p1 : Int32) (σ : rf_S) : Option Int32 := if p0 = p1 then (some 1) else (if p0 ≠ 4 then (f_X10_is_j15 p0 p1 σ) else (if p1 = 1 then (some 1) else (f_X10_is_j15 p0 p1 σ)))
set_option maxHeartbeats 2000000 in
theorem ok_X10_is (d : Nat) (p0 : Int32) (p1 : Int32) (σ : rf_S) (q : Int32) (h : f_X10_is p0 p1 σ = some q) : rf_Ex ly1 (d + 1) mX10_is [.int p0, .int p1] σ (some (.int q) : Option Value) σ := by
  unfold f_X10_is at h
  refine rf_ex mw_X10_is [some (.int p0), some (.int p1)] (Nat.le_of_ble_eq_true rfl) rfl ?_
  refine rf_b wf1 rc_X10_is_ok 0 2 (2, [some (.int p0), some (.int p1)], [.int p1, .int p0], σ) rfl ?_
  by_cases c1 : p0 = p1
  · rw [if_pos c1] at h
    refine rf_t wf1 rc_X10_is_ok 2 (25, [some (.int p0), some (.int p1)], [], σ) rfl rfl c1 rfl ?_
    refine rf_b wf1 rc_X10_is_ok 15 2 (30, [some (.int p0), some (.int p1)], [.int 1], σ) rfl ?_
    obtain rfl := Option.some.inj h
    exact rf_rz rc_X10_is_ok 18 rfl rfl (by decide)
  · rw [if_neg c1] at h
    refine rf_f wf1 rc_X10_is_ok 2 (5, [some (.int p0), some (.int p1)], [], σ) rfl rfl c1 rfl ?_
    refine rf_b wf1 rc_X10_is_ok 3 2 (7, [some (.int p0), some (.int p1)], [.int 4, .int p0], σ) rfl ?_
    by_cases c2 : p0 ≠ 4
    · rw [if_pos c2] at h
      refine rf_t wf1 rc_X10_is_ok 5 (15, [some (.int p0), some (.int p1)], [], σ) rfl rfl c2 rfl ?_
      exact ok_X10_is_j15 d p0 p1 σ q h
    · rw [if_neg c2] at h
      refine rf_f wf1 rc_X10_is_ok 5 (10, [some (.int p0), some (.int p1)], [], σ) rfl rfl c2 rfl ?_
      refine rf_b wf1 rc_X10_is_ok 6 2 (12, [some (.int p0), some (.int p1)], [.int 1, .int p1], σ) rfl ?_
      by_cases c5 : p1 = 1
      · rw [if_pos c5] at h
        refine rf_t wf1 rc_X10_is_ok 8 (25, [some (.int p0), some (.int p1)], [], σ) rfl rfl c5 rfl ?_
        refine rf_b wf1 rc_X10_is_ok 15 2 (30, [some (.int p0), some (.int p1)], [.int 1], σ) rfl ?_
        obtain rfl := Option.some.inj h
        exact rf_rz rc_X10_is_ok 18 rfl rfl (by decide)
      · rw [if_neg c5] at h
        refine rf_f wf1 rc_X10_is_ok 8 (15, [some (.int p0), some (.int p1)], [], σ) rfl rfl c5 rfl ?_
        exact ok_X10_is_j15 d p0 p1 σ q h
def rc_X10_coldIn : List rf_E := [(0, .iconst 0, 1, 0), (1, .istore_n 3, 1, 3), (2, .iconst 0, 1, 0), (3, .istore 4, 2, 4), (5, .iload 4, 2, 4), (7, .aload_n 0, 1, 0), (8, .getfield 75, 3, 1017), (11, .if_icmp .ge 40, 3, 51), (14, .iload_n 3, 1, 3), (15, .aload_n 1, 1, 1), (16, .iconst 4, 1, 0), (17, .iload 4, 2, 4), (19, .iadd, 1, 0), (20, .iaload, 1, 0), (21, .iload_n 2, 1, 2), (22, .if_icmp .ne 20, 3, 42), (25, .aload_n 1, 1, 1), (26, .bipush 10, 2, 0), (28, .iload 4, 2, 4), (30, .iadd, 1, 0), (31, .iaload, 1, 0), (32, .ifCond .le 10, 3, 42), (35, .iconst 1, 1, 0), (36, .iload 4, 2, 4), (38, .ishl, 1, 0), (39, .goto 4, 3, 43), (42, .iconst 0, 1, 0), (43, .ior, 1, 0), (44, .istore_n 3, 1, 3), (45, .iinc 4 1, 3, 4), (48, .goto (-43), 3, 5), (51, .iload_n 3, 1, 3), (52, .ireturn, 1, 0)]
theorem rc_X10_coldIn_ok : rf_rc mX10_coldIn rc_X10_coldIn = true := by decide +kernel
theorem mw_X10_coldIn : rf_mw mX10_coldIn := ⟨rf_mt_ok _ (List.mem_of_getElem? (i := 189) rfl), fun h => absurd h (by decide), fun _ => ⟨rf_mi_ok _ (List.mem_of_getElem? (i := 167) rfl), rf_mv_ok _ (List.mem_of_getElem? (i := 167) rfl)⟩, rf_mq_7 _ (List.mem_of_getElem? (i := 14) rfl)⟩
def f_X10_coldIn_j43 (l1 : Nat) (l2 : Int32) (l4 : Int32) (t0 : Int32) (t1 : Int32) (σ : rf_S) : Option ((Int32 × Int32) ⊕ (Int32)) := some (.inl ((t1 ||| t0), (l4 + 1)))
set_option maxHeartbeats 2000000 in
theorem ok_X10_coldIn_j43 (d : Nat) (l1 : Nat) (l2 : Int32) (l4 : Int32) (t0 : Int32) (t1 : Int32) (σ : rf_S) (o : ((Int32 × Int32) ⊕ (Int32))) (h : f_X10_coldIn_j43 l1 l2 l4 t0 t1 σ = some o) {r : Option Value} {σr : rf_S} (kl : ∀ s', o = .inl s' → rf_G ly1 (d) mX10_coldIn (5, [some (.ref 0), some (.ref l1), some (.int l2), some (.int s'.1), some (.int s'.2)], [], σ) r σr) (kx : ∀ e, o = .inr e → rf_G ly1 (d) mX10_coldIn (51, [none, none, none, some (.int e), none], [], σ) r σr) : rf_G ly1 (d) mX10_coldIn (43, [some (.ref 0), some (.ref l1), some (.int l2), none, some (.int l4)], [.int t0, .int t1], σ) r σr := by
  unfold f_X10_coldIn_j43 at h
  refine rf_b wf1 rc_X10_coldIn_ok 27 4 (5, [some (.ref 0), some (.ref l1), some (.int l2), some (.int (t1 ||| t0)), some (.int (l4 + 1))], [], σ) rfl ?_
  exact kl ((t1 ||| t0), (l4 + 1)) (Option.some.inj h).symm
def f_X10_coldIn_j42 (l1 : Nat) (l2 : Int32) (l4 : Int32) (t0 : Int32) (σ : rf_S) : Option ((Int32 × Int32) ⊕ (Int32)) := f_X10_coldIn_j43 l1 l2 l4 0 t0 σ
set_option maxHeartbeats 2000000 in
theorem ok_X10_coldIn_j42 (d : Nat) (l1 : Nat) (l2 : Int32) (l4 : Int32) (t0 : Int32) (σ : rf_S) (o : ((Int32 × Int32) ⊕ (Int32))) (h : f_X10_coldIn_j42 l1 l2 l4 t0 σ = some o) {r : Option Value} {σr : rf_S} (kl : ∀ s', o = .inl s' → rf_G ly1 (d) mX10_coldIn (5, [some (.ref 0), some (.ref l1), some (.int l2), some (.int s'.1), some (.int s'.2)], [], σ) r σr) (kx : ∀ e, o = .inr e → rf_G ly1 (d) mX10_coldIn (51, [none, none, none, some (.int e), none], [], σ) r σr) : rf_G ly1 (d) mX10_coldIn (42, [some (.ref 0), some (.ref l1), some (.int l2), none, some (.int l4)], [.int t0], σ) r σr := by
  unfold f_X10_coldIn_j42 at h
  refine rf_b wf1 rc_X10_coldIn_ok 26 1 (43, [some (.ref 0), some (.ref l1), some (.int l2), none, some (.int l4)], [.int 0, .int t0], σ) rfl ?_
  exact ok_X10_coldIn_j43 d l1 l2 l4 0 t0 σ o h kl kx
def f_X10_coldIn_b5 (l1 : Nat) (l2 : Int32) (σ : rf_S) (s5 : Int32 × Int32) : Option ((Int32 × Int32) ⊕ (Int32)) := if (σ.1 0 17) ≤ s5.2 then (some (.inr s5.1)) else (if rf_ck ly1 0 l1 (4 + s5.2) = true then (if (σ.1 l1 (4 + s5.2).toNatClampNeg) ≠ l2 then (f_X10_coldIn_j42 l1 l2 s5.2 s5.1 σ) else (if rf_ck ly1 0 l1 (10 + s5.2) = true then (if (σ.1 l1 (10 + s5.2).toNatClampNeg) ≤ 0 then (f_X10_coldIn_j42 l1 l2 s5.2 s5.1 σ) else (f_X10_coldIn_j43 l1 l2 s5.2 (1 <<< (s5.2 &&& 31)) s5.1 σ)) else none)) else none)
set_option maxHeartbeats 2000000 in
theorem ok_X10_coldIn_b5 (d : Nat) (l1 : Nat) (l2 : Int32) (σ : rf_S) (s5 : Int32 × Int32) (o : ((Int32 × Int32) ⊕ (Int32))) (h : f_X10_coldIn_b5 l1 l2 σ s5 = some o) {r : Option Value} {σr : rf_S} (kl : ∀ s', o = .inl s' → rf_G ly1 (d) mX10_coldIn (5, [some (.ref 0), some (.ref l1), some (.int l2), some (.int s'.1), some (.int s'.2)], [], σ) r σr) (kx : ∀ e, o = .inr e → rf_G ly1 (d) mX10_coldIn (51, [none, none, none, some (.int e), none], [], σ) r σr) : rf_G ly1 (d) mX10_coldIn (5, [some (.ref 0), some (.ref l1), some (.int l2), some (.int s5.1), some (.int s5.2)], [], σ) r σr := by
  unfold f_X10_coldIn_b5 at h
  refine rf_b wf1 rc_X10_coldIn_ok 4 3 (11, [some (.ref 0), some (.ref l1), some (.int l2), some (.int s5.1), some (.int s5.2)], [.int (σ.1 0 17), .int s5.2], σ) rfl ?_
  by_cases c1 : (σ.1 0 17) ≤ s5.2
  · rw [if_pos c1] at h
    refine rf_t wf1 rc_X10_coldIn_ok 7 (51, [some (.ref 0), some (.ref l1), some (.int l2), some (.int s5.1), some (.int s5.2)], [], σ) rfl rfl c1 rfl ?_
    refine rf_fg [false, false, false, true, false] [none, none, none, some (.int s5.1), none] rfl ?_
    exact kx s5.1 (Option.some.inj h).symm
  · rw [if_neg c1] at h
    refine rf_f wf1 rc_X10_coldIn_ok 7 (14, [some (.ref 0), some (.ref l1), some (.int l2), some (.int s5.1), some (.int s5.2)], [], σ) rfl rfl c1 rfl ?_
    refine rf_b wf1 rc_X10_coldIn_ok 8 5 (20, [some (.ref 0), some (.ref l1), some (.int l2), some (.int s5.1), some (.int s5.2)], [.int (4 + s5.2), .ref l1, .int s5.1], σ) rfl ?_
    obtain ⟨g2, h⟩ := rf_ifn h
    refine rf_gd wf1 rc_X10_coldIn_ok 13 (21, [some (.ref 0), some (.ref l1), some (.int l2), some (.int s5.1), some (.int s5.2)], [.int (σ.1 l1 (4 + s5.2).toNatClampNeg), .int s5.1], σ) rfl rfl g2 rfl ?_
    refine rf_b wf1 rc_X10_coldIn_ok 14 1 (22, [some (.ref 0), some (.ref l1), some (.int l2), some (.int s5.1), some (.int s5.2)], [.int l2, .int (σ.1 l1 (4 + s5.2).toNatClampNeg), .int s5.1], σ) rfl ?_
    by_cases c3 : (σ.1 l1 (4 + s5.2).toNatClampNeg) ≠ l2
    · rw [if_pos c3] at h
      refine rf_t wf1 rc_X10_coldIn_ok 15 (42, [some (.ref 0), some (.ref l1), some (.int l2), some (.int s5.1), some (.int s5.2)], [.int s5.1], σ) rfl rfl c3 rfl ?_
      refine rf_fg [true, true, true, false, true] [some (.ref 0), some (.ref l1), some (.int l2), none, some (.int s5.2)] rfl ?_
      exact ok_X10_coldIn_j42 d l1 l2 s5.2 s5.1 σ o h kl kx
    · rw [if_neg c3] at h
      refine rf_f wf1 rc_X10_coldIn_ok 15 (25, [some (.ref 0), some (.ref l1), some (.int l2), some (.int s5.1), some (.int s5.2)], [.int s5.1], σ) rfl rfl c3 rfl ?_
      refine rf_b wf1 rc_X10_coldIn_ok 16 4 (31, [some (.ref 0), some (.ref l1), some (.int l2), some (.int s5.1), some (.int s5.2)], [.int (10 + s5.2), .ref l1, .int s5.1], σ) rfl ?_
      obtain ⟨g4, h⟩ := rf_ifn h
      refine rf_gd wf1 rc_X10_coldIn_ok 20 (32, [some (.ref 0), some (.ref l1), some (.int l2), some (.int s5.1), some (.int s5.2)], [.int (σ.1 l1 (10 + s5.2).toNatClampNeg), .int s5.1], σ) rfl rfl g4 rfl ?_
      by_cases c5 : (σ.1 l1 (10 + s5.2).toNatClampNeg) ≤ 0
      · rw [if_pos c5] at h
        refine rf_t wf1 rc_X10_coldIn_ok 21 (42, [some (.ref 0), some (.ref l1), some (.int l2), some (.int s5.1), some (.int s5.2)], [.int s5.1], σ) rfl rfl c5 rfl ?_
        refine rf_fg [true, true, true, false, true] [some (.ref 0), some (.ref l1), some (.int l2), none, some (.int s5.2)] rfl ?_
        exact ok_X10_coldIn_j42 d l1 l2 s5.2 s5.1 σ o h kl kx
      · rw [if_neg c5] at h
        refine rf_f wf1 rc_X10_coldIn_ok 21 (35, [some (.ref 0), some (.ref l1), some (.int l2), some (.int s5.1), some (.int s5.2)], [.int s5.1], σ) rfl rfl c5 rfl ?_
        refine rf_b wf1 rc_X10_coldIn_ok 22 4 (43, [some (.ref 0), some (.ref l1), some (.int l2), some (.int s5.1), some (.int s5.2)], [.int (1 <<< (s5.2 &&& 31)), .int s5.1], σ) rfl ?_
        refine rf_fg [true, true, true, false, true] [some (.ref 0), some (.ref l1), some (.int l2), none, some (.int s5.2)] rfl ?_
        exact ok_X10_coldIn_j43 d l1 l2 s5.2 (1 <<< (s5.2 &&& 31)) s5.1 σ o h kl kx
def f_X10_coldIn (p0 : Nat) (p1 : Int32) (σ : rf_S) : Option Int32 := (rf_lp (f_X10_coldIn_b5 p0 p1 σ) 5000 (0, 0)).bind (fun e6 => some e6)
set_option maxHeartbeats 2000000 in
theorem ok_X10_coldIn (d : Nat) (p0 : Nat) (p1 : Int32) (σ : rf_S) (q : Int32) (h : f_X10_coldIn p0 p1 σ = some q) : rf_Ex ly1 (d + 1) mX10_coldIn [.ref 0, .ref p0, .int p1] σ (some (.int q) : Option Value) σ := by
  unfold f_X10_coldIn at h
  refine rf_ex mw_X10_coldIn [some (.ref 0), some (.ref p0), some (.int p1), none, none] (Nat.le_of_ble_eq_true rfl) rfl ?_
  refine rf_b wf1 rc_X10_coldIn_ok 0 4 (5, [some (.ref 0), some (.ref p0), some (.int p1), some (.int 0), some (.int 0)], [], σ) rfl ?_
  obtain ⟨e6, h7, h⟩ := Option.bind_eq_some_iff.mp h
  refine rf_lpG (b := f_X10_coldIn_b5 p0 p1 σ) (G := fun (s5 : Int32 × Int32) => rf_G ly1 (d) mX10_coldIn (5, [some (.ref 0), some (.ref p0), some (.int p1), some (.int s5.1), some (.int s5.2)], [], σ) (some (.int q) : Option Value) σ) (K := fun (e : (Int32)) => rf_G ly1 (d) mX10_coldIn (51, [none, none, none, some (.int e), none], [], σ) (some (.int q) : Option Value) σ) (fun (s5 : Int32 × Int32) (o : (Int32 × Int32) ⊕ (Int32)) hb kl kx => ok_X10_coldIn_b5 d p0 p1 σ s5 o hb kl kx) 5000 (0, 0) e6 h7 ?_
  show rf_G _ _ _ (51, [none, none, none, some (.int e6), none], [], σ) _ _
  refine rf_b wf1 rc_X10_coldIn_ok 31 1 (52, [none, none, none, some (.int e6), none], [.int e6], σ) rfl ?_
  obtain rfl := Option.some.inj h
  exact rf_ri rc_X10_coldIn_ok 32 rfl rfl
def rc_X10_mark : List rf_E := [(0, .aload_n 0, 1, 0), (1, .iload_n 1, 1, 1), (2, .invokevirtual 169, 3, 0), (5, .ifCond .eq 12, 3, 17), (8, .iload_n 2, 1, 2), (9, .iconst 1, 1, 0), (10, .iconst 5, 1, 0), (11, .invokestatic 78, 3, 0), (14, .ifCond .ne 5, 3, 19), (17, .iconst (-1), 1, 0), (18, .ireturn, 1, 0), (19, .aload_n 0, 1, 0), (20, .getfield 38, 3, 1019), (23, .iload_n 1, 1, 1), (24, .iaload, 1, 0), (25, .iload_n 2, 1, 2), (26, .invokestatic 185, 3, 0), (29, .ifCond .ne 9, 3, 38), (32, .aload_n 0, 1, 0), (33, .iconst 3, 1, 0), (34, .invokevirtual 85, 3, 0), (37, .ireturn, 1, 0), (38, .iconst 0, 1, 0), (39, .istore_n 3, 1, 3), (40, .iload_n 2, 1, 2), (41, .tableswitch 193 1 4 #[31, 71, 136, 173], 31, 0), (72, .iconst 0, 1, 0), (73, .istore 4, 2, 4), (75, .iload 4, 2, 4), (77, .bipush 31, 2, 0), (79, .if_icmp .ge 31, 3, 110), (82, .iload_n 3, 1, 3), (83, .aload_n 0, 1, 0), (84, .aload_n 0, 1, 0), (85, .getfield 47, 3, 1022), (88, .iload_n 1, 1, 1), (89, .iload 4, 2, 4), (91, .invokevirtual 158, 3, 0), (94, .ifCond .eq 7, 3, 101), (97, .iconst 1, 1, 0), (98, .goto 4, 3, 102), (101, .iconst 0, 1, 0), (102, .iadd, 1, 0), (103, .istore_n 3, 1, 3), (104, .iinc 4 1, 3, 4), (107, .goto (-32), 3, 75), (110, .iload_n 3, 1, 3), (111, .ireturn, 1, 0), (112, .iconst 0, 1, 0), (113, .istore 4, 2, 4), (115, .iload 4, 2, 4), (117, .aload_n 0, 1, 0), (118, .getfield 75, 3, 1017), (121, .if_icmp .ge 54, 3, 175), (124, .iload_n 3, 1, 3), (125, .iload 4, 2, 4), (127, .iload_n 1, 1, 1), (128, .if_icmp .eq 38, 3, 166), (131, .aload_n 0, 1, 0), (132, .getfield 38, 3, 1019), (135, .iload 4, 2, 4), (137, .iaload, 1, 0), (138, .iconst 2, 1, 0), (139, .if_icmp .ne 27, 3, 166), (142, .aload_n 0, 1, 0), (143, .getfield 47, 3, 1022), (146, .iconst 4, 1, 0), (147, .iload 4, 2, 4), (149, .iadd, 1, 0), (150, .iaload, 1, 0), (151, .aload_n 0, 1, 0), (152, .getfield 47, 3, 1022), (155, .iconst 4, 1, 0), (156, .iload_n 1, 1, 1), (157, .iadd, 1, 0), (158, .iaload, 1, 0), (159, .if_icmp .ne 7, 3, 166), (162, .iconst 1, 1, 0), (163, .goto 4, 3, 167), (166, .iconst 0, 1, 0), (167, .iadd, 1, 0), (168, .istore_n 3, 1, 3), (169, .iinc 4 1, 3, 4), (172, .goto (-57), 3, 115), (175, .iload_n 3, 1, 3), (176, .ireturn, 1, 0), (177, .aload_n 0, 1, 0), (178, .aload_n 0, 1, 0), (179, .getfield 47, 3, 1022), (182, .iload_n 1, 1, 1), (183, .invokevirtual 150, 3, 0), (186, .aload_n 0, 1, 0), (187, .getfield 41, 3, 1020), (190, .iload_n 1, 1, 1), (191, .iaload, 1, 0), (192, .isub, 1, 0), (193, .aload_n 0, 1, 0), (194, .getfield 47, 3, 1022), (197, .bipush 16, 2, 0), (199, .iload_n 1, 1, 1), (200, .iadd, 1, 0), (201, .iaload, 1, 0), (202, .isub, 1, 0), (203, .istore_n 3, 1, 3), (204, .iload_n 3, 1, 3), (205, .ifCond .ge 7, 3, 212), (208, .iconst 0, 1, 0), (209, .goto 4, 3, 213), (212, .iload_n 3, 1, 3), (213, .ireturn, 1, 0), (214, .aload_n 0, 1, 0), (215, .aload_n 0, 1, 0), (216, .getfield 47, 3, 1022), (219, .aload_n 0, 1, 0), (220, .getfield 47, 3, 1022), (223, .iconst 4, 1, 0), (224, .iload_n 1, 1, 1), (225, .iadd, 1, 0), (226, .iaload, 1, 0), (227, .invokevirtual 189, 3, 0), (230, .invokestatic 192, 3, 0), (233, .ireturn, 1, 0), (234, .bipush 6, 2, 0), (236, .aload_n 0, 1, 0), (237, .getfield 47, 3, 1022), (240, .bipush 22, 2, 0), (242, .iaload, 1, 0), (243, .bipush 6, 2, 0), (245, .irem, 1, 0), (246, .isub, 1, 0), (247, .ireturn, 1, 0)]
theorem rc_X10_mark_ok : rf_rc mX10_mark rc_X10_mark = true := by decide +kernel
theorem mw_X10_mark : rf_mw mX10_mark := ⟨rf_mt_ok _ (List.mem_of_getElem? (i := 190) rfl), fun h => absurd h (by decide), fun _ => ⟨rf_mi_ok _ (List.mem_of_getElem? (i := 168) rfl), rf_mv_ok _ (List.mem_of_getElem? (i := 168) rfl)⟩, rf_mq_7 _ (List.mem_of_getElem? (i := 15) rfl)⟩
def f_X10_mark_j102 (l1 : Int32) (l4 : Int32) (t0 : Int32) (t1 : Int32) (σ : rf_S) : Option ((Int32 × Int32) ⊕ (Int32)) := some (.inl ((t1 + t0), (l4 + 1)))
set_option maxHeartbeats 2000000 in
theorem ok_X10_mark_j102 (d : Nat) (l1 : Int32) (l4 : Int32) (t0 : Int32) (t1 : Int32) (σ : rf_S) (o : ((Int32 × Int32) ⊕ (Int32))) (h : f_X10_mark_j102 l1 l4 t0 t1 σ = some o) {r : Option Value} {σr : rf_S} (kl : ∀ s', o = .inl s' → rf_G ly1 (d + 3) mX10_mark (75, [some (.ref 0), some (.int l1), none, some (.int s'.1), some (.int s'.2)], [], σ) r σr) (kx : ∀ e, o = .inr e → rf_G ly1 (d + 3) mX10_mark (110, [none, none, none, some (.int e), none], [], σ) r σr) : rf_G ly1 (d + 3) mX10_mark (102, [some (.ref 0), some (.int l1), none, none, some (.int l4)], [.int t0, .int t1], σ) r σr := by
  unfold f_X10_mark_j102 at h
  refine rf_b wf1 rc_X10_mark_ok 42 4 (75, [some (.ref 0), some (.int l1), none, some (.int (t1 + t0)), some (.int (l4 + 1))], [], σ) rfl ?_
  exact kl ((t1 + t0), (l4 + 1)) (Option.some.inj h).symm
def f_X10_mark_b75 (l1 : Int32) (σ : rf_S) (s75 : Int32 × Int32) : Option ((Int32 × Int32) ⊕ (Int32)) := if 31 ≤ s75.2 then (some (.inr s75.1)) else ((f_X10_wouldAt 12 l1 s75.2 σ).bind (fun q13 => if q13 = 0 then (f_X10_mark_j102 l1 s75.2 0 s75.1 σ) else (f_X10_mark_j102 l1 s75.2 1 s75.1 σ)))
set_option maxHeartbeats 2000000 in
theorem ok_X10_mark_b75 (d : Nat) (l1 : Int32) (σ : rf_S) (s75 : Int32 × Int32) (o : ((Int32 × Int32) ⊕ (Int32))) (h : f_X10_mark_b75 l1 σ s75 = some o) {r : Option Value} {σr : rf_S} (kl : ∀ s', o = .inl s' → rf_G ly1 (d + 3) mX10_mark (75, [some (.ref 0), some (.int l1), none, some (.int s'.1), some (.int s'.2)], [], σ) r σr) (kx : ∀ e, o = .inr e → rf_G ly1 (d + 3) mX10_mark (110, [none, none, none, some (.int e), none], [], σ) r σr) : rf_G ly1 (d + 3) mX10_mark (75, [some (.ref 0), some (.int l1), none, some (.int s75.1), some (.int s75.2)], [], σ) r σr := by
  unfold f_X10_mark_b75 at h
  refine rf_b wf1 rc_X10_mark_ok 28 2 (79, [some (.ref 0), some (.int l1), none, some (.int s75.1), some (.int s75.2)], [.int 31, .int s75.2], σ) rfl ?_
  by_cases c12 : 31 ≤ s75.2
  · rw [if_pos c12] at h
    refine rf_t wf1 rc_X10_mark_ok 30 (110, [some (.ref 0), some (.int l1), none, some (.int s75.1), some (.int s75.2)], [], σ) rfl rfl c12 rfl ?_
    refine rf_fg [false, false, true, true, false] [none, none, none, some (.int s75.1), none] rfl ?_
    exact kx s75.1 (Option.some.inj h).symm
  · rw [if_neg c12] at h
    refine rf_f wf1 rc_X10_mark_ok 30 (82, [some (.ref 0), some (.int l1), none, some (.int s75.1), some (.int s75.2)], [], σ) rfl rfl c12 rfl ?_
    refine rf_b wf1 rc_X10_mark_ok 31 6 (91, [some (.ref 0), some (.int l1), none, some (.int s75.1), some (.int s75.2)], [.int s75.2, .int l1, .ref 12, .ref 0, .int s75.1], σ) rfl ?_
    obtain ⟨q13, h14, h⟩ := Option.bind_eq_some_iff.mp h
    refine rf_cv1 (Mt := mX10_wouldAt) wf1 rc_X10_mark_ok 37 false rfl (List.mem_of_getElem? (i := 160) rfl) mw_X10_wouldAt rfl 0 [.ref 12, .int l1, .int s75.2] [.int s75.1] rfl rfl rfl (Nat.le_of_ble_eq_true rfl) (ok_X10_wouldAt d 12 l1 s75.2 σ q13 h14) ?_
    show rf_G _ _ _ (94, [some (.ref 0), some (.int l1), none, some (.int s75.1), some (.int s75.2)], [.int q13, .int s75.1], σ) _ _
    by_cases c15 : q13 = 0
    · rw [if_pos c15] at h
      refine rf_t wf1 rc_X10_mark_ok 38 (101, [some (.ref 0), some (.int l1), none, some (.int s75.1), some (.int s75.2)], [.int s75.1], σ) rfl rfl c15 rfl ?_
      refine rf_b wf1 rc_X10_mark_ok 41 1 (102, [some (.ref 0), some (.int l1), none, some (.int s75.1), some (.int s75.2)], [.int 0, .int s75.1], σ) rfl ?_
      refine rf_fg [true, true, true, false, true] [some (.ref 0), some (.int l1), none, none, some (.int s75.2)] rfl ?_
      exact ok_X10_mark_j102 d l1 s75.2 0 s75.1 σ o h kl kx
    · rw [if_neg c15] at h
      refine rf_f wf1 rc_X10_mark_ok 38 (97, [some (.ref 0), some (.int l1), none, some (.int s75.1), some (.int s75.2)], [.int s75.1], σ) rfl rfl c15 rfl ?_
      refine rf_b wf1 rc_X10_mark_ok 39 2 (102, [some (.ref 0), some (.int l1), none, some (.int s75.1), some (.int s75.2)], [.int 1, .int s75.1], σ) rfl ?_
      refine rf_fg [true, true, true, false, true] [some (.ref 0), some (.int l1), none, none, some (.int s75.2)] rfl ?_
      exact ok_X10_mark_j102 d l1 s75.2 1 s75.1 σ o h kl kx
def f_X10_mark_j167 (l1 : Int32) (l4 : Int32) (t0 : Int32) (t1 : Int32) (σ : rf_S) : Option ((Int32 × Int32) ⊕ (Int32)) := some (.inl ((t1 + t0), (l4 + 1)))
set_option maxHeartbeats 2000000 in
theorem ok_X10_mark_j167 (d : Nat) (l1 : Int32) (l4 : Int32) (t0 : Int32) (t1 : Int32) (σ : rf_S) (o : ((Int32 × Int32) ⊕ (Int32))) (h : f_X10_mark_j167 l1 l4 t0 t1 σ = some o) {r : Option Value} {σr : rf_S} (kl : ∀ s', o = .inl s' → rf_G ly1 (d + 3) mX10_mark (115, [some (.ref 0), some (.int l1), none, some (.int s'.1), some (.int s'.2)], [], σ) r σr) (kx : ∀ e, o = .inr e → rf_G ly1 (d + 3) mX10_mark (175, [none, none, none, some (.int e), none], [], σ) r σr) : rf_G ly1 (d + 3) mX10_mark (167, [some (.ref 0), some (.int l1), none, none, some (.int l4)], [.int t0, .int t1], σ) r σr := by
  unfold f_X10_mark_j167 at h
  refine rf_b wf1 rc_X10_mark_ok 80 4 (115, [some (.ref 0), some (.int l1), none, some (.int (t1 + t0)), some (.int (l4 + 1))], [], σ) rfl ?_
  exact kl ((t1 + t0), (l4 + 1)) (Option.some.inj h).symm
def f_X10_mark_j166 (l1 : Int32) (l4 : Int32) (t0 : Int32) (σ : rf_S) : Option ((Int32 × Int32) ⊕ (Int32)) := f_X10_mark_j167 l1 l4 0 t0 σ
set_option maxHeartbeats 2000000 in
theorem ok_X10_mark_j166 (d : Nat) (l1 : Int32) (l4 : Int32) (t0 : Int32) (σ : rf_S) (o : ((Int32 × Int32) ⊕ (Int32))) (h : f_X10_mark_j166 l1 l4 t0 σ = some o) {r : Option Value} {σr : rf_S} (kl : ∀ s', o = .inl s' → rf_G ly1 (d + 3) mX10_mark (115, [some (.ref 0), some (.int l1), none, some (.int s'.1), some (.int s'.2)], [], σ) r σr) (kx : ∀ e, o = .inr e → rf_G ly1 (d + 3) mX10_mark (175, [none, none, none, some (.int e), none], [], σ) r σr) : rf_G ly1 (d + 3) mX10_mark (166, [some (.ref 0), some (.int l1), none, none, some (.int l4)], [.int t0], σ) r σr := by
  unfold f_X10_mark_j166 at h
  refine rf_b wf1 rc_X10_mark_ok 79 1 (167, [some (.ref 0), some (.int l1), none, none, some (.int l4)], [.int 0, .int t0], σ) rfl ?_
  exact ok_X10_mark_j167 d l1 l4 0 t0 σ o h kl kx
def f_X10_mark_b115 (l1 : Int32) (σ : rf_S) (s115 : Int32 × Int32) : Option ((Int32 × Int32) ⊕ (Int32)) := if (σ.1 0 17) ≤ s115.2 then (some (.inr s115.1)) else (if s115.2 = l1 then (f_X10_mark_j166 l1 s115.2 s115.1 σ) else (if rf_ck ly1 0 9 s115.2 = true then (if (σ.1 9 s115.2.toNatClampNeg) ≠ 2 then (f_X10_mark_j166 l1 s115.2 s115.1 σ) else (if rf_ck ly1 0 12 (4 + s115.2) = true then (if rf_ck ly1 0 12 (4 + l1) = true then (if (σ.1 12 (4 + s115.2).toNatClampNeg) ≠ (σ.1 12 (4 + l1).toNatClampNeg) then (f_X10_mark_j166 l1 s115.2 s115.1 σ) else (f_X10_mark_j167 l1 s115.2 1 s115.1 σ)) else none) else none)) else none))
set_option maxHeartbeats 2000000 in
theorem ok_X10_mark_b115 (d : Nat) (l1 : Int32) (σ : rf_S) (s115 : Int32 × Int32) (o : ((Int32 × Int32) ⊕ (Int32))) (h : f_X10_mark_b115 l1 σ s115 = some o) {r : Option Value} {σr : rf_S} (kl : ∀ s', o = .inl s' → rf_G ly1 (d + 3) mX10_mark (115, [some (.ref 0), some (.int l1), none, some (.int s'.1), some (.int s'.2)], [], σ) r σr) (kx : ∀ e, o = .inr e → rf_G ly1 (d + 3) mX10_mark (175, [none, none, none, some (.int e), none], [], σ) r σr) : rf_G ly1 (d + 3) mX10_mark (115, [some (.ref 0), some (.int l1), none, some (.int s115.1), some (.int s115.2)], [], σ) r σr := by
  unfold f_X10_mark_b115 at h
  refine rf_b wf1 rc_X10_mark_ok 50 3 (121, [some (.ref 0), some (.int l1), none, some (.int s115.1), some (.int s115.2)], [.int (σ.1 0 17), .int s115.2], σ) rfl ?_
  by_cases c19 : (σ.1 0 17) ≤ s115.2
  · rw [if_pos c19] at h
    refine rf_t wf1 rc_X10_mark_ok 53 (175, [some (.ref 0), some (.int l1), none, some (.int s115.1), some (.int s115.2)], [], σ) rfl rfl c19 rfl ?_
    refine rf_fg [false, false, true, true, false] [none, none, none, some (.int s115.1), none] rfl ?_
    exact kx s115.1 (Option.some.inj h).symm
  · rw [if_neg c19] at h
    refine rf_f wf1 rc_X10_mark_ok 53 (124, [some (.ref 0), some (.int l1), none, some (.int s115.1), some (.int s115.2)], [], σ) rfl rfl c19 rfl ?_
    refine rf_b wf1 rc_X10_mark_ok 54 3 (128, [some (.ref 0), some (.int l1), none, some (.int s115.1), some (.int s115.2)], [.int l1, .int s115.2, .int s115.1], σ) rfl ?_
    by_cases c20 : s115.2 = l1
    · rw [if_pos c20] at h
      refine rf_t wf1 rc_X10_mark_ok 57 (166, [some (.ref 0), some (.int l1), none, some (.int s115.1), some (.int s115.2)], [.int s115.1], σ) rfl rfl c20 rfl ?_
      refine rf_fg [true, true, true, false, true] [some (.ref 0), some (.int l1), none, none, some (.int s115.2)] rfl ?_
      exact ok_X10_mark_j166 d l1 s115.2 s115.1 σ o h kl kx
    · rw [if_neg c20] at h
      refine rf_f wf1 rc_X10_mark_ok 57 (131, [some (.ref 0), some (.int l1), none, some (.int s115.1), some (.int s115.2)], [.int s115.1], σ) rfl rfl c20 rfl ?_
      refine rf_b wf1 rc_X10_mark_ok 58 3 (137, [some (.ref 0), some (.int l1), none, some (.int s115.1), some (.int s115.2)], [.int s115.2, .ref 9, .int s115.1], σ) rfl ?_
      obtain ⟨g21, h⟩ := rf_ifn h
      refine rf_gd wf1 rc_X10_mark_ok 61 (138, [some (.ref 0), some (.int l1), none, some (.int s115.1), some (.int s115.2)], [.int (σ.1 9 s115.2.toNatClampNeg), .int s115.1], σ) rfl rfl g21 rfl ?_
      refine rf_b wf1 rc_X10_mark_ok 62 1 (139, [some (.ref 0), some (.int l1), none, some (.int s115.1), some (.int s115.2)], [.int 2, .int (σ.1 9 s115.2.toNatClampNeg), .int s115.1], σ) rfl ?_
      by_cases c22 : (σ.1 9 s115.2.toNatClampNeg) ≠ 2
      · rw [if_pos c22] at h
        refine rf_t wf1 rc_X10_mark_ok 63 (166, [some (.ref 0), some (.int l1), none, some (.int s115.1), some (.int s115.2)], [.int s115.1], σ) rfl rfl c22 rfl ?_
        refine rf_fg [true, true, true, false, true] [some (.ref 0), some (.int l1), none, none, some (.int s115.2)] rfl ?_
        exact ok_X10_mark_j166 d l1 s115.2 s115.1 σ o h kl kx
      · rw [if_neg c22] at h
        refine rf_f wf1 rc_X10_mark_ok 63 (142, [some (.ref 0), some (.int l1), none, some (.int s115.1), some (.int s115.2)], [.int s115.1], σ) rfl rfl c22 rfl ?_
        refine rf_b wf1 rc_X10_mark_ok 64 5 (150, [some (.ref 0), some (.int l1), none, some (.int s115.1), some (.int s115.2)], [.int (4 + s115.2), .ref 12, .int s115.1], σ) rfl ?_
        obtain ⟨g23, h⟩ := rf_ifn h
        refine rf_gd wf1 rc_X10_mark_ok 69 (151, [some (.ref 0), some (.int l1), none, some (.int s115.1), some (.int s115.2)], [.int (σ.1 12 (4 + s115.2).toNatClampNeg), .int s115.1], σ) rfl rfl g23 rfl ?_
        refine rf_b wf1 rc_X10_mark_ok 70 5 (158, [some (.ref 0), some (.int l1), none, some (.int s115.1), some (.int s115.2)], [.int (4 + l1), .ref 12, .int (σ.1 12 (4 + s115.2).toNatClampNeg), .int s115.1], σ) rfl ?_
        obtain ⟨g24, h⟩ := rf_ifn h
        refine rf_gd wf1 rc_X10_mark_ok 75 (159, [some (.ref 0), some (.int l1), none, some (.int s115.1), some (.int s115.2)], [.int (σ.1 12 (4 + l1).toNatClampNeg), .int (σ.1 12 (4 + s115.2).toNatClampNeg), .int s115.1], σ) rfl rfl g24 rfl ?_
        by_cases c25 : (σ.1 12 (4 + s115.2).toNatClampNeg) ≠ (σ.1 12 (4 + l1).toNatClampNeg)
        · rw [if_pos c25] at h
          refine rf_t wf1 rc_X10_mark_ok 76 (166, [some (.ref 0), some (.int l1), none, some (.int s115.1), some (.int s115.2)], [.int s115.1], σ) rfl rfl c25 rfl ?_
          refine rf_fg [true, true, true, false, true] [some (.ref 0), some (.int l1), none, none, some (.int s115.2)] rfl ?_
          exact ok_X10_mark_j166 d l1 s115.2 s115.1 σ o h kl kx
        · rw [if_neg c25] at h
          refine rf_f wf1 rc_X10_mark_ok 76 (162, [some (.ref 0), some (.int l1), none, some (.int s115.1), some (.int s115.2)], [.int s115.1], σ) rfl rfl c25 rfl ?_
          refine rf_b wf1 rc_X10_mark_ok 77 2 (167, [some (.ref 0), some (.int l1), none, some (.int s115.1), some (.int s115.2)], [.int 1, .int s115.1], σ) rfl ?_
          refine rf_fg [true, true, true, false, true] [some (.ref 0), some (.int l1), none, none, some (.int s115.2)] rfl ?_
          exact ok_X10_mark_j167 d l1 s115.2 1 s115.1 σ o h kl kx
def f_X10_mark (p0 : Int32) (p1 : Int32) (σ : rf_S) : Option (Int32 × rf_S) := (f_X10_isOne p0 σ).bind (fun q1 => if q1 = 0 then (some ((-1), σ)) else ((f_X10_in p1 1 5 σ).bind (fun q4 => if q4 ≠ 0 then (if rf_ck ly1 0 9 p0 = true then ((f_X10_is (σ.1 9 p0.toNatClampNeg) p1 σ).bind (fun q8 => if q8 ≠ 0 then (if p1 = 1 then ((rf_lp (f_X10_mark_b75 p0 σ) 5000 (0, 0)).bind (fun e16 => some (e16, σ))) else (if p1 = 2 then ((rf_lp (f_X10_mark_b115 p0 σ) 5000 (0, 0)).bind (fun e26 => some (e26, σ))) else (if p1 = 3 then ((f_X10_feels 12 p0 σ).bind (fun q29 => if rf_ck ly1 0 10 p0 = true then (if rf_ck ly1 0 12 (16 + p0) = true then (if 0 ≤ ((q29 - (σ.1 10 p0.toNatClampNeg)) - (σ.1 12 (16 + p0).toNatClampNeg)) then (some (((q29 - (σ.1 10 p0.toNatClampNeg)) - (σ.1 12 (16 + p0).toNatClampNeg)), σ)) else (some (0, σ))) else none) else none)) else (if p1 = 4 then (if rf_ck ly1 0 12 (4 + p0) = true then ((f_X10_coldIn 12 (σ.1 12 (4 + p0).toNatClampNeg) σ).bind (fun q36 => (f_X10_bits q36 σ).bind (fun q38 => some (q38, σ)))) else none) else (if rf_ck ly1 0 12 22 = true then (some ((6 - ((σ.1 12 (22 : Int32).toNatClampNeg) - (σ.1 12 (22 : Int32).toNatClampNeg) / 6 * 6)), σ)) else none))))) else ((f_X10_finds 3 σ).bind (fun q42 => some (q42.1, q42.2))))) else none) else (some ((-1), σ)))))
set_option maxHeartbeats 2000000 in
theorem ok_X10_mark (d : Nat) (p0 : Int32) (p1 : Int32) (σ : rf_S) (q : (Int32 × rf_S)) (h : f_X10_mark p0 p1 σ = some q) : rf_Ex ly1 (d + 4) mX10_mark [.ref 0, .int p0, .int p1] σ (some (.int q.1) : Option Value) q.2 := by
  unfold f_X10_mark at h
  refine rf_ex mw_X10_mark [some (.ref 0), some (.int p0), some (.int p1), none, none] (Nat.le_of_ble_eq_true rfl) rfl ?_
  refine rf_b wf1 rc_X10_mark_ok 0 2 (2, [some (.ref 0), some (.int p0), some (.int p1), none, none], [.int p0, .ref 0], σ) rfl ?_
  obtain ⟨q1, h2, h⟩ := Option.bind_eq_some_iff.mp h
  refine rf_cv1 (Mt := mX10_isOne) wf1 rc_X10_mark_ok 2 false rfl (List.mem_of_getElem? (i := 163) rfl) mw_X10_isOne rfl 0 [.int p0] [] rfl rfl rfl (Nat.le_of_ble_eq_true rfl) (ok_X10_isOne (d + 1) p0 σ q1 h2) ?_
  show rf_G _ _ _ (5, [some (.ref 0), some (.int p0), some (.int p1), none, none], [.int q1], σ) _ _
  by_cases c3 : q1 = 0
  · rw [if_pos c3] at h
    refine rf_t wf1 rc_X10_mark_ok 3 (17, [some (.ref 0), some (.int p0), some (.int p1), none, none], [], σ) rfl rfl c3 rfl ?_
    refine rf_b wf1 rc_X10_mark_ok 9 1 (18, [some (.ref 0), some (.int p0), some (.int p1), none, none], [.int (-1)], σ) rfl ?_
    obtain rfl := Option.some.inj h
    exact rf_ri rc_X10_mark_ok 10 rfl rfl
  · rw [if_neg c3] at h
    refine rf_f wf1 rc_X10_mark_ok 3 (8, [some (.ref 0), some (.int p0), some (.int p1), none, none], [], σ) rfl rfl c3 rfl ?_
    refine rf_b wf1 rc_X10_mark_ok 4 3 (11, [some (.ref 0), some (.int p0), some (.int p1), none, none], [.int 5, .int 1, .int p1], σ) rfl ?_
    obtain ⟨q4, h5, h⟩ := Option.bind_eq_some_iff.mp h
    refine rf_cs1 (Mt := mX10_in) rc_X10_mark_ok 7 false rfl (List.mem_of_getElem? (i := 143) rfl) mw_X10_in rfl [.int p1, .int 1, .int 5] [] rfl rfl (Nat.le_of_ble_eq_true rfl) (ok_X10_in (d + 2) p1 1 5 σ q4 h5) ?_
    show rf_G _ _ _ (14, [some (.ref 0), some (.int p0), some (.int p1), none, none], [.int q4], σ) _ _
    by_cases c6 : q4 ≠ 0
    · rw [if_pos c6] at h
      refine rf_t wf1 rc_X10_mark_ok 8 (19, [some (.ref 0), some (.int p0), some (.int p1), none, none], [], σ) rfl rfl c6 rfl ?_
      refine rf_b wf1 rc_X10_mark_ok 11 3 (24, [some (.ref 0), some (.int p0), some (.int p1), none, none], [.int p0, .ref 9], σ) rfl ?_
      obtain ⟨g7, h⟩ := rf_ifn h
      refine rf_gd wf1 rc_X10_mark_ok 14 (25, [some (.ref 0), some (.int p0), some (.int p1), none, none], [.int (σ.1 9 p0.toNatClampNeg)], σ) rfl rfl g7 rfl ?_
      refine rf_b wf1 rc_X10_mark_ok 15 1 (26, [some (.ref 0), some (.int p0), some (.int p1), none, none], [.int p1, .int (σ.1 9 p0.toNatClampNeg)], σ) rfl ?_
      obtain ⟨q8, h9, h⟩ := Option.bind_eq_some_iff.mp h
      refine rf_cs1 (Mt := mX10_is) rc_X10_mark_ok 16 false rfl (List.mem_of_getElem? (i := 168) rfl) mw_X10_is rfl [.int (σ.1 9 p0.toNatClampNeg), .int p1] [] rfl rfl (Nat.le_of_ble_eq_true rfl) (ok_X10_is (d + 2) (σ.1 9 p0.toNatClampNeg) p1 σ q8 h9) ?_
      show rf_G _ _ _ (29, [some (.ref 0), some (.int p0), some (.int p1), none, none], [.int q8], σ) _ _
      by_cases c10 : q8 ≠ 0
      · rw [if_pos c10] at h
        refine rf_t wf1 rc_X10_mark_ok 17 (38, [some (.ref 0), some (.int p0), some (.int p1), none, none], [], σ) rfl rfl c10 rfl ?_
        refine rf_b wf1 rc_X10_mark_ok 22 3 (41, [some (.ref 0), some (.int p0), some (.int p1), some (.int 0), none], [.int p1], σ) rfl ?_
        by_cases c11 : p1 = 1
        · rw [if_pos c11] at h
          refine rf_sw rc_X10_mark_ok 25 72 rfl c11 (by decide) (by decide) rfl (by decide) ?_
          refine rf_b wf1 rc_X10_mark_ok 26 2 (75, [some (.ref 0), some (.int p0), some (.int p1), some (.int 0), some (.int 0)], [], σ) rfl ?_
          refine rf_fg [true, true, false, true, true] [some (.ref 0), some (.int p0), none, some (.int 0), some (.int 0)] rfl ?_
          obtain ⟨e16, h17, h⟩ := Option.bind_eq_some_iff.mp h
          refine rf_lpG (b := f_X10_mark_b75 p0 σ) (G := fun (s75 : Int32 × Int32) => rf_G ly1 (d + 3) mX10_mark (75, [some (.ref 0), some (.int p0), none, some (.int s75.1), some (.int s75.2)], [], σ) (some (.int q.1) : Option Value) q.2) (K := fun (e : (Int32)) => rf_G ly1 (d + 3) mX10_mark (110, [none, none, none, some (.int e), none], [], σ) (some (.int q.1) : Option Value) q.2) (fun (s75 : Int32 × Int32) (o : (Int32 × Int32) ⊕ (Int32)) hb kl kx => ok_X10_mark_b75 d p0 σ s75 o hb kl kx) 5000 (0, 0) e16 h17 ?_
          show rf_G _ _ _ (110, [none, none, none, some (.int e16), none], [], σ) _ _
          refine rf_b wf1 rc_X10_mark_ok 46 1 (111, [none, none, none, some (.int e16), none], [.int e16], σ) rfl ?_
          obtain rfl := Option.some.inj h
          exact rf_ri rc_X10_mark_ok 47 rfl rfl
        · rw [if_neg c11] at h
          by_cases c18 : p1 = 2
          · rw [if_pos c18] at h
            refine rf_sw rc_X10_mark_ok 25 112 rfl c18 (by decide) (by decide) rfl (by decide) ?_
            refine rf_b wf1 rc_X10_mark_ok 48 2 (115, [some (.ref 0), some (.int p0), some (.int p1), some (.int 0), some (.int 0)], [], σ) rfl ?_
            refine rf_fg [true, true, false, true, true] [some (.ref 0), some (.int p0), none, some (.int 0), some (.int 0)] rfl ?_
            obtain ⟨e26, h27, h⟩ := Option.bind_eq_some_iff.mp h
            refine rf_lpG (b := f_X10_mark_b115 p0 σ) (G := fun (s115 : Int32 × Int32) => rf_G ly1 (d + 3) mX10_mark (115, [some (.ref 0), some (.int p0), none, some (.int s115.1), some (.int s115.2)], [], σ) (some (.int q.1) : Option Value) q.2) (K := fun (e : (Int32)) => rf_G ly1 (d + 3) mX10_mark (175, [none, none, none, some (.int e), none], [], σ) (some (.int q.1) : Option Value) q.2) (fun (s115 : Int32 × Int32) (o : (Int32 × Int32) ⊕ (Int32)) hb kl kx => ok_X10_mark_b115 d p0 σ s115 o hb kl kx) 5000 (0, 0) e26 h27 ?_
            show rf_G _ _ _ (175, [none, none, none, some (.int e26), none], [], σ) _ _
            refine rf_b wf1 rc_X10_mark_ok 84 1 (176, [none, none, none, some (.int e26), none], [.int e26], σ) rfl ?_
            obtain rfl := Option.some.inj h
            exact rf_ri rc_X10_mark_ok 85 rfl rfl
          · rw [if_neg c18] at h
            by_cases c28 : p1 = 3
            · rw [if_pos c28] at h
              refine rf_sw rc_X10_mark_ok 25 177 rfl c28 (by decide) (by decide) rfl (by decide) ?_
              refine rf_b wf1 rc_X10_mark_ok 86 4 (183, [some (.ref 0), some (.int p0), some (.int p1), some (.int 0), none], [.int p0, .ref 12, .ref 0], σ) rfl ?_
              obtain ⟨q29, h30, h⟩ := Option.bind_eq_some_iff.mp h
              refine rf_cv1 (Mt := mX10_feels) wf1 rc_X10_mark_ok 90 false rfl (List.mem_of_getElem? (i := 158) rfl) mw_X10_feels rfl 0 [.ref 12, .int p0] [] rfl rfl rfl (Nat.le_of_ble_eq_true rfl) (ok_X10_feels (d + 1) 12 p0 σ q29 h30) ?_
              show rf_G _ _ _ (186, [some (.ref 0), some (.int p0), some (.int p1), some (.int 0), none], [.int q29], σ) _ _
              refine rf_b wf1 rc_X10_mark_ok 91 3 (191, [some (.ref 0), some (.int p0), some (.int p1), some (.int 0), none], [.int p0, .ref 10, .int q29], σ) rfl ?_
              obtain ⟨g31, h⟩ := rf_ifn h
              refine rf_gd wf1 rc_X10_mark_ok 94 (192, [some (.ref 0), some (.int p0), some (.int p1), some (.int 0), none], [.int (σ.1 10 p0.toNatClampNeg), .int q29], σ) rfl rfl g31 rfl ?_
              refine rf_b wf1 rc_X10_mark_ok 95 6 (201, [some (.ref 0), some (.int p0), some (.int p1), some (.int 0), none], [.int (16 + p0), .ref 12, .int (q29 - (σ.1 10 p0.toNatClampNeg))], σ) rfl ?_
              obtain ⟨g32, h⟩ := rf_ifn h
              refine rf_gd wf1 rc_X10_mark_ok 101 (202, [some (.ref 0), some (.int p0), some (.int p1), some (.int 0), none], [.int (σ.1 12 (16 + p0).toNatClampNeg), .int (q29 - (σ.1 10 p0.toNatClampNeg))], σ) rfl rfl g32 rfl ?_
              refine rf_b wf1 rc_X10_mark_ok 102 3 (205, [some (.ref 0), some (.int p0), some (.int p1), some (.int ((q29 - (σ.1 10 p0.toNatClampNeg)) - (σ.1 12 (16 + p0).toNatClampNeg))), none], [.int ((q29 - (σ.1 10 p0.toNatClampNeg)) - (σ.1 12 (16 + p0).toNatClampNeg))], σ) rfl ?_
              by_cases c33 : 0 ≤ ((q29 - (σ.1 10 p0.toNatClampNeg)) - (σ.1 12 (16 + p0).toNatClampNeg))
              · rw [if_pos c33] at h
                refine rf_t wf1 rc_X10_mark_ok 105 (212, [some (.ref 0), some (.int p0), some (.int p1), some (.int ((q29 - (σ.1 10 p0.toNatClampNeg)) - (σ.1 12 (16 + p0).toNatClampNeg))), none], [], σ) rfl rfl c33 rfl ?_
                refine rf_b wf1 rc_X10_mark_ok 108 1 (213, [some (.ref 0), some (.int p0), some (.int p1), some (.int ((q29 - (σ.1 10 p0.toNatClampNeg)) - (σ.1 12 (16 + p0).toNatClampNeg))), none], [.int ((q29 - (σ.1 10 p0.toNatClampNeg)) - (σ.1 12 (16 + p0).toNatClampNeg))], σ) rfl ?_
                obtain rfl := Option.some.inj h
                exact rf_ri rc_X10_mark_ok 109 rfl rfl
              · rw [if_neg c33] at h
                refine rf_f wf1 rc_X10_mark_ok 105 (208, [some (.ref 0), some (.int p0), some (.int p1), some (.int ((q29 - (σ.1 10 p0.toNatClampNeg)) - (σ.1 12 (16 + p0).toNatClampNeg))), none], [], σ) rfl rfl c33 rfl ?_
                refine rf_b wf1 rc_X10_mark_ok 106 2 (213, [some (.ref 0), some (.int p0), some (.int p1), some (.int ((q29 - (σ.1 10 p0.toNatClampNeg)) - (σ.1 12 (16 + p0).toNatClampNeg))), none], [.int 0], σ) rfl ?_
                obtain rfl := Option.some.inj h
                exact rf_ri rc_X10_mark_ok 109 rfl rfl
            · rw [if_neg c28] at h
              by_cases c34 : p1 = 4
              · rw [if_pos c34] at h
                refine rf_sw rc_X10_mark_ok 25 214 rfl c34 (by decide) (by decide) rfl (by decide) ?_
                refine rf_b wf1 rc_X10_mark_ok 110 8 (226, [some (.ref 0), some (.int p0), some (.int p1), some (.int 0), none], [.int (4 + p0), .ref 12, .ref 12, .ref 0], σ) rfl ?_
                obtain ⟨g35, h⟩ := rf_ifn h
                refine rf_gd wf1 rc_X10_mark_ok 118 (227, [some (.ref 0), some (.int p0), some (.int p1), some (.int 0), none], [.int (σ.1 12 (4 + p0).toNatClampNeg), .ref 12, .ref 0], σ) rfl rfl g35 rfl ?_
                obtain ⟨q36, h37, h⟩ := Option.bind_eq_some_iff.mp h
                refine rf_cv1 (Mt := mX10_coldIn) wf1 rc_X10_mark_ok 119 false rfl (List.mem_of_getElem? (i := 169) rfl) mw_X10_coldIn rfl 0 [.ref 12, .int (σ.1 12 (4 + p0).toNatClampNeg)] [] rfl rfl rfl (Nat.le_of_ble_eq_true rfl) (ok_X10_coldIn (d + 2) 12 (σ.1 12 (4 + p0).toNatClampNeg) σ q36 h37) ?_
                show rf_G _ _ _ (230, [some (.ref 0), some (.int p0), some (.int p1), some (.int 0), none], [.int q36], σ) _ _
                obtain ⟨q38, h39, h⟩ := Option.bind_eq_some_iff.mp h
                refine rf_cs1 (Mt := mX10_bits) rc_X10_mark_ok 120 false rfl (List.mem_of_getElem? (i := 170) rfl) mw_X10_bits rfl [.int q36] [] rfl rfl (Nat.le_of_ble_eq_true rfl) (ok_X10_bits (d + 2) q36 σ q38 h39) ?_
                show rf_G _ _ _ (233, [some (.ref 0), some (.int p0), some (.int p1), some (.int 0), none], [.int q38], σ) _ _
                obtain rfl := Option.some.inj h
                exact rf_ri rc_X10_mark_ok 121 rfl rfl
              · rw [if_neg c34] at h
                refine rf_sd rc_X10_mark_ok 25 [1, 2, 3, 4] 234 rfl (by intro k hk; simp only [List.mem_cons, List.not_mem_nil, or_false] at hk; rcases hk with rfl | rfl | rfl | rfl <;> assumption) (by decide) (by decide) ?_
                refine rf_b wf1 rc_X10_mark_ok 122 4 (242, [some (.ref 0), some (.int p0), some (.int p1), some (.int 0), none], [.int 22, .ref 12, .int 6], σ) rfl ?_
                obtain ⟨g40, h⟩ := rf_ifn h
                refine rf_gd wf1 rc_X10_mark_ok 126 (243, [some (.ref 0), some (.int p0), some (.int p1), some (.int 0), none], [.int (σ.1 12 (22 : Int32).toNatClampNeg), .int 6], σ) rfl rfl g40 rfl ?_
                refine rf_b wf1 rc_X10_mark_ok 127 1 (245, [some (.ref 0), some (.int p0), some (.int p1), some (.int 0), none], [.int 6, .int (σ.1 12 (22 : Int32).toNatClampNeg), .int 6], σ) rfl ?_
                refine rf_nz wf1 rc_X10_mark_ok 128 (246, [some (.ref 0), some (.int p0), some (.int p1), some (.int 0), none], [.int ((σ.1 12 (22 : Int32).toNatClampNeg) - (σ.1 12 (22 : Int32).toNatClampNeg) / 6 * 6), .int 6], σ) rfl rfl (c := (6 : Int32) = 0) (by decide) rfl ?_
                refine rf_b wf1 rc_X10_mark_ok 129 1 (247, [some (.ref 0), some (.int p0), some (.int p1), some (.int 0), none], [.int (6 - ((σ.1 12 (22 : Int32).toNatClampNeg) - (σ.1 12 (22 : Int32).toNatClampNeg) / 6 * 6))], σ) rfl ?_
                obtain rfl := Option.some.inj h
                exact rf_ri rc_X10_mark_ok 130 rfl rfl
      · rw [if_neg c10] at h
        refine rf_f wf1 rc_X10_mark_ok 17 (32, [some (.ref 0), some (.int p0), some (.int p1), none, none], [], σ) rfl rfl c10 rfl ?_
        refine rf_b wf1 rc_X10_mark_ok 18 2 (34, [some (.ref 0), some (.int p0), some (.int p1), none, none], [.int 3, .ref 0], σ) rfl ?_
        obtain ⟨q42, h43, h⟩ := Option.bind_eq_some_iff.mp h
        refine rf_cv1 (Mt := mX10_finds) wf1 rc_X10_mark_ok 20 false rfl (List.mem_of_getElem? (i := 144) rfl) mw_X10_finds rfl 0 [.int 3] [] rfl rfl rfl (Nat.le_of_ble_eq_true rfl) (ok_X10_finds (d + 2) 3 σ q42 h43) ?_
        show rf_G _ _ _ (37, [some (.ref 0), some (.int p0), some (.int p1), none, none], [.int q42.1], q42.2) _ _
        obtain rfl := Option.some.inj h
        exact rf_ri rc_X10_mark_ok 21 rfl rfl
    · rw [if_neg c6] at h
      refine rf_f wf1 rc_X10_mark_ok 8 (17, [some (.ref 0), some (.int p0), some (.int p1), none, none], [], σ) rfl rfl c6 rfl ?_
      refine rf_b wf1 rc_X10_mark_ok 9 1 (18, [some (.ref 0), some (.int p0), some (.int p1), none, none], [.int (-1)], σ) rfl ?_
      obtain rfl := Option.some.inj h
      exact rf_ri rc_X10_mark_ok 10 rfl rfl
def rc_X10_note : List rf_E := [(0, .aload_n 0, 1, 0), (1, .getfield 47, 3, 1022), (4, .iconst 0, 1, 0), (5, .aload_n 0, 1, 0), (6, .getfield 53, 3, 1024), (9, .bipush 25, 2, 0), (11, .aload_n 0, 1, 0), (12, .getfield 143, 3, 1025), (15, .imul, 1, 0), (16, .bipush 25, 2, 0), (18, .invokestatic 195, 3, 0), (21, .aload_n 0, 1, 0), (22, .dup, 1, 0), (23, .getfield 143, 3, 1025), (26, .iconst 1, 1, 0), (27, .iadd, 1, 0), (28, .putfield 143, 3, 1025), (31, .return_, 1, 0)]
theorem rc_X10_note_ok : rf_rc mX10_note rc_X10_note = true := by decide +kernel
theorem mw_X10_note : rf_mw mX10_note := ⟨rf_mt_ok _ (List.mem_of_getElem? (i := 191) rfl), fun h => absurd h (by decide), fun _ => ⟨rf_mi_ok _ (List.mem_of_getElem? (i := 169) rfl), rf_mv_ok _ (List.mem_of_getElem? (i := 169) rfl)⟩, rf_mq_7 _ (List.mem_of_getElem? (i := 16) rfl)⟩
def f_X10_note (σ : rf_S) : Option rf_S := (f_X10_bring 12 0 14 (25 * (σ.1 0 25)) 25 σ).bind (fun q1 => some (rf_sI q1 0 25 ((q1.1 0 25) + 1)))
set_option maxHeartbeats 2000000 in
theorem ok_X10_note (d : Nat) (σ : rf_S) (q : rf_S) (h : f_X10_note σ = some q) : rf_Ex ly1 (d + 2) mX10_note [.ref 0] σ none q := by
  unfold f_X10_note at h
  refine rf_ex mw_X10_note [some (.ref 0)] (Nat.le_of_ble_eq_true rfl) rfl ?_
  refine rf_b wf1 rc_X10_note_ok 0 10 (18, [some (.ref 0)], [.int 25, .int (25 * (σ.1 0 25)), .ref 14, .int 0, .ref 12], σ) rfl ?_
  obtain ⟨q1, h2, h⟩ := Option.bind_eq_some_iff.mp h
  refine rf_cs1 (Mt := mX10_bring) rc_X10_note_ok 10 false rfl (List.mem_of_getElem? (i := 171) rfl) mw_X10_bring rfl [.ref 12, .int 0, .ref 14, .int (25 * (σ.1 0 25)), .int 25] [] rfl rfl (Nat.le_of_ble_eq_true rfl) (ok_X10_bring d 12 0 14 (25 * (σ.1 0 25)) 25 σ q1 h2) ?_
  show rf_G _ _ _ (21, [some (.ref 0)], [], q1) _ _
  refine rf_b wf1 rc_X10_note_ok 11 6 (31, [some (.ref 0)], [], (rf_sI q1 0 25 ((q1.1 0 25) + 1))) rfl ?_
  obtain rfl := Option.some.inj h
  exact rf_rv rc_X10_note_ok 17 rfl rfl
def rc_X10_step : List rf_E := [(0, .iload_n 3, 1, 3), (1, .aload_n 1, 1, 1), (2, .iconst 4, 1, 0), (3, .iload_n 2, 1, 2), (4, .iadd, 1, 0), (5, .iaload, 1, 0), (6, .isub, 1, 0), (7, .istore 4, 2, 4), (9, .aload_n 1, 1, 1), (10, .bipush 24, 2, 0), (12, .dup2, 1, 0), (13, .iaload, 1, 0), (14, .iload 4, 2, 4), (16, .ifCond .ge 9, 3, 25), (19, .iload 4, 2, 4), (21, .ineg, 1, 0), (22, .goto 5, 3, 27), (25, .iload 4, 2, 4), (27, .iadd, 1, 0), (28, .iastore, 1, 0), (29, .aload_n 1, 1, 1), (30, .iconst 4, 1, 0), (31, .iload_n 2, 1, 2), (32, .iadd, 1, 0), (33, .iload_n 3, 1, 3), (34, .iastore, 1, 0), (35, .return_, 1, 0)]
theorem rc_X10_step_ok : rf_rc mX10_step rc_X10_step = true := by decide +kernel
theorem mw_X10_step : rf_mw mX10_step := ⟨rf_mt_ok _ (List.mem_of_getElem? (i := 192) rfl), fun h => absurd h (by decide), fun _ => ⟨rf_mi_ok _ (List.mem_of_getElem? (i := 170) rfl), rf_mv_ok _ (List.mem_of_getElem? (i := 170) rfl)⟩, rf_mq_7 _ (List.mem_of_getElem? (i := 17) rfl)⟩
def f_X10_step_j27 (l1 : Nat) (l2 : Int32) (l3 : Int32) (t0 : Int32) (t1 : Int32) (t2 : Int32) (t3 : Nat) (σ : rf_S) : Option rf_S := if rf_ck ly1 0 t3 t2 = true then (if rf_ck ly1 0 l1 (4 + l2) = true then ((some (rf_sI (rf_sI σ t3 t2.toNatClampNeg (t1 + t0)) l1 (4 + l2).toNatClampNeg l3)).bind (fun σ6 => some σ6)) else none) else none
set_option maxHeartbeats 2000000 in
theorem ok_X10_step_j27 (d : Nat) (l1 : Nat) (l2 : Int32) (l3 : Int32) (t0 : Int32) (t1 : Int32) (t2 : Int32) (t3 : Nat) (σ : rf_S) (q : rf_S) (h : f_X10_step_j27 l1 l2 l3 t0 t1 t2 t3 σ = some q) : rf_G ly1 (d) mX10_step (27, [none, some (.ref l1), some (.int l2), some (.int l3), none], [.int t0, .int t1, .int t2, .ref t3], σ) none q := by
  unfold f_X10_step_j27 at h
  refine rf_b wf1 rc_X10_step_ok 18 1 (28, [none, some (.ref l1), some (.int l2), some (.int l3), none], [.int (t1 + t0), .int t2, .ref t3], σ) rfl ?_
  obtain ⟨g4, h⟩ := rf_ifn h
  refine rf_gd wf1 rc_X10_step_ok 19 (29, [none, some (.ref l1), some (.int l2), some (.int l3), none], [], (rf_sI σ t3 t2.toNatClampNeg (t1 + t0))) rfl rfl g4 rfl ?_
  refine rf_b wf1 rc_X10_step_ok 20 5 (34, [none, some (.ref l1), some (.int l2), some (.int l3), none], [.int l3, .int (4 + l2), .ref l1], (rf_sI σ t3 t2.toNatClampNeg (t1 + t0))) rfl ?_
  obtain ⟨g5, h⟩ := rf_ifn h
  refine rf_gd wf1 rc_X10_step_ok 25 (35, [none, some (.ref l1), some (.int l2), some (.int l3), none], [], (rf_sI (rf_sI σ t3 t2.toNatClampNeg (t1 + t0)) l1 (4 + l2).toNatClampNeg l3)) rfl rfl g5 rfl ?_
  obtain ⟨σ6, h7, h⟩ := Option.bind_eq_some_iff.mp h
  refine rf_sgb (Option.some.inj h7) ?_
  obtain rfl := Option.some.inj h
  exact rf_rv rc_X10_step_ok 26 rfl rfl
def f_X10_step (p0 : Nat) (p1 : Int32) (p2 : Int32) (σ : rf_S) : Option rf_S := if rf_ck ly1 0 p0 (4 + p1) = true then (if rf_ck ly1 0 p0 24 = true then (if 0 ≤ (p2 - (σ.1 p0 (4 + p1).toNatClampNeg)) then (f_X10_step_j27 p0 p1 p2 (p2 - (σ.1 p0 (4 + p1).toNatClampNeg)) (σ.1 p0 (24 : Int32).toNatClampNeg) 24 p0 σ) else (f_X10_step_j27 p0 p1 p2 (-(p2 - (σ.1 p0 (4 + p1).toNatClampNeg))) (σ.1 p0 (24 : Int32).toNatClampNeg) 24 p0 σ)) else none) else none
set_option maxHeartbeats 2000000 in
theorem ok_X10_step (d : Nat) (p0 : Nat) (p1 : Int32) (p2 : Int32) (σ : rf_S) (q : rf_S) (h : f_X10_step p0 p1 p2 σ = some q) : rf_Ex ly1 (d + 1) mX10_step [.ref 0, .ref p0, .int p1, .int p2] σ none q := by
  unfold f_X10_step at h
  refine rf_ex mw_X10_step [some (.ref 0), some (.ref p0), some (.int p1), some (.int p2), none] (Nat.le_of_ble_eq_true rfl) rfl ?_
  refine rf_b wf1 rc_X10_step_ok 0 5 (5, [some (.ref 0), some (.ref p0), some (.int p1), some (.int p2), none], [.int (4 + p1), .ref p0, .int p2], σ) rfl ?_
  obtain ⟨g1, h⟩ := rf_ifn h
  refine rf_gd wf1 rc_X10_step_ok 5 (6, [some (.ref 0), some (.ref p0), some (.int p1), some (.int p2), none], [.int (σ.1 p0 (4 + p1).toNatClampNeg), .int p2], σ) rfl rfl g1 rfl ?_
  refine rf_b wf1 rc_X10_step_ok 6 5 (13, [some (.ref 0), some (.ref p0), some (.int p1), some (.int p2), some (.int (p2 - (σ.1 p0 (4 + p1).toNatClampNeg)))], [.int 24, .ref p0, .int 24, .ref p0], σ) rfl ?_
  obtain ⟨g2, h⟩ := rf_ifn h
  refine rf_gd wf1 rc_X10_step_ok 11 (14, [some (.ref 0), some (.ref p0), some (.int p1), some (.int p2), some (.int (p2 - (σ.1 p0 (4 + p1).toNatClampNeg)))], [.int (σ.1 p0 (24 : Int32).toNatClampNeg), .int 24, .ref p0], σ) rfl rfl g2 rfl ?_
  refine rf_b wf1 rc_X10_step_ok 12 1 (16, [some (.ref 0), some (.ref p0), some (.int p1), some (.int p2), some (.int (p2 - (σ.1 p0 (4 + p1).toNatClampNeg)))], [.int (p2 - (σ.1 p0 (4 + p1).toNatClampNeg)), .int (σ.1 p0 (24 : Int32).toNatClampNeg), .int 24, .ref p0], σ) rfl ?_
  by_cases c3 : 0 ≤ (p2 - (σ.1 p0 (4 + p1).toNatClampNeg))
  · rw [if_pos c3] at h
    refine rf_t wf1 rc_X10_step_ok 13 (25, [some (.ref 0), some (.ref p0), some (.int p1), some (.int p2), some (.int (p2 - (σ.1 p0 (4 + p1).toNatClampNeg)))], [.int (σ.1 p0 (24 : Int32).toNatClampNeg), .int 24, .ref p0], σ) rfl rfl c3 rfl ?_
    refine rf_b wf1 rc_X10_step_ok 17 1 (27, [some (.ref 0), some (.ref p0), some (.int p1), some (.int p2), some (.int (p2 - (σ.1 p0 (4 + p1).toNatClampNeg)))], [.int (p2 - (σ.1 p0 (4 + p1).toNatClampNeg)), .int (σ.1 p0 (24 : Int32).toNatClampNeg), .int 24, .ref p0], σ) rfl ?_
    refine rf_fg [false, true, true, true, false] [none, some (.ref p0), some (.int p1), some (.int p2), none] rfl ?_
    exact ok_X10_step_j27 d p0 p1 p2 (p2 - (σ.1 p0 (4 + p1).toNatClampNeg)) (σ.1 p0 (24 : Int32).toNatClampNeg) 24 p0 σ q h
  · rw [if_neg c3] at h
    refine rf_f wf1 rc_X10_step_ok 13 (19, [some (.ref 0), some (.ref p0), some (.int p1), some (.int p2), some (.int (p2 - (σ.1 p0 (4 + p1).toNatClampNeg)))], [.int (σ.1 p0 (24 : Int32).toNatClampNeg), .int 24, .ref p0], σ) rfl rfl c3 rfl ?_
    refine rf_b wf1 rc_X10_step_ok 14 3 (27, [some (.ref 0), some (.ref p0), some (.int p1), some (.int p2), some (.int (p2 - (σ.1 p0 (4 + p1).toNatClampNeg)))], [.int (-(p2 - (σ.1 p0 (4 + p1).toNatClampNeg))), .int (σ.1 p0 (24 : Int32).toNatClampNeg), .int 24, .ref p0], σ) rfl ?_
    refine rf_fg [false, true, true, true, false] [none, some (.ref p0), some (.int p1), some (.int p2), none] rfl ?_
    exact ok_X10_step_j27 d p0 p1 p2 (-(p2 - (σ.1 p0 (4 + p1).toNatClampNeg))) (σ.1 p0 (24 : Int32).toNatClampNeg) 24 p0 σ q h
def rc_X10_walk : List rf_E := [(0, .aload_n 0, 1, 0), (1, .iload_n 1, 1, 1), (2, .invokevirtual 169, 3, 0), (5, .ifCond .eq 11, 3, 16), (8, .aload_n 0, 1, 0), (9, .iload_n 2, 1, 2), (10, .invokevirtual 175, 3, 0), (13, .ifCond .ne 5, 3, 18), (16, .iconst (-1), 1, 0), (17, .ireturn, 1, 0), (18, .aload_n 0, 1, 0), (19, .getfield 47, 3, 1022), (22, .iconst 4, 1, 0), (23, .iload_n 1, 1, 1), (24, .iadd, 1, 0), (25, .iaload, 1, 0), (26, .iload_n 2, 1, 2), (27, .if_icmp .ne 6, 3, 33), (30, .bipush (-4), 2, 0), (32, .ireturn, 1, 0), (33, .aload_n 0, 1, 0), (34, .getfield 143, 3, 1025), (37, .bipush 40, 2, 0), (39, .if_icmp .ne 6, 3, 45), (42, .bipush (-2), 2, 0), (44, .ireturn, 1, 0), (45, .aload_n 0, 1, 0), (46, .invokevirtual 199, 3, 0), (49, .aload_n 0, 1, 0), (50, .aload_n 0, 1, 0), (51, .getfield 47, 3, 1022), (54, .iload_n 1, 1, 1), (55, .iload_n 2, 1, 2), (56, .invokevirtual 202, 3, 0), (59, .aload_n 0, 1, 0), (60, .getfield 47, 3, 1022), (63, .bipush 24, 2, 0), (65, .iaload, 1, 0), (66, .ireturn, 1, 0)]
theorem rc_X10_walk_ok : rf_rc mX10_walk rc_X10_walk = true := by decide +kernel
theorem mw_X10_walk : rf_mw mX10_walk := ⟨rf_mt_ok _ (List.mem_of_getElem? (i := 193) rfl), fun h => absurd h (by decide), fun _ => ⟨rf_mi_ok _ (List.mem_of_getElem? (i := 171) rfl), rf_mv_ok _ (List.mem_of_getElem? (i := 171) rfl)⟩, rf_mq_7 _ (List.mem_of_getElem? (i := 18) rfl)⟩
def f_X10_walk (p0 : Int32) (p1 : Int32) (σ : rf_S) : Option (Int32 × rf_S) := (f_X10_isOne p0 σ).bind (fun q1 => if q1 = 0 then (some ((-1), σ)) else ((f_X10_isRoom p1 σ).bind (fun q4 => if q4 ≠ 0 then (if rf_ck ly1 0 12 (4 + p0) = true then (if (σ.1 12 (4 + p0).toNatClampNeg) ≠ p1 then (if (σ.1 0 25) ≠ 40 then ((f_X10_note σ).bind (fun q10 => (f_X10_step 12 p0 p1 q10).bind (fun q12 => if rf_ck ly1 0 12 24 = true then (some ((q12.1 12 (24 : Int32).toNatClampNeg), q12)) else none))) else (some ((-2), σ))) else (some ((-4), σ))) else none) else (some ((-1), σ)))))
set_option maxHeartbeats 2000000 in
theorem ok_X10_walk (d : Nat) (p0 : Int32) (p1 : Int32) (σ : rf_S) (q : (Int32 × rf_S)) (h : f_X10_walk p0 p1 σ = some q) : rf_Ex ly1 (d + 3) mX10_walk [.ref 0, .int p0, .int p1] σ (some (.int q.1) : Option Value) q.2 := by
  unfold f_X10_walk at h
  refine rf_ex mw_X10_walk [some (.ref 0), some (.int p0), some (.int p1)] (Nat.le_of_ble_eq_true rfl) rfl ?_
  refine rf_b wf1 rc_X10_walk_ok 0 2 (2, [some (.ref 0), some (.int p0), some (.int p1)], [.int p0, .ref 0], σ) rfl ?_
  obtain ⟨q1, h2, h⟩ := Option.bind_eq_some_iff.mp h
  refine rf_cv1 (Mt := mX10_isOne) wf1 rc_X10_walk_ok 2 false rfl (List.mem_of_getElem? (i := 163) rfl) mw_X10_isOne rfl 0 [.int p0] [] rfl rfl rfl (Nat.le_of_ble_eq_true rfl) (ok_X10_isOne d p0 σ q1 h2) ?_
  show rf_G _ _ _ (5, [some (.ref 0), some (.int p0), some (.int p1)], [.int q1], σ) _ _
  by_cases c3 : q1 = 0
  · rw [if_pos c3] at h
    refine rf_t wf1 rc_X10_walk_ok 3 (16, [some (.ref 0), some (.int p0), some (.int p1)], [], σ) rfl rfl c3 rfl ?_
    refine rf_b wf1 rc_X10_walk_ok 8 1 (17, [some (.ref 0), some (.int p0), some (.int p1)], [.int (-1)], σ) rfl ?_
    obtain rfl := Option.some.inj h
    exact rf_ri rc_X10_walk_ok 9 rfl rfl
  · rw [if_neg c3] at h
    refine rf_f wf1 rc_X10_walk_ok 3 (8, [some (.ref 0), some (.int p0), some (.int p1)], [], σ) rfl rfl c3 rfl ?_
    refine rf_b wf1 rc_X10_walk_ok 4 2 (10, [some (.ref 0), some (.int p0), some (.int p1)], [.int p1, .ref 0], σ) rfl ?_
    obtain ⟨q4, h5, h⟩ := Option.bind_eq_some_iff.mp h
    refine rf_cv1 (Mt := mX10_isRoom) wf1 rc_X10_walk_ok 6 false rfl (List.mem_of_getElem? (i := 165) rfl) mw_X10_isRoom rfl 0 [.int p1] [] rfl rfl rfl (Nat.le_of_ble_eq_true rfl) (ok_X10_isRoom d p1 σ q4 h5) ?_
    show rf_G _ _ _ (13, [some (.ref 0), some (.int p0), some (.int p1)], [.int q4], σ) _ _
    by_cases c6 : q4 ≠ 0
    · rw [if_pos c6] at h
      refine rf_t wf1 rc_X10_walk_ok 7 (18, [some (.ref 0), some (.int p0), some (.int p1)], [], σ) rfl rfl c6 rfl ?_
      refine rf_b wf1 rc_X10_walk_ok 10 5 (25, [some (.ref 0), some (.int p0), some (.int p1)], [.int (4 + p0), .ref 12], σ) rfl ?_
      obtain ⟨g7, h⟩ := rf_ifn h
      refine rf_gd wf1 rc_X10_walk_ok 15 (26, [some (.ref 0), some (.int p0), some (.int p1)], [.int (σ.1 12 (4 + p0).toNatClampNeg)], σ) rfl rfl g7 rfl ?_
      refine rf_b wf1 rc_X10_walk_ok 16 1 (27, [some (.ref 0), some (.int p0), some (.int p1)], [.int p1, .int (σ.1 12 (4 + p0).toNatClampNeg)], σ) rfl ?_
      by_cases c8 : (σ.1 12 (4 + p0).toNatClampNeg) ≠ p1
      · rw [if_pos c8] at h
        refine rf_t wf1 rc_X10_walk_ok 17 (33, [some (.ref 0), some (.int p0), some (.int p1)], [], σ) rfl rfl c8 rfl ?_
        refine rf_b wf1 rc_X10_walk_ok 20 3 (39, [some (.ref 0), some (.int p0), some (.int p1)], [.int 40, .int (σ.1 0 25)], σ) rfl ?_
        by_cases c9 : (σ.1 0 25) ≠ 40
        · rw [if_pos c9] at h
          refine rf_t wf1 rc_X10_walk_ok 23 (45, [some (.ref 0), some (.int p0), some (.int p1)], [], σ) rfl rfl c9 rfl ?_
          refine rf_b wf1 rc_X10_walk_ok 26 1 (46, [some (.ref 0), some (.int p0), some (.int p1)], [.ref 0], σ) rfl ?_
          obtain ⟨q10, h11, h⟩ := Option.bind_eq_some_iff.mp h
          refine rf_cv1 (Mt := mX10_note) wf1 rc_X10_walk_ok 27 false rfl (List.mem_of_getElem? (i := 172) rfl) mw_X10_note rfl 0 [] [] rfl rfl rfl (Nat.le_of_ble_eq_true rfl) (ok_X10_note d  σ q10 h11) ?_
          show rf_G _ _ _ (49, [some (.ref 0), some (.int p0), some (.int p1)], [], q10) _ _
          refine rf_b wf1 rc_X10_walk_ok 28 5 (56, [some (.ref 0), some (.int p0), some (.int p1)], [.int p1, .int p0, .ref 12, .ref 0], q10) rfl ?_
          obtain ⟨q12, h13, h⟩ := Option.bind_eq_some_iff.mp h
          refine rf_cv1 (Mt := mX10_step) wf1 rc_X10_walk_ok 33 false rfl (List.mem_of_getElem? (i := 173) rfl) mw_X10_step rfl 0 [.ref 12, .int p0, .int p1] [] rfl rfl rfl (Nat.le_of_ble_eq_true rfl) (ok_X10_step (d + 1) 12 p0 p1 q10 q12 h13) ?_
          show rf_G _ _ _ (59, [some (.ref 0), some (.int p0), some (.int p1)], [], q12) _ _
          refine rf_b wf1 rc_X10_walk_ok 34 3 (65, [some (.ref 0), some (.int p0), some (.int p1)], [.int 24, .ref 12], q12) rfl ?_
          obtain ⟨g14, h⟩ := rf_ifn h
          refine rf_gd wf1 rc_X10_walk_ok 37 (66, [some (.ref 0), some (.int p0), some (.int p1)], [.int (q12.1 12 (24 : Int32).toNatClampNeg)], q12) rfl rfl g14 rfl ?_
          obtain rfl := Option.some.inj h
          exact rf_ri rc_X10_walk_ok 38 rfl rfl
        · rw [if_neg c9] at h
          refine rf_f wf1 rc_X10_walk_ok 23 (42, [some (.ref 0), some (.int p0), some (.int p1)], [], σ) rfl rfl c9 rfl ?_
          refine rf_b wf1 rc_X10_walk_ok 24 1 (44, [some (.ref 0), some (.int p0), some (.int p1)], [.int (-2)], σ) rfl ?_
          obtain rfl := Option.some.inj h
          exact rf_ri rc_X10_walk_ok 25 rfl rfl
      · rw [if_neg c8] at h
        refine rf_f wf1 rc_X10_walk_ok 17 (30, [some (.ref 0), some (.int p0), some (.int p1)], [], σ) rfl rfl c8 rfl ?_
        refine rf_b wf1 rc_X10_walk_ok 18 1 (32, [some (.ref 0), some (.int p0), some (.int p1)], [.int (-4)], σ) rfl ?_
        obtain rfl := Option.some.inj h
        exact rf_ri rc_X10_walk_ok 19 rfl rfl
    · rw [if_neg c6] at h
      refine rf_f wf1 rc_X10_walk_ok 7 (16, [some (.ref 0), some (.int p0), some (.int p1)], [], σ) rfl rfl c6 rfl ?_
      refine rf_b wf1 rc_X10_walk_ok 8 1 (17, [some (.ref 0), some (.int p0), some (.int p1)], [.int (-1)], σ) rfl ?_
      obtain rfl := Option.some.inj h
      exact rf_ri rc_X10_walk_ok 9 rfl rfl
def rc_X10_pass : List rf_E := [(0, .iconst 0, 1, 0), (1, .istore_n 2, 1, 2), (2, .iconst 0, 1, 0), (3, .istore_n 3, 1, 3), (4, .iload_n 3, 1, 3), (5, .aload_n 0, 1, 0), (6, .getfield 75, 3, 1017), (9, .if_icmp .ge 41, 3, 50), (12, .iload_n 2, 1, 2), (13, .aload_n 1, 1, 1), (14, .bipush 10, 2, 0), (16, .iload_n 3, 1, 3), (17, .iadd, 1, 0), (18, .iaload, 1, 0), (19, .ifCond .ne 22, 3, 41), (22, .aload_n 0, 1, 0), (23, .aload_n 1, 1, 1), (24, .aload_n 1, 1, 1), (25, .iconst 4, 1, 0), (26, .iload_n 3, 1, 3), (27, .iadd, 1, 0), (28, .iaload, 1, 0), (29, .invokevirtual 189, 3, 0), (32, .ifCond .eq 9, 3, 41), (35, .iconst 1, 1, 0), (36, .iload_n 3, 1, 3), (37, .ishl, 1, 0), (38, .goto 4, 3, 42), (41, .iconst 0, 1, 0), (42, .ior, 1, 0), (43, .istore_n 2, 1, 2), (44, .iinc 3 1, 3, 3), (47, .goto (-43), 3, 4), (50, .iconst 0, 1, 0), (51, .istore_n 3, 1, 3), (52, .iload_n 3, 1, 3), (53, .aload_n 0, 1, 0), (54, .getfield 75, 3, 1017), (57, .if_icmp .ge 48, 3, 105), (60, .aload_n 1, 1, 1), (61, .bipush 10, 2, 0), (63, .iload_n 3, 1, 3), (64, .iadd, 1, 0), (65, .iload_n 2, 1, 2), (66, .iload_n 3, 1, 3), (67, .invokestatic 206, 3, 0), (70, .ifCond .eq 7, 3, 77), (73, .iconst 2, 1, 0), (74, .goto 24, 3, 98), (77, .aload_n 1, 1, 1), (78, .bipush 10, 2, 0), (80, .iload_n 3, 1, 3), (81, .iadd, 1, 0), (82, .iaload, 1, 0), (83, .ifCond .le 14, 3, 97), (86, .aload_n 1, 1, 1), (87, .bipush 10, 2, 0), (89, .iload_n 3, 1, 3), (90, .iadd, 1, 0), (91, .iaload, 1, 0), (92, .iconst 1, 1, 0), (93, .isub, 1, 0), (94, .goto 4, 3, 98), (97, .iconst 0, 1, 0), (98, .iastore, 1, 0), (99, .iinc 3 1, 3, 3), (102, .goto (-50), 3, 52), (105, .aload_n 1, 1, 1), (106, .bipush 23, 2, 0), (108, .dup2, 1, 0), (109, .iaload, 1, 0), (110, .aload_n 1, 1, 1), (111, .bipush 23, 2, 0), (113, .iaload, 1, 0), (114, .ifCond .le 7, 3, 121), (117, .iconst 1, 1, 0), (118, .goto 4, 3, 122), (121, .iconst 0, 1, 0), (122, .isub, 1, 0), (123, .iastore, 1, 0), (124, .aload_n 1, 1, 1), (125, .bipush 22, 2, 0), (127, .dup2, 1, 0), (128, .iaload, 1, 0), (129, .iconst 1, 1, 0), (130, .iadd, 1, 0), (131, .iastore, 1, 0), (132, .iload_n 2, 1, 2), (133, .ireturn, 1, 0)]
theorem rc_X10_pass_ok : rf_rc mX10_pass rc_X10_pass = true := by decide +kernel
theorem mw_X10_pass : rf_mw mX10_pass := ⟨rf_mt_ok _ (List.mem_of_getElem? (i := 194) rfl), fun h => absurd h (by decide), fun _ => ⟨rf_mi_ok _ (List.mem_of_getElem? (i := 172) rfl), rf_mv_ok _ (List.mem_of_getElem? (i := 172) rfl)⟩, rf_mq_7 _ (List.mem_of_getElem? (i := 19) rfl)⟩
def f_X10_pass_j42 (l1 : Nat) (l3 : Int32) (t0 : Int32) (t1 : Int32) (σ : rf_S) : Option ((Int32 × Int32) ⊕ (Int32)) := some (.inl ((t1 ||| t0), (l3 + 1)))
set_option maxHeartbeats 2000000 in
theorem ok_X10_pass_j42 (d : Nat) (l1 : Nat) (l3 : Int32) (t0 : Int32) (t1 : Int32) (σ : rf_S) (o : ((Int32 × Int32) ⊕ (Int32))) (h : f_X10_pass_j42 l1 l3 t0 t1 σ = some o) {r : Option Value} {σr : rf_S} (kl : ∀ s', o = .inl s' → rf_G ly1 (d + 1) mX10_pass (4, [some (.ref 0), some (.ref l1), some (.int s'.1), some (.int s'.2)], [], σ) r σr) (kx : ∀ e, o = .inr e → rf_G ly1 (d + 1) mX10_pass (50, [some (.ref 0), some (.ref l1), some (.int e), none], [], σ) r σr) : rf_G ly1 (d + 1) mX10_pass (42, [some (.ref 0), some (.ref l1), none, some (.int l3)], [.int t0, .int t1], σ) r σr := by
  unfold f_X10_pass_j42 at h
  refine rf_b wf1 rc_X10_pass_ok 29 4 (4, [some (.ref 0), some (.ref l1), some (.int (t1 ||| t0)), some (.int (l3 + 1))], [], σ) rfl ?_
  exact kl ((t1 ||| t0), (l3 + 1)) (Option.some.inj h).symm
def f_X10_pass_j41 (l1 : Nat) (l3 : Int32) (t0 : Int32) (σ : rf_S) : Option ((Int32 × Int32) ⊕ (Int32)) := f_X10_pass_j42 l1 l3 0 t0 σ
set_option maxHeartbeats 2000000 in
theorem ok_X10_pass_j41 (d : Nat) (l1 : Nat) (l3 : Int32) (t0 : Int32) (σ : rf_S) (o : ((Int32 × Int32) ⊕ (Int32))) (h : f_X10_pass_j41 l1 l3 t0 σ = some o) {r : Option Value} {σr : rf_S} (kl : ∀ s', o = .inl s' → rf_G ly1 (d + 1) mX10_pass (4, [some (.ref 0), some (.ref l1), some (.int s'.1), some (.int s'.2)], [], σ) r σr) (kx : ∀ e, o = .inr e → rf_G ly1 (d + 1) mX10_pass (50, [some (.ref 0), some (.ref l1), some (.int e), none], [], σ) r σr) : rf_G ly1 (d + 1) mX10_pass (41, [some (.ref 0), some (.ref l1), none, some (.int l3)], [.int t0], σ) r σr := by
  unfold f_X10_pass_j41 at h
  refine rf_b wf1 rc_X10_pass_ok 28 1 (42, [some (.ref 0), some (.ref l1), none, some (.int l3)], [.int 0, .int t0], σ) rfl ?_
  exact ok_X10_pass_j42 d l1 l3 0 t0 σ o h kl kx
def f_X10_pass_b4 (l1 : Nat) (σ : rf_S) (s4 : Int32 × Int32) : Option ((Int32 × Int32) ⊕ (Int32)) := if (σ.1 0 17) ≤ s4.2 then (some (.inr s4.1)) else (if rf_ck ly1 0 l1 (10 + s4.2) = true then (if (σ.1 l1 (10 + s4.2).toNatClampNeg) ≠ 0 then (f_X10_pass_j41 l1 s4.2 s4.1 σ) else (if rf_ck ly1 0 l1 (4 + s4.2) = true then ((f_X10_coldIn l1 (σ.1 l1 (4 + s4.2).toNatClampNeg) σ).bind (fun q5 => if q5 = 0 then (f_X10_pass_j41 l1 s4.2 s4.1 σ) else (f_X10_pass_j42 l1 s4.2 (1 <<< (s4.2 &&& 31)) s4.1 σ))) else none)) else none)
set_option maxHeartbeats 2000000 in
theorem ok_X10_pass_b4 (d : Nat) (l1 : Nat) (σ : rf_S) (s4 : Int32 × Int32) (o : ((Int32 × Int32) ⊕ (Int32))) (h : f_X10_pass_b4 l1 σ s4 = some o) {r : Option Value} {σr : rf_S} (kl : ∀ s', o = .inl s' → rf_G ly1 (d + 1) mX10_pass (4, [some (.ref 0), some (.ref l1), some (.int s'.1), some (.int s'.2)], [], σ) r σr) (kx : ∀ e, o = .inr e → rf_G ly1 (d + 1) mX10_pass (50, [some (.ref 0), some (.ref l1), some (.int e), none], [], σ) r σr) : rf_G ly1 (d + 1) mX10_pass (4, [some (.ref 0), some (.ref l1), some (.int s4.1), some (.int s4.2)], [], σ) r σr := by
  unfold f_X10_pass_b4 at h
  refine rf_b wf1 rc_X10_pass_ok 4 3 (9, [some (.ref 0), some (.ref l1), some (.int s4.1), some (.int s4.2)], [.int (σ.1 0 17), .int s4.2], σ) rfl ?_
  by_cases c1 : (σ.1 0 17) ≤ s4.2
  · rw [if_pos c1] at h
    refine rf_t wf1 rc_X10_pass_ok 7 (50, [some (.ref 0), some (.ref l1), some (.int s4.1), some (.int s4.2)], [], σ) rfl rfl c1 rfl ?_
    refine rf_fg [true, true, true, false] [some (.ref 0), some (.ref l1), some (.int s4.1), none] rfl ?_
    exact kx s4.1 (Option.some.inj h).symm
  · rw [if_neg c1] at h
    refine rf_f wf1 rc_X10_pass_ok 7 (12, [some (.ref 0), some (.ref l1), some (.int s4.1), some (.int s4.2)], [], σ) rfl rfl c1 rfl ?_
    refine rf_b wf1 rc_X10_pass_ok 8 5 (18, [some (.ref 0), some (.ref l1), some (.int s4.1), some (.int s4.2)], [.int (10 + s4.2), .ref l1, .int s4.1], σ) rfl ?_
    obtain ⟨g2, h⟩ := rf_ifn h
    refine rf_gd wf1 rc_X10_pass_ok 13 (19, [some (.ref 0), some (.ref l1), some (.int s4.1), some (.int s4.2)], [.int (σ.1 l1 (10 + s4.2).toNatClampNeg), .int s4.1], σ) rfl rfl g2 rfl ?_
    by_cases c3 : (σ.1 l1 (10 + s4.2).toNatClampNeg) ≠ 0
    · rw [if_pos c3] at h
      refine rf_t wf1 rc_X10_pass_ok 14 (41, [some (.ref 0), some (.ref l1), some (.int s4.1), some (.int s4.2)], [.int s4.1], σ) rfl rfl c3 rfl ?_
      refine rf_fg [true, true, false, true] [some (.ref 0), some (.ref l1), none, some (.int s4.2)] rfl ?_
      exact ok_X10_pass_j41 d l1 s4.2 s4.1 σ o h kl kx
    · rw [if_neg c3] at h
      refine rf_f wf1 rc_X10_pass_ok 14 (22, [some (.ref 0), some (.ref l1), some (.int s4.1), some (.int s4.2)], [.int s4.1], σ) rfl rfl c3 rfl ?_
      refine rf_b wf1 rc_X10_pass_ok 15 6 (28, [some (.ref 0), some (.ref l1), some (.int s4.1), some (.int s4.2)], [.int (4 + s4.2), .ref l1, .ref l1, .ref 0, .int s4.1], σ) rfl ?_
      obtain ⟨g4, h⟩ := rf_ifn h
      refine rf_gd wf1 rc_X10_pass_ok 21 (29, [some (.ref 0), some (.ref l1), some (.int s4.1), some (.int s4.2)], [.int (σ.1 l1 (4 + s4.2).toNatClampNeg), .ref l1, .ref 0, .int s4.1], σ) rfl rfl g4 rfl ?_
      obtain ⟨q5, h6, h⟩ := Option.bind_eq_some_iff.mp h
      refine rf_cv1 (Mt := mX10_coldIn) wf1 rc_X10_pass_ok 22 false rfl (List.mem_of_getElem? (i := 169) rfl) mw_X10_coldIn rfl 0 [.ref l1, .int (σ.1 l1 (4 + s4.2).toNatClampNeg)] [.int s4.1] rfl rfl rfl (Nat.le_of_ble_eq_true rfl) (ok_X10_coldIn d l1 (σ.1 l1 (4 + s4.2).toNatClampNeg) σ q5 h6) ?_
      show rf_G _ _ _ (32, [some (.ref 0), some (.ref l1), some (.int s4.1), some (.int s4.2)], [.int q5, .int s4.1], σ) _ _
      by_cases c7 : q5 = 0
      · rw [if_pos c7] at h
        refine rf_t wf1 rc_X10_pass_ok 23 (41, [some (.ref 0), some (.ref l1), some (.int s4.1), some (.int s4.2)], [.int s4.1], σ) rfl rfl c7 rfl ?_
        refine rf_fg [true, true, false, true] [some (.ref 0), some (.ref l1), none, some (.int s4.2)] rfl ?_
        exact ok_X10_pass_j41 d l1 s4.2 s4.1 σ o h kl kx
      · rw [if_neg c7] at h
        refine rf_f wf1 rc_X10_pass_ok 23 (35, [some (.ref 0), some (.ref l1), some (.int s4.1), some (.int s4.2)], [.int s4.1], σ) rfl rfl c7 rfl ?_
        refine rf_b wf1 rc_X10_pass_ok 24 4 (42, [some (.ref 0), some (.ref l1), some (.int s4.1), some (.int s4.2)], [.int (1 <<< (s4.2 &&& 31)), .int s4.1], σ) rfl ?_
        refine rf_fg [true, true, false, true] [some (.ref 0), some (.ref l1), none, some (.int s4.2)] rfl ?_
        exact ok_X10_pass_j42 d l1 s4.2 (1 <<< (s4.2 &&& 31)) s4.1 σ o h kl kx
def f_X10_pass_j98 (l1 : Nat) (l2 : Int32) (l3 : Int32) (t0 : Int32) (t1 : Int32) (t2 : Nat) (σ : rf_S) : Option ((Int32 × rf_S) ⊕ (rf_S)) := if rf_ck ly1 0 t2 t1 = true then (some (.inl ((l3 + 1), (rf_sI σ t2 t1.toNatClampNeg t0)))) else none
set_option maxHeartbeats 2000000 in
theorem ok_X10_pass_j98 (d : Nat) (l1 : Nat) (l2 : Int32) (l3 : Int32) (t0 : Int32) (t1 : Int32) (t2 : Nat) (σ : rf_S) (o : ((Int32 × rf_S) ⊕ (rf_S))) (h : f_X10_pass_j98 l1 l2 l3 t0 t1 t2 σ = some o) {r : Option Value} {σr : rf_S} (kl : ∀ s', o = .inl s' → rf_G ly1 (d + 1) mX10_pass (52, [some (.ref 0), some (.ref l1), some (.int l2), some (.int s'.1)], [], s'.2) r σr) (kx : ∀ e, o = .inr e → rf_G ly1 (d + 1) mX10_pass (105, [none, some (.ref l1), some (.int l2), none], [], e) r σr) : rf_G ly1 (d + 1) mX10_pass (98, [some (.ref 0), some (.ref l1), some (.int l2), some (.int l3)], [.int t0, .int t1, .ref t2], σ) r σr := by
  unfold f_X10_pass_j98 at h
  obtain ⟨g16, h⟩ := rf_ifn h
  refine rf_gd wf1 rc_X10_pass_ok 64 (99, [some (.ref 0), some (.ref l1), some (.int l2), some (.int l3)], [], (rf_sI σ t2 t1.toNatClampNeg t0)) rfl rfl g16 rfl ?_
  refine rf_b wf1 rc_X10_pass_ok 65 2 (52, [some (.ref 0), some (.ref l1), some (.int l2), some (.int (l3 + 1))], [], (rf_sI σ t2 t1.toNatClampNeg t0)) rfl ?_
  exact kl ((l3 + 1), (rf_sI σ t2 t1.toNatClampNeg t0)) (Option.some.inj h).symm
def f_X10_pass_b52 (l1 : Nat) (l2 : Int32) (s52 : Int32 × rf_S) : Option ((Int32 × rf_S) ⊕ (rf_S)) := if (s52.2.1 0 17) ≤ s52.1 then (some (.inr s52.2)) else ((f_X10_has l2 s52.1 s52.2).bind (fun q11 => if q11 = 0 then (if rf_ck ly1 0 l1 (10 + s52.1) = true then (if (s52.2.1 l1 (10 + s52.1).toNatClampNeg) ≤ 0 then (f_X10_pass_j98 l1 l2 s52.1 0 (10 + s52.1) l1 s52.2) else (if rf_ck ly1 0 l1 (10 + s52.1) = true then (f_X10_pass_j98 l1 l2 s52.1 ((s52.2.1 l1 (10 + s52.1).toNatClampNeg) - 1) (10 + s52.1) l1 s52.2) else none)) else none) else (f_X10_pass_j98 l1 l2 s52.1 2 (10 + s52.1) l1 s52.2)))
set_option maxHeartbeats 2000000 in
theorem ok_X10_pass_b52 (d : Nat) (l1 : Nat) (l2 : Int32) (s52 : Int32 × rf_S) (o : ((Int32 × rf_S) ⊕ (rf_S))) (h : f_X10_pass_b52 l1 l2 s52 = some o) {r : Option Value} {σr : rf_S} (kl : ∀ s', o = .inl s' → rf_G ly1 (d + 1) mX10_pass (52, [some (.ref 0), some (.ref l1), some (.int l2), some (.int s'.1)], [], s'.2) r σr) (kx : ∀ e, o = .inr e → rf_G ly1 (d + 1) mX10_pass (105, [none, some (.ref l1), some (.int l2), none], [], e) r σr) : rf_G ly1 (d + 1) mX10_pass (52, [some (.ref 0), some (.ref l1), some (.int l2), some (.int s52.1)], [], s52.2) r σr := by
  unfold f_X10_pass_b52 at h
  refine rf_b wf1 rc_X10_pass_ok 35 3 (57, [some (.ref 0), some (.ref l1), some (.int l2), some (.int s52.1)], [.int (s52.2.1 0 17), .int s52.1], s52.2) rfl ?_
  by_cases c10 : (s52.2.1 0 17) ≤ s52.1
  · rw [if_pos c10] at h
    refine rf_t wf1 rc_X10_pass_ok 38 (105, [some (.ref 0), some (.ref l1), some (.int l2), some (.int s52.1)], [], s52.2) rfl rfl c10 rfl ?_
    refine rf_fg [false, true, true, false] [none, some (.ref l1), some (.int l2), none] rfl ?_
    exact kx s52.2 (Option.some.inj h).symm
  · rw [if_neg c10] at h
    refine rf_f wf1 rc_X10_pass_ok 38 (60, [some (.ref 0), some (.ref l1), some (.int l2), some (.int s52.1)], [], s52.2) rfl rfl c10 rfl ?_
    refine rf_b wf1 rc_X10_pass_ok 39 6 (67, [some (.ref 0), some (.ref l1), some (.int l2), some (.int s52.1)], [.int s52.1, .int l2, .int (10 + s52.1), .ref l1], s52.2) rfl ?_
    obtain ⟨q11, h12, h⟩ := Option.bind_eq_some_iff.mp h
    refine rf_cs1 (Mt := mX10_has) rc_X10_pass_ok 45 false rfl (List.mem_of_getElem? (i := 174) rfl) mw_X10_has rfl [.int l2, .int s52.1] [.int (10 + s52.1), .ref l1] rfl rfl (Nat.le_of_ble_eq_true rfl) (ok_X10_has d l2 s52.1 s52.2 q11 h12) ?_
    show rf_G _ _ _ (70, [some (.ref 0), some (.ref l1), some (.int l2), some (.int s52.1)], [.int q11, .int (10 + s52.1), .ref l1], s52.2) _ _
    by_cases c13 : q11 = 0
    · rw [if_pos c13] at h
      refine rf_t wf1 rc_X10_pass_ok 46 (77, [some (.ref 0), some (.ref l1), some (.int l2), some (.int s52.1)], [.int (10 + s52.1), .ref l1], s52.2) rfl rfl c13 rfl ?_
      refine rf_b wf1 rc_X10_pass_ok 49 4 (82, [some (.ref 0), some (.ref l1), some (.int l2), some (.int s52.1)], [.int (10 + s52.1), .ref l1, .int (10 + s52.1), .ref l1], s52.2) rfl ?_
      obtain ⟨g14, h⟩ := rf_ifn h
      refine rf_gd wf1 rc_X10_pass_ok 53 (83, [some (.ref 0), some (.ref l1), some (.int l2), some (.int s52.1)], [.int (s52.2.1 l1 (10 + s52.1).toNatClampNeg), .int (10 + s52.1), .ref l1], s52.2) rfl rfl g14 rfl ?_
      by_cases c15 : (s52.2.1 l1 (10 + s52.1).toNatClampNeg) ≤ 0
      · rw [if_pos c15] at h
        refine rf_t wf1 rc_X10_pass_ok 54 (97, [some (.ref 0), some (.ref l1), some (.int l2), some (.int s52.1)], [.int (10 + s52.1), .ref l1], s52.2) rfl rfl c15 rfl ?_
        refine rf_b wf1 rc_X10_pass_ok 63 1 (98, [some (.ref 0), some (.ref l1), some (.int l2), some (.int s52.1)], [.int 0, .int (10 + s52.1), .ref l1], s52.2) rfl ?_
        exact ok_X10_pass_j98 d l1 l2 s52.1 0 (10 + s52.1) l1 s52.2 o h kl kx
      · rw [if_neg c15] at h
        refine rf_f wf1 rc_X10_pass_ok 54 (86, [some (.ref 0), some (.ref l1), some (.int l2), some (.int s52.1)], [.int (10 + s52.1), .ref l1], s52.2) rfl rfl c15 rfl ?_
        refine rf_b wf1 rc_X10_pass_ok 55 4 (91, [some (.ref 0), some (.ref l1), some (.int l2), some (.int s52.1)], [.int (10 + s52.1), .ref l1, .int (10 + s52.1), .ref l1], s52.2) rfl ?_
        obtain ⟨g17, h⟩ := rf_ifn h
        refine rf_gd wf1 rc_X10_pass_ok 59 (92, [some (.ref 0), some (.ref l1), some (.int l2), some (.int s52.1)], [.int (s52.2.1 l1 (10 + s52.1).toNatClampNeg), .int (10 + s52.1), .ref l1], s52.2) rfl rfl g17 rfl ?_
        refine rf_b wf1 rc_X10_pass_ok 60 3 (98, [some (.ref 0), some (.ref l1), some (.int l2), some (.int s52.1)], [.int ((s52.2.1 l1 (10 + s52.1).toNatClampNeg) - 1), .int (10 + s52.1), .ref l1], s52.2) rfl ?_
        exact ok_X10_pass_j98 d l1 l2 s52.1 ((s52.2.1 l1 (10 + s52.1).toNatClampNeg) - 1) (10 + s52.1) l1 s52.2 o h kl kx
    · rw [if_neg c13] at h
      refine rf_f wf1 rc_X10_pass_ok 46 (73, [some (.ref 0), some (.ref l1), some (.int l2), some (.int s52.1)], [.int (10 + s52.1), .ref l1], s52.2) rfl rfl c13 rfl ?_
      refine rf_b wf1 rc_X10_pass_ok 47 2 (98, [some (.ref 0), some (.ref l1), some (.int l2), some (.int s52.1)], [.int 2, .int (10 + s52.1), .ref l1], s52.2) rfl ?_
      exact ok_X10_pass_j98 d l1 l2 s52.1 2 (10 + s52.1) l1 s52.2 o h kl kx
def f_X10_pass_j122 (l1 : Nat) (l2 : Int32) (t0 : Int32) (t1 : Int32) (t2 : Int32) (t3 : Nat) (σ : rf_S) : Option (Int32 × rf_S) := if rf_ck ly1 0 t3 t2 = true then (if rf_ck ly1 0 l1 22 = true then (if rf_ck ly1 0 l1 22 = true then ((some (rf_sI (rf_sI σ t3 t2.toNatClampNeg (t1 - t0)) l1 (22 : Int32).toNatClampNeg (((rf_sI σ t3 t2.toNatClampNeg (t1 - t0)).1 l1 (22 : Int32).toNatClampNeg) + 1))).bind (fun σ26 => some (l2, σ26))) else none) else none) else none
set_option maxHeartbeats 2000000 in
theorem ok_X10_pass_j122 (d : Nat) (l1 : Nat) (l2 : Int32) (t0 : Int32) (t1 : Int32) (t2 : Int32) (t3 : Nat) (σ : rf_S) (q : (Int32 × rf_S)) (h : f_X10_pass_j122 l1 l2 t0 t1 t2 t3 σ = some q) : rf_G ly1 (d + 1) mX10_pass (122, [none, some (.ref l1), some (.int l2), none], [.int t0, .int t1, .int t2, .ref t3], σ) (some (.int q.1) : Option Value) q.2 := by
  unfold f_X10_pass_j122 at h
  refine rf_b wf1 rc_X10_pass_ok 78 1 (123, [none, some (.ref l1), some (.int l2), none], [.int (t1 - t0), .int t2, .ref t3], σ) rfl ?_
  obtain ⟨g23, h⟩ := rf_ifn h
  refine rf_gd wf1 rc_X10_pass_ok 79 (124, [none, some (.ref l1), some (.int l2), none], [], (rf_sI σ t3 t2.toNatClampNeg (t1 - t0))) rfl rfl g23 rfl ?_
  refine rf_b wf1 rc_X10_pass_ok 80 3 (128, [none, some (.ref l1), some (.int l2), none], [.int 22, .ref l1, .int 22, .ref l1], (rf_sI σ t3 t2.toNatClampNeg (t1 - t0))) rfl ?_
  obtain ⟨g24, h⟩ := rf_ifn h
  refine rf_gd wf1 rc_X10_pass_ok 83 (129, [none, some (.ref l1), some (.int l2), none], [.int ((rf_sI σ t3 t2.toNatClampNeg (t1 - t0)).1 l1 (22 : Int32).toNatClampNeg), .int 22, .ref l1], (rf_sI σ t3 t2.toNatClampNeg (t1 - t0))) rfl rfl g24 rfl ?_
  refine rf_b wf1 rc_X10_pass_ok 84 2 (131, [none, some (.ref l1), some (.int l2), none], [.int (((rf_sI σ t3 t2.toNatClampNeg (t1 - t0)).1 l1 (22 : Int32).toNatClampNeg) + 1), .int 22, .ref l1], (rf_sI σ t3 t2.toNatClampNeg (t1 - t0))) rfl ?_
  obtain ⟨g25, h⟩ := rf_ifn h
  refine rf_gd wf1 rc_X10_pass_ok 86 (132, [none, some (.ref l1), some (.int l2), none], [], (rf_sI (rf_sI σ t3 t2.toNatClampNeg (t1 - t0)) l1 (22 : Int32).toNatClampNeg (((rf_sI σ t3 t2.toNatClampNeg (t1 - t0)).1 l1 (22 : Int32).toNatClampNeg) + 1))) rfl rfl g25 rfl ?_
  obtain ⟨σ26, h27, h⟩ := Option.bind_eq_some_iff.mp h
  refine rf_sgb (Option.some.inj h27) ?_
  refine rf_b wf1 rc_X10_pass_ok 87 1 (133, [none, some (.ref l1), some (.int l2), none], [.int l2], σ26) rfl ?_
  obtain rfl := Option.some.inj h
  exact rf_ri rc_X10_pass_ok 88 rfl rfl
def f_X10_pass (p0 : Nat) (σ : rf_S) : Option (Int32 × rf_S) := (rf_lp (f_X10_pass_b4 p0 σ) 5000 (0, 0)).bind (fun e8 => (rf_lp (f_X10_pass_b52 p0 e8) 5000 (0, σ)).bind (fun e18 => if rf_ck ly1 0 p0 23 = true then (if rf_ck ly1 0 p0 23 = true then (if (e18.1 p0 (23 : Int32).toNatClampNeg) ≤ 0 then (f_X10_pass_j122 p0 e8 0 (e18.1 p0 (23 : Int32).toNatClampNeg) 23 p0 e18) else (f_X10_pass_j122 p0 e8 1 (e18.1 p0 (23 : Int32).toNatClampNeg) 23 p0 e18)) else none) else none))
set_option maxHeartbeats 2000000 in
theorem ok_X10_pass (d : Nat) (p0 : Nat) (σ : rf_S) (q : (Int32 × rf_S)) (h : f_X10_pass p0 σ = some q) : rf_Ex ly1 (d + 2) mX10_pass [.ref 0, .ref p0] σ (some (.int q.1) : Option Value) q.2 := by
  unfold f_X10_pass at h
  refine rf_ex mw_X10_pass [some (.ref 0), some (.ref p0), none, none] (Nat.le_of_ble_eq_true rfl) rfl ?_
  refine rf_b wf1 rc_X10_pass_ok 0 4 (4, [some (.ref 0), some (.ref p0), some (.int 0), some (.int 0)], [], σ) rfl ?_
  obtain ⟨e8, h9, h⟩ := Option.bind_eq_some_iff.mp h
  refine rf_lpG (b := f_X10_pass_b4 p0 σ) (G := fun (s4 : Int32 × Int32) => rf_G ly1 (d + 1) mX10_pass (4, [some (.ref 0), some (.ref p0), some (.int s4.1), some (.int s4.2)], [], σ) (some (.int q.1) : Option Value) q.2) (K := fun (e : (Int32)) => rf_G ly1 (d + 1) mX10_pass (50, [some (.ref 0), some (.ref p0), some (.int e), none], [], σ) (some (.int q.1) : Option Value) q.2) (fun (s4 : Int32 × Int32) (o : (Int32 × Int32) ⊕ (Int32)) hb kl kx => ok_X10_pass_b4 d p0 σ s4 o hb kl kx) 5000 (0, 0) e8 h9 ?_
  show rf_G _ _ _ (50, [some (.ref 0), some (.ref p0), some (.int e8), none], [], σ) _ _
  refine rf_b wf1 rc_X10_pass_ok 33 2 (52, [some (.ref 0), some (.ref p0), some (.int e8), some (.int 0)], [], σ) rfl ?_
  obtain ⟨e18, h19, h⟩ := Option.bind_eq_some_iff.mp h
  refine rf_lpG (b := f_X10_pass_b52 p0 e8) (G := fun (s52 : Int32 × rf_S) => rf_G ly1 (d + 1) mX10_pass (52, [some (.ref 0), some (.ref p0), some (.int e8), some (.int s52.1)], [], s52.2) (some (.int q.1) : Option Value) q.2) (K := fun (e : (rf_S)) => rf_G ly1 (d + 1) mX10_pass (105, [none, some (.ref p0), some (.int e8), none], [], e) (some (.int q.1) : Option Value) q.2) (fun (s52 : Int32 × rf_S) (o : (Int32 × rf_S) ⊕ (rf_S)) hb kl kx => ok_X10_pass_b52 d p0 e8 s52 o hb kl kx) 5000 (0, σ) e18 h19 ?_
  show rf_G _ _ _ (105, [none, some (.ref p0), some (.int e8), none], [], e18) _ _
  refine rf_b wf1 rc_X10_pass_ok 67 3 (109, [none, some (.ref p0), some (.int e8), none], [.int 23, .ref p0, .int 23, .ref p0], e18) rfl ?_
  obtain ⟨g20, h⟩ := rf_ifn h
  refine rf_gd wf1 rc_X10_pass_ok 70 (110, [none, some (.ref p0), some (.int e8), none], [.int (e18.1 p0 (23 : Int32).toNatClampNeg), .int 23, .ref p0], e18) rfl rfl g20 rfl ?_
  refine rf_b wf1 rc_X10_pass_ok 71 2 (113, [none, some (.ref p0), some (.int e8), none], [.int 23, .ref p0, .int (e18.1 p0 (23 : Int32).toNatClampNeg), .int 23, .ref p0], e18) rfl ?_
  obtain ⟨g21, h⟩ := rf_ifn h
  refine rf_gd wf1 rc_X10_pass_ok 73 (114, [none, some (.ref p0), some (.int e8), none], [.int (e18.1 p0 (23 : Int32).toNatClampNeg), .int (e18.1 p0 (23 : Int32).toNatClampNeg), .int 23, .ref p0], e18) rfl rfl g21 rfl ?_
  by_cases c22 : (e18.1 p0 (23 : Int32).toNatClampNeg) ≤ 0
  · rw [if_pos c22] at h
    refine rf_t wf1 rc_X10_pass_ok 74 (121, [none, some (.ref p0), some (.int e8), none], [.int (e18.1 p0 (23 : Int32).toNatClampNeg), .int 23, .ref p0], e18) rfl rfl c22 rfl ?_
    refine rf_b wf1 rc_X10_pass_ok 77 1 (122, [none, some (.ref p0), some (.int e8), none], [.int 0, .int (e18.1 p0 (23 : Int32).toNatClampNeg), .int 23, .ref p0], e18) rfl ?_
    exact ok_X10_pass_j122 d p0 e8 0 (e18.1 p0 (23 : Int32).toNatClampNeg) 23 p0 e18 q h
  · rw [if_neg c22] at h
    refine rf_f wf1 rc_X10_pass_ok 74 (117, [none, some (.ref p0), some (.int e8), none], [.int (e18.1 p0 (23 : Int32).toNatClampNeg), .int 23, .ref p0], e18) rfl rfl c22 rfl ?_
    refine rf_b wf1 rc_X10_pass_ok 75 2 (122, [none, some (.ref p0), some (.int e8), none], [.int 1, .int (e18.1 p0 (23 : Int32).toNatClampNeg), .int 23, .ref p0], e18) rfl ?_
    exact ok_X10_pass_j122 d p0 e8 1 (e18.1 p0 (23 : Int32).toNatClampNeg) 23 p0 e18 q h
