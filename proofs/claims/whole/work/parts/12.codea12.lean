def rc_X6_partsBy : List rf_E := [(0, .aload_n 0, 1, 0), (1, .getfield 15, 3, 601), (4, .iconst 0, 1, 0), (5, .invokestatic 18, 3, 0), (8, .aload_n 0, 1, 0), (9, .iconst 0, 1, 0), (10, .putfield 34, 3, 602), (13, .iconst 0, 1, 0), (14, .istore_n 2, 1, 2), (15, .iconst 0, 1, 0), (16, .istore_n 3, 1, 3), (17, .iload_n 3, 1, 3), (18, .bipush 30, 2, 0), (20, .if_icmp .gt 61, 3, 81), (23, .aload_n 0, 1, 0), (24, .getfield 9, 3, 600), (27, .iload_n 3, 1, 3), (28, .iaload, 1, 0), (29, .iload_n 1, 1, 1), (30, .iand, 1, 0), (31, .istore 4, 2, 4), (33, .aload_n 0, 1, 0), (34, .getfield 15, 3, 601), (37, .iload 4, 2, 4), (39, .iaload, 1, 0), (40, .ifCond .ne 6, 3, 46), (43, .iinc 2 1, 3, 2), (46, .aload_n 0, 1, 0), (47, .getfield 15, 3, 601), (50, .iload 4, 2, 4), (52, .dup2, 1, 0), (53, .iaload, 1, 0), (54, .iconst 1, 1, 0), (55, .iadd, 1, 0), (56, .iastore, 1, 0), (57, .aload_n 0, 1, 0), (58, .aload_n 0, 1, 0), (59, .getfield 34, 3, 602), (62, .aload_n 0, 1, 0), (63, .getfield 15, 3, 601), (66, .iload 4, 2, 4), (68, .iaload, 1, 0), (69, .invokestatic 38, 3, 1002), (72, .putfield 34, 3, 602), (75, .iinc 3 1, 3, 3), (78, .goto (-61), 3, 17), (81, .iload_n 2, 1, 2), (82, .ireturn, 1, 0)]
theorem rc_X6_partsBy_ok : rf_rc mX6_partsBy rc_X6_partsBy = true := by decide +kernel
theorem mw_X6_partsBy : rf_mw mX6_partsBy := ⟨rf_mt_ok _ (List.mem_of_getElem? (i := 38) rfl), fun h => absurd h (by decide), fun _ => ⟨rf_mi_ok _ (List.mem_of_getElem? (i := 35) rfl), rf_mv_ok _ (List.mem_of_getElem? (i := 35) rfl)⟩, rf_mq_1 _ (List.mem_of_getElem? (i := 13) rfl)⟩
def f_X6_partsBy_j46 (l1 : Int32) (l2 : Int32) (l3 : Int32) (l4 : Int32) (σ : rf_S) : Option ((Int32 × Int32 × rf_S) ⊕ (Int32 × rf_S)) := if rf_ck ly0 0 52 l4 = true then (if rf_ck ly0 0 52 l4 = true then (if rf_ck ly0 0 52 l4 = true then ((some (rf_sI (rf_sI σ 52 l4.toNatClampNeg ((σ.1 52 l4.toNatClampNeg) + 1)) 50 2 (if ((rf_sI σ 52 l4.toNatClampNeg ((σ.1 52 l4.toNatClampNeg) + 1)).1 50 2) < ((rf_sI σ 52 l4.toNatClampNeg ((σ.1 52 l4.toNatClampNeg) + 1)).1 52 l4.toNatClampNeg) then ((rf_sI σ 52 l4.toNatClampNeg ((σ.1 52 l4.toNatClampNeg) + 1)).1 52 l4.toNatClampNeg) else ((rf_sI σ 52 l4.toNatClampNeg ((σ.1 52 l4.toNatClampNeg) + 1)).1 50 2)))).bind (fun σ10 => some (.inl (l2, (l3 + 1), σ10)))) else none) else none) else none
set_option maxHeartbeats 2000000 in
theorem ok_X6_partsBy_j46 (d : Nat) (l1 : Int32) (l2 : Int32) (l3 : Int32) (l4 : Int32) (σ : rf_S) (o : ((Int32 × Int32 × rf_S) ⊕ (Int32 × rf_S))) (h : f_X6_partsBy_j46 l1 l2 l3 l4 σ = some o) {r : Option Value} {σr : rf_S} (kl : ∀ s', o = .inl s' → rf_G ly0 (d + 1) mX6_partsBy (17, [some (.ref 50), some (.int l1), some (.int s'.1), some (.int s'.2.1), none], [], s'.2.2) r σr) (kx : ∀ e, o = .inr e → rf_G ly0 (d + 1) mX6_partsBy (81, [none, none, some (.int e.1), none, none], [], e.2) r σr) : rf_G ly0 (d + 1) mX6_partsBy (46, [some (.ref 50), some (.int l1), some (.int l2), some (.int l3), some (.int l4)], [], σ) r σr := by
  unfold f_X6_partsBy_j46 at h
  refine rf_b wf0 rc_X6_partsBy_ok 27 4 (53, [some (.ref 50), some (.int l1), some (.int l2), some (.int l3), some (.int l4)], [.int l4, .ref 52, .int l4, .ref 52], σ) rfl ?_
  obtain ⟨g7, h⟩ := rf_ifn h
  refine rf_gd wf0 rc_X6_partsBy_ok 31 (54, [some (.ref 50), some (.int l1), some (.int l2), some (.int l3), some (.int l4)], [.int (σ.1 52 l4.toNatClampNeg), .int l4, .ref 52], σ) rfl rfl g7 rfl ?_
  refine rf_b wf0 rc_X6_partsBy_ok 32 2 (56, [some (.ref 50), some (.int l1), some (.int l2), some (.int l3), some (.int l4)], [.int ((σ.1 52 l4.toNatClampNeg) + 1), .int l4, .ref 52], σ) rfl ?_
  obtain ⟨g8, h⟩ := rf_ifn h
  refine rf_gd wf0 rc_X6_partsBy_ok 34 (57, [some (.ref 50), some (.int l1), some (.int l2), some (.int l3), some (.int l4)], [], (rf_sI σ 52 l4.toNatClampNeg ((σ.1 52 l4.toNatClampNeg) + 1))) rfl rfl g8 rfl ?_
  refine rf_b wf0 rc_X6_partsBy_ok 35 6 (68, [some (.ref 50), some (.int l1), some (.int l2), some (.int l3), some (.int l4)], [.int l4, .ref 52, .int ((rf_sI σ 52 l4.toNatClampNeg ((σ.1 52 l4.toNatClampNeg) + 1)).1 50 2), .ref 50], (rf_sI σ 52 l4.toNatClampNeg ((σ.1 52 l4.toNatClampNeg) + 1))) rfl ?_
  obtain ⟨g9, h⟩ := rf_ifn h
  refine rf_gd wf0 rc_X6_partsBy_ok 41 (69, [some (.ref 50), some (.int l1), some (.int l2), some (.int l3), some (.int l4)], [.int ((rf_sI σ 52 l4.toNatClampNeg ((σ.1 52 l4.toNatClampNeg) + 1)).1 52 l4.toNatClampNeg), .int ((rf_sI σ 52 l4.toNatClampNeg ((σ.1 52 l4.toNatClampNeg) + 1)).1 50 2), .ref 50], (rf_sI σ 52 l4.toNatClampNeg ((σ.1 52 l4.toNatClampNeg) + 1))) rfl rfl g9 rfl ?_
  refine rf_b wf0 rc_X6_partsBy_ok 42 2 (75, [some (.ref 50), some (.int l1), some (.int l2), some (.int l3), some (.int l4)], [], (rf_sI (rf_sI σ 52 l4.toNatClampNeg ((σ.1 52 l4.toNatClampNeg) + 1)) 50 2 (if ((rf_sI σ 52 l4.toNatClampNeg ((σ.1 52 l4.toNatClampNeg) + 1)).1 50 2) < ((rf_sI σ 52 l4.toNatClampNeg ((σ.1 52 l4.toNatClampNeg) + 1)).1 52 l4.toNatClampNeg) then ((rf_sI σ 52 l4.toNatClampNeg ((σ.1 52 l4.toNatClampNeg) + 1)).1 52 l4.toNatClampNeg) else ((rf_sI σ 52 l4.toNatClampNeg ((σ.1 52 l4.toNatClampNeg) + 1)).1 50 2)))) rfl ?_
  obtain ⟨σ10, h11, h⟩ := Option.bind_eq_some_iff.mp h
  refine rf_sgb (Option.some.inj h11) ?_
  refine rf_b wf0 rc_X6_partsBy_ok 44 2 (17, [some (.ref 50), some (.int l1), some (.int l2), some (.int (l3 + 1)), some (.int l4)], [], σ10) rfl ?_
  refine rf_fg [true, true, true, true, false] [some (.ref 50), some (.int l1), some (.int l2), some (.int (l3 + 1)), none] rfl ?_
  exact kl (l2, (l3 + 1), σ10) (Option.some.inj h).symm
def f_X6_partsBy_b17 (l1 : Int32) (s17 : Int32 × Int32 × rf_S) : Option ((Int32 × Int32 × rf_S) ⊕ (Int32 × rf_S)) := if 30 < s17.2.1 then (some (.inr (s17.1, s17.2.2))) else (if rf_ck ly0 0 51 s17.2.1 = true then (if rf_ck ly0 0 52 ((s17.2.2.1 51 s17.2.1.toNatClampNeg) &&& l1) = true then (if (s17.2.2.1 52 ((s17.2.2.1 51 s17.2.1.toNatClampNeg) &&& l1).toNatClampNeg) ≠ 0 then (f_X6_partsBy_j46 l1 s17.1 s17.2.1 ((s17.2.2.1 51 s17.2.1.toNatClampNeg) &&& l1) s17.2.2) else (f_X6_partsBy_j46 l1 (s17.1 + 1) s17.2.1 ((s17.2.2.1 51 s17.2.1.toNatClampNeg) &&& l1) s17.2.2)) else none) else none)
set_option maxHeartbeats 2000000 in
theorem ok_X6_partsBy_b17 (d : Nat) (l1 : Int32) (s17 : Int32 × Int32 × rf_S) (o : ((Int32 × Int32 × rf_S) ⊕ (Int32 × rf_S))) (h : f_X6_partsBy_b17 l1 s17 = some o) {r : Option Value} {σr : rf_S} (kl : ∀ s', o = .inl s' → rf_G ly0 (d + 1) mX6_partsBy (17, [some (.ref 50), some (.int l1), some (.int s'.1), some (.int s'.2.1), none], [], s'.2.2) r σr) (kx : ∀ e, o = .inr e → rf_G ly0 (d + 1) mX6_partsBy (81, [none, none, some (.int e.1), none, none], [], e.2) r σr) : rf_G ly0 (d + 1) mX6_partsBy (17, [some (.ref 50), some (.int l1), some (.int s17.1), some (.int s17.2.1), none], [], s17.2.2) r σr := by
  unfold f_X6_partsBy_b17 at h
  refine rf_b wf0 rc_X6_partsBy_ok 11 2 (20, [some (.ref 50), some (.int l1), some (.int s17.1), some (.int s17.2.1), none], [.int 30, .int s17.2.1], s17.2.2) rfl ?_
  by_cases c3 : 30 < s17.2.1
  · rw [if_pos c3] at h
    refine rf_t wf0 rc_X6_partsBy_ok 13 (81, [some (.ref 50), some (.int l1), some (.int s17.1), some (.int s17.2.1), none], [], s17.2.2) rfl rfl c3 rfl ?_
    refine rf_fg [false, false, true, false, true] [none, none, some (.int s17.1), none, none] rfl ?_
    exact kx (s17.1, s17.2.2) (Option.some.inj h).symm
  · rw [if_neg c3] at h
    refine rf_f wf0 rc_X6_partsBy_ok 13 (23, [some (.ref 50), some (.int l1), some (.int s17.1), some (.int s17.2.1), none], [], s17.2.2) rfl rfl c3 rfl ?_
    refine rf_b wf0 rc_X6_partsBy_ok 14 3 (28, [some (.ref 50), some (.int l1), some (.int s17.1), some (.int s17.2.1), none], [.int s17.2.1, .ref 51], s17.2.2) rfl ?_
    obtain ⟨g4, h⟩ := rf_ifn h
    refine rf_gd wf0 rc_X6_partsBy_ok 17 (29, [some (.ref 50), some (.int l1), some (.int s17.1), some (.int s17.2.1), none], [.int (s17.2.2.1 51 s17.2.1.toNatClampNeg)], s17.2.2) rfl rfl g4 rfl ?_
    refine rf_b wf0 rc_X6_partsBy_ok 18 6 (39, [some (.ref 50), some (.int l1), some (.int s17.1), some (.int s17.2.1), some (.int ((s17.2.2.1 51 s17.2.1.toNatClampNeg) &&& l1))], [.int ((s17.2.2.1 51 s17.2.1.toNatClampNeg) &&& l1), .ref 52], s17.2.2) rfl ?_
    obtain ⟨g5, h⟩ := rf_ifn h
    refine rf_gd wf0 rc_X6_partsBy_ok 24 (40, [some (.ref 50), some (.int l1), some (.int s17.1), some (.int s17.2.1), some (.int ((s17.2.2.1 51 s17.2.1.toNatClampNeg) &&& l1))], [.int (s17.2.2.1 52 ((s17.2.2.1 51 s17.2.1.toNatClampNeg) &&& l1).toNatClampNeg)], s17.2.2) rfl rfl g5 rfl ?_
    by_cases c6 : (s17.2.2.1 52 ((s17.2.2.1 51 s17.2.1.toNatClampNeg) &&& l1).toNatClampNeg) ≠ 0
    · rw [if_pos c6] at h
      refine rf_t wf0 rc_X6_partsBy_ok 25 (46, [some (.ref 50), some (.int l1), some (.int s17.1), some (.int s17.2.1), some (.int ((s17.2.2.1 51 s17.2.1.toNatClampNeg) &&& l1))], [], s17.2.2) rfl rfl c6 rfl ?_
      exact ok_X6_partsBy_j46 d l1 s17.1 s17.2.1 ((s17.2.2.1 51 s17.2.1.toNatClampNeg) &&& l1) s17.2.2 o h kl kx
    · rw [if_neg c6] at h
      refine rf_f wf0 rc_X6_partsBy_ok 25 (43, [some (.ref 50), some (.int l1), some (.int s17.1), some (.int s17.2.1), some (.int ((s17.2.2.1 51 s17.2.1.toNatClampNeg) &&& l1))], [], s17.2.2) rfl rfl c6 rfl ?_
      refine rf_b wf0 rc_X6_partsBy_ok 26 1 (46, [some (.ref 50), some (.int l1), some (.int (s17.1 + 1)), some (.int s17.2.1), some (.int ((s17.2.2.1 51 s17.2.1.toNatClampNeg) &&& l1))], [], s17.2.2) rfl ?_
      exact ok_X6_partsBy_j46 d l1 (s17.1 + 1) s17.2.1 ((s17.2.2.1 51 s17.2.1.toNatClampNeg) &&& l1) s17.2.2 o h kl kx
def f_X6_partsBy (p0 : Int32) (σ : rf_S) : Option (Int32 × rf_S) := (f_J_fillI 52 0 σ).bind (fun q1 => (rf_lp (f_X6_partsBy_b17 p0) 5000 (0, 0, (rf_sI q1 50 2 0))).bind (fun e12 => some (e12.1, e12.2)))
set_option maxHeartbeats 2000000 in
theorem ok_X6_partsBy (d : Nat) (p0 : Int32) (σ : rf_S) (q : (Int32 × rf_S)) (h : f_X6_partsBy p0 σ = some q) : rf_Ex ly0 (d + 2) mX6_partsBy [.ref 50, .int p0] σ (some (.int q.1) : Option Value) q.2 := by
  unfold f_X6_partsBy at h
  refine rf_ex mw_X6_partsBy [some (.ref 50), some (.int p0), none, none, none] (Nat.le_of_ble_eq_true rfl) rfl ?_
  refine rf_b wf0 rc_X6_partsBy_ok 0 3 (5, [some (.ref 50), some (.int p0), none, none, none], [.int 0, .ref 52], σ) rfl ?_
  obtain ⟨q1, h2, h⟩ := Option.bind_eq_some_iff.mp h
  refine rf_cs1 (Mt := mJ7_fill_53178) rc_X6_partsBy_ok 3 false rfl (List.mem_of_getElem? (i := 38) rfl) mw_J_fillI rfl [.ref 52, .int 0] [] rfl rfl (Nat.le_of_ble_eq_true rfl) (ok_J_fillI d 52 0 σ q1 h2) ?_
  show rf_G _ _ _ (8, [some (.ref 50), some (.int p0), none, none, none], [], q1) _ _
  refine rf_b wf0 rc_X6_partsBy_ok 4 7 (17, [some (.ref 50), some (.int p0), some (.int 0), some (.int 0), none], [], (rf_sI q1 50 2 0)) rfl ?_
  obtain ⟨e12, h13, h⟩ := Option.bind_eq_some_iff.mp h
  refine rf_lpG (b := f_X6_partsBy_b17 p0) (G := fun (s17 : Int32 × Int32 × rf_S) => rf_G ly0 (d + 1) mX6_partsBy (17, [some (.ref 50), some (.int p0), some (.int s17.1), some (.int s17.2.1), none], [], s17.2.2) (some (.int q.1) : Option Value) q.2) (K := fun (e : (Int32 × rf_S)) => rf_G ly0 (d + 1) mX6_partsBy (81, [none, none, some (.int e.1), none, none], [], e.2) (some (.int q.1) : Option Value) q.2) (fun (s17 : Int32 × Int32 × rf_S) (o : (Int32 × Int32 × rf_S) ⊕ (Int32 × rf_S)) hb kl kx => ok_X6_partsBy_b17 d p0 s17 o hb kl kx) 5000 (0, 0, (rf_sI q1 50 2 0)) e12 h13 ?_
  show rf_G _ _ _ (81, [none, none, some (.int e12.1), none, none], [], e12.2) _ _
  refine rf_b wf0 rc_X6_partsBy_ok 46 1 (82, [none, none, some (.int e12.1), none, none], [.int e12.1], e12.2) rfl ?_
  obtain rfl := Option.some.inj h
  exact rf_ri rc_X6_partsBy_ok 47 rfl rfl
def rc_J_fillB : List rf_E := [(0, .iconst 0, 1, 0), (1, .istore_n 2, 1, 2), (2, .aload_n 0, 1, 0), (3, .arraylength, 1, 0), (4, .istore_n 3, 1, 3), (5, .iload_n 2, 1, 2), (6, .iload_n 3, 1, 3), (7, .if_icmp .ge 13, 3, 20), (10, .aload_n 0, 1, 0), (11, .iload_n 2, 1, 2), (12, .iload_n 1, 1, 1), (13, .bastore, 1, 0), (14, .iinc 2 1, 3, 2), (17, .goto (-12), 3, 5), (20, .return_, 1, 0)]
theorem rc_J_fillB_ok : rf_rc mJ7_fill_031fb rc_J_fillB = true := by decide +kernel
theorem mw_J_fillB : rf_mw mJ7_fill_031fb := ⟨rf_mt_ok _ (List.mem_of_getElem? (i := 246) rfl), fun _ => rf_ms_ok _ (List.mem_of_getElem? (i := 25) rfl), fun h => absurd h (by decide), rf_mq_9 _ (List.mem_of_getElem? (i := 21) rfl)⟩
def f_J_fillB_b5 (l0 : Nat) (l1 : Int32) (l3 : Int32) (s5 : Int32 × rf_S) : Option ((Int32 × rf_S) ⊕ (rf_S)) := if l3 ≤ s5.1 then (some (.inr s5.2)) else (if rf_ck ly0 1 l0 s5.1 = true then (some (.inl ((s5.1 + 1), (rf_sI s5.2 l0 s5.1.toNatClampNeg (l1.toInt8.toInt32))))) else none)
set_option maxHeartbeats 2000000 in
theorem ok_J_fillB_b5 (d : Nat) (l0 : Nat) (l1 : Int32) (l3 : Int32) (s5 : Int32 × rf_S) (o : ((Int32 × rf_S) ⊕ (rf_S))) (h : f_J_fillB_b5 l0 l1 l3 s5 = some o) {r : Option Value} {σr : rf_S} (kl : ∀ s', o = .inl s' → rf_G ly0 (d) mJ7_fill_031fb (5, [some (.ref l0), some (.int l1), some (.int s'.1), some (.int l3)], [], s'.2) r σr) (kx : ∀ e, o = .inr e → rf_G ly0 (d) mJ7_fill_031fb (20, [none, none, none, none], [], e) r σr) : rf_G ly0 (d) mJ7_fill_031fb (5, [some (.ref l0), some (.int l1), some (.int s5.1), some (.int l3)], [], s5.2) r σr := by
  unfold f_J_fillB_b5 at h
  refine rf_b wf0 rc_J_fillB_ok 5 2 (7, [some (.ref l0), some (.int l1), some (.int s5.1), some (.int l3)], [.int l3, .int s5.1], s5.2) rfl ?_
  by_cases c2 : l3 ≤ s5.1
  · rw [if_pos c2] at h
    refine rf_t wf0 rc_J_fillB_ok 7 (20, [some (.ref l0), some (.int l1), some (.int s5.1), some (.int l3)], [], s5.2) rfl rfl c2 rfl ?_
    refine rf_fg [false, false, false, false] [none, none, none, none] rfl ?_
    exact kx s5.2 (Option.some.inj h).symm
  · rw [if_neg c2] at h
    refine rf_f wf0 rc_J_fillB_ok 7 (10, [some (.ref l0), some (.int l1), some (.int s5.1), some (.int l3)], [], s5.2) rfl rfl c2 rfl ?_
    refine rf_b wf0 rc_J_fillB_ok 8 3 (13, [some (.ref l0), some (.int l1), some (.int s5.1), some (.int l3)], [.int l1, .int s5.1, .ref l0], s5.2) rfl ?_
    obtain ⟨g3, h⟩ := rf_ifn h
    refine rf_gd wf0 rc_J_fillB_ok 11 (14, [some (.ref l0), some (.int l1), some (.int s5.1), some (.int l3)], [], (rf_sI s5.2 l0 s5.1.toNatClampNeg (l1.toInt8.toInt32))) rfl rfl g3 rfl ?_
    refine rf_b wf0 rc_J_fillB_ok 12 2 (5, [some (.ref l0), some (.int l1), some (.int (s5.1 + 1)), some (.int l3)], [], (rf_sI s5.2 l0 s5.1.toNatClampNeg (l1.toInt8.toInt32))) rfl ?_
    exact kl ((s5.1 + 1), (rf_sI s5.2 l0 s5.1.toNatClampNeg (l1.toInt8.toInt32))) (Option.some.inj h).symm
def f_J_fillB (p0 : Nat) (p1 : Int32) (σ : rf_S) : Option rf_S := if rf_isA ly0 p0 = true then ((rf_lp (f_J_fillB_b5 p0 p1 (Int32.ofNat (rf_len ly0 p0))) 5000 (0, σ)).bind (fun e4 => some e4)) else none
set_option maxHeartbeats 2000000 in
theorem ok_J_fillB (d : Nat) (p0 : Nat) (p1 : Int32) (σ : rf_S) (q : rf_S) (h : f_J_fillB p0 p1 σ = some q) : rf_Ex ly0 (d + 1) mJ7_fill_031fb [.ref p0, .int p1] σ none q := by
  unfold f_J_fillB at h
  refine rf_ex mw_J_fillB [some (.ref p0), some (.int p1), none, none] (Nat.le_of_ble_eq_true rfl) rfl ?_
  refine rf_b wf0 rc_J_fillB_ok 0 3 (3, [some (.ref p0), some (.int p1), some (.int 0), none], [.ref p0], σ) rfl ?_
  obtain ⟨g1, h⟩ := rf_ifn h
  refine rf_gd wf0 rc_J_fillB_ok 3 (4, [some (.ref p0), some (.int p1), some (.int 0), none], [.int (Int32.ofNat (rf_len ly0 p0))], σ) rfl rfl g1 rfl ?_
  refine rf_b wf0 rc_J_fillB_ok 4 1 (5, [some (.ref p0), some (.int p1), some (.int 0), some (.int (Int32.ofNat (rf_len ly0 p0)))], [], σ) rfl ?_
  obtain ⟨e4, h5, h⟩ := Option.bind_eq_some_iff.mp h
  refine rf_lpG (b := f_J_fillB_b5 p0 p1 (Int32.ofNat (rf_len ly0 p0))) (G := fun (s5 : Int32 × rf_S) => rf_G ly0 (d) mJ7_fill_031fb (5, [some (.ref p0), some (.int p1), some (.int s5.1), some (.int (Int32.ofNat (rf_len ly0 p0)))], [], s5.2) none q) (K := fun (e : (rf_S)) => rf_G ly0 (d) mJ7_fill_031fb (20, [none, none, none, none], [], e) none q) (fun (s5 : Int32 × rf_S) (o : (Int32 × rf_S) ⊕ (rf_S)) hb kl kx => ok_J_fillB_b5 d p0 p1 (Int32.ofNat (rf_len ly0 p0)) s5 o hb kl kx) 5000 (0, σ) e4 h5 ?_
  show rf_G _ _ _ (20, [none, none, none, none], [], e4) _ _
  obtain rfl := Option.some.inj h
  exact rf_rv rc_J_fillB_ok 14 rfl rfl
def rc_X7_make : List rf_E := [(0, .aload_n 0, 1, 0), (1, .getfield 11, 3, 700), (4, .iload_n 1, 1, 1), (5, .aaload, 1, 0), (6, .bipush 32, 2, 0), (8, .invokestatic 26, 3, 0), (11, .aload_n 0, 1, 0), (12, .getfield 16, 3, 701), (15, .iload_n 1, 1, 1), (16, .iload_n 2, 1, 2), (17, .iastore, 1, 0), (18, .return_, 1, 0)]
theorem rc_X7_make_ok : rf_rc mX7_make rc_X7_make = true := by decide +kernel
theorem mw_X7_make : rf_mw mX7_make := ⟨rf_mt_ok _ (List.mem_of_getElem? (i := 39) rfl), fun h => absurd h (by decide), fun _ => ⟨rf_mi_ok _ (List.mem_of_getElem? (i := 36) rfl), rf_mv_ok _ (List.mem_of_getElem? (i := 36) rfl)⟩, rf_mq_1 _ (List.mem_of_getElem? (i := 14) rfl)⟩
def f_X7_make (p0 : Int32) (p1 : Int32) (σ : rf_S) : Option rf_S := if rf_rk ly0 11 p0 = true then ((f_J_fillB (rf_ra ly0 11 p0.toNatClampNeg) 32 σ).bind (fun q2 => if rf_ck ly0 0 16 p0 = true then (some (rf_sI q2 16 p0.toNatClampNeg p1)) else none)) else none
set_option maxHeartbeats 2000000 in
theorem ok_X7_make (d : Nat) (p0 : Int32) (p1 : Int32) (σ : rf_S) (q : rf_S) (h : f_X7_make p0 p1 σ = some q) : rf_Ex ly0 (d + 2) mX7_make [.ref 10, .int p0, .int p1] σ none q := by
  unfold f_X7_make at h
  refine rf_ex mw_X7_make [some (.ref 10), some (.int p0), some (.int p1)] (Nat.le_of_ble_eq_true rfl) rfl ?_
  refine rf_b wf0 rc_X7_make_ok 0 3 (5, [some (.ref 10), some (.int p0), some (.int p1)], [.int p0, .ref 11], σ) rfl ?_
  obtain ⟨g1, h⟩ := rf_ifn h
  refine rf_gd wf0 rc_X7_make_ok 3 (6, [some (.ref 10), some (.int p0), some (.int p1)], [.ref (rf_ra ly0 11 p0.toNatClampNeg)], σ) rfl rfl g1 rfl ?_
  refine rf_b wf0 rc_X7_make_ok 4 1 (8, [some (.ref 10), some (.int p0), some (.int p1)], [.int 32, .ref (rf_ra ly0 11 p0.toNatClampNeg)], σ) rfl ?_
  obtain ⟨q2, h3, h⟩ := Option.bind_eq_some_iff.mp h
  refine rf_cs1 (Mt := mJ7_fill_031fb) rc_X7_make_ok 5 false rfl (List.mem_of_getElem? (i := 42) rfl) mw_J_fillB rfl [.ref (rf_ra ly0 11 p0.toNatClampNeg), .int 32] [] rfl rfl (Nat.le_of_ble_eq_true rfl) (ok_J_fillB d (rf_ra ly0 11 p0.toNatClampNeg) 32 σ q2 h3) ?_
  show rf_G _ _ _ (11, [some (.ref 10), some (.int p0), some (.int p1)], [], q2) _ _
  refine rf_b wf0 rc_X7_make_ok 6 4 (17, [some (.ref 10), some (.int p0), some (.int p1)], [.int p1, .int p0, .ref 16], q2) rfl ?_
  obtain ⟨g4, h⟩ := rf_ifn h
  refine rf_gd wf0 rc_X7_make_ok 10 (18, [some (.ref 10), some (.int p0), some (.int p1)], [], (rf_sI q2 16 p0.toNatClampNeg p1)) rfl rfl g4 rfl ?_
  obtain rfl := Option.some.inj h
  exact rf_rv rc_X7_make_ok 11 rfl rfl
def rc_X7_isMissing : List rf_E := [(0, .aload_n 0, 1, 0), (1, .getfield 16, 3, 701), (4, .iload_n 1, 1, 1), (5, .iaload, 1, 0), (6, .ifCond .ge 7, 3, 13), (9, .iconst 1, 1, 0), (10, .goto 4, 3, 14), (13, .iconst 0, 1, 0), (14, .ireturn, 1, 0)]
theorem rc_X7_isMissing_ok : rf_rc mX7_isMissing rc_X7_isMissing = true := by decide +kernel
theorem mw_X7_isMissing : rf_mw mX7_isMissing := ⟨rf_mt_ok _ (List.mem_of_getElem? (i := 40) rfl), fun h => absurd h (by decide), fun _ => ⟨rf_mi_ok _ (List.mem_of_getElem? (i := 37) rfl), rf_mv_ok _ (List.mem_of_getElem? (i := 37) rfl)⟩, rf_mq_1 _ (List.mem_of_getElem? (i := 15) rfl)⟩
def f_X7_isMissing (p0 : Int32) (σ : rf_S) : Option Int32 := if rf_ck ly0 0 16 p0 = true then (if 0 ≤ (σ.1 16 p0.toNatClampNeg) then (some 0) else (some 1)) else none
set_option maxHeartbeats 2000000 in
theorem ok_X7_isMissing (d : Nat) (p0 : Int32) (σ : rf_S) (q : Int32) (h : f_X7_isMissing p0 σ = some q) : rf_Ex ly0 (d + 1) mX7_isMissing [.ref 10, .int p0] σ (some (.int q) : Option Value) σ := by
  unfold f_X7_isMissing at h
  refine rf_ex mw_X7_isMissing [some (.ref 10), some (.int p0)] (Nat.le_of_ble_eq_true rfl) rfl ?_
  refine rf_b wf0 rc_X7_isMissing_ok 0 3 (5, [some (.ref 10), some (.int p0)], [.int p0, .ref 16], σ) rfl ?_
  obtain ⟨g1, h⟩ := rf_ifn h
  refine rf_gd wf0 rc_X7_isMissing_ok 3 (6, [some (.ref 10), some (.int p0)], [.int (σ.1 16 p0.toNatClampNeg)], σ) rfl rfl g1 rfl ?_
  by_cases c2 : 0 ≤ (σ.1 16 p0.toNatClampNeg)
  · rw [if_pos c2] at h
    refine rf_t wf0 rc_X7_isMissing_ok 4 (13, [some (.ref 10), some (.int p0)], [], σ) rfl rfl c2 rfl ?_
    refine rf_b wf0 rc_X7_isMissing_ok 7 1 (14, [some (.ref 10), some (.int p0)], [.int 0], σ) rfl ?_
    obtain rfl := Option.some.inj h
    exact rf_rz rc_X7_isMissing_ok 8 rfl rfl (by decide)
  · rw [if_neg c2] at h
    refine rf_f wf0 rc_X7_isMissing_ok 4 (9, [some (.ref 10), some (.int p0)], [], σ) rfl rfl c2 rfl ?_
    refine rf_b wf0 rc_X7_isMissing_ok 5 2 (14, [some (.ref 10), some (.int p0)], [.int 1], σ) rfl ?_
    obtain rfl := Option.some.inj h
    exact rf_rz rc_X7_isMissing_ok 8 rfl rfl (by decide)
def rc_X7_set : List rf_E := [(0, .aload_n 0, 1, 0), (1, .getfield 11, 3, 700), (4, .iload_n 1, 1, 1), (5, .aaload, 1, 0), (6, .iload_n 2, 1, 2), (7, .iload_n 3, 1, 3), (8, .bastore, 1, 0), (9, .return_, 1, 0)]
theorem rc_X7_set_ok : rf_rc mX7_set rc_X7_set = true := by decide +kernel
theorem mw_X7_set : rf_mw mX7_set := ⟨rf_mt_ok _ (List.mem_of_getElem? (i := 44) rfl), fun h => absurd h (by decide), fun _ => ⟨rf_mi_ok _ (List.mem_of_getElem? (i := 41) rfl), rf_mv_ok _ (List.mem_of_getElem? (i := 41) rfl)⟩, rf_mq_1 _ (List.mem_of_getElem? (i := 19) rfl)⟩
def f_X7_set (p0 : Int32) (p1 : Int32) (p2 : Int32) (σ : rf_S) : Option rf_S := if rf_rk ly0 11 p0 = true then (if rf_ck ly0 1 (rf_ra ly0 11 p0.toNatClampNeg) p1 = true then ((some (rf_sI σ (rf_ra ly0 11 p0.toNatClampNeg) p1.toNatClampNeg (p2.toInt8.toInt32))).bind (fun σ3 => some σ3)) else none) else none
set_option maxHeartbeats 2000000 in
theorem ok_X7_set (d : Nat) (p0 : Int32) (p1 : Int32) (p2 : Int32) (σ : rf_S) (q : rf_S) (h : f_X7_set p0 p1 p2 σ = some q) : rf_Ex ly0 (d + 1) mX7_set [.ref 10, .int p0, .int p1, .int p2] σ none q := by
  unfold f_X7_set at h
  refine rf_ex mw_X7_set [some (.ref 10), some (.int p0), some (.int p1), some (.int p2)] (Nat.le_of_ble_eq_true rfl) rfl ?_
  refine rf_b wf0 rc_X7_set_ok 0 3 (5, [some (.ref 10), some (.int p0), some (.int p1), some (.int p2)], [.int p0, .ref 11], σ) rfl ?_
  obtain ⟨g1, h⟩ := rf_ifn h
  refine rf_gd wf0 rc_X7_set_ok 3 (6, [some (.ref 10), some (.int p0), some (.int p1), some (.int p2)], [.ref (rf_ra ly0 11 p0.toNatClampNeg)], σ) rfl rfl g1 rfl ?_
  refine rf_b wf0 rc_X7_set_ok 4 2 (8, [some (.ref 10), some (.int p0), some (.int p1), some (.int p2)], [.int p2, .int p1, .ref (rf_ra ly0 11 p0.toNatClampNeg)], σ) rfl ?_
  obtain ⟨g2, h⟩ := rf_ifn h
  refine rf_gd wf0 rc_X7_set_ok 6 (9, [some (.ref 10), some (.int p0), some (.int p1), some (.int p2)], [], (rf_sI σ (rf_ra ly0 11 p0.toNatClampNeg) p1.toNatClampNeg (p2.toInt8.toInt32))) rfl rfl g2 rfl ?_
  obtain ⟨σ3, h4, h⟩ := Option.bind_eq_some_iff.mp h
  refine rf_sgb (Option.some.inj h4) ?_
  obtain rfl := Option.some.inj h
  exact rf_rv rc_X7_set_ok 7 rfl rfl
def rc_X8_settle : List rf_E := [(0, .aload_n 0, 1, 0), (1, .getfield 12, 3, 800), (4, .aload_n 1, 1, 1), (5, .invokevirtual 34, 3, 0), (8, .aload_n 0, 1, 0), (9, .invokevirtual 38, 3, 0), (12, .return_, 1, 0)]
theorem rc_X8_settle_ok : rf_rc mX8_settle rc_X8_settle = true := by decide +kernel
theorem mw_X8_settle : rf_mw mX8_settle := ⟨rf_mt_ok _ (List.mem_of_getElem? (i := 45) rfl), fun h => absurd h (by decide), fun _ => ⟨rf_mi_ok _ (List.mem_of_getElem? (i := 42) rfl), rf_mv_ok _ (List.mem_of_getElem? (i := 42) rfl)⟩, rf_mq_1 _ (List.mem_of_getElem? (i := 20) rfl)⟩
def f_X8_settle (σ : rf_S) : Option rf_S := (f_X2_takeFrom σ).bind (fun q1 => (f_X8_begin q1).bind (fun q3 => some q3))
set_option maxHeartbeats 2000000 in
theorem ok_X8_settle (d : Nat) (σ : rf_S) (q : rf_S) (h : f_X8_settle σ = some q) : rf_Ex ly0 (d + 3) mX8_settle [.ref 25, .ref 18] σ none q := by
  unfold f_X8_settle at h
  refine rf_ex mw_X8_settle [some (.ref 25), some (.ref 18)] (Nat.le_of_ble_eq_true rfl) rfl ?_
  refine rf_b wf0 rc_X8_settle_ok 0 3 (5, [some (.ref 25), some (.ref 18)], [.ref 18, .ref 26], σ) rfl ?_
  obtain ⟨q1, h2, h⟩ := Option.bind_eq_some_iff.mp h
  refine rf_cv1 (Mt := mX2_takeFrom) wf0 rc_X8_settle_ok 3 false rfl (List.mem_of_getElem? (i := 43) rfl) mw_X2_takeFrom rfl 26 [.ref 18] [] rfl rfl rfl (Nat.le_of_ble_eq_true rfl) (ok_X2_takeFrom (d + 1)  σ q1 h2) ?_
  show rf_G _ _ _ (8, [some (.ref 25), some (.ref 18)], [], q1) _ _
  refine rf_b wf0 rc_X8_settle_ok 4 1 (9, [some (.ref 25), some (.ref 18)], [.ref 25], q1) rfl ?_
  obtain ⟨q3, h4, h⟩ := Option.bind_eq_some_iff.mp h
  refine rf_cv1 (Mt := mX8_begin) wf0 rc_X8_settle_ok 5 false rfl (List.mem_of_getElem? (i := 44) rfl) mw_X8_begin rfl 25 [] [] rfl rfl rfl (Nat.le_of_ble_eq_true rfl) (ok_X8_begin d  q1 q3 h4) ?_
  show rf_G _ _ _ (12, [some (.ref 25), some (.ref 18)], [], q3) _ _
  obtain rfl := Option.some.inj h
  exact rf_rv rc_X8_settle_ok 6 rfl rfl
def rc_X8_isEmpty : List rf_E := [(0, .aload_n 0, 1, 0), (1, .getfield 12, 3, 800), (4, .getfield 67, 3, 207), (7, .ifCond .ne 7, 3, 14), (10, .iconst 1, 1, 0), (11, .goto 4, 3, 15), (14, .iconst 0, 1, 0), (15, .ireturn, 1, 0)]
theorem rc_X8_isEmpty_ok : rf_rc mX8_isEmpty rc_X8_isEmpty = true := by decide +kernel
theorem mw_X8_isEmpty : rf_mw mX8_isEmpty := ⟨rf_mt_ok _ (List.mem_of_getElem? (i := 49) rfl), fun h => absurd h (by decide), fun _ => ⟨rf_mi_ok _ (List.mem_of_getElem? (i := 46) rfl), rf_mv_ok _ (List.mem_of_getElem? (i := 46) rfl)⟩, rf_mq_1 _ (List.mem_of_getElem? (i := 24) rfl)⟩
def f_X8_isEmpty (σ : rf_S) : Option Int32 := if (σ.1 26 7) ≠ 0 then (some 0) else (some 1)
set_option maxHeartbeats 2000000 in
theorem ok_X8_isEmpty (d : Nat) (σ : rf_S) (q : Int32) (h : f_X8_isEmpty σ = some q) : rf_Ex ly0 (d + 1) mX8_isEmpty [.ref 25] σ (some (.int q) : Option Value) σ := by
  unfold f_X8_isEmpty at h
  refine rf_ex mw_X8_isEmpty [some (.ref 25)] (Nat.le_of_ble_eq_true rfl) rfl ?_
  refine rf_b wf0 rc_X8_isEmpty_ok 0 3 (7, [some (.ref 25)], [.int (σ.1 26 7)], σ) rfl ?_
  by_cases c1 : (σ.1 26 7) ≠ 0
  · rw [if_pos c1] at h
    refine rf_t wf0 rc_X8_isEmpty_ok 3 (14, [some (.ref 25)], [], σ) rfl rfl c1 rfl ?_
    refine rf_b wf0 rc_X8_isEmpty_ok 6 1 (15, [some (.ref 25)], [.int 0], σ) rfl ?_
    obtain rfl := Option.some.inj h
    exact rf_rz rc_X8_isEmpty_ok 7 rfl rfl (by decide)
  · rw [if_neg c1] at h
    refine rf_f wf0 rc_X8_isEmpty_ok 3 (10, [some (.ref 25)], [], σ) rfl rfl c1 rfl ?_
    refine rf_b wf0 rc_X8_isEmpty_ok 4 2 (15, [some (.ref 25)], [.int 1], σ) rfl ?_
    obtain rfl := Option.some.inj h
    exact rf_rz rc_X8_isEmpty_ok 7 rfl rfl (by decide)
def rc_X8_everybody : List rf_E := [(0, .iconst 1, 1, 0), (1, .aload_n 0, 1, 0), (2, .getfield 12, 3, 800), (5, .getfield 67, 3, 207), (8, .ishl, 1, 0), (9, .iconst 1, 1, 0), (10, .isub, 1, 0), (11, .ireturn, 1, 0)]
theorem rc_X8_everybody_ok : rf_rc mX8_everybody rc_X8_everybody = true := by decide +kernel
theorem mw_X8_everybody : rf_mw mX8_everybody := ⟨rf_mt_ok _ (List.mem_of_getElem? (i := 50) rfl), fun h => absurd h (by decide), fun _ => ⟨rf_mi_ok _ (List.mem_of_getElem? (i := 47) rfl), rf_mv_ok _ (List.mem_of_getElem? (i := 47) rfl)⟩, rf_mq_2 _ (List.mem_of_getElem? (i := 0) rfl)⟩
def f_X8_everybody (σ : rf_S) : Option Int32 := some ((1 <<< ((σ.1 26 7) &&& 31)) - 1)
set_option maxHeartbeats 2000000 in
theorem ok_X8_everybody (d : Nat) (σ : rf_S) (q : Int32) (h : f_X8_everybody σ = some q) : rf_Ex ly0 (d + 1) mX8_everybody [.ref 25] σ (some (.int q) : Option Value) σ := by
  unfold f_X8_everybody at h
  refine rf_ex mw_X8_everybody [some (.ref 25)] (Nat.le_of_ble_eq_true rfl) rfl ?_
  refine rf_b wf0 rc_X8_everybody_ok 0 7 (11, [some (.ref 25)], [.int ((1 <<< ((σ.1 26 7) &&& 31)) - 1)], σ) rfl ?_
  obtain rfl := Option.some.inj h
  exact rf_ri rc_X8_everybody_ok 7 rfl rfl
def rc_X8_isSet : List rf_E := [(0, .iload_n 1, 1, 1), (1, .ifCond .lt 15, 3, 16), (4, .iload_n 1, 1, 1), (5, .aload_n 0, 1, 0), (6, .invokevirtual 73, 3, 0), (9, .if_icmp .gt 7, 3, 16), (12, .iconst 1, 1, 0), (13, .goto 4, 3, 17), (16, .iconst 0, 1, 0), (17, .ireturn, 1, 0)]
theorem rc_X8_isSet_ok : rf_rc mX8_isSet rc_X8_isSet = true := by decide +kernel
theorem mw_X8_isSet : rf_mw mX8_isSet := ⟨rf_mt_ok _ (List.mem_of_getElem? (i := 51) rfl), fun h => absurd h (by decide), fun _ => ⟨rf_mi_ok _ (List.mem_of_getElem? (i := 48) rfl), rf_mv_ok _ (List.mem_of_getElem? (i := 48) rfl)⟩, rf_mq_2 _ (List.mem_of_getElem? (i := 1) rfl)⟩
def f_X8_isSet (p0 : Int32) (σ : rf_S) : Option Int32 := if p0 < 0 then (some 0) else ((f_X8_everybody σ).bind (fun q2 => if q2 < p0 then (some 0) else (some 1)))
set_option maxHeartbeats 2000000 in
theorem ok_X8_isSet (d : Nat) (p0 : Int32) (σ : rf_S) (q : Int32) (h : f_X8_isSet p0 σ = some q) : rf_Ex ly0 (d + 2) mX8_isSet [.ref 25, .int p0] σ (some (.int q) : Option Value) σ := by
  unfold f_X8_isSet at h
  refine rf_ex mw_X8_isSet [some (.ref 25), some (.int p0)] (Nat.le_of_ble_eq_true rfl) rfl ?_
  refine rf_b wf0 rc_X8_isSet_ok 0 1 (1, [some (.ref 25), some (.int p0)], [.int p0], σ) rfl ?_
  by_cases c1 : p0 < 0
  · rw [if_pos c1] at h
    refine rf_t wf0 rc_X8_isSet_ok 1 (16, [some (.ref 25), some (.int p0)], [], σ) rfl rfl c1 rfl ?_
    refine rf_b wf0 rc_X8_isSet_ok 8 1 (17, [some (.ref 25), some (.int p0)], [.int 0], σ) rfl ?_
    obtain rfl := Option.some.inj h
    exact rf_rz rc_X8_isSet_ok 9 rfl rfl (by decide)
  · rw [if_neg c1] at h
    refine rf_f wf0 rc_X8_isSet_ok 1 (4, [some (.ref 25), some (.int p0)], [], σ) rfl rfl c1 rfl ?_
    refine rf_b wf0 rc_X8_isSet_ok 2 2 (6, [some (.ref 25), some (.int p0)], [.ref 25, .int p0], σ) rfl ?_
    obtain ⟨q2, h3, h⟩ := Option.bind_eq_some_iff.mp h
    refine rf_cv1 (Mt := mX8_everybody) wf0 rc_X8_isSet_ok 4 false rfl (List.mem_of_getElem? (i := 46) rfl) mw_X8_everybody rfl 25 [] [.int p0] rfl rfl rfl (Nat.le_of_ble_eq_true rfl) (ok_X8_everybody d  σ q2 h3) ?_
    show rf_G _ _ _ (9, [some (.ref 25), some (.int p0)], [.int q2, .int p0], σ) _ _
    by_cases c4 : q2 < p0
    · rw [if_pos c4] at h
      refine rf_t wf0 rc_X8_isSet_ok 5 (16, [some (.ref 25), some (.int p0)], [], σ) rfl rfl c4 rfl ?_
      refine rf_b wf0 rc_X8_isSet_ok 8 1 (17, [some (.ref 25), some (.int p0)], [.int 0], σ) rfl ?_
      obtain rfl := Option.some.inj h
      exact rf_rz rc_X8_isSet_ok 9 rfl rfl (by decide)
    · rw [if_neg c4] at h
      refine rf_f wf0 rc_X8_isSet_ok 5 (12, [some (.ref 25), some (.int p0)], [], σ) rfl rfl c4 rfl ?_
      refine rf_b wf0 rc_X8_isSet_ok 6 2 (17, [some (.ref 25), some (.int p0)], [.int 1], σ) rfl ?_
      obtain rfl := Option.some.inj h
      exact rf_rz rc_X8_isSet_ok 9 rfl rfl (by decide)
def rc_X9_isOfKind : List rf_E := [(0, .iload_n 0, 1, 0), (1, .iload_n 1, 1, 1), (2, .if_icmp .eq 27, 3, 29), (5, .iload_n 1, 1, 1), (6, .ifCond .eq 23, 3, 29), (9, .iload_n 0, 1, 0), (10, .iconst 4, 1, 0), (11, .if_icmp .ne 8, 3, 19), (14, .iload_n 1, 1, 1), (15, .iconst 1, 1, 0), (16, .if_icmp .eq 13, 3, 29), (19, .iload_n 0, 1, 0), (20, .iconst 5, 1, 0), (21, .if_icmp .ne 12, 3, 33), (24, .iload_n 1, 1, 1), (25, .iconst 3, 1, 0), (26, .if_icmp .ne 7, 3, 33), (29, .iconst 1, 1, 0), (30, .goto 4, 3, 34), (33, .iconst 0, 1, 0), (34, .ireturn, 1, 0)]
theorem rc_X9_isOfKind_ok : rf_rc mX9_isOfKind rc_X9_isOfKind = true := by decide +kernel
theorem mw_X9_isOfKind : rf_mw mX9_isOfKind := ⟨rf_mt_ok _ (List.mem_of_getElem? (i := 146) rfl), fun _ => rf_ms_ok _ (List.mem_of_getElem? (i := 12) rfl), fun h => absurd h (by decide), rf_mq_5 _ (List.mem_of_getElem? (i := 21) rfl)⟩
def f_X9_isOfKind_j19 (l0 : Int32) (l1 : Int32) (σ : rf_S) : Option Int32 := if l0 ≠ 5 then (some 0) else (if l1 ≠ 3 then (some 0) else (some 1))
set_option maxHeartbeats 2000000 in
theorem ok_X9_isOfKind_j19 (d : Nat) (l0 : Int32) (l1 : Int32) (σ : rf_S) (q : Int32) (h : f_X9_isOfKind_j19 l0 l1 σ = some q) : rf_G ly0 (d) mX9_isOfKind (19, [some (.int l0), some (.int l1)], [], σ) (some (.int q) : Option Value) σ := by
  unfold f_X9_isOfKind_j19 at h
  refine rf_b wf0 rc_X9_isOfKind_ok 11 2 (21, [some (.int l0), some (.int l1)], [.int 5, .int l0], σ) rfl ?_
  by_cases c4 : l0 ≠ 5
  · rw [if_pos c4] at h
    refine rf_t wf0 rc_X9_isOfKind_ok 13 (33, [some (.int l0), some (.int l1)], [], σ) rfl rfl c4 rfl ?_
    refine rf_b wf0 rc_X9_isOfKind_ok 19 1 (34, [some (.int l0), some (.int l1)], [.int 0], σ) rfl ?_
    obtain rfl := Option.some.inj h
    exact rf_rz rc_X9_isOfKind_ok 20 rfl rfl (by decide)
  · rw [if_neg c4] at h
    refine rf_f wf0 rc_X9_isOfKind_ok 13 (24, [some (.int l0), some (.int l1)], [], σ) rfl rfl c4 rfl ?_
    refine rf_b wf0 rc_X9_isOfKind_ok 14 2 (26, [some (.int l0), some (.int l1)], [.int 3, .int l1], σ) rfl ?_
    by_cases c5 : l1 ≠ 3
    · rw [if_pos c5] at h
      refine rf_t wf0 rc_X9_isOfKind_ok 16 (33, [some (.int l0), some (.int l1)], [], σ) rfl rfl c5 rfl ?_
      refine rf_b wf0 rc_X9_isOfKind_ok 19 1 (34, [some (.int l0), some (.int l1)], [.int 0], σ) rfl ?_
      obtain rfl := Option.some.inj h
      exact rf_rz rc_X9_isOfKind_ok 20 rfl rfl (by decide)
    · rw [if_neg c5] at h
      refine rf_f wf0 rc_X9_isOfKind_ok 16 (29, [some (.int l0), some (.int l1)], [], σ) rfl rfl c5 rfl ?_
      refine rf_b wf0 rc_X9_isOfKind_ok 17 2 (34, [some (.int l0), some (.int l1)], [.int 1], σ) rfl ?_
      obtain rfl := Option.some.inj h
      exact rf_rz rc_X9_isOfKind_ok 20 rfl rfl (by decide)
def f_X9_isOfKind (p0 : Int32) (p1 : Int32) (σ : rf_S) : Option Int32 := if p0 = p1 then (some 1) else (if p1 = 0 then (some 1) else (if p0 ≠ 4 then (f_X9_isOfKind_j19 p0 p1 σ) else (if p1 = 1 then (some 1) else (f_X9_isOfKind_j19 p0 p1 σ))))
set_option maxHeartbeats 2000000 in
theorem ok_X9_isOfKind (d : Nat) (p0 : Int32) (p1 : Int32) (σ : rf_S) (q : Int32) (h : f_X9_isOfKind p0 p1 σ = some q) : rf_Ex ly0 (d + 1) mX9_isOfKind [.int p0, .int p1] σ (some (.int q) : Option Value) σ := by
  unfold f_X9_isOfKind at h
  refine rf_ex mw_X9_isOfKind [some (.int p0), some (.int p1)] (Nat.le_of_ble_eq_true rfl) rfl ?_
  refine rf_b wf0 rc_X9_isOfKind_ok 0 2 (2, [some (.int p0), some (.int p1)], [.int p1, .int p0], σ) rfl ?_
  by_cases c1 : p0 = p1
  · rw [if_pos c1] at h
    refine rf_t wf0 rc_X9_isOfKind_ok 2 (29, [some (.int p0), some (.int p1)], [], σ) rfl rfl c1 rfl ?_
    refine rf_b wf0 rc_X9_isOfKind_ok 17 2 (34, [some (.int p0), some (.int p1)], [.int 1], σ) rfl ?_
    obtain rfl := Option.some.inj h
    exact rf_rz rc_X9_isOfKind_ok 20 rfl rfl (by decide)
  · rw [if_neg c1] at h
    refine rf_f wf0 rc_X9_isOfKind_ok 2 (5, [some (.int p0), some (.int p1)], [], σ) rfl rfl c1 rfl ?_
    refine rf_b wf0 rc_X9_isOfKind_ok 3 1 (6, [some (.int p0), some (.int p1)], [.int p1], σ) rfl ?_
    by_cases c2 : p1 = 0
    · rw [if_pos c2] at h
      refine rf_t wf0 rc_X9_isOfKind_ok 4 (29, [some (.int p0), some (.int p1)], [], σ) rfl rfl c2 rfl ?_
      refine rf_b wf0 rc_X9_isOfKind_ok 17 2 (34, [some (.int p0), some (.int p1)], [.int 1], σ) rfl ?_
      obtain rfl := Option.some.inj h
      exact rf_rz rc_X9_isOfKind_ok 20 rfl rfl (by decide)
    · rw [if_neg c2] at h
      refine rf_f wf0 rc_X9_isOfKind_ok 4 (9, [some (.int p0), some (.int p1)], [], σ) rfl rfl c2 rfl ?_
      refine rf_b wf0 rc_X9_isOfKind_ok 5 2 (11, [some (.int p0), some (.int p1)], [.int 4, .int p0], σ) rfl ?_
      by_cases c3 : p0 ≠ 4
      · rw [if_pos c3] at h
        refine rf_t wf0 rc_X9_isOfKind_ok 7 (19, [some (.int p0), some (.int p1)], [], σ) rfl rfl c3 rfl ?_
        exact ok_X9_isOfKind_j19 d p0 p1 σ q h
      · rw [if_neg c3] at h
        refine rf_f wf0 rc_X9_isOfKind_ok 7 (14, [some (.int p0), some (.int p1)], [], σ) rfl rfl c3 rfl ?_
        refine rf_b wf0 rc_X9_isOfKind_ok 8 2 (16, [some (.int p0), some (.int p1)], [.int 1, .int p1], σ) rfl ?_
        by_cases c6 : p1 = 1
        · rw [if_pos c6] at h
          refine rf_t wf0 rc_X9_isOfKind_ok 10 (29, [some (.int p0), some (.int p1)], [], σ) rfl rfl c6 rfl ?_
          refine rf_b wf0 rc_X9_isOfKind_ok 17 2 (34, [some (.int p0), some (.int p1)], [.int 1], σ) rfl ?_
          obtain rfl := Option.some.inj h
          exact rf_rz rc_X9_isOfKind_ok 20 rfl rfl (by decide)
        · rw [if_neg c6] at h
          refine rf_f wf0 rc_X9_isOfKind_ok 10 (19, [some (.int p0), some (.int p1)], [], σ) rfl rfl c6 rfl ?_
          exact ok_X9_isOfKind_j19 d p0 p1 σ q h
def rc_X8_sneezers : List rf_E := [(0, .iconst 0, 1, 0), (1, .istore_n 1, 1, 1), (2, .iconst 0, 1, 0), (3, .istore_n 2, 1, 2), (4, .iload_n 2, 1, 2), (5, .aload_n 0, 1, 0), (6, .getfield 12, 3, 800), (9, .getfield 67, 3, 207), (12, .if_icmp .ge 24, 3, 36), (15, .aload_n 0, 1, 0), (16, .iload_n 2, 1, 2), (17, .invokevirtual 89, 3, 0), (20, .iconst 1, 1, 0), (21, .invokestatic 93, 3, 0), (24, .ifCond .eq 6, 3, 30), (27, .iinc 1 1, 3, 1), (30, .iinc 2 1, 3, 2), (33, .goto (-29), 3, 4), (36, .iload_n 1, 1, 1), (37, .ireturn, 1, 0)]
theorem rc_X8_sneezers_ok : rf_rc mX8_sneezers rc_X8_sneezers = true := by decide +kernel
theorem mw_X8_sneezers : rf_mw mX8_sneezers := ⟨rf_mt_ok _ (List.mem_of_getElem? (i := 57) rfl), fun h => absurd h (by decide), fun _ => ⟨rf_mi_ok _ (List.mem_of_getElem? (i := 54) rfl), rf_mv_ok _ (List.mem_of_getElem? (i := 54) rfl)⟩, rf_mq_2 _ (List.mem_of_getElem? (i := 7) rfl)⟩
def f_X8_sneezers_j30 (l1 : Int32) (l2 : Int32) (σ : rf_S) : Option ((Int32 × Int32) ⊕ (Int32)) := some (.inl (l1, (l2 + 1)))
set_option maxHeartbeats 2000000 in
theorem ok_X8_sneezers_j30 (d : Nat) (l1 : Int32) (l2 : Int32) (σ : rf_S) (o : ((Int32 × Int32) ⊕ (Int32))) (h : f_X8_sneezers_j30 l1 l2 σ = some o) {r : Option Value} {σr : rf_S} (kl : ∀ s', o = .inl s' → rf_G ly0 (d + 1) mX8_sneezers (4, [some (.ref 25), some (.int s'.1), some (.int s'.2)], [], σ) r σr) (kx : ∀ e, o = .inr e → rf_G ly0 (d + 1) mX8_sneezers (36, [none, some (.int e), none], [], σ) r σr) : rf_G ly0 (d + 1) mX8_sneezers (30, [some (.ref 25), some (.int l1), some (.int l2)], [], σ) r σr := by
  unfold f_X8_sneezers_j30 at h
  refine rf_b wf0 rc_X8_sneezers_ok 16 2 (4, [some (.ref 25), some (.int l1), some (.int (l2 + 1))], [], σ) rfl ?_
  exact kl (l1, (l2 + 1)) (Option.some.inj h).symm
def f_X8_sneezers_b4 (σ : rf_S) (s4 : Int32 × Int32) : Option ((Int32 × Int32) ⊕ (Int32)) := if (σ.1 26 7) ≤ s4.2 then (some (.inr s4.1)) else ((f_X8_kindOf s4.2 σ).bind (fun q2 => (f_X9_isOfKind q2 1 σ).bind (fun q4 => if q4 = 0 then (f_X8_sneezers_j30 s4.1 s4.2 σ) else (f_X8_sneezers_j30 (s4.1 + 1) s4.2 σ))))
set_option maxHeartbeats 2000000 in
theorem ok_X8_sneezers_b4 (d : Nat) (σ : rf_S) (s4 : Int32 × Int32) (o : ((Int32 × Int32) ⊕ (Int32))) (h : f_X8_sneezers_b4 σ s4 = some o) {r : Option Value} {σr : rf_S} (kl : ∀ s', o = .inl s' → rf_G ly0 (d + 1) mX8_sneezers (4, [some (.ref 25), some (.int s'.1), some (.int s'.2)], [], σ) r σr) (kx : ∀ e, o = .inr e → rf_G ly0 (d + 1) mX8_sneezers (36, [none, some (.int e), none], [], σ) r σr) : rf_G ly0 (d + 1) mX8_sneezers (4, [some (.ref 25), some (.int s4.1), some (.int s4.2)], [], σ) r σr := by
  unfold f_X8_sneezers_b4 at h
  refine rf_b wf0 rc_X8_sneezers_ok 4 4 (12, [some (.ref 25), some (.int s4.1), some (.int s4.2)], [.int (σ.1 26 7), .int s4.2], σ) rfl ?_
  by_cases c1 : (σ.1 26 7) ≤ s4.2
  · rw [if_pos c1] at h
    refine rf_t wf0 rc_X8_sneezers_ok 8 (36, [some (.ref 25), some (.int s4.1), some (.int s4.2)], [], σ) rfl rfl c1 rfl ?_
    refine rf_fg [false, true, false] [none, some (.int s4.1), none] rfl ?_
    exact kx s4.1 (Option.some.inj h).symm
  · rw [if_neg c1] at h
    refine rf_f wf0 rc_X8_sneezers_ok 8 (15, [some (.ref 25), some (.int s4.1), some (.int s4.2)], [], σ) rfl rfl c1 rfl ?_
    refine rf_b wf0 rc_X8_sneezers_ok 9 2 (17, [some (.ref 25), some (.int s4.1), some (.int s4.2)], [.int s4.2, .ref 25], σ) rfl ?_
    obtain ⟨q2, h3, h⟩ := Option.bind_eq_some_iff.mp h
    refine rf_cv1 (Mt := mX8_kindOf) wf0 rc_X8_sneezers_ok 11 false rfl (List.mem_of_getElem? (i := 47) rfl) mw_X8_kindOf rfl 25 [.int s4.2] [] rfl rfl rfl (Nat.le_of_ble_eq_true rfl) (ok_X8_kindOf d s4.2 σ q2 h3) ?_
    show rf_G _ _ _ (20, [some (.ref 25), some (.int s4.1), some (.int s4.2)], [.int q2], σ) _ _
    refine rf_b wf0 rc_X8_sneezers_ok 12 1 (21, [some (.ref 25), some (.int s4.1), some (.int s4.2)], [.int 1, .int q2], σ) rfl ?_
    obtain ⟨q4, h5, h⟩ := Option.bind_eq_some_iff.mp h
    refine rf_cs1 (Mt := mX9_isOfKind) rc_X8_sneezers_ok 13 true rfl (List.mem_of_getElem? (i := 48) rfl) mw_X9_isOfKind rfl [.int q2, .int 1] [] rfl rfl (Nat.le_of_ble_eq_true rfl) (ok_X9_isOfKind d q2 1 σ q4 h5) ?_
    show rf_G _ _ _ (24, [some (.ref 25), some (.int s4.1), some (.int s4.2)], [.int q4], σ) _ _
    by_cases c6 : q4 = 0
    · rw [if_pos c6] at h
      refine rf_t wf0 rc_X8_sneezers_ok 14 (30, [some (.ref 25), some (.int s4.1), some (.int s4.2)], [], σ) rfl rfl c6 rfl ?_
      exact ok_X8_sneezers_j30 d s4.1 s4.2 σ o h kl kx
    · rw [if_neg c6] at h
      refine rf_f wf0 rc_X8_sneezers_ok 14 (27, [some (.ref 25), some (.int s4.1), some (.int s4.2)], [], σ) rfl rfl c6 rfl ?_
      refine rf_b wf0 rc_X8_sneezers_ok 15 1 (30, [some (.ref 25), some (.int (s4.1 + 1)), some (.int s4.2)], [], σ) rfl ?_
      exact ok_X8_sneezers_j30 d (s4.1 + 1) s4.2 σ o h kl kx
def f_X8_sneezers (σ : rf_S) : Option Int32 := (rf_lp (f_X8_sneezers_b4 σ) 5000 (0, 0)).bind (fun e7 => some e7)
set_option maxHeartbeats 2000000 in
theorem ok_X8_sneezers (d : Nat) (σ : rf_S) (q : Int32) (h : f_X8_sneezers σ = some q) : rf_Ex ly0 (d + 2) mX8_sneezers [.ref 25] σ (some (.int q) : Option Value) σ := by
  unfold f_X8_sneezers at h
  refine rf_ex mw_X8_sneezers [some (.ref 25), none, none] (Nat.le_of_ble_eq_true rfl) rfl ?_
  refine rf_b wf0 rc_X8_sneezers_ok 0 4 (4, [some (.ref 25), some (.int 0), some (.int 0)], [], σ) rfl ?_
  obtain ⟨e7, h8, h⟩ := Option.bind_eq_some_iff.mp h
  refine rf_lpG (b := f_X8_sneezers_b4 σ) (G := fun (s4 : Int32 × Int32) => rf_G ly0 (d + 1) mX8_sneezers (4, [some (.ref 25), some (.int s4.1), some (.int s4.2)], [], σ) (some (.int q) : Option Value) σ) (K := fun (e : (Int32)) => rf_G ly0 (d + 1) mX8_sneezers (36, [none, some (.int e), none], [], σ) (some (.int q) : Option Value) σ) (fun (s4 : Int32 × Int32) (o : (Int32 × Int32) ⊕ (Int32)) hb kl kx => ok_X8_sneezers_b4 d σ s4 o hb kl kx) 5000 (0, 0) e7 h8 ?_
  show rf_G _ _ _ (36, [none, some (.int e7), none], [], σ) _ _
  refine rf_b wf0 rc_X8_sneezers_ok 18 1 (37, [none, some (.int e7), none], [.int e7], σ) rfl ?_
  obtain rfl := Option.some.inj h
  exact rf_ri rc_X8_sneezers_ok 19 rfl rfl
def rc_X8_otherTwins : List rf_E := [(0, .iconst 0, 1, 0), (1, .istore_n 2, 1, 2), (2, .iconst 0, 1, 0), (3, .istore_n 3, 1, 3), (4, .iload_n 3, 1, 3), (5, .aload_n 0, 1, 0), (6, .getfield 12, 3, 800), (9, .getfield 67, 3, 207), (12, .if_icmp .ge 41, 3, 53), (15, .iload_n 3, 1, 3), (16, .iload_n 1, 1, 1), (17, .if_icmp .eq 30, 3, 47), (20, .aload_n 0, 1, 0), (21, .iload_n 3, 1, 3), (22, .invokevirtual 89, 3, 0), (25, .iconst 2, 1, 0), (26, .if_icmp .ne 21, 3, 47), (29, .aload_n 0, 1, 0), (30, .getfield 22, 3, 802), (33, .iload_n 3, 1, 3), (34, .iaload, 1, 0), (35, .aload_n 0, 1, 0), (36, .getfield 22, 3, 802), (39, .iload_n 1, 1, 1), (40, .iaload, 1, 0), (41, .if_icmp .ne 6, 3, 47), (44, .iinc 2 1, 3, 2), (47, .iinc 3 1, 3, 3), (50, .goto (-46), 3, 4), (53, .iload_n 2, 1, 2), (54, .ireturn, 1, 0)]
theorem rc_X8_otherTwins_ok : rf_rc mX8_otherTwins rc_X8_otherTwins = true := by decide +kernel
theorem mw_X8_otherTwins : rf_mw mX8_otherTwins := ⟨rf_mt_ok _ (List.mem_of_getElem? (i := 58) rfl), fun h => absurd h (by decide), fun _ => ⟨rf_mi_ok _ (List.mem_of_getElem? (i := 55) rfl), rf_mv_ok _ (List.mem_of_getElem? (i := 55) rfl)⟩, rf_mq_2 _ (List.mem_of_getElem? (i := 8) rfl)⟩
def f_X8_otherTwins_j47 (l1 : Int32) (l2 : Int32) (l3 : Int32) (σ : rf_S) : Option ((Int32 × Int32) ⊕ (Int32)) := some (.inl (l2, (l3 + 1)))
set_option maxHeartbeats 2000000 in
theorem ok_X8_otherTwins_j47 (d : Nat) (l1 : Int32) (l2 : Int32) (l3 : Int32) (σ : rf_S) (o : ((Int32 × Int32) ⊕ (Int32))) (h : f_X8_otherTwins_j47 l1 l2 l3 σ = some o) {r : Option Value} {σr : rf_S} (kl : ∀ s', o = .inl s' → rf_G ly0 (d + 1) mX8_otherTwins (4, [some (.ref 25), some (.int l1), some (.int s'.1), some (.int s'.2)], [], σ) r σr) (kx : ∀ e, o = .inr e → rf_G ly0 (d + 1) mX8_otherTwins (53, [none, none, some (.int e), none], [], σ) r σr) : rf_G ly0 (d + 1) mX8_otherTwins (47, [some (.ref 25), some (.int l1), some (.int l2), some (.int l3)], [], σ) r σr := by
  unfold f_X8_otherTwins_j47 at h
  refine rf_b wf0 rc_X8_otherTwins_ok 27 2 (4, [some (.ref 25), some (.int l1), some (.int l2), some (.int (l3 + 1))], [], σ) rfl ?_
  exact kl (l2, (l3 + 1)) (Option.some.inj h).symm
def f_X8_otherTwins_b4 (l1 : Int32) (σ : rf_S) (s4 : Int32 × Int32) : Option ((Int32 × Int32) ⊕ (Int32)) := if (σ.1 26 7) ≤ s4.2 then (some (.inr s4.1)) else (if s4.2 = l1 then (f_X8_otherTwins_j47 l1 s4.1 s4.2 σ) else ((f_X8_kindOf s4.2 σ).bind (fun q3 => if q3 ≠ 2 then (f_X8_otherTwins_j47 l1 s4.1 s4.2 σ) else (if rf_ck ly0 0 34 s4.2 = true then (if rf_ck ly0 0 34 l1 = true then (if (σ.1 34 s4.2.toNatClampNeg) ≠ (σ.1 34 l1.toNatClampNeg) then (f_X8_otherTwins_j47 l1 s4.1 s4.2 σ) else (f_X8_otherTwins_j47 l1 (s4.1 + 1) s4.2 σ)) else none) else none))))
set_option maxHeartbeats 2000000 in
theorem ok_X8_otherTwins_b4 (d : Nat) (l1 : Int32) (σ : rf_S) (s4 : Int32 × Int32) (o : ((Int32 × Int32) ⊕ (Int32))) (h : f_X8_otherTwins_b4 l1 σ s4 = some o) {r : Option Value} {σr : rf_S} (kl : ∀ s', o = .inl s' → rf_G ly0 (d + 1) mX8_otherTwins (4, [some (.ref 25), some (.int l1), some (.int s'.1), some (.int s'.2)], [], σ) r σr) (kx : ∀ e, o = .inr e → rf_G ly0 (d + 1) mX8_otherTwins (53, [none, none, some (.int e), none], [], σ) r σr) : rf_G ly0 (d + 1) mX8_otherTwins (4, [some (.ref 25), some (.int l1), some (.int s4.1), some (.int s4.2)], [], σ) r σr := by
  unfold f_X8_otherTwins_b4 at h
  refine rf_b wf0 rc_X8_otherTwins_ok 4 4 (12, [some (.ref 25), some (.int l1), some (.int s4.1), some (.int s4.2)], [.int (σ.1 26 7), .int s4.2], σ) rfl ?_
  by_cases c1 : (σ.1 26 7) ≤ s4.2
  · rw [if_pos c1] at h
    refine rf_t wf0 rc_X8_otherTwins_ok 8 (53, [some (.ref 25), some (.int l1), some (.int s4.1), some (.int s4.2)], [], σ) rfl rfl c1 rfl ?_
    refine rf_fg [false, false, true, false] [none, none, some (.int s4.1), none] rfl ?_
    exact kx s4.1 (Option.some.inj h).symm
  · rw [if_neg c1] at h
    refine rf_f wf0 rc_X8_otherTwins_ok 8 (15, [some (.ref 25), some (.int l1), some (.int s4.1), some (.int s4.2)], [], σ) rfl rfl c1 rfl ?_
    refine rf_b wf0 rc_X8_otherTwins_ok 9 2 (17, [some (.ref 25), some (.int l1), some (.int s4.1), some (.int s4.2)], [.int l1, .int s4.2], σ) rfl ?_
    by_cases c2 : s4.2 = l1
    · rw [if_pos c2] at h
      refine rf_t wf0 rc_X8_otherTwins_ok 11 (47, [some (.ref 25), some (.int l1), some (.int s4.1), some (.int s4.2)], [], σ) rfl rfl c2 rfl ?_
      exact ok_X8_otherTwins_j47 d l1 s4.1 s4.2 σ o h kl kx
    · rw [if_neg c2] at h
      refine rf_f wf0 rc_X8_otherTwins_ok 11 (20, [some (.ref 25), some (.int l1), some (.int s4.1), some (.int s4.2)], [], σ) rfl rfl c2 rfl ?_
      refine rf_b wf0 rc_X8_otherTwins_ok 12 2 (22, [some (.ref 25), some (.int l1), some (.int s4.1), some (.int s4.2)], [.int s4.2, .ref 25], σ) rfl ?_
      obtain ⟨q3, h4, h⟩ := Option.bind_eq_some_iff.mp h
      refine rf_cv1 (Mt := mX8_kindOf) wf0 rc_X8_otherTwins_ok 14 false rfl (List.mem_of_getElem? (i := 47) rfl) mw_X8_kindOf rfl 25 [.int s4.2] [] rfl rfl rfl (Nat.le_of_ble_eq_true rfl) (ok_X8_kindOf d s4.2 σ q3 h4) ?_
      show rf_G _ _ _ (25, [some (.ref 25), some (.int l1), some (.int s4.1), some (.int s4.2)], [.int q3], σ) _ _
      refine rf_b wf0 rc_X8_otherTwins_ok 15 1 (26, [some (.ref 25), some (.int l1), some (.int s4.1), some (.int s4.2)], [.int 2, .int q3], σ) rfl ?_
      by_cases c5 : q3 ≠ 2
      · rw [if_pos c5] at h
        refine rf_t wf0 rc_X8_otherTwins_ok 16 (47, [some (.ref 25), some (.int l1), some (.int s4.1), some (.int s4.2)], [], σ) rfl rfl c5 rfl ?_
        exact ok_X8_otherTwins_j47 d l1 s4.1 s4.2 σ o h kl kx
      · rw [if_neg c5] at h
        refine rf_f wf0 rc_X8_otherTwins_ok 16 (29, [some (.ref 25), some (.int l1), some (.int s4.1), some (.int s4.2)], [], σ) rfl rfl c5 rfl ?_
        refine rf_b wf0 rc_X8_otherTwins_ok 17 3 (34, [some (.ref 25), some (.int l1), some (.int s4.1), some (.int s4.2)], [.int s4.2, .ref 34], σ) rfl ?_
        obtain ⟨g6, h⟩ := rf_ifn h
        refine rf_gd wf0 rc_X8_otherTwins_ok 20 (35, [some (.ref 25), some (.int l1), some (.int s4.1), some (.int s4.2)], [.int (σ.1 34 s4.2.toNatClampNeg)], σ) rfl rfl g6 rfl ?_
        refine rf_b wf0 rc_X8_otherTwins_ok 21 3 (40, [some (.ref 25), some (.int l1), some (.int s4.1), some (.int s4.2)], [.int l1, .ref 34, .int (σ.1 34 s4.2.toNatClampNeg)], σ) rfl ?_
        obtain ⟨g7, h⟩ := rf_ifn h
        refine rf_gd wf0 rc_X8_otherTwins_ok 24 (41, [some (.ref 25), some (.int l1), some (.int s4.1), some (.int s4.2)], [.int (σ.1 34 l1.toNatClampNeg), .int (σ.1 34 s4.2.toNatClampNeg)], σ) rfl rfl g7 rfl ?_
        by_cases c8 : (σ.1 34 s4.2.toNatClampNeg) ≠ (σ.1 34 l1.toNatClampNeg)
        · rw [if_pos c8] at h
          refine rf_t wf0 rc_X8_otherTwins_ok 25 (47, [some (.ref 25), some (.int l1), some (.int s4.1), some (.int s4.2)], [], σ) rfl rfl c8 rfl ?_
          exact ok_X8_otherTwins_j47 d l1 s4.1 s4.2 σ o h kl kx
        · rw [if_neg c8] at h
          refine rf_f wf0 rc_X8_otherTwins_ok 25 (44, [some (.ref 25), some (.int l1), some (.int s4.1), some (.int s4.2)], [], σ) rfl rfl c8 rfl ?_
          refine rf_b wf0 rc_X8_otherTwins_ok 26 1 (47, [some (.ref 25), some (.int l1), some (.int (s4.1 + 1)), some (.int s4.2)], [], σ) rfl ?_
          exact ok_X8_otherTwins_j47 d l1 (s4.1 + 1) s4.2 σ o h kl kx
def f_X8_otherTwins (p0 : Int32) (σ : rf_S) : Option Int32 := (rf_lp (f_X8_otherTwins_b4 p0 σ) 5000 (0, 0)).bind (fun e9 => some e9)
set_option maxHeartbeats 2000000 in
theorem ok_X8_otherTwins (d : Nat) (p0 : Int32) (σ : rf_S) (q : Int32) (h : f_X8_otherTwins p0 σ = some q) : rf_Ex ly0 (d + 2) mX8_otherTwins [.ref 25, .int p0] σ (some (.int q) : Option Value) σ := by
  unfold f_X8_otherTwins at h
  refine rf_ex mw_X8_otherTwins [some (.ref 25), some (.int p0), none, none] (Nat.le_of_ble_eq_true rfl) rfl ?_
  refine rf_b wf0 rc_X8_otherTwins_ok 0 4 (4, [some (.ref 25), some (.int p0), some (.int 0), some (.int 0)], [], σ) rfl ?_
  obtain ⟨e9, h10, h⟩ := Option.bind_eq_some_iff.mp h
  refine rf_lpG (b := f_X8_otherTwins_b4 p0 σ) (G := fun (s4 : Int32 × Int32) => rf_G ly0 (d + 1) mX8_otherTwins (4, [some (.ref 25), some (.int p0), some (.int s4.1), some (.int s4.2)], [], σ) (some (.int q) : Option Value) σ) (K := fun (e : (Int32)) => rf_G ly0 (d + 1) mX8_otherTwins (53, [none, none, some (.int e), none], [], σ) (some (.int q) : Option Value) σ) (fun (s4 : Int32 × Int32) (o : (Int32 × Int32) ⊕ (Int32)) hb kl kx => ok_X8_otherTwins_b4 d p0 σ s4 o hb kl kx) 5000 (0, 0) e9 h10 ?_
  show rf_G _ _ _ (53, [none, none, some (.int e9), none], [], σ) _ _
  refine rf_b wf0 rc_X8_otherTwins_ok 29 1 (54, [none, none, some (.int e9), none], [.int e9], σ) rfl ?_
  obtain rfl := Option.some.inj h
  exact rf_ri rc_X8_otherTwins_ok 30 rfl rfl
def rc_X8_feltBy : List rf_E := [(0, .aload_n 0, 1, 0), (1, .iload_n 1, 1, 1), (2, .invokevirtual 89, 3, 0), (5, .aload_n 0, 1, 0), (6, .iload_n 1, 1, 1), (7, .invokevirtual 97, 3, 0), (10, .aload_n 0, 1, 0), (11, .getfield 28, 3, 804), (14, .iload_n 1, 1, 1), (15, .iaload, 1, 0), (16, .iadd, 1, 0), (17, .aload_n 0, 1, 0), (18, .getfield 61, 3, 807), (21, .aload_n 0, 1, 0), (22, .getfield 57, 3, 806), (25, .invokestatic 100, 3, 0), (28, .ireturn, 1, 0)]
theorem rc_X8_feltBy_ok : rf_rc mX8_feltBy rc_X8_feltBy = true := by decide +kernel
theorem mw_X8_feltBy : rf_mw mX8_feltBy := ⟨rf_mt_ok _ (List.mem_of_getElem? (i := 59) rfl), fun h => absurd h (by decide), fun _ => ⟨rf_mi_ok _ (List.mem_of_getElem? (i := 56) rfl), rf_mv_ok _ (List.mem_of_getElem? (i := 56) rfl)⟩, rf_mq_2 _ (List.mem_of_getElem? (i := 9) rfl)⟩
def f_X8_feltBy (p0 : Int32) (σ : rf_S) : Option Int32 := (f_X8_kindOf p0 σ).bind (fun q1 => (f_X8_markOf p0 σ).bind (fun q3 => if rf_ck ly0 0 36 p0 = true then ((f_X8_feeling q1 (q3 + (σ.1 36 p0.toNatClampNeg)) (σ.1 25 7) (σ.1 25 6) σ).bind (fun q6 => some q6)) else none))
set_option maxHeartbeats 2000000 in
theorem ok_X8_feltBy (d : Nat) (p0 : Int32) (σ : rf_S) (q : Int32) (h : f_X8_feltBy p0 σ = some q) : rf_Ex ly0 (d + 2) mX8_feltBy [.ref 25, .int p0] σ (some (.int q) : Option Value) σ := by
  unfold f_X8_feltBy at h
  refine rf_ex mw_X8_feltBy [some (.ref 25), some (.int p0)] (Nat.le_of_ble_eq_true rfl) rfl ?_
  refine rf_b wf0 rc_X8_feltBy_ok 0 2 (2, [some (.ref 25), some (.int p0)], [.int p0, .ref 25], σ) rfl ?_
  obtain ⟨q1, h2, h⟩ := Option.bind_eq_some_iff.mp h
  refine rf_cv1 (Mt := mX8_kindOf) wf0 rc_X8_feltBy_ok 2 false rfl (List.mem_of_getElem? (i := 47) rfl) mw_X8_kindOf rfl 25 [.int p0] [] rfl rfl rfl (Nat.le_of_ble_eq_true rfl) (ok_X8_kindOf d p0 σ q1 h2) ?_
  show rf_G _ _ _ (5, [some (.ref 25), some (.int p0)], [.int q1], σ) _ _
  refine rf_b wf0 rc_X8_feltBy_ok 3 2 (7, [some (.ref 25), some (.int p0)], [.int p0, .ref 25, .int q1], σ) rfl ?_
  obtain ⟨q3, h4, h⟩ := Option.bind_eq_some_iff.mp h
  refine rf_cv1 (Mt := mX8_markOf) wf0 rc_X8_feltBy_ok 5 false rfl (List.mem_of_getElem? (i := 49) rfl) mw_X8_markOf rfl 25 [.int p0] [.int q1] rfl rfl rfl (Nat.le_of_ble_eq_true rfl) (ok_X8_markOf d p0 σ q3 h4) ?_
  show rf_G _ _ _ (10, [some (.ref 25), some (.int p0)], [.int q3, .int q1], σ) _ _
  refine rf_b wf0 rc_X8_feltBy_ok 6 3 (15, [some (.ref 25), some (.int p0)], [.int p0, .ref 36, .int q3, .int q1], σ) rfl ?_
  obtain ⟨g5, h⟩ := rf_ifn h
  refine rf_gd wf0 rc_X8_feltBy_ok 9 (16, [some (.ref 25), some (.int p0)], [.int (σ.1 36 p0.toNatClampNeg), .int q3, .int q1], σ) rfl rfl g5 rfl ?_
  refine rf_b wf0 rc_X8_feltBy_ok 10 5 (25, [some (.ref 25), some (.int p0)], [.int (σ.1 25 6), .int (σ.1 25 7), .int (q3 + (σ.1 36 p0.toNatClampNeg)), .int q1], σ) rfl ?_
  obtain ⟨q6, h7, h⟩ := Option.bind_eq_some_iff.mp h
  refine rf_cs1 (Mt := mX8_feeling) rc_X8_feltBy_ok 15 false rfl (List.mem_of_getElem? (i := 50) rfl) mw_X8_feeling rfl [.int q1, .int (q3 + (σ.1 36 p0.toNatClampNeg)), .int (σ.1 25 7), .int (σ.1 25 6)] [] rfl rfl (Nat.le_of_ble_eq_true rfl) (ok_X8_feeling d q1 (q3 + (σ.1 36 p0.toNatClampNeg)) (σ.1 25 7) (σ.1 25 6) σ q6 h7) ?_
  show rf_G _ _ _ (28, [some (.ref 25), some (.int p0)], [.int q6], σ) _ _
  obtain rfl := Option.some.inj h
  exact rf_ri rc_X8_feltBy_ok 16 rfl rfl
def rc_X8_would : List rf_E := [(0, .aload_n 0, 1, 0), (1, .iload_n 1, 1, 1), (2, .aload_n 0, 1, 0), (3, .iload_n 1, 1, 1), (4, .invokevirtual 89, 3, 0), (7, .aload_n 0, 1, 0), (8, .getfield 28, 3, 804), (11, .iload_n 1, 1, 1), (12, .iaload, 1, 0), (13, .invokevirtual 112, 3, 0), (16, .ireturn, 1, 0)]
theorem rc_X8_would_ok : rf_rc mX8_would rc_X8_would = true := by decide +kernel
theorem mw_X8_would : rf_mw mX8_would := ⟨rf_mt_ok _ (List.mem_of_getElem? (i := 63) rfl), fun h => absurd h (by decide), fun _ => ⟨rf_mi_ok _ (List.mem_of_getElem? (i := 58) rfl), rf_mv_ok _ (List.mem_of_getElem? (i := 58) rfl)⟩, rf_mq_2 _ (List.mem_of_getElem? (i := 13) rfl)⟩
def f_X8_would (p0 : Int32) (σ : rf_S) : Option Int32 := (f_X8_kindOf p0 σ).bind (fun q1 => if rf_ck ly0 0 36 p0 = true then ((f_X8_wouldAs p0 q1 (σ.1 36 p0.toNatClampNeg) σ).bind (fun q4 => some q4)) else none)
set_option maxHeartbeats 2000000 in
theorem ok_X8_would (d : Nat) (p0 : Int32) (σ : rf_S) (q : Int32) (h : f_X8_would p0 σ = some q) : rf_Ex ly0 (d + 3) mX8_would [.ref 25, .int p0] σ (some (.int q) : Option Value) σ := by
  unfold f_X8_would at h
  refine rf_ex mw_X8_would [some (.ref 25), some (.int p0)] (Nat.le_of_ble_eq_true rfl) rfl ?_
  refine rf_b wf0 rc_X8_would_ok 0 4 (4, [some (.ref 25), some (.int p0)], [.int p0, .ref 25, .int p0, .ref 25], σ) rfl ?_
  obtain ⟨q1, h2, h⟩ := Option.bind_eq_some_iff.mp h
  refine rf_cv1 (Mt := mX8_kindOf) wf0 rc_X8_would_ok 4 false rfl (List.mem_of_getElem? (i := 47) rfl) mw_X8_kindOf rfl 25 [.int p0] [.int p0, .ref 25] rfl rfl rfl (Nat.le_of_ble_eq_true rfl) (ok_X8_kindOf (d + 1) p0 σ q1 h2) ?_
  show rf_G _ _ _ (7, [some (.ref 25), some (.int p0)], [.int q1, .int p0, .ref 25], σ) _ _
  refine rf_b wf0 rc_X8_would_ok 5 3 (12, [some (.ref 25), some (.int p0)], [.int p0, .ref 36, .int q1, .int p0, .ref 25], σ) rfl ?_
  obtain ⟨g3, h⟩ := rf_ifn h
  refine rf_gd wf0 rc_X8_would_ok 8 (13, [some (.ref 25), some (.int p0)], [.int (σ.1 36 p0.toNatClampNeg), .int q1, .int p0, .ref 25], σ) rfl rfl g3 rfl ?_
  obtain ⟨q4, h5, h⟩ := Option.bind_eq_some_iff.mp h
  refine rf_cv1 (Mt := mX8_wouldAs) wf0 rc_X8_would_ok 9 false rfl (List.mem_of_getElem? (i := 53) rfl) mw_X8_wouldAs rfl 25 [.int p0, .int q1, .int (σ.1 36 p0.toNatClampNeg)] [] rfl rfl rfl (Nat.le_of_ble_eq_true rfl) (ok_X8_wouldAs d p0 q1 (σ.1 36 p0.toNatClampNeg) σ q4 h5) ?_
  show rf_G _ _ _ (16, [some (.ref 25), some (.int p0)], [.int q4], σ) _ _
  obtain rfl := Option.some.inj h
  exact rf_ri rc_X8_would_ok 10 rfl rfl
def rc_X8_doesNow : List rf_E := [(0, .aload_n 0, 1, 0), (1, .iload_n 1, 1, 1), (2, .invokevirtual 115, 3, 0), (5, .aload_n 0, 1, 0), (6, .getfield 18, 3, 801), (9, .aload_n 0, 1, 0), (10, .getfield 22, 3, 802), (13, .iload_n 1, 1, 1), (14, .iaload, 1, 0), (15, .iaload, 1, 0), (16, .ishr, 1, 0), (17, .iconst 1, 1, 0), (18, .iand, 1, 0), (19, .ireturn, 1, 0)]
theorem rc_X8_doesNow_ok : rf_rc mX8_doesNow rc_X8_doesNow = true := by decide +kernel
theorem mw_X8_doesNow : rf_mw mX8_doesNow := ⟨rf_mt_ok _ (List.mem_of_getElem? (i := 65) rfl), fun h => absurd h (by decide), fun _ => ⟨rf_mi_ok _ (List.mem_of_getElem? (i := 60) rfl), rf_mv_ok _ (List.mem_of_getElem? (i := 60) rfl)⟩, rf_mq_2 _ (List.mem_of_getElem? (i := 15) rfl)⟩
def f_X8_doesNow (p0 : Int32) (σ : rf_S) : Option Int32 := (f_X8_does p0 σ).bind (fun q1 => if rf_ck ly0 0 34 p0 = true then (if rf_ck ly0 0 33 (σ.1 34 p0.toNatClampNeg) = true then (some ((q1 >>> ((σ.1 33 (σ.1 34 p0.toNatClampNeg).toNatClampNeg) &&& 31)) &&& 1)) else none) else none)
set_option maxHeartbeats 2000000 in
theorem ok_X8_doesNow (d : Nat) (p0 : Int32) (σ : rf_S) (q : Int32) (h : f_X8_doesNow p0 σ = some q) : rf_Ex ly0 (d + 4) mX8_doesNow [.ref 25, .int p0] σ (some (.int q) : Option Value) σ := by
  unfold f_X8_doesNow at h
  refine rf_ex mw_X8_doesNow [some (.ref 25), some (.int p0)] (Nat.le_of_ble_eq_true rfl) rfl ?_
  refine rf_b wf0 rc_X8_doesNow_ok 0 2 (2, [some (.ref 25), some (.int p0)], [.int p0, .ref 25], σ) rfl ?_
  obtain ⟨q1, h2, h⟩ := Option.bind_eq_some_iff.mp h
  refine rf_cv1 (Mt := mX8_does) wf0 rc_X8_doesNow_ok 2 false rfl (List.mem_of_getElem? (i := 54) rfl) mw_X8_does rfl 25 [.int p0] [] rfl rfl rfl (Nat.le_of_ble_eq_true rfl) (ok_X8_does d p0 σ q1 h2) ?_
  show rf_G _ _ _ (5, [some (.ref 25), some (.int p0)], [.int q1], σ) _ _
  refine rf_b wf0 rc_X8_doesNow_ok 3 5 (14, [some (.ref 25), some (.int p0)], [.int p0, .ref 34, .ref 33, .int q1], σ) rfl ?_
  obtain ⟨g3, h⟩ := rf_ifn h
  refine rf_gd wf0 rc_X8_doesNow_ok 8 (15, [some (.ref 25), some (.int p0)], [.int (σ.1 34 p0.toNatClampNeg), .ref 33, .int q1], σ) rfl rfl g3 rfl ?_
  obtain ⟨g4, h⟩ := rf_ifn h
  refine rf_gd wf0 rc_X8_doesNow_ok 9 (16, [some (.ref 25), some (.int p0)], [.int (σ.1 33 (σ.1 34 p0.toNatClampNeg).toNatClampNeg), .int q1], σ) rfl rfl g4 rfl ?_
  refine rf_b wf0 rc_X8_doesNow_ok 10 3 (19, [some (.ref 25), some (.int p0)], [.int ((q1 >>> ((σ.1 33 (σ.1 34 p0.toNatClampNeg).toNatClampNeg) &&& 31)) &&& 1)], σ) rfl ?_
  obtain rfl := Option.some.inj h
  exact rf_ri rc_X8_doesNow_ok 13 rfl rfl
def rc_X8_doers : List rf_E := [(0, .iconst 0, 1, 0), (1, .istore_n 1, 1, 1), (2, .iconst 0, 1, 0), (3, .istore_n 2, 1, 2), (4, .iload_n 2, 1, 2), (5, .aload_n 0, 1, 0), (6, .getfield 12, 3, 800), (9, .getfield 67, 3, 207), (12, .if_icmp .ge 19, 3, 31), (15, .iload_n 1, 1, 1), (16, .aload_n 0, 1, 0), (17, .iload_n 2, 1, 2), (18, .invokevirtual 118, 3, 0), (21, .iload_n 2, 1, 2), (22, .ishl, 1, 0), (23, .ior, 1, 0), (24, .istore_n 1, 1, 1), (25, .iinc 2 1, 3, 2), (28, .goto (-24), 3, 4), (31, .iload_n 1, 1, 1), (32, .ireturn, 1, 0)]
theorem rc_X8_doers_ok : rf_rc mX8_doers rc_X8_doers = true := by decide +kernel
theorem mw_X8_doers : rf_mw mX8_doers := ⟨rf_mt_ok _ (List.mem_of_getElem? (i := 66) rfl), fun h => absurd h (by decide), fun _ => ⟨rf_mi_ok _ (List.mem_of_getElem? (i := 61) rfl), rf_mv_ok _ (List.mem_of_getElem? (i := 61) rfl)⟩, rf_mq_2 _ (List.mem_of_getElem? (i := 16) rfl)⟩
def f_X8_doers_b4 (σ : rf_S) (s4 : Int32 × Int32) : Option ((Int32 × Int32) ⊕ (Int32)) := if (σ.1 26 7) ≤ s4.2 then (some (.inr s4.1)) else ((f_X8_doesNow s4.2 σ).bind (fun q2 => some (.inl ((s4.1 ||| (q2 <<< (s4.2 &&& 31))), (s4.2 + 1)))))
set_option maxHeartbeats 2000000 in
theorem ok_X8_doers_b4 (d : Nat) (σ : rf_S) (s4 : Int32 × Int32) (o : ((Int32 × Int32) ⊕ (Int32))) (h : f_X8_doers_b4 σ s4 = some o) {r : Option Value} {σr : rf_S} (kl : ∀ s', o = .inl s' → rf_G ly0 (d + 4) mX8_doers (4, [some (.ref 25), some (.int s'.1), some (.int s'.2)], [], σ) r σr) (kx : ∀ e, o = .inr e → rf_G ly0 (d + 4) mX8_doers (31, [none, some (.int e), none], [], σ) r σr) : rf_G ly0 (d + 4) mX8_doers (4, [some (.ref 25), some (.int s4.1), some (.int s4.2)], [], σ) r σr := by
  unfold f_X8_doers_b4 at h
  refine rf_b wf0 rc_X8_doers_ok 4 4 (12, [some (.ref 25), some (.int s4.1), some (.int s4.2)], [.int (σ.1 26 7), .int s4.2], σ) rfl ?_
  by_cases c1 : (σ.1 26 7) ≤ s4.2
  · rw [if_pos c1] at h
    refine rf_t wf0 rc_X8_doers_ok 8 (31, [some (.ref 25), some (.int s4.1), some (.int s4.2)], [], σ) rfl rfl c1 rfl ?_
    refine rf_fg [false, true, false] [none, some (.int s4.1), none] rfl ?_
    exact kx s4.1 (Option.some.inj h).symm
  · rw [if_neg c1] at h
    refine rf_f wf0 rc_X8_doers_ok 8 (15, [some (.ref 25), some (.int s4.1), some (.int s4.2)], [], σ) rfl rfl c1 rfl ?_
    refine rf_b wf0 rc_X8_doers_ok 9 3 (18, [some (.ref 25), some (.int s4.1), some (.int s4.2)], [.int s4.2, .ref 25, .int s4.1], σ) rfl ?_
    obtain ⟨q2, h3, h⟩ := Option.bind_eq_some_iff.mp h
    refine rf_cv1 (Mt := mX8_doesNow) wf0 rc_X8_doers_ok 12 false rfl (List.mem_of_getElem? (i := 55) rfl) mw_X8_doesNow rfl 25 [.int s4.2] [.int s4.1] rfl rfl rfl (Nat.le_of_ble_eq_true rfl) (ok_X8_doesNow d s4.2 σ q2 h3) ?_
    show rf_G _ _ _ (21, [some (.ref 25), some (.int s4.1), some (.int s4.2)], [.int q2, .int s4.1], σ) _ _
    refine rf_b wf0 rc_X8_doers_ok 13 6 (4, [some (.ref 25), some (.int (s4.1 ||| (q2 <<< (s4.2 &&& 31)))), some (.int (s4.2 + 1))], [], σ) rfl ?_
    exact kl ((s4.1 ||| (q2 <<< (s4.2 &&& 31))), (s4.2 + 1)) (Option.some.inj h).symm
def f_X8_doers (σ : rf_S) : Option Int32 := (rf_lp (f_X8_doers_b4 σ) 5000 (0, 0)).bind (fun e4 => some e4)
set_option maxHeartbeats 2000000 in
theorem ok_X8_doers (d : Nat) (σ : rf_S) (q : Int32) (h : f_X8_doers σ = some q) : rf_Ex ly0 (d + 5) mX8_doers [.ref 25] σ (some (.int q) : Option Value) σ := by
  unfold f_X8_doers at h
  refine rf_ex mw_X8_doers [some (.ref 25), none, none] (Nat.le_of_ble_eq_true rfl) rfl ?_
  refine rf_b wf0 rc_X8_doers_ok 0 4 (4, [some (.ref 25), some (.int 0), some (.int 0)], [], σ) rfl ?_
  obtain ⟨e4, h5, h⟩ := Option.bind_eq_some_iff.mp h
  refine rf_lpG (b := f_X8_doers_b4 σ) (G := fun (s4 : Int32 × Int32) => rf_G ly0 (d + 4) mX8_doers (4, [some (.ref 25), some (.int s4.1), some (.int s4.2)], [], σ) (some (.int q) : Option Value) σ) (K := fun (e : (Int32)) => rf_G ly0 (d + 4) mX8_doers (31, [none, some (.int e), none], [], σ) (some (.int q) : Option Value) σ) (fun (s4 : Int32 × Int32) (o : (Int32 × Int32) ⊕ (Int32)) hb kl kx => ok_X8_doers_b4 d σ s4 o hb kl kx) 5000 (0, 0) e4 h5 ?_
  show rf_G _ _ _ (31, [none, some (.int e4), none], [], σ) _ _
  refine rf_b wf0 rc_X8_doers_ok 19 1 (32, [none, some (.int e4), none], [.int e4], σ) rfl ?_
  obtain rfl := Option.some.inj h
  exact rf_ri rc_X8_doers_ok 20 rfl rfl
def rc_X8_spanAt : List rf_E := [(0, .ldc 104, 2, 2147483647), (2, .istore_n 3, 1, 3), (3, .iconst 0, 1, 0), (4, .istore 4, 2, 4), (6, .iload 4, 2, 4), (8, .aload_n 0, 1, 0), (9, .getfield 12, 3, 800), (12, .getfield 67, 3, 207), (15, .if_icmp .ge 29, 3, 44), (18, .iload_n 2, 1, 2), (19, .iload 4, 2, 4), (21, .ishr, 1, 0), (22, .iconst 1, 1, 0), (23, .iand, 1, 0), (24, .iconst 1, 1, 0), (25, .if_icmp .ne 13, 3, 38), (28, .iload_n 3, 1, 3), (29, .aload_n 0, 1, 0), (30, .iload 4, 2, 4), (32, .iload_n 1, 1, 1), (33, .invokevirtual 125, 3, 0), (36, .iand, 1, 0), (37, .istore_n 3, 1, 3), (38, .iinc 4 1, 3, 4), (41, .goto (-35), 3, 6), (44, .iload_n 3, 1, 3), (45, .ireturn, 1, 0)]
theorem rc_X8_spanAt_ok : rf_rc mX8_spanAt rc_X8_spanAt = true := by decide +kernel
theorem mw_X8_spanAt : rf_mw mX8_spanAt := ⟨rf_mt_ok _ (List.mem_of_getElem? (i := 68) rfl), fun h => absurd h (by decide), fun _ => ⟨rf_mi_ok _ (List.mem_of_getElem? (i := 63) rfl), rf_mv_ok _ (List.mem_of_getElem? (i := 63) rfl)⟩, rf_mq_2 _ (List.mem_of_getElem? (i := 18) rfl)⟩
def f_X8_spanAt_j38 (l1 : Int32) (l2 : Int32) (l3 : Int32) (l4 : Int32) (σ : rf_S) : Option ((Int32 × Int32) ⊕ (Int32)) := some (.inl (l3, (l4 + 1)))
set_option maxHeartbeats 2000000 in
theorem ok_X8_spanAt_j38 (d : Nat) (l1 : Int32) (l2 : Int32) (l3 : Int32) (l4 : Int32) (σ : rf_S) (o : ((Int32 × Int32) ⊕ (Int32))) (h : f_X8_spanAt_j38 l1 l2 l3 l4 σ = some o) {r : Option Value} {σr : rf_S} (kl : ∀ s', o = .inl s' → rf_G ly0 (d + 4) mX8_spanAt (6, [some (.ref 25), some (.int l1), some (.int l2), some (.int s'.1), some (.int s'.2)], [], σ) r σr) (kx : ∀ e, o = .inr e → rf_G ly0 (d + 4) mX8_spanAt (44, [none, none, none, some (.int e), none], [], σ) r σr) : rf_G ly0 (d + 4) mX8_spanAt (38, [some (.ref 25), some (.int l1), some (.int l2), some (.int l3), some (.int l4)], [], σ) r σr := by
  unfold f_X8_spanAt_j38 at h
  refine rf_b wf0 rc_X8_spanAt_ok 23 2 (6, [some (.ref 25), some (.int l1), some (.int l2), some (.int l3), some (.int (l4 + 1))], [], σ) rfl ?_
  exact kl (l3, (l4 + 1)) (Option.some.inj h).symm
def f_X8_spanAt_b6 (l1 : Int32) (l2 : Int32) (σ : rf_S) (s6 : Int32 × Int32) : Option ((Int32 × Int32) ⊕ (Int32)) := if (σ.1 26 7) ≤ s6.2 then (some (.inr s6.1)) else (if ((l2 >>> (s6.2 &&& 31)) &&& 1) ≠ 1 then (f_X8_spanAt_j38 l1 l2 s6.1 s6.2 σ) else ((f_X8_likeAt s6.2 l1 σ).bind (fun q3 => f_X8_spanAt_j38 l1 l2 (s6.1 &&& q3) s6.2 σ)))
set_option maxHeartbeats 2000000 in
theorem ok_X8_spanAt_b6 (d : Nat) (l1 : Int32) (l2 : Int32) (σ : rf_S) (s6 : Int32 × Int32) (o : ((Int32 × Int32) ⊕ (Int32))) (h : f_X8_spanAt_b6 l1 l2 σ s6 = some o) {r : Option Value} {σr : rf_S} (kl : ∀ s', o = .inl s' → rf_G ly0 (d + 4) mX8_spanAt (6, [some (.ref 25), some (.int l1), some (.int l2), some (.int s'.1), some (.int s'.2)], [], σ) r σr) (kx : ∀ e, o = .inr e → rf_G ly0 (d + 4) mX8_spanAt (44, [none, none, none, some (.int e), none], [], σ) r σr) : rf_G ly0 (d + 4) mX8_spanAt (6, [some (.ref 25), some (.int l1), some (.int l2), some (.int s6.1), some (.int s6.2)], [], σ) r σr := by
  unfold f_X8_spanAt_b6 at h
  refine rf_b wf0 rc_X8_spanAt_ok 4 4 (15, [some (.ref 25), some (.int l1), some (.int l2), some (.int s6.1), some (.int s6.2)], [.int (σ.1 26 7), .int s6.2], σ) rfl ?_
  by_cases c1 : (σ.1 26 7) ≤ s6.2
  · rw [if_pos c1] at h
    refine rf_t wf0 rc_X8_spanAt_ok 8 (44, [some (.ref 25), some (.int l1), some (.int l2), some (.int s6.1), some (.int s6.2)], [], σ) rfl rfl c1 rfl ?_
    refine rf_fg [false, false, false, true, false] [none, none, none, some (.int s6.1), none] rfl ?_
    exact kx s6.1 (Option.some.inj h).symm
  · rw [if_neg c1] at h
    refine rf_f wf0 rc_X8_spanAt_ok 8 (18, [some (.ref 25), some (.int l1), some (.int l2), some (.int s6.1), some (.int s6.2)], [], σ) rfl rfl c1 rfl ?_
    refine rf_b wf0 rc_X8_spanAt_ok 9 6 (25, [some (.ref 25), some (.int l1), some (.int l2), some (.int s6.1), some (.int s6.2)], [.int 1, .int ((l2 >>> (s6.2 &&& 31)) &&& 1)], σ) rfl ?_
    by_cases c2 : ((l2 >>> (s6.2 &&& 31)) &&& 1) ≠ 1
    · rw [if_pos c2] at h
      refine rf_t wf0 rc_X8_spanAt_ok 15 (38, [some (.ref 25), some (.int l1), some (.int l2), some (.int s6.1), some (.int s6.2)], [], σ) rfl rfl c2 rfl ?_
      exact ok_X8_spanAt_j38 d l1 l2 s6.1 s6.2 σ o h kl kx
    · rw [if_neg c2] at h
      refine rf_f wf0 rc_X8_spanAt_ok 15 (28, [some (.ref 25), some (.int l1), some (.int l2), some (.int s6.1), some (.int s6.2)], [], σ) rfl rfl c2 rfl ?_
      refine rf_b wf0 rc_X8_spanAt_ok 16 4 (33, [some (.ref 25), some (.int l1), some (.int l2), some (.int s6.1), some (.int s6.2)], [.int l1, .int s6.2, .ref 25, .int s6.1], σ) rfl ?_
      obtain ⟨q3, h4, h⟩ := Option.bind_eq_some_iff.mp h
      refine rf_cv1 (Mt := mX8_likeAt) wf0 rc_X8_spanAt_ok 20 false rfl (List.mem_of_getElem? (i := 57) rfl) mw_X8_likeAt rfl 25 [.int s6.2, .int l1] [.int s6.1] rfl rfl rfl (Nat.le_of_ble_eq_true rfl) (ok_X8_likeAt d s6.2 l1 σ q3 h4) ?_
      show rf_G _ _ _ (36, [some (.ref 25), some (.int l1), some (.int l2), some (.int s6.1), some (.int s6.2)], [.int q3, .int s6.1], σ) _ _
      refine rf_b wf0 rc_X8_spanAt_ok 21 2 (38, [some (.ref 25), some (.int l1), some (.int l2), some (.int (s6.1 &&& q3)), some (.int s6.2)], [], σ) rfl ?_
      exact ok_X8_spanAt_j38 d l1 l2 (s6.1 &&& q3) s6.2 σ o h kl kx
def f_X8_spanAt (p0 : Int32) (p1 : Int32) (σ : rf_S) : Option Int32 := (rf_lp (f_X8_spanAt_b6 p0 p1 σ) 5000 (2147483647, 0)).bind (fun e5 => some e5)
set_option maxHeartbeats 2000000 in
theorem ok_X8_spanAt (d : Nat) (p0 : Int32) (p1 : Int32) (σ : rf_S) (q : Int32) (h : f_X8_spanAt p0 p1 σ = some q) : rf_Ex ly0 (d + 5) mX8_spanAt [.ref 25, .int p0, .int p1] σ (some (.int q) : Option Value) σ := by
  unfold f_X8_spanAt at h
  refine rf_ex mw_X8_spanAt [some (.ref 25), some (.int p0), some (.int p1), none, none] (Nat.le_of_ble_eq_true rfl) rfl ?_
  refine rf_b wf0 rc_X8_spanAt_ok 0 4 (6, [some (.ref 25), some (.int p0), some (.int p1), some (.int 2147483647), some (.int 0)], [], σ) rfl ?_
  obtain ⟨e5, h6, h⟩ := Option.bind_eq_some_iff.mp h
  refine rf_lpG (b := f_X8_spanAt_b6 p0 p1 σ) (G := fun (s6 : Int32 × Int32) => rf_G ly0 (d + 4) mX8_spanAt (6, [some (.ref 25), some (.int p0), some (.int p1), some (.int s6.1), some (.int s6.2)], [], σ) (some (.int q) : Option Value) σ) (K := fun (e : (Int32)) => rf_G ly0 (d + 4) mX8_spanAt (44, [none, none, none, some (.int e), none], [], σ) (some (.int q) : Option Value) σ) (fun (s6 : Int32 × Int32) (o : (Int32 × Int32) ⊕ (Int32)) hb kl kx => ok_X8_spanAt_b6 d p0 p1 σ s6 o hb kl kx) 5000 (2147483647, 0) e5 h6 ?_
  show rf_G _ _ _ (44, [none, none, none, some (.int e5), none], [], σ) _ _
  refine rf_b wf0 rc_X8_spanAt_ok 25 1 (45, [none, none, none, some (.int e5), none], [.int e5], σ) rfl ?_
  obtain rfl := Option.some.inj h
  exact rf_ri rc_X8_spanAt_ok 26 rfl rfl
def rc_X8_spanIn : List rf_E := [(0, .aload_n 0, 1, 0), (1, .aload_n 0, 1, 0), (2, .getfield 18, 3, 801), (5, .iload_n 1, 1, 1), (6, .iaload, 1, 0), (7, .iload_n 2, 1, 2), (8, .invokevirtual 129, 3, 0), (11, .ireturn, 1, 0)]
theorem rc_X8_spanIn_ok : rf_rc mX8_spanIn rc_X8_spanIn = true := by decide +kernel
theorem mw_X8_spanIn : rf_mw mX8_spanIn := ⟨rf_mt_ok _ (List.mem_of_getElem? (i := 69) rfl), fun h => absurd h (by decide), fun _ => ⟨rf_mi_ok _ (List.mem_of_getElem? (i := 64) rfl), rf_mv_ok _ (List.mem_of_getElem? (i := 64) rfl)⟩, rf_mq_2 _ (List.mem_of_getElem? (i := 19) rfl)⟩
def f_X8_spanIn (p0 : Int32) (p1 : Int32) (σ : rf_S) : Option Int32 := if rf_ck ly0 0 33 p0 = true then ((f_X8_spanAt (σ.1 33 p0.toNatClampNeg) p1 σ).bind (fun q2 => some q2)) else none
set_option maxHeartbeats 2000000 in
theorem ok_X8_spanIn (d : Nat) (p0 : Int32) (p1 : Int32) (σ : rf_S) (q : Int32) (h : f_X8_spanIn p0 p1 σ = some q) : rf_Ex ly0 (d + 6) mX8_spanIn [.ref 25, .int p0, .int p1] σ (some (.int q) : Option Value) σ := by
  unfold f_X8_spanIn at h
  refine rf_ex mw_X8_spanIn [some (.ref 25), some (.int p0), some (.int p1)] (Nat.le_of_ble_eq_true rfl) rfl ?_
  refine rf_b wf0 rc_X8_spanIn_ok 0 4 (6, [some (.ref 25), some (.int p0), some (.int p1)], [.int p0, .ref 33, .ref 25], σ) rfl ?_
  obtain ⟨g1, h⟩ := rf_ifn h
  refine rf_gd wf0 rc_X8_spanIn_ok 4 (7, [some (.ref 25), some (.int p0), some (.int p1)], [.int (σ.1 33 p0.toNatClampNeg), .ref 25], σ) rfl rfl g1 rfl ?_
  refine rf_b wf0 rc_X8_spanIn_ok 5 1 (8, [some (.ref 25), some (.int p0), some (.int p1)], [.int p1, .int (σ.1 33 p0.toNatClampNeg), .ref 25], σ) rfl ?_
  obtain ⟨q2, h3, h⟩ := Option.bind_eq_some_iff.mp h
  refine rf_cv1 (Mt := mX8_spanAt) wf0 rc_X8_spanIn_ok 6 false rfl (List.mem_of_getElem? (i := 58) rfl) mw_X8_spanAt rfl 25 [.int (σ.1 33 p0.toNatClampNeg), .int p1] [] rfl rfl rfl (Nat.le_of_ble_eq_true rfl) (ok_X8_spanAt d (σ.1 33 p0.toNatClampNeg) p1 σ q2 h3) ?_
  show rf_G _ _ _ (11, [some (.ref 25), some (.int p0), some (.int p1)], [.int q2], σ) _ _
  obtain rfl := Option.some.inj h
  exact rf_ri rc_X8_spanIn_ok 7 rfl rfl
def rc_X8_copyOfColds : List rf_E := [(0, .aload_n 0, 1, 0), (1, .getfield 25, 3, 803), (4, .iconst 0, 1, 0), (5, .aload_n 0, 1, 0), (6, .getfield 31, 3, 805), (9, .iconst 0, 1, 0), (10, .bipush 6, 2, 0), (12, .invokestatic 42, 3, 1000), (15, .aload_n 0, 1, 0), (16, .getfield 31, 3, 805), (19, .areturn, 1, 0)]
theorem rc_X8_copyOfColds_ok : rf_rc mX8_copyOfColds rc_X8_copyOfColds = true := by decide +kernel
theorem mw_X8_copyOfColds : rf_mw mX8_copyOfColds := ⟨rf_mt_ok _ (List.mem_of_getElem? (i := 70) rfl), fun h => absurd h (by decide), fun _ => ⟨rf_mi_ok _ (List.mem_of_getElem? (i := 65) rfl), rf_mv_ok _ (List.mem_of_getElem? (i := 65) rfl)⟩, rf_mq_2 _ (List.mem_of_getElem? (i := 20) rfl)⟩
def f_X8_copyOfColds (σ : rf_S) : Option (Nat × rf_S) := if rf_cp ly0 35 0 37 0 6 = true then ((some (rf_sA σ 37 (va_cpy (σ.1 35) (σ.1 37) (0 : Int32).toNatClampNeg (0 : Int32).toNatClampNeg (6 : Int32).toNatClampNeg))).bind (fun σ2 => some (37, σ2))) else none
set_option maxHeartbeats 2000000 in
theorem ok_X8_copyOfColds (d : Nat) (σ : rf_S) (q : (Nat × rf_S)) (h : f_X8_copyOfColds σ = some q) : rf_Ex ly0 (d + 1) mX8_copyOfColds [.ref 25] σ (some (.ref q.1) : Option Value) q.2 := by
  unfold f_X8_copyOfColds at h
  refine rf_ex mw_X8_copyOfColds [some (.ref 25)] (Nat.le_of_ble_eq_true rfl) rfl ?_
  refine rf_b wf0 rc_X8_copyOfColds_ok 0 7 (12, [some (.ref 25)], [.int 6, .int 0, .ref 37, .int 0, .ref 35], σ) rfl ?_
  obtain ⟨g1, h⟩ := rf_ifn h
  refine rf_gd wf0 rc_X8_copyOfColds_ok 7 (15, [some (.ref 25)], [], (rf_sA σ 37 (va_cpy (σ.1 35) (σ.1 37) (0 : Int32).toNatClampNeg (0 : Int32).toNatClampNeg (6 : Int32).toNatClampNeg))) rfl rfl g1 rfl ?_
  obtain ⟨σ2, h3, h⟩ := Option.bind_eq_some_iff.mp h
  refine rf_sgb (Option.some.inj h3) ?_
  refine rf_b wf0 rc_X8_copyOfColds_ok 8 2 (19, [some (.ref 25)], [.ref 37], σ2) rfl ?_
  obtain rfl := Option.some.inj h
  exact rf_rr rc_X8_copyOfColds_ok 10 rfl rfl
def rc_X8_staysSo : List rf_E := [(0, .aload_n 0, 1, 0), (1, .getfield 61, 3, 807), (4, .istore 5, 2, 5), (6, .iconst 0, 1, 0), (7, .istore 6, 2, 6), (9, .iload 6, 2, 6), (11, .iload_n 2, 1, 2), (12, .if_icmp .ge 103, 3, 115), (15, .iload_n 3, 1, 3), (16, .iload 6, 2, 6), (18, .ishr, 1, 0), (19, .iconst 1, 1, 0), (20, .iand, 1, 0), (21, .iconst 1, 1, 0), (22, .if_icmp .ne 6, 3, 28), (25, .iconst 3, 1, 0), (26, .istore 5, 2, 5), (28, .aload_n 0, 1, 0), (29, .iload_n 1, 1, 1), (30, .invokevirtual 89, 3, 0), (33, .aload_n 0, 1, 0), (34, .iload_n 1, 1, 1), (35, .invokevirtual 97, 3, 0), (38, .aload_n 0, 1, 0), (39, .getfield 28, 3, 804), (42, .iload_n 1, 1, 1), (43, .iaload, 1, 0), (44, .iadd, 1, 0), (45, .iload 5, 2, 5), (47, .aload_n 0, 1, 0), (48, .getfield 57, 3, 806), (51, .iload 6, 2, 6), (53, .iadd, 1, 0), (54, .invokestatic 100, 3, 0), (57, .istore 7, 2, 7), (59, .aload_n 0, 1, 0), (60, .iload_n 1, 1, 1), (61, .invokevirtual 89, 3, 0), (64, .iload 7, 2, 7), (66, .aload_n 0, 1, 0), (67, .iload_n 1, 1, 1), (68, .invokevirtual 105, 3, 0), (71, .invokestatic 108, 3, 0), (74, .istore 8, 2, 8), (76, .iload 8, 2, 8), (78, .aload_n 0, 1, 0), (79, .getfield 18, 3, 801), (82, .aload_n 0, 1, 0), (83, .getfield 22, 3, 802), (86, .iload_n 1, 1, 1), (87, .iaload, 1, 0), (88, .iaload, 1, 0), (89, .ishr, 1, 0), (90, .iconst 1, 1, 0), (91, .iand, 1, 0), (92, .iload 4, 2, 4), (94, .if_icmp .eq 5, 3, 99), (97, .iconst 0, 1, 0), (98, .ireturn, 1, 0), (99, .iconst 0, 1, 0), (100, .iload 5, 2, 5), (102, .iconst 1, 1, 0), (103, .isub, 1, 0), (104, .invokestatic 142, 3, 1002), (107, .istore 5, 2, 5), (109, .iinc 6 1, 3, 6), (112, .goto (-103), 3, 9), (115, .iconst 1, 1, 0), (116, .ireturn, 1, 0)]
theorem rc_X8_staysSo_ok : rf_rc mX8_staysSo rc_X8_staysSo = true := by decide +kernel
theorem mw_X8_staysSo : rf_mw mX8_staysSo := ⟨rf_mt_ok _ (List.mem_of_getElem? (i := 73) rfl), fun h => absurd h (by decide), fun _ => ⟨rf_mi_ok _ (List.mem_of_getElem? (i := 68) rfl), rf_mv_ok _ (List.mem_of_getElem? (i := 68) rfl)⟩, rf_mq_2 _ (List.mem_of_getElem? (i := 23) rfl)⟩
def f_X8_staysSo_j28 (l1 : Int32) (l2 : Int32) (l3 : Int32) (l4 : Int32) (l5 : Int32) (l6 : Int32) (σ : rf_S) : Option ((Int32 × Int32) ⊕ ((Unit) ⊕ Int32)) := (f_X8_kindOf l1 σ).bind (fun q3 => (f_X8_markOf l1 σ).bind (fun q5 => if rf_ck ly0 0 36 l1 = true then ((f_X8_feeling q3 (q5 + (σ.1 36 l1.toNatClampNeg)) l5 ((σ.1 25 6) + l6) σ).bind (fun q8 => (f_X8_kindOf l1 σ).bind (fun q10 => (f_X8_widthOf l1 σ).bind (fun q12 => (f_X8_doingBy q10 q8 q12 σ).bind (fun q14 => if rf_ck ly0 0 34 l1 = true then (if rf_ck ly0 0 33 (σ.1 34 l1.toNatClampNeg) = true then (if ((q14 >>> ((σ.1 33 (σ.1 34 l1.toNatClampNeg).toNatClampNeg) &&& 31)) &&& 1) = l4 then (some (.inl ((if 0 < (l5 - 1) then (l5 - 1) else 0), (l6 + 1)))) else (some (.inr (.inr 0)))) else none) else none))))) else none))
set_option maxHeartbeats 2000000 in
theorem ok_X8_staysSo_j28 (d : Nat) (l1 : Int32) (l2 : Int32) (l3 : Int32) (l4 : Int32) (l5 : Int32) (l6 : Int32) (σ : rf_S) (o : ((Int32 × Int32) ⊕ ((Unit) ⊕ Int32))) (h : f_X8_staysSo_j28 l1 l2 l3 l4 l5 l6 σ = some o) {r : Option Value} {σr : rf_S} (kl : ∀ s', o = .inl s' → rf_G ly0 (d + 1) mX8_staysSo (9, [some (.ref 25), some (.int l1), some (.int l2), some (.int l3), some (.int l4), some (.int s'.1), some (.int s'.2), none, none], [], σ) r σr) (kx : ∀ e, o = .inr (.inl e) → rf_G ly0 (d + 1) mX8_staysSo (115, [none, none, none, none, none, none, none, none, none], [], σ) r σr) (kr : ∀ q : Int32, o = .inr (.inr q) → r = (some (.int q) : Option Value) ∧ σr = σ) : rf_G ly0 (d + 1) mX8_staysSo (28, [some (.ref 25), some (.int l1), some (.int l2), some (.int l3), some (.int l4), some (.int l5), some (.int l6), none, none], [], σ) r σr := by
  unfold f_X8_staysSo_j28 at h
  refine rf_b wf0 rc_X8_staysSo_ok 17 2 (30, [some (.ref 25), some (.int l1), some (.int l2), some (.int l3), some (.int l4), some (.int l5), some (.int l6), none, none], [.int l1, .ref 25], σ) rfl ?_
  obtain ⟨q3, h4, h⟩ := Option.bind_eq_some_iff.mp h
  refine rf_cv1 (Mt := mX8_kindOf) wf0 rc_X8_staysSo_ok 19 false rfl (List.mem_of_getElem? (i := 47) rfl) mw_X8_kindOf rfl 25 [.int l1] [] rfl rfl rfl (Nat.le_of_ble_eq_true rfl) (ok_X8_kindOf d l1 σ q3 h4) ?_
  show rf_G _ _ _ (33, [some (.ref 25), some (.int l1), some (.int l2), some (.int l3), some (.int l4), some (.int l5), some (.int l6), none, none], [.int q3], σ) _ _
  refine rf_b wf0 rc_X8_staysSo_ok 20 2 (35, [some (.ref 25), some (.int l1), some (.int l2), some (.int l3), some (.int l4), some (.int l5), some (.int l6), none, none], [.int l1, .ref 25, .int q3], σ) rfl ?_
  obtain ⟨q5, h6, h⟩ := Option.bind_eq_some_iff.mp h
  refine rf_cv1 (Mt := mX8_markOf) wf0 rc_X8_staysSo_ok 22 false rfl (List.mem_of_getElem? (i := 49) rfl) mw_X8_markOf rfl 25 [.int l1] [.int q3] rfl rfl rfl (Nat.le_of_ble_eq_true rfl) (ok_X8_markOf d l1 σ q5 h6) ?_
  show rf_G _ _ _ (38, [some (.ref 25), some (.int l1), some (.int l2), some (.int l3), some (.int l4), some (.int l5), some (.int l6), none, none], [.int q5, .int q3], σ) _ _
  refine rf_b wf0 rc_X8_staysSo_ok 23 3 (43, [some (.ref 25), some (.int l1), some (.int l2), some (.int l3), some (.int l4), some (.int l5), some (.int l6), none, none], [.int l1, .ref 36, .int q5, .int q3], σ) rfl ?_
  obtain ⟨g7, h⟩ := rf_ifn h
  refine rf_gd wf0 rc_X8_staysSo_ok 26 (44, [some (.ref 25), some (.int l1), some (.int l2), some (.int l3), some (.int l4), some (.int l5), some (.int l6), none, none], [.int (σ.1 36 l1.toNatClampNeg), .int q5, .int q3], σ) rfl rfl g7 rfl ?_
  refine rf_b wf0 rc_X8_staysSo_ok 27 6 (54, [some (.ref 25), some (.int l1), some (.int l2), some (.int l3), some (.int l4), some (.int l5), some (.int l6), none, none], [.int ((σ.1 25 6) + l6), .int l5, .int (q5 + (σ.1 36 l1.toNatClampNeg)), .int q3], σ) rfl ?_
  obtain ⟨q8, h9, h⟩ := Option.bind_eq_some_iff.mp h
  refine rf_cs1 (Mt := mX8_feeling) rc_X8_staysSo_ok 33 false rfl (List.mem_of_getElem? (i := 50) rfl) mw_X8_feeling rfl [.int q3, .int (q5 + (σ.1 36 l1.toNatClampNeg)), .int l5, .int ((σ.1 25 6) + l6)] [] rfl rfl (Nat.le_of_ble_eq_true rfl) (ok_X8_feeling d q3 (q5 + (σ.1 36 l1.toNatClampNeg)) l5 ((σ.1 25 6) + l6) σ q8 h9) ?_
  show rf_G _ _ _ (57, [some (.ref 25), some (.int l1), some (.int l2), some (.int l3), some (.int l4), some (.int l5), some (.int l6), none, none], [.int q8], σ) _ _
  refine rf_b wf0 rc_X8_staysSo_ok 34 3 (61, [some (.ref 25), some (.int l1), some (.int l2), some (.int l3), some (.int l4), some (.int l5), some (.int l6), some (.int q8), none], [.int l1, .ref 25], σ) rfl ?_
  obtain ⟨q10, h11, h⟩ := Option.bind_eq_some_iff.mp h
  refine rf_cv1 (Mt := mX8_kindOf) wf0 rc_X8_staysSo_ok 37 false rfl (List.mem_of_getElem? (i := 47) rfl) mw_X8_kindOf rfl 25 [.int l1] [] rfl rfl rfl (Nat.le_of_ble_eq_true rfl) (ok_X8_kindOf d l1 σ q10 h11) ?_
  show rf_G _ _ _ (64, [some (.ref 25), some (.int l1), some (.int l2), some (.int l3), some (.int l4), some (.int l5), some (.int l6), some (.int q8), none], [.int q10], σ) _ _
  refine rf_b wf0 rc_X8_staysSo_ok 38 3 (68, [some (.ref 25), some (.int l1), some (.int l2), some (.int l3), some (.int l4), some (.int l5), some (.int l6), some (.int q8), none], [.int l1, .ref 25, .int q8, .int q10], σ) rfl ?_
  obtain ⟨q12, h13, h⟩ := Option.bind_eq_some_iff.mp h
  refine rf_cv1 (Mt := mX8_widthOf) wf0 rc_X8_staysSo_ok 41 false rfl (List.mem_of_getElem? (i := 51) rfl) mw_X8_widthOf rfl 25 [.int l1] [.int q8, .int q10] rfl rfl rfl (Nat.le_of_ble_eq_true rfl) (ok_X8_widthOf d l1 σ q12 h13) ?_
  show rf_G _ _ _ (71, [some (.ref 25), some (.int l1), some (.int l2), some (.int l3), some (.int l4), some (.int l5), some (.int l6), some (.int q8), none], [.int q12, .int q8, .int q10], σ) _ _
  obtain ⟨q14, h15, h⟩ := Option.bind_eq_some_iff.mp h
  refine rf_cs1 (Mt := mX8_doingBy) rc_X8_staysSo_ok 42 false rfl (List.mem_of_getElem? (i := 52) rfl) mw_X8_doingBy rfl [.int q10, .int q8, .int q12] [] rfl rfl (Nat.le_of_ble_eq_true rfl) (ok_X8_doingBy d q10 q8 q12 σ q14 h15) ?_
  show rf_G _ _ _ (74, [some (.ref 25), some (.int l1), some (.int l2), some (.int l3), some (.int l4), some (.int l5), some (.int l6), some (.int q8), none], [.int q14], σ) _ _
  refine rf_b wf0 rc_X8_staysSo_ok 43 7 (87, [some (.ref 25), some (.int l1), some (.int l2), some (.int l3), some (.int l4), some (.int l5), some (.int l6), some (.int q8), some (.int q14)], [.int l1, .ref 34, .ref 33, .int q14], σ) rfl ?_
  obtain ⟨g16, h⟩ := rf_ifn h
  refine rf_gd wf0 rc_X8_staysSo_ok 50 (88, [some (.ref 25), some (.int l1), some (.int l2), some (.int l3), some (.int l4), some (.int l5), some (.int l6), some (.int q8), some (.int q14)], [.int (σ.1 34 l1.toNatClampNeg), .ref 33, .int q14], σ) rfl rfl g16 rfl ?_
  obtain ⟨g17, h⟩ := rf_ifn h
  refine rf_gd wf0 rc_X8_staysSo_ok 51 (89, [some (.ref 25), some (.int l1), some (.int l2), some (.int l3), some (.int l4), some (.int l5), some (.int l6), some (.int q8), some (.int q14)], [.int (σ.1 33 (σ.1 34 l1.toNatClampNeg).toNatClampNeg), .int q14], σ) rfl rfl g17 rfl ?_
  refine rf_b wf0 rc_X8_staysSo_ok 52 4 (94, [some (.ref 25), some (.int l1), some (.int l2), some (.int l3), some (.int l4), some (.int l5), some (.int l6), some (.int q8), some (.int q14)], [.int l4, .int ((q14 >>> ((σ.1 33 (σ.1 34 l1.toNatClampNeg).toNatClampNeg) &&& 31)) &&& 1)], σ) rfl ?_
  by_cases c18 : ((q14 >>> ((σ.1 33 (σ.1 34 l1.toNatClampNeg).toNatClampNeg) &&& 31)) &&& 1) = l4
  · rw [if_pos c18] at h
    refine rf_t wf0 rc_X8_staysSo_ok 56 (99, [some (.ref 25), some (.int l1), some (.int l2), some (.int l3), some (.int l4), some (.int l5), some (.int l6), some (.int q8), some (.int q14)], [], σ) rfl rfl c18 rfl ?_
    refine rf_b wf0 rc_X8_staysSo_ok 59 8 (9, [some (.ref 25), some (.int l1), some (.int l2), some (.int l3), some (.int l4), some (.int (if 0 < (l5 - 1) then (l5 - 1) else 0)), some (.int (l6 + 1)), some (.int q8), some (.int q14)], [], σ) rfl ?_
    refine rf_fg [true, true, true, true, true, true, true, false, false] [some (.ref 25), some (.int l1), some (.int l2), some (.int l3), some (.int l4), some (.int (if 0 < (l5 - 1) then (l5 - 1) else 0)), some (.int (l6 + 1)), none, none] rfl ?_
    exact kl ((if 0 < (l5 - 1) then (l5 - 1) else 0), (l6 + 1)) (Option.some.inj h).symm
  · rw [if_neg c18] at h
    refine rf_f wf0 rc_X8_staysSo_ok 56 (97, [some (.ref 25), some (.int l1), some (.int l2), some (.int l3), some (.int l4), some (.int l5), some (.int l6), some (.int q8), some (.int q14)], [], σ) rfl rfl c18 rfl ?_
    refine rf_b wf0 rc_X8_staysSo_ok 57 1 (98, [some (.ref 25), some (.int l1), some (.int l2), some (.int l3), some (.int l4), some (.int l5), some (.int l6), some (.int q8), some (.int q14)], [.int 0], σ) rfl ?_
    obtain ⟨e1, e2⟩ := kr 0 (Option.some.inj h).symm
    subst e1
    subst e2
    exact rf_rz rc_X8_staysSo_ok 58 rfl rfl (by decide)
def f_X8_staysSo_b9 (l1 : Int32) (l2 : Int32) (l3 : Int32) (l4 : Int32) (σ : rf_S) (s9 : Int32 × Int32) : Option ((Int32 × Int32) ⊕ ((Unit) ⊕ Int32)) := if l2 ≤ s9.2 then (some (.inr (.inl ()))) else (if ((l3 >>> (s9.2 &&& 31)) &&& 1) ≠ 1 then (f_X8_staysSo_j28 l1 l2 l3 l4 s9.1 s9.2 σ) else (f_X8_staysSo_j28 l1 l2 l3 l4 3 s9.2 σ))
set_option maxHeartbeats 2000000 in
theorem ok_X8_staysSo_b9 (d : Nat) (l1 : Int32) (l2 : Int32) (l3 : Int32) (l4 : Int32) (σ : rf_S) (s9 : Int32 × Int32) (o : ((Int32 × Int32) ⊕ ((Unit) ⊕ Int32))) (h : f_X8_staysSo_b9 l1 l2 l3 l4 σ s9 = some o) {r : Option Value} {σr : rf_S} (kl : ∀ s', o = .inl s' → rf_G ly0 (d + 1) mX8_staysSo (9, [some (.ref 25), some (.int l1), some (.int l2), some (.int l3), some (.int l4), some (.int s'.1), some (.int s'.2), none, none], [], σ) r σr) (kx : ∀ e, o = .inr (.inl e) → rf_G ly0 (d + 1) mX8_staysSo (115, [none, none, none, none, none, none, none, none, none], [], σ) r σr) (kr : ∀ q : Int32, o = .inr (.inr q) → r = (some (.int q) : Option Value) ∧ σr = σ) : rf_G ly0 (d + 1) mX8_staysSo (9, [some (.ref 25), some (.int l1), some (.int l2), some (.int l3), some (.int l4), some (.int s9.1), some (.int s9.2), none, none], [], σ) r σr := by
  unfold f_X8_staysSo_b9 at h
  refine rf_b wf0 rc_X8_staysSo_ok 5 2 (12, [some (.ref 25), some (.int l1), some (.int l2), some (.int l3), some (.int l4), some (.int s9.1), some (.int s9.2), none, none], [.int l2, .int s9.2], σ) rfl ?_
  by_cases c1 : l2 ≤ s9.2
  · rw [if_pos c1] at h
    refine rf_t wf0 rc_X8_staysSo_ok 7 (115, [some (.ref 25), some (.int l1), some (.int l2), some (.int l3), some (.int l4), some (.int s9.1), some (.int s9.2), none, none], [], σ) rfl rfl c1 rfl ?_
    refine rf_fg [false, false, false, false, false, false, false, true, true] [none, none, none, none, none, none, none, none, none] rfl ?_
    exact kx () (Option.some.inj h).symm
  · rw [if_neg c1] at h
    refine rf_f wf0 rc_X8_staysSo_ok 7 (15, [some (.ref 25), some (.int l1), some (.int l2), some (.int l3), some (.int l4), some (.int s9.1), some (.int s9.2), none, none], [], σ) rfl rfl c1 rfl ?_
    refine rf_b wf0 rc_X8_staysSo_ok 8 6 (22, [some (.ref 25), some (.int l1), some (.int l2), some (.int l3), some (.int l4), some (.int s9.1), some (.int s9.2), none, none], [.int 1, .int ((l3 >>> (s9.2 &&& 31)) &&& 1)], σ) rfl ?_
    by_cases c2 : ((l3 >>> (s9.2 &&& 31)) &&& 1) ≠ 1
    · rw [if_pos c2] at h
      refine rf_t wf0 rc_X8_staysSo_ok 14 (28, [some (.ref 25), some (.int l1), some (.int l2), some (.int l3), some (.int l4), some (.int s9.1), some (.int s9.2), none, none], [], σ) rfl rfl c2 rfl ?_
      exact ok_X8_staysSo_j28 d l1 l2 l3 l4 s9.1 s9.2 σ o h kl kx kr
    · rw [if_neg c2] at h
      refine rf_f wf0 rc_X8_staysSo_ok 14 (25, [some (.ref 25), some (.int l1), some (.int l2), some (.int l3), some (.int l4), some (.int s9.1), some (.int s9.2), none, none], [], σ) rfl rfl c2 rfl ?_
      refine rf_b wf0 rc_X8_staysSo_ok 15 2 (28, [some (.ref 25), some (.int l1), some (.int l2), some (.int l3), some (.int l4), some (.int 3), some (.int s9.2), none, none], [], σ) rfl ?_
      exact ok_X8_staysSo_j28 d l1 l2 l3 l4 3 s9.2 σ o h kl kx kr
def f_X8_staysSo (p0 : Int32) (p1 : Int32) (p2 : Int32) (p3 : Int32) (σ : rf_S) : Option Int32 := (rf_lp (f_X8_staysSo_b9 p0 p1 p2 p3 σ) 5000 ((σ.1 25 7), 0)).bind (fun e19 => Sum.elim (fun z21 => some 1) (fun y22 => some y22) e19)
set_option maxHeartbeats 2000000 in
theorem ok_X8_staysSo (d : Nat) (p0 : Int32) (p1 : Int32) (p2 : Int32) (p3 : Int32) (σ : rf_S) (q : Int32) (h : f_X8_staysSo p0 p1 p2 p3 σ = some q) : rf_Ex ly0 (d + 2) mX8_staysSo [.ref 25, .int p0, .int p1, .int p2, .int p3] σ (some (.int q) : Option Value) σ := by
  unfold f_X8_staysSo at h
  refine rf_ex mw_X8_staysSo [some (.ref 25), some (.int p0), some (.int p1), some (.int p2), some (.int p3), none, none, none, none] (Nat.le_of_ble_eq_true rfl) rfl ?_
  refine rf_b wf0 rc_X8_staysSo_ok 0 5 (9, [some (.ref 25), some (.int p0), some (.int p1), some (.int p2), some (.int p3), some (.int (σ.1 25 7)), some (.int 0), none, none], [], σ) rfl ?_
  obtain ⟨e19, h20, h⟩ := Option.bind_eq_some_iff.mp h
  refine rf_lpG (b := f_X8_staysSo_b9 p0 p1 p2 p3 σ) (G := fun (s9 : Int32 × Int32) => rf_G ly0 (d + 1) mX8_staysSo (9, [some (.ref 25), some (.int p0), some (.int p1), some (.int p2), some (.int p3), some (.int s9.1), some (.int s9.2), none, none], [], σ) (some (.int q) : Option Value) σ) (K := fun (e : ((Unit) ⊕ Int32)) => (∀ z, e = .inl z → rf_G ly0 (d + 1) mX8_staysSo (115, [none, none, none, none, none, none, none, none, none], [], σ) (some (.int q) : Option Value) σ) ∧ (∀ y0 : Int32, e = .inr y0 → (some (.int q) : Option Value) = (some (.int y0) : Option Value) ∧ σ = σ)) (fun (s9 : Int32 × Int32) (o : (Int32 × Int32) ⊕ ((Unit) ⊕ Int32)) hb kl kx => ok_X8_staysSo_b9 d p0 p1 p2 p3 σ s9 o hb kl (fun e he => (kx _ he).1 e rfl) (fun q hq => (kx _ hq).2 q rfl)) 5000 ((σ.1 25 7), 0) e19 h20 ⟨?_, ?_⟩
  · intro z21 hz
    subst hz
    simp only [Sum.elim_inl] at h
    refine rf_b wf0 rc_X8_staysSo_ok 67 1 (116, [none, none, none, none, none, none, none, none, none], [.int 1], σ) rfl ?_
    obtain rfl := Option.some.inj h
    exact rf_rz rc_X8_staysSo_ok 68 rfl rfl (by decide)
  · intro y22 hz
    subst hz
    simp only [Sum.elim_inr] at h
    obtain rfl := Option.some.inj h
    exact ⟨rfl, rfl⟩
def rc_X9_isRow : List rf_E := [(0, .iload_n 0, 1, 0), (1, .ifCond .lt 13, 3, 14), (4, .iload_n 0, 1, 0), (5, .bipush 6, 2, 0), (7, .if_icmp .ge 7, 3, 14), (10, .iconst 1, 1, 0), (11, .goto 4, 3, 15), (14, .iconst 0, 1, 0), (15, .ireturn, 1, 0)]
theorem rc_X9_isRow_ok : rf_rc mX9_isRow rc_X9_isRow = true := by decide +kernel
theorem mw_X9_isRow : rf_mw mX9_isRow := ⟨rf_mt_ok _ (List.mem_of_getElem? (i := 125) rfl), fun _ => rf_ms_ok _ (List.mem_of_getElem? (i := 5) rfl), fun h => absurd h (by decide), rf_mq_5 _ (List.mem_of_getElem? (i := 0) rfl)⟩
def f_X9_isRow (p0 : Int32) (σ : rf_S) : Option Int32 := if p0 < 0 then (some 0) else (if 6 ≤ p0 then (some 0) else (some 1))
set_option maxHeartbeats 2000000 in
theorem ok_X9_isRow (d : Nat) (p0 : Int32) (σ : rf_S) (q : Int32) (h : f_X9_isRow p0 σ = some q) : rf_Ex ly0 (d + 1) mX9_isRow [.int p0] σ (some (.int q) : Option Value) σ := by
  unfold f_X9_isRow at h
  refine rf_ex mw_X9_isRow [some (.int p0)] (Nat.le_of_ble_eq_true rfl) rfl ?_
  refine rf_b wf0 rc_X9_isRow_ok 0 1 (1, [some (.int p0)], [.int p0], σ) rfl ?_
  by_cases c1 : p0 < 0
  · rw [if_pos c1] at h
    refine rf_t wf0 rc_X9_isRow_ok 1 (14, [some (.int p0)], [], σ) rfl rfl c1 rfl ?_
    refine rf_b wf0 rc_X9_isRow_ok 7 1 (15, [some (.int p0)], [.int 0], σ) rfl ?_
    obtain rfl := Option.some.inj h
    exact rf_rz rc_X9_isRow_ok 8 rfl rfl (by decide)
  · rw [if_neg c1] at h
    refine rf_f wf0 rc_X9_isRow_ok 1 (4, [some (.int p0)], [], σ) rfl rfl c1 rfl ?_
    refine rf_b wf0 rc_X9_isRow_ok 2 2 (7, [some (.int p0)], [.int 6, .int p0], σ) rfl ?_
    by_cases c2 : 6 ≤ p0
    · rw [if_pos c2] at h
      refine rf_t wf0 rc_X9_isRow_ok 4 (14, [some (.int p0)], [], σ) rfl rfl c2 rfl ?_
      refine rf_b wf0 rc_X9_isRow_ok 7 1 (15, [some (.int p0)], [.int 0], σ) rfl ?_
      obtain rfl := Option.some.inj h
      exact rf_rz rc_X9_isRow_ok 8 rfl rfl (by decide)
    · rw [if_neg c2] at h
      refine rf_f wf0 rc_X9_isRow_ok 4 (10, [some (.int p0)], [], σ) rfl rfl c2 rfl ?_
      refine rf_b wf0 rc_X9_isRow_ok 5 2 (15, [some (.int p0)], [.int 1], σ) rfl ?_
      obtain rfl := Option.some.inj h
      exact rf_rz rc_X9_isRow_ok 8 rfl rfl (by decide)
def rc_X9_find : List rf_E := [(0, .aload_n 0, 1, 0), (1, .iload_n 1, 1, 1), (2, .putfield 362, 3, 909), (5, .aload_n 0, 1, 0), (6, .getfield 65, 3, 908), (9, .iload_n 1, 1, 1), (10, .dup2, 1, 0), (11, .iaload, 1, 0), (12, .iconst 1, 1, 0), (13, .iadd, 1, 0), (14, .iastore, 1, 0), (15, .bipush (-3), 2, 0), (17, .ireturn, 1, 0)]
theorem rc_X9_find_ok : rf_rc mX9_find rc_X9_find = true := by decide +kernel
theorem mw_X9_find : rf_mw mX9_find := ⟨rf_mt_ok _ (List.mem_of_getElem? (i := 124) rfl), fun h => absurd h (by decide), fun _ => ⟨rf_mi_ok _ (List.mem_of_getElem? (i := 119) rfl), rf_mv_ok _ (List.mem_of_getElem? (i := 119) rfl)⟩, rf_mq_4 _ (List.mem_of_getElem? (i := 24) rfl)⟩
def f_X9_find (p0 : Int32) (σ : rf_S) : Option (Int32 × rf_S) := if rf_ck ly0 0 54 p0 = true then (if rf_ck ly0 0 54 p0 = true then ((some (rf_sI (rf_sI σ 0 9 p0) 54 p0.toNatClampNeg (((rf_sI σ 0 9 p0).1 54 p0.toNatClampNeg) + 1))).bind (fun σ3 => some ((-3), σ3))) else none) else none
set_option maxHeartbeats 2000000 in
theorem ok_X9_find (d : Nat) (p0 : Int32) (σ : rf_S) (q : (Int32 × rf_S)) (h : f_X9_find p0 σ = some q) : rf_Ex ly0 (d + 1) mX9_find [.ref 0, .int p0] σ (some (.int q.1) : Option Value) q.2 := by
  unfold f_X9_find at h
  refine rf_ex mw_X9_find [some (.ref 0), some (.int p0)] (Nat.le_of_ble_eq_true rfl) rfl ?_
  refine rf_b wf0 rc_X9_find_ok 0 7 (11, [some (.ref 0), some (.int p0)], [.int p0, .ref 54, .int p0, .ref 54], (rf_sI σ 0 9 p0)) rfl ?_
  obtain ⟨g1, h⟩ := rf_ifn h
  refine rf_gd wf0 rc_X9_find_ok 7 (12, [some (.ref 0), some (.int p0)], [.int ((rf_sI σ 0 9 p0).1 54 p0.toNatClampNeg), .int p0, .ref 54], (rf_sI σ 0 9 p0)) rfl rfl g1 rfl ?_
  refine rf_b wf0 rc_X9_find_ok 8 2 (14, [some (.ref 0), some (.int p0)], [.int (((rf_sI σ 0 9 p0).1 54 p0.toNatClampNeg) + 1), .int p0, .ref 54], (rf_sI σ 0 9 p0)) rfl ?_
  obtain ⟨g2, h⟩ := rf_ifn h
  refine rf_gd wf0 rc_X9_find_ok 10 (15, [some (.ref 0), some (.int p0)], [], (rf_sI (rf_sI σ 0 9 p0) 54 p0.toNatClampNeg (((rf_sI σ 0 9 p0).1 54 p0.toNatClampNeg) + 1))) rfl rfl g2 rfl ?_
  obtain ⟨σ3, h4, h⟩ := Option.bind_eq_some_iff.mp h
  refine rf_sgb (Option.some.inj h4) ?_
  refine rf_b wf0 rc_X9_find_ok 11 1 (17, [some (.ref 0), some (.int p0)], [.int (-3)], σ3) rfl ?_
  obtain rfl := Option.some.inj h
  exact rf_ri rc_X9_find_ok 12 rfl rfl
def rc_X9_row : List rf_E := [(0, .iload_n 1, 1, 1), (1, .invokestatic 69, 3, 0), (4, .ifCond .eq 9, 3, 13), (7, .iload_n 2, 1, 2), (8, .bipush 40, 2, 0), (10, .if_icmp .le 5, 3, 15), (13, .iconst (-1), 1, 0), (14, .ireturn, 1, 0), (15, .iload_n 2, 1, 2), (16, .ifCond .ge 9, 3, 25), (19, .aload_n 0, 1, 0), (20, .iconst 5, 1, 0), (21, .invokevirtual 73, 3, 0), (24, .ireturn, 1, 0), (25, .aload_n 0, 1, 0), (26, .getfield 10, 3, 900), (29, .iload_n 1, 1, 1), (30, .iload_n 2, 1, 2), (31, .invokevirtual 77, 3, 0), (34, .iload_n 2, 1, 2), (35, .ireturn, 1, 0)]
theorem rc_X9_row_ok : rf_rc mX9_row rc_X9_row = true := by decide +kernel
theorem mw_X9_row : rf_mw mX9_row := ⟨rf_mt_ok _ (List.mem_of_getElem? (i := 75) rfl), fun h => absurd h (by decide), fun _ => ⟨rf_mi_ok _ (List.mem_of_getElem? (i := 70) rfl), rf_mv_ok _ (List.mem_of_getElem? (i := 70) rfl)⟩, rf_mq_3 _ (List.mem_of_getElem? (i := 0) rfl)⟩
def f_X9_row (p0 : Int32) (p1 : Int32) (σ : rf_S) : Option (Int32 × rf_S) := (f_X9_isRow p0 σ).bind (fun q1 => if q1 = 0 then (some ((-1), σ)) else (if p1 ≤ 40 then (if 0 ≤ p1 then ((f_X4_make p0 p1 σ).bind (fun q6 => some (p1, q6))) else ((f_X9_find 5 σ).bind (fun q8 => some (q8.1, q8.2)))) else (some ((-1), σ))))
set_option maxHeartbeats 2000000 in
theorem ok_X9_row (d : Nat) (p0 : Int32) (p1 : Int32) (σ : rf_S) (q : (Int32 × rf_S)) (h : f_X9_row p0 p1 σ = some q) : rf_Ex ly0 (d + 3) mX9_row [.ref 0, .int p0, .int p1] σ (some (.int q.1) : Option Value) q.2 := by
  unfold f_X9_row at h
  refine rf_ex mw_X9_row [some (.ref 0), some (.int p0), some (.int p1)] (Nat.le_of_ble_eq_true rfl) rfl ?_
  refine rf_b wf0 rc_X9_row_ok 0 1 (1, [some (.ref 0), some (.int p0), some (.int p1)], [.int p0], σ) rfl ?_
  obtain ⟨q1, h2, h⟩ := Option.bind_eq_some_iff.mp h
  refine rf_cs1 (Mt := mX9_isRow) rc_X9_row_ok 1 false rfl (List.mem_of_getElem? (i := 63) rfl) mw_X9_isRow rfl [.int p0] [] rfl rfl (Nat.le_of_ble_eq_true rfl) (ok_X9_isRow (d + 1) p0 σ q1 h2) ?_
  show rf_G _ _ _ (4, [some (.ref 0), some (.int p0), some (.int p1)], [.int q1], σ) _ _
  by_cases c3 : q1 = 0
  · rw [if_pos c3] at h
    refine rf_t wf0 rc_X9_row_ok 2 (13, [some (.ref 0), some (.int p0), some (.int p1)], [], σ) rfl rfl c3 rfl ?_
    refine rf_b wf0 rc_X9_row_ok 6 1 (14, [some (.ref 0), some (.int p0), some (.int p1)], [.int (-1)], σ) rfl ?_
    obtain rfl := Option.some.inj h
    exact rf_ri rc_X9_row_ok 7 rfl rfl
  · rw [if_neg c3] at h
    refine rf_f wf0 rc_X9_row_ok 2 (7, [some (.ref 0), some (.int p0), some (.int p1)], [], σ) rfl rfl c3 rfl ?_
    refine rf_b wf0 rc_X9_row_ok 3 2 (10, [some (.ref 0), some (.int p0), some (.int p1)], [.int 40, .int p1], σ) rfl ?_
    by_cases c4 : p1 ≤ 40
    · rw [if_pos c4] at h
      refine rf_t wf0 rc_X9_row_ok 5 (15, [some (.ref 0), some (.int p0), some (.int p1)], [], σ) rfl rfl c4 rfl ?_
      refine rf_b wf0 rc_X9_row_ok 8 1 (16, [some (.ref 0), some (.int p0), some (.int p1)], [.int p1], σ) rfl ?_
      by_cases c5 : 0 ≤ p1
      · rw [if_pos c5] at h
        refine rf_t wf0 rc_X9_row_ok 9 (25, [some (.ref 0), some (.int p0), some (.int p1)], [], σ) rfl rfl c5 rfl ?_
        refine rf_b wf0 rc_X9_row_ok 14 4 (31, [some (.ref 0), some (.int p0), some (.int p1)], [.int p1, .int p0, .ref 1], σ) rfl ?_
        obtain ⟨q6, h7, h⟩ := Option.bind_eq_some_iff.mp h
        refine rf_cv1 (Mt := mX4_make) wf0 rc_X9_row_ok 18 false rfl (List.mem_of_getElem? (i := 65) rfl) mw_X4_make rfl 1 [.int p0, .int p1] [] rfl rfl rfl (Nat.le_of_ble_eq_true rfl) (ok_X4_make d p0 p1 σ q6 h7) ?_
        show rf_G _ _ _ (34, [some (.ref 0), some (.int p0), some (.int p1)], [], q6) _ _
        refine rf_b wf0 rc_X9_row_ok 19 1 (35, [some (.ref 0), some (.int p0), some (.int p1)], [.int p1], q6) rfl ?_
        obtain rfl := Option.some.inj h
        exact rf_ri rc_X9_row_ok 20 rfl rfl
      · rw [if_neg c5] at h
        refine rf_f wf0 rc_X9_row_ok 9 (19, [some (.ref 0), some (.int p0), some (.int p1)], [], σ) rfl rfl c5 rfl ?_
        refine rf_b wf0 rc_X9_row_ok 10 2 (21, [some (.ref 0), some (.int p0), some (.int p1)], [.int 5, .ref 0], σ) rfl ?_
        obtain ⟨q8, h9, h⟩ := Option.bind_eq_some_iff.mp h
        refine rf_cv1 (Mt := mX9_find) wf0 rc_X9_row_ok 12 false rfl (List.mem_of_getElem? (i := 64) rfl) mw_X9_find rfl 0 [.int 5] [] rfl rfl rfl (Nat.le_of_ble_eq_true rfl) (ok_X9_find (d + 1) 5 σ q8 h9) ?_
        show rf_G _ _ _ (24, [some (.ref 0), some (.int p0), some (.int p1)], [.int q8.1], q8.2) _ _
        obtain rfl := Option.some.inj h
        exact rf_ri rc_X9_row_ok 13 rfl rfl
    · rw [if_neg c4] at h
      refine rf_f wf0 rc_X9_row_ok 5 (13, [some (.ref 0), some (.int p0), some (.int p1)], [], σ) rfl rfl c4 rfl ?_
      refine rf_b wf0 rc_X9_row_ok 6 1 (14, [some (.ref 0), some (.int p0), some (.int p1)], [.int (-1)], σ) rfl ?_
      obtain rfl := Option.some.inj h
      exact rf_ri rc_X9_row_ok 7 rfl rfl
def rc_X9_refusedRow : List rf_E := [(0, .iload_n 1, 1, 1), (1, .invokestatic 69, 3, 0), (4, .ifCond .ne 5, 3, 9), (7, .iconst (-1), 1, 0), (8, .ireturn, 1, 0), (9, .aload_n 0, 1, 0), (10, .getfield 10, 3, 900), (13, .iload_n 1, 1, 1), (14, .invokevirtual 103, 3, 0), (17, .ifCond .eq 11, 3, 28), (20, .aload_n 0, 1, 0), (21, .iconst 1, 1, 0), (22, .invokevirtual 73, 3, 0), (25, .goto 4, 3, 29), (28, .iconst 0, 1, 0), (29, .ireturn, 1, 0)]
theorem rc_X9_refusedRow_ok : rf_rc mX9_refusedRow rc_X9_refusedRow = true := by decide +kernel
theorem mw_X9_refusedRow : rf_mw mX9_refusedRow := ⟨rf_mt_ok _ (List.mem_of_getElem? (i := 132) rfl), fun h => absurd h (by decide), fun _ => ⟨rf_mi_ok _ (List.mem_of_getElem? (i := 123) rfl), rf_mv_ok _ (List.mem_of_getElem? (i := 123) rfl)⟩, rf_mq_5 _ (List.mem_of_getElem? (i := 7) rfl)⟩
def f_X9_refusedRow (p0 : Int32) (σ : rf_S) : Option (Int32 × rf_S) := (f_X9_isRow p0 σ).bind (fun q1 => if q1 ≠ 0 then ((f_X4_isMissing p0 σ).bind (fun q4 => if q4 = 0 then (some (0, σ)) else ((f_X9_find 1 σ).bind (fun q7 => some (q7.1, q7.2))))) else (some ((-1), σ)))
set_option maxHeartbeats 2000000 in
theorem ok_X9_refusedRow (d : Nat) (p0 : Int32) (σ : rf_S) (q : (Int32 × rf_S)) (h : f_X9_refusedRow p0 σ = some q) : rf_Ex ly0 (d + 2) mX9_refusedRow [.ref 0, .int p0] σ (some (.int q.1) : Option Value) q.2 := by
  unfold f_X9_refusedRow at h
  refine rf_ex mw_X9_refusedRow [some (.ref 0), some (.int p0)] (Nat.le_of_ble_eq_true rfl) rfl ?_
  refine rf_b wf0 rc_X9_refusedRow_ok 0 1 (1, [some (.ref 0), some (.int p0)], [.int p0], σ) rfl ?_
  obtain ⟨q1, h2, h⟩ := Option.bind_eq_some_iff.mp h
  refine rf_cs1 (Mt := mX9_isRow) rc_X9_refusedRow_ok 1 false rfl (List.mem_of_getElem? (i := 63) rfl) mw_X9_isRow rfl [.int p0] [] rfl rfl (Nat.le_of_ble_eq_true rfl) (ok_X9_isRow d p0 σ q1 h2) ?_
  show rf_G _ _ _ (4, [some (.ref 0), some (.int p0)], [.int q1], σ) _ _
  by_cases c3 : q1 ≠ 0
  · rw [if_pos c3] at h
    refine rf_t wf0 rc_X9_refusedRow_ok 2 (9, [some (.ref 0), some (.int p0)], [], σ) rfl rfl c3 rfl ?_
    refine rf_b wf0 rc_X9_refusedRow_ok 5 3 (14, [some (.ref 0), some (.int p0)], [.int p0, .ref 1], σ) rfl ?_
    obtain ⟨q4, h5, h⟩ := Option.bind_eq_some_iff.mp h
    refine rf_cv1 (Mt := mX4_isMissing) wf0 rc_X9_refusedRow_ok 8 false rfl (List.mem_of_getElem? (i := 71) rfl) mw_X4_isMissing rfl 1 [.int p0] [] rfl rfl rfl (Nat.le_of_ble_eq_true rfl) (ok_X4_isMissing d p0 σ q4 h5) ?_
    show rf_G _ _ _ (17, [some (.ref 0), some (.int p0)], [.int q4], σ) _ _
    by_cases c6 : q4 = 0
    · rw [if_pos c6] at h
      refine rf_t wf0 rc_X9_refusedRow_ok 9 (28, [some (.ref 0), some (.int p0)], [], σ) rfl rfl c6 rfl ?_
      refine rf_b wf0 rc_X9_refusedRow_ok 14 1 (29, [some (.ref 0), some (.int p0)], [.int 0], σ) rfl ?_
      obtain rfl := Option.some.inj h
      exact rf_ri rc_X9_refusedRow_ok 15 rfl rfl
    · rw [if_neg c6] at h
      refine rf_f wf0 rc_X9_refusedRow_ok 9 (20, [some (.ref 0), some (.int p0)], [], σ) rfl rfl c6 rfl ?_
      refine rf_b wf0 rc_X9_refusedRow_ok 10 2 (22, [some (.ref 0), some (.int p0)], [.int 1, .ref 0], σ) rfl ?_
      obtain ⟨q7, h8, h⟩ := Option.bind_eq_some_iff.mp h
      refine rf_cv1 (Mt := mX9_find) wf0 rc_X9_refusedRow_ok 12 false rfl (List.mem_of_getElem? (i := 64) rfl) mw_X9_find rfl 0 [.int 1] [] rfl rfl rfl (Nat.le_of_ble_eq_true rfl) (ok_X9_find d 1 σ q7 h8) ?_
      show rf_G _ _ _ (25, [some (.ref 0), some (.int p0)], [.int q7.1], q7.2) _ _
      refine rf_b wf0 rc_X9_refusedRow_ok 13 1 (29, [some (.ref 0), some (.int p0)], [.int q7.1], q7.2) rfl ?_
      obtain rfl := Option.some.inj h
      exact rf_ri rc_X9_refusedRow_ok 15 rfl rfl
  · rw [if_neg c3] at h
    refine rf_f wf0 rc_X9_refusedRow_ok 2 (7, [some (.ref 0), some (.int p0)], [], σ) rfl rfl c3 rfl ?_
    refine rf_b wf0 rc_X9_refusedRow_ok 3 1 (8, [some (.ref 0), some (.int p0)], [.int (-1)], σ) rfl ?_
    obtain rfl := Option.some.inj h
    exact rf_ri rc_X9_refusedRow_ok 4 rfl rfl
def rc_X9_refusedPlace : List rf_E := [(0, .aload_n 0, 1, 0), (1, .iload_n 1, 1, 1), (2, .invokevirtual 96, 3, 0), (5, .istore_n 3, 1, 3), (6, .iload_n 3, 1, 3), (7, .ifCond .eq 5, 3, 12), (10, .iload_n 3, 1, 3), (11, .ireturn, 1, 0), (12, .aload_n 0, 1, 0), (13, .getfield 10, 3, 900), (16, .iload_n 1, 1, 1), (17, .iload_n 2, 1, 2), (18, .invokevirtual 386, 3, 0), (21, .ifCond .eq 7, 3, 28), (24, .iconst 0, 1, 0), (25, .goto 8, 3, 33), (28, .aload_n 0, 1, 0), (29, .iconst 2, 1, 0), (30, .invokevirtual 73, 3, 0), (33, .ireturn, 1, 0)]
theorem rc_X9_refusedPlace_ok : rf_rc mX9_refusedPlace rc_X9_refusedPlace = true := by decide +kernel
theorem mw_X9_refusedPlace : rf_mw mX9_refusedPlace := ⟨rf_mt_ok _ (List.mem_of_getElem? (i := 133) rfl), fun h => absurd h (by decide), fun _ => ⟨rf_mi_ok _ (List.mem_of_getElem? (i := 124) rfl), rf_mv_ok _ (List.mem_of_getElem? (i := 124) rfl)⟩, rf_mq_5 _ (List.mem_of_getElem? (i := 8) rfl)⟩
def f_X9_refusedPlace (p0 : Int32) (p1 : Int32) (σ : rf_S) : Option (Int32 × rf_S) := (f_X9_refusedRow p0 σ).bind (fun q1 => if q1.1 = 0 then ((f_X4_has p0 p1 q1.2).bind (fun q4 => if q4 = 0 then ((f_X9_find 2 q1.2).bind (fun q7 => some (q7.1, q7.2))) else (some (0, q1.2)))) else (some (q1.1, q1.2)))
set_option maxHeartbeats 2000000 in
theorem ok_X9_refusedPlace (d : Nat) (p0 : Int32) (p1 : Int32) (σ : rf_S) (q : (Int32 × rf_S)) (h : f_X9_refusedPlace p0 p1 σ = some q) : rf_Ex ly0 (d + 3) mX9_refusedPlace [.ref 0, .int p0, .int p1] σ (some (.int q.1) : Option Value) q.2 := by
  unfold f_X9_refusedPlace at h
  refine rf_ex mw_X9_refusedPlace [some (.ref 0), some (.int p0), some (.int p1), none] (Nat.le_of_ble_eq_true rfl) rfl ?_
  refine rf_b wf0 rc_X9_refusedPlace_ok 0 2 (2, [some (.ref 0), some (.int p0), some (.int p1), none], [.int p0, .ref 0], σ) rfl ?_
  obtain ⟨q1, h2, h⟩ := Option.bind_eq_some_iff.mp h
  refine rf_cv1 (Mt := mX9_refusedRow) wf0 rc_X9_refusedPlace_ok 2 false rfl (List.mem_of_getElem? (i := 69) rfl) mw_X9_refusedRow rfl 0 [.int p0] [] rfl rfl rfl (Nat.le_of_ble_eq_true rfl) (ok_X9_refusedRow d p0 σ q1 h2) ?_
  show rf_G _ _ _ (5, [some (.ref 0), some (.int p0), some (.int p1), none], [.int q1.1], q1.2) _ _
  refine rf_b wf0 rc_X9_refusedPlace_ok 3 2 (7, [some (.ref 0), some (.int p0), some (.int p1), some (.int q1.1)], [.int q1.1], q1.2) rfl ?_
  by_cases c3 : q1.1 = 0
  · rw [if_pos c3] at h
    refine rf_t wf0 rc_X9_refusedPlace_ok 5 (12, [some (.ref 0), some (.int p0), some (.int p1), some (.int q1.1)], [], q1.2) rfl rfl c3 rfl ?_
    refine rf_b wf0 rc_X9_refusedPlace_ok 8 4 (18, [some (.ref 0), some (.int p0), some (.int p1), some (.int q1.1)], [.int p1, .int p0, .ref 1], q1.2) rfl ?_
    obtain ⟨q4, h5, h⟩ := Option.bind_eq_some_iff.mp h
    refine rf_cv1 (Mt := mX4_has) wf0 rc_X9_refusedPlace_ok 12 false rfl (List.mem_of_getElem? (i := 137) rfl) mw_X4_has rfl 1 [.int p0, .int p1] [] rfl rfl rfl (Nat.le_of_ble_eq_true rfl) (ok_X4_has (d + 1) p0 p1 q1.2 q4 h5) ?_
    show rf_G _ _ _ (21, [some (.ref 0), some (.int p0), some (.int p1), some (.int q1.1)], [.int q4], q1.2) _ _
    by_cases c6 : q4 = 0
    · rw [if_pos c6] at h
      refine rf_t wf0 rc_X9_refusedPlace_ok 13 (28, [some (.ref 0), some (.int p0), some (.int p1), some (.int q1.1)], [], q1.2) rfl rfl c6 rfl ?_
      refine rf_b wf0 rc_X9_refusedPlace_ok 16 2 (30, [some (.ref 0), some (.int p0), some (.int p1), some (.int q1.1)], [.int 2, .ref 0], q1.2) rfl ?_
      obtain ⟨q7, h8, h⟩ := Option.bind_eq_some_iff.mp h
      refine rf_cv1 (Mt := mX9_find) wf0 rc_X9_refusedPlace_ok 18 false rfl (List.mem_of_getElem? (i := 64) rfl) mw_X9_find rfl 0 [.int 2] [] rfl rfl rfl (Nat.le_of_ble_eq_true rfl) (ok_X9_find (d + 1) 2 q1.2 q7 h8) ?_
      show rf_G _ _ _ (33, [some (.ref 0), some (.int p0), some (.int p1), some (.int q1.1)], [.int q7.1], q7.2) _ _
      obtain rfl := Option.some.inj h
      exact rf_ri rc_X9_refusedPlace_ok 19 rfl rfl
    · rw [if_neg c6] at h
      refine rf_f wf0 rc_X9_refusedPlace_ok 13 (24, [some (.ref 0), some (.int p0), some (.int p1), some (.int q1.1)], [], q1.2) rfl rfl c6 rfl ?_
      refine rf_b wf0 rc_X9_refusedPlace_ok 14 2 (33, [some (.ref 0), some (.int p0), some (.int p1), some (.int q1.1)], [.int 0], q1.2) rfl ?_
      obtain rfl := Option.some.inj h
      exact rf_ri rc_X9_refusedPlace_ok 19 rfl rfl
  · rw [if_neg c3] at h
    refine rf_f wf0 rc_X9_refusedPlace_ok 5 (10, [some (.ref 0), some (.int p0), some (.int p1), some (.int q1.1)], [], q1.2) rfl rfl c3 rfl ?_
    refine rf_b wf0 rc_X9_refusedPlace_ok 6 1 (11, [some (.ref 0), some (.int p0), some (.int p1), some (.int q1.1)], [.int q1.1], q1.2) rfl ?_
    obtain rfl := Option.some.inj h
    exact rf_ri rc_X9_refusedPlace_ok 7 rfl rfl
def rc_X9_lay : List rf_E := [(0, .aload_n 0, 1, 0), (1, .iload_n 1, 1, 1), (2, .iload_n 2, 1, 2), (3, .invokevirtual 81, 3, 0), (6, .istore 4, 2, 4), (8, .iload 4, 2, 4), (10, .ifCond .eq 6, 3, 16), (13, .iload 4, 2, 4), (15, .ireturn, 1, 0), (16, .aload_n 0, 1, 0), (17, .aload_n 0, 1, 0), (18, .getfield 10, 3, 900), (21, .iload_n 1, 1, 1), (22, .iload_n 2, 1, 2), (23, .invokevirtual 85, 3, 0), (26, .putfield 88, 3, 910), (29, .aload_n 0, 1, 0), (30, .getfield 10, 3, 900), (33, .iload_n 1, 1, 1), (34, .iload_n 2, 1, 2), (35, .iload_n 3, 1, 3), (36, .invokevirtual 92, 3, 0), (39, .iconst 1, 1, 0), (40, .ireturn, 1, 0)]
theorem rc_X9_lay_ok : rf_rc mX9_lay rc_X9_lay = true := by decide +kernel
theorem mw_X9_lay : rf_mw mX9_lay := ⟨rf_mt_ok _ (List.mem_of_getElem? (i := 76) rfl), fun h => absurd h (by decide), fun _ => ⟨rf_mi_ok _ (List.mem_of_getElem? (i := 71) rfl), rf_mv_ok _ (List.mem_of_getElem? (i := 71) rfl)⟩, rf_mq_3 _ (List.mem_of_getElem? (i := 1) rfl)⟩
def f_X9_lay (p0 : Int32) (p1 : Int32) (p2 : Int32) (σ : rf_S) : Option (Int32 × rf_S) := (f_X9_refusedPlace p0 p1 σ).bind (fun q1 => if q1.1 = 0 then ((f_X4_get p0 p1 q1.2).bind (fun q4 => (f_X4_set p0 p1 p2 (rf_sI q1.2 0 10 q4)).bind (fun q6 => some (1, q6)))) else (some (q1.1, q1.2)))
set_option maxHeartbeats 2000000 in
theorem ok_X9_lay (d : Nat) (p0 : Int32) (p1 : Int32) (p2 : Int32) (σ : rf_S) (q : (Int32 × rf_S)) (h : f_X9_lay p0 p1 p2 σ = some q) : rf_Ex ly0 (d + 4) mX9_lay [.ref 0, .int p0, .int p1, .int p2] σ (some (.int q.1) : Option Value) q.2 := by
  unfold f_X9_lay at h
  refine rf_ex mw_X9_lay [some (.ref 0), some (.int p0), some (.int p1), some (.int p2), none] (Nat.le_of_ble_eq_true rfl) rfl ?_
  refine rf_b wf0 rc_X9_lay_ok 0 3 (3, [some (.ref 0), some (.int p0), some (.int p1), some (.int p2), none], [.int p1, .int p0, .ref 0], σ) rfl ?_
  obtain ⟨q1, h2, h⟩ := Option.bind_eq_some_iff.mp h
  refine rf_cv1 (Mt := mX9_refusedPlace) wf0 rc_X9_lay_ok 3 false rfl (List.mem_of_getElem? (i := 66) rfl) mw_X9_refusedPlace rfl 0 [.int p0, .int p1] [] rfl rfl rfl (Nat.le_of_ble_eq_true rfl) (ok_X9_refusedPlace d p0 p1 σ q1 h2) ?_
  show rf_G _ _ _ (6, [some (.ref 0), some (.int p0), some (.int p1), some (.int p2), none], [.int q1.1], q1.2) _ _
  refine rf_b wf0 rc_X9_lay_ok 4 2 (10, [some (.ref 0), some (.int p0), some (.int p1), some (.int p2), some (.int q1.1)], [.int q1.1], q1.2) rfl ?_
  by_cases c3 : q1.1 = 0
  · rw [if_pos c3] at h
    refine rf_t wf0 rc_X9_lay_ok 6 (16, [some (.ref 0), some (.int p0), some (.int p1), some (.int p2), some (.int q1.1)], [], q1.2) rfl rfl c3 rfl ?_
    refine rf_b wf0 rc_X9_lay_ok 9 5 (23, [some (.ref 0), some (.int p0), some (.int p1), some (.int p2), some (.int q1.1)], [.int p1, .int p0, .ref 1, .ref 0], q1.2) rfl ?_
    obtain ⟨q4, h5, h⟩ := Option.bind_eq_some_iff.mp h
    refine rf_cv1 (Mt := mX4_get) wf0 rc_X9_lay_ok 14 false rfl (List.mem_of_getElem? (i := 67) rfl) mw_X4_get rfl 1 [.int p0, .int p1] [.ref 0] rfl rfl rfl (Nat.le_of_ble_eq_true rfl) (ok_X4_get (d + 2) p0 p1 q1.2 q4 h5) ?_
    show rf_G _ _ _ (26, [some (.ref 0), some (.int p0), some (.int p1), some (.int p2), some (.int q1.1)], [.int q4, .ref 0], q1.2) _ _
    refine rf_b wf0 rc_X9_lay_ok 15 6 (36, [some (.ref 0), some (.int p0), some (.int p1), some (.int p2), some (.int q1.1)], [.int p2, .int p1, .int p0, .ref 1], (rf_sI q1.2 0 10 q4)) rfl ?_
    obtain ⟨q6, h7, h⟩ := Option.bind_eq_some_iff.mp h
    refine rf_cv1 (Mt := mX4_set) wf0 rc_X9_lay_ok 21 false rfl (List.mem_of_getElem? (i := 68) rfl) mw_X4_set rfl 1 [.int p0, .int p1, .int p2] [] rfl rfl rfl (Nat.le_of_ble_eq_true rfl) (ok_X4_set (d + 2) p0 p1 p2 (rf_sI q1.2 0 10 q4) q6 h7) ?_
    show rf_G _ _ _ (39, [some (.ref 0), some (.int p0), some (.int p1), some (.int p2), some (.int q1.1)], [], q6) _ _
    refine rf_b wf0 rc_X9_lay_ok 22 1 (40, [some (.ref 0), some (.int p0), some (.int p1), some (.int p2), some (.int q1.1)], [.int 1], q6) rfl ?_
    obtain rfl := Option.some.inj h
    exact rf_ri rc_X9_lay_ok 23 rfl rfl
  · rw [if_neg c3] at h
    refine rf_f wf0 rc_X9_lay_ok 6 (13, [some (.ref 0), some (.int p0), some (.int p1), some (.int p2), some (.int q1.1)], [], q1.2) rfl rfl c3 rfl ?_
    refine rf_b wf0 rc_X9_lay_ok 7 1 (15, [some (.ref 0), some (.int p0), some (.int p1), some (.int p2), some (.int q1.1)], [.int q1.1], q1.2) rfl ?_
    obtain rfl := Option.some.inj h
    exact rf_ri rc_X9_lay_ok 8 rfl rfl
def rc_X9_at : List rf_E := [(0, .aload_n 0, 1, 0), (1, .iload_n 1, 1, 1), (2, .iload_n 2, 1, 2), (3, .invokevirtual 81, 3, 0), (6, .istore_n 3, 1, 3), (7, .iload_n 3, 1, 3), (8, .ifCond .eq 5, 3, 13), (11, .iload_n 3, 1, 3), (12, .ireturn, 1, 0), (13, .aload_n 0, 1, 0), (14, .aload_n 0, 1, 0), (15, .getfield 10, 3, 900), (18, .iload_n 1, 1, 1), (19, .iload_n 2, 1, 2), (20, .invokevirtual 85, 3, 0), (23, .putfield 88, 3, 910), (26, .iconst 1, 1, 0), (27, .ireturn, 1, 0)]
theorem rc_X9_at_ok : rf_rc mX9_at rc_X9_at = true := by decide +kernel
theorem mw_X9_at : rf_mw mX9_at := ⟨rf_mt_ok _ (List.mem_of_getElem? (i := 77) rfl), fun h => absurd h (by decide), fun _ => ⟨rf_mi_ok _ (List.mem_of_getElem? (i := 72) rfl), rf_mv_ok _ (List.mem_of_getElem? (i := 72) rfl)⟩, rf_mq_3 _ (List.mem_of_getElem? (i := 2) rfl)⟩
def f_X9_at (p0 : Int32) (p1 : Int32) (σ : rf_S) : Option (Int32 × rf_S) := (f_X9_refusedPlace p0 p1 σ).bind (fun q1 => if q1.1 = 0 then ((f_X4_get p0 p1 q1.2).bind (fun q4 => some (1, (rf_sI q1.2 0 10 q4)))) else (some (q1.1, q1.2)))
set_option maxHeartbeats 2000000 in
theorem ok_X9_at (d : Nat) (p0 : Int32) (p1 : Int32) (σ : rf_S) (q : (Int32 × rf_S)) (h : f_X9_at p0 p1 σ = some q) : rf_Ex ly0 (d + 4) mX9_at [.ref 0, .int p0, .int p1] σ (some (.int q.1) : Option Value) q.2 := by
  unfold f_X9_at at h
  refine rf_ex mw_X9_at [some (.ref 0), some (.int p0), some (.int p1), none] (Nat.le_of_ble_eq_true rfl) rfl ?_
  refine rf_b wf0 rc_X9_at_ok 0 3 (3, [some (.ref 0), some (.int p0), some (.int p1), none], [.int p1, .int p0, .ref 0], σ) rfl ?_
  obtain ⟨q1, h2, h⟩ := Option.bind_eq_some_iff.mp h
  refine rf_cv1 (Mt := mX9_refusedPlace) wf0 rc_X9_at_ok 3 false rfl (List.mem_of_getElem? (i := 66) rfl) mw_X9_refusedPlace rfl 0 [.int p0, .int p1] [] rfl rfl rfl (Nat.le_of_ble_eq_true rfl) (ok_X9_refusedPlace d p0 p1 σ q1 h2) ?_
  show rf_G _ _ _ (6, [some (.ref 0), some (.int p0), some (.int p1), none], [.int q1.1], q1.2) _ _
  refine rf_b wf0 rc_X9_at_ok 4 2 (8, [some (.ref 0), some (.int p0), some (.int p1), some (.int q1.1)], [.int q1.1], q1.2) rfl ?_
  by_cases c3 : q1.1 = 0
  · rw [if_pos c3] at h
    refine rf_t wf0 rc_X9_at_ok 6 (13, [some (.ref 0), some (.int p0), some (.int p1), some (.int q1.1)], [], q1.2) rfl rfl c3 rfl ?_
    refine rf_b wf0 rc_X9_at_ok 9 5 (20, [some (.ref 0), some (.int p0), some (.int p1), some (.int q1.1)], [.int p1, .int p0, .ref 1, .ref 0], q1.2) rfl ?_
    obtain ⟨q4, h5, h⟩ := Option.bind_eq_some_iff.mp h
    refine rf_cv1 (Mt := mX4_get) wf0 rc_X9_at_ok 14 false rfl (List.mem_of_getElem? (i := 67) rfl) mw_X4_get rfl 1 [.int p0, .int p1] [.ref 0] rfl rfl rfl (Nat.le_of_ble_eq_true rfl) (ok_X4_get (d + 2) p0 p1 q1.2 q4 h5) ?_
    show rf_G _ _ _ (23, [some (.ref 0), some (.int p0), some (.int p1), some (.int q1.1)], [.int q4, .ref 0], q1.2) _ _
    refine rf_b wf0 rc_X9_at_ok 15 2 (27, [some (.ref 0), some (.int p0), some (.int p1), some (.int q1.1)], [.int 1], (rf_sI q1.2 0 10 q4)) rfl ?_
    obtain rfl := Option.some.inj h
    exact rf_ri rc_X9_at_ok 17 rfl rfl
  · rw [if_neg c3] at h
    refine rf_f wf0 rc_X9_at_ok 6 (11, [some (.ref 0), some (.int p0), some (.int p1), some (.int q1.1)], [], q1.2) rfl rfl c3 rfl ?_
    refine rf_b wf0 rc_X9_at_ok 7 1 (12, [some (.ref 0), some (.int p0), some (.int p1), some (.int q1.1)], [.int q1.1], q1.2) rfl ?_
    obtain rfl := Option.some.inj h
    exact rf_ri rc_X9_at_ok 8 rfl rfl
def rc_X9_tear : List rf_E := [(0, .aload_n 0, 1, 0), (1, .iload_n 1, 1, 1), (2, .invokevirtual 96, 3, 0), (5, .istore_n 2, 1, 2), (6, .iload_n 2, 1, 2), (7, .ifCond .eq 5, 3, 12), (10, .iload_n 2, 1, 2), (11, .ireturn, 1, 0), (12, .aload_n 0, 1, 0), (13, .getfield 10, 3, 900), (16, .iload_n 1, 1, 1), (17, .invokevirtual 99, 3, 0), (20, .iconst 1, 1, 0), (21, .ireturn, 1, 0)]
theorem rc_X9_tear_ok : rf_rc mX9_tear rc_X9_tear = true := by decide +kernel
theorem mw_X9_tear : rf_mw mX9_tear := ⟨rf_mt_ok _ (List.mem_of_getElem? (i := 78) rfl), fun h => absurd h (by decide), fun _ => ⟨rf_mi_ok _ (List.mem_of_getElem? (i := 73) rfl), rf_mv_ok _ (List.mem_of_getElem? (i := 73) rfl)⟩, rf_mq_3 _ (List.mem_of_getElem? (i := 3) rfl)⟩
def f_X9_tear (p0 : Int32) (σ : rf_S) : Option (Int32 × rf_S) := (f_X9_refusedRow p0 σ).bind (fun q1 => if q1.1 = 0 then ((f_X4_remove p0 q1.2).bind (fun q4 => some (1, q4))) else (some (q1.1, q1.2)))
set_option maxHeartbeats 2000000 in
theorem ok_X9_tear (d : Nat) (p0 : Int32) (σ : rf_S) (q : (Int32 × rf_S)) (h : f_X9_tear p0 σ = some q) : rf_Ex ly0 (d + 3) mX9_tear [.ref 0, .int p0] σ (some (.int q.1) : Option Value) q.2 := by
  unfold f_X9_tear at h
  refine rf_ex mw_X9_tear [some (.ref 0), some (.int p0), none] (Nat.le_of_ble_eq_true rfl) rfl ?_
  refine rf_b wf0 rc_X9_tear_ok 0 2 (2, [some (.ref 0), some (.int p0), none], [.int p0, .ref 0], σ) rfl ?_
  obtain ⟨q1, h2, h⟩ := Option.bind_eq_some_iff.mp h
  refine rf_cv1 (Mt := mX9_refusedRow) wf0 rc_X9_tear_ok 2 false rfl (List.mem_of_getElem? (i := 69) rfl) mw_X9_refusedRow rfl 0 [.int p0] [] rfl rfl rfl (Nat.le_of_ble_eq_true rfl) (ok_X9_refusedRow d p0 σ q1 h2) ?_
  show rf_G _ _ _ (5, [some (.ref 0), some (.int p0), none], [.int q1.1], q1.2) _ _
  refine rf_b wf0 rc_X9_tear_ok 3 2 (7, [some (.ref 0), some (.int p0), some (.int q1.1)], [.int q1.1], q1.2) rfl ?_
  by_cases c3 : q1.1 = 0
  · rw [if_pos c3] at h
    refine rf_t wf0 rc_X9_tear_ok 5 (12, [some (.ref 0), some (.int p0), some (.int q1.1)], [], q1.2) rfl rfl c3 rfl ?_
    refine rf_b wf0 rc_X9_tear_ok 8 3 (17, [some (.ref 0), some (.int p0), some (.int q1.1)], [.int p0, .ref 1], q1.2) rfl ?_
    obtain ⟨q4, h5, h⟩ := Option.bind_eq_some_iff.mp h
    refine rf_cv1 (Mt := mX4_remove) wf0 rc_X9_tear_ok 11 false rfl (List.mem_of_getElem? (i := 70) rfl) mw_X4_remove rfl 1 [.int p0] [] rfl rfl rfl (Nat.le_of_ble_eq_true rfl) (ok_X4_remove (d + 1) p0 q1.2 q4 h5) ?_
    show rf_G _ _ _ (20, [some (.ref 0), some (.int p0), some (.int q1.1)], [], q4) _ _
    refine rf_b wf0 rc_X9_tear_ok 12 1 (21, [some (.ref 0), some (.int p0), some (.int q1.1)], [.int 1], q4) rfl ?_
    obtain rfl := Option.some.inj h
    exact rf_ri rc_X9_tear_ok 13 rfl rfl
  · rw [if_neg c3] at h
    refine rf_f wf0 rc_X9_tear_ok 5 (10, [some (.ref 0), some (.int p0), some (.int q1.1)], [], q1.2) rfl rfl c3 rfl ?_
    refine rf_b wf0 rc_X9_tear_ok 6 1 (11, [some (.ref 0), some (.int p0), some (.int q1.1)], [.int q1.1], q1.2) rfl ?_
    obtain rfl := Option.some.inj h
    exact rf_ri rc_X9_tear_ok 7 rfl rfl
def rc_X9_copy : List rf_E := [(0, .iload_n 1, 1, 1), (1, .invokestatic 69, 3, 0), (4, .ifCond .eq 10, 3, 14), (7, .iload_n 3, 1, 3), (8, .invokestatic 69, 3, 0), (11, .ifCond .ne 5, 3, 16), (14, .iconst (-1), 1, 0), (15, .ireturn, 1, 0), (16, .iload 5, 2, 5), (18, .ifCond .ge 9, 3, 27), (21, .aload_n 0, 1, 0), (22, .iconst 5, 1, 0), (23, .invokevirtual 73, 3, 0), (26, .ireturn, 1, 0), (27, .aload_n 0, 1, 0), (28, .getfield 10, 3, 900), (31, .iload_n 1, 1, 1), (32, .invokevirtual 103, 3, 0), (35, .ifCond .ne 14, 3, 49), (38, .aload_n 0, 1, 0), (39, .getfield 10, 3, 900), (42, .iload_n 3, 1, 3), (43, .invokevirtual 103, 3, 0), (46, .ifCond .eq 9, 3, 55), (49, .aload_n 0, 1, 0), (50, .iconst 1, 1, 0), (51, .invokevirtual 73, 3, 0), (54, .ireturn, 1, 0), (55, .aload_n 0, 1, 0), (56, .getfield 10, 3, 900), (59, .iload_n 1, 1, 1), (60, .iload_n 2, 1, 2), (61, .iload 5, 2, 5), (63, .invokevirtual 106, 3, 0), (66, .ifCond .eq 18, 3, 84), (69, .aload_n 0, 1, 0), (70, .getfield 10, 3, 900), (73, .iload_n 3, 1, 3), (74, .iload 4, 2, 4), (76, .iload 5, 2, 5), (78, .invokevirtual 106, 3, 0), (81, .ifCond .ne 9, 3, 90), (84, .aload_n 0, 1, 0), (85, .iconst 2, 1, 0), (86, .invokevirtual 73, 3, 0), (89, .ireturn, 1, 0), (90, .aload_n 0, 1, 0), (91, .getfield 10, 3, 900), (94, .iload_n 1, 1, 1), (95, .iload_n 2, 1, 2), (96, .iload_n 3, 1, 3), (97, .iload 4, 2, 4), (99, .iload 5, 2, 5), (101, .invokevirtual 110, 3, 0), (104, .iconst 1, 1, 0), (105, .ireturn, 1, 0)]
theorem rc_X9_copy_ok : rf_rc mX9_copy rc_X9_copy = true := by decide +kernel
theorem mw_X9_copy : rf_mw mX9_copy := ⟨rf_mt_ok _ (List.mem_of_getElem? (i := 79) rfl), fun h => absurd h (by decide), fun _ => ⟨rf_mi_ok _ (List.mem_of_getElem? (i := 74) rfl), rf_mv_ok _ (List.mem_of_getElem? (i := 74) rfl)⟩, rf_mq_3 _ (List.mem_of_getElem? (i := 4) rfl)⟩
def f_X9_copy_j49 (σ : rf_S) : Option (Int32 × rf_S) := (f_X9_find 1 σ).bind (fun q11 => some (q11.1, q11.2))
set_option maxHeartbeats 2000000 in
theorem ok_X9_copy_j49 (d : Nat) (σ : rf_S) (q : (Int32 × rf_S)) (h : f_X9_copy_j49 σ = some q) : rf_G ly0 (d + 1) mX9_copy (49, [some (.ref 0), none, none, none, none, none], [], σ) (some (.int q.1) : Option Value) q.2 := by
  unfold f_X9_copy_j49 at h
  refine rf_b wf0 rc_X9_copy_ok 24 2 (51, [some (.ref 0), none, none, none, none, none], [.int 1, .ref 0], σ) rfl ?_
  obtain ⟨q11, h12, h⟩ := Option.bind_eq_some_iff.mp h
  refine rf_cv1 (Mt := mX9_find) wf0 rc_X9_copy_ok 26 false rfl (List.mem_of_getElem? (i := 64) rfl) mw_X9_find rfl 0 [.int 1] [] rfl rfl rfl (Nat.le_of_ble_eq_true rfl) (ok_X9_find d 1 σ q11 h12) ?_
  show rf_G _ _ _ (54, [some (.ref 0), none, none, none, none, none], [.int q11.1], q11.2) _ _
  obtain rfl := Option.some.inj h
  exact rf_ri rc_X9_copy_ok 27 rfl rfl
def f_X9_copy_j84 (σ : rf_S) : Option (Int32 × rf_S) := (f_X9_find 2 σ).bind (fun q19 => some (q19.1, q19.2))
set_option maxHeartbeats 2000000 in
theorem ok_X9_copy_j84 (d : Nat) (σ : rf_S) (q : (Int32 × rf_S)) (h : f_X9_copy_j84 σ = some q) : rf_G ly0 (d + 1) mX9_copy (84, [some (.ref 0), none, none, none, none, none], [], σ) (some (.int q.1) : Option Value) q.2 := by
  unfold f_X9_copy_j84 at h
  refine rf_b wf0 rc_X9_copy_ok 42 2 (86, [some (.ref 0), none, none, none, none, none], [.int 2, .ref 0], σ) rfl ?_
  obtain ⟨q19, h20, h⟩ := Option.bind_eq_some_iff.mp h
  refine rf_cv1 (Mt := mX9_find) wf0 rc_X9_copy_ok 44 false rfl (List.mem_of_getElem? (i := 64) rfl) mw_X9_find rfl 0 [.int 2] [] rfl rfl rfl (Nat.le_of_ble_eq_true rfl) (ok_X9_find d 2 σ q19 h20) ?_
  show rf_G _ _ _ (89, [some (.ref 0), none, none, none, none, none], [.int q19.1], q19.2) _ _
  obtain rfl := Option.some.inj h
  exact rf_ri rc_X9_copy_ok 45 rfl rfl
def f_X9_copy (p0 : Int32) (p1 : Int32) (p2 : Int32) (p3 : Int32) (p4 : Int32) (σ : rf_S) : Option (Int32 × rf_S) := (f_X9_isRow p0 σ).bind (fun q1 => if q1 = 0 then (some ((-1), σ)) else ((f_X9_isRow p2 σ).bind (fun q4 => if q4 ≠ 0 then (if 0 ≤ p4 then ((f_X4_isMissing p0 σ).bind (fun q8 => if q8 ≠ 0 then (f_X9_copy_j49 σ) else ((f_X4_isMissing p2 σ).bind (fun q13 => if q13 = 0 then ((f_X4_hasAll p0 p1 p4 σ).bind (fun q16 => if q16 = 0 then (f_X9_copy_j84 σ) else ((f_X4_hasAll p2 p3 p4 σ).bind (fun q21 => if q21 ≠ 0 then ((f_X4_move p0 p1 p2 p3 p4 σ).bind (fun q24 => some (1, q24))) else (f_X9_copy_j84 σ))))) else (f_X9_copy_j49 σ))))) else ((f_X9_find 5 σ).bind (fun q26 => some (q26.1, q26.2)))) else (some ((-1), σ)))))
set_option maxHeartbeats 2000000 in
theorem ok_X9_copy (d : Nat) (p0 : Int32) (p1 : Int32) (p2 : Int32) (p3 : Int32) (p4 : Int32) (σ : rf_S) (q : (Int32 × rf_S)) (h : f_X9_copy p0 p1 p2 p3 p4 σ = some q) : rf_Ex ly0 (d + 2) mX9_copy [.ref 0, .int p0, .int p1, .int p2, .int p3, .int p4] σ (some (.int q.1) : Option Value) q.2 := by
  unfold f_X9_copy at h
  refine rf_ex mw_X9_copy [some (.ref 0), some (.int p0), some (.int p1), some (.int p2), some (.int p3), some (.int p4)] (Nat.le_of_ble_eq_true rfl) rfl ?_
  refine rf_b wf0 rc_X9_copy_ok 0 1 (1, [some (.ref 0), some (.int p0), some (.int p1), some (.int p2), some (.int p3), some (.int p4)], [.int p0], σ) rfl ?_
  obtain ⟨q1, h2, h⟩ := Option.bind_eq_some_iff.mp h
  refine rf_cs1 (Mt := mX9_isRow) rc_X9_copy_ok 1 false rfl (List.mem_of_getElem? (i := 63) rfl) mw_X9_isRow rfl [.int p0] [] rfl rfl (Nat.le_of_ble_eq_true rfl) (ok_X9_isRow d p0 σ q1 h2) ?_
  show rf_G _ _ _ (4, [some (.ref 0), some (.int p0), some (.int p1), some (.int p2), some (.int p3), some (.int p4)], [.int q1], σ) _ _
  by_cases c3 : q1 = 0
  · rw [if_pos c3] at h
    refine rf_t wf0 rc_X9_copy_ok 2 (14, [some (.ref 0), some (.int p0), some (.int p1), some (.int p2), some (.int p3), some (.int p4)], [], σ) rfl rfl c3 rfl ?_
    refine rf_b wf0 rc_X9_copy_ok 6 1 (15, [some (.ref 0), some (.int p0), some (.int p1), some (.int p2), some (.int p3), some (.int p4)], [.int (-1)], σ) rfl ?_
    obtain rfl := Option.some.inj h
    exact rf_ri rc_X9_copy_ok 7 rfl rfl
  · rw [if_neg c3] at h
    refine rf_f wf0 rc_X9_copy_ok 2 (7, [some (.ref 0), some (.int p0), some (.int p1), some (.int p2), some (.int p3), some (.int p4)], [], σ) rfl rfl c3 rfl ?_
    refine rf_b wf0 rc_X9_copy_ok 3 1 (8, [some (.ref 0), some (.int p0), some (.int p1), some (.int p2), some (.int p3), some (.int p4)], [.int p2], σ) rfl ?_
    obtain ⟨q4, h5, h⟩ := Option.bind_eq_some_iff.mp h
    refine rf_cs1 (Mt := mX9_isRow) rc_X9_copy_ok 4 false rfl (List.mem_of_getElem? (i := 63) rfl) mw_X9_isRow rfl [.int p2] [] rfl rfl (Nat.le_of_ble_eq_true rfl) (ok_X9_isRow d p2 σ q4 h5) ?_
    show rf_G _ _ _ (11, [some (.ref 0), some (.int p0), some (.int p1), some (.int p2), some (.int p3), some (.int p4)], [.int q4], σ) _ _
    by_cases c6 : q4 ≠ 0
    · rw [if_pos c6] at h
      refine rf_t wf0 rc_X9_copy_ok 5 (16, [some (.ref 0), some (.int p0), some (.int p1), some (.int p2), some (.int p3), some (.int p4)], [], σ) rfl rfl c6 rfl ?_
      refine rf_b wf0 rc_X9_copy_ok 8 1 (18, [some (.ref 0), some (.int p0), some (.int p1), some (.int p2), some (.int p3), some (.int p4)], [.int p4], σ) rfl ?_
      by_cases c7 : 0 ≤ p4
      · rw [if_pos c7] at h
        refine rf_t wf0 rc_X9_copy_ok 9 (27, [some (.ref 0), some (.int p0), some (.int p1), some (.int p2), some (.int p3), some (.int p4)], [], σ) rfl rfl c7 rfl ?_
        refine rf_b wf0 rc_X9_copy_ok 14 3 (32, [some (.ref 0), some (.int p0), some (.int p1), some (.int p2), some (.int p3), some (.int p4)], [.int p0, .ref 1], σ) rfl ?_
        obtain ⟨q8, h9, h⟩ := Option.bind_eq_some_iff.mp h
        refine rf_cv1 (Mt := mX4_isMissing) wf0 rc_X9_copy_ok 17 false rfl (List.mem_of_getElem? (i := 71) rfl) mw_X4_isMissing rfl 1 [.int p0] [] rfl rfl rfl (Nat.le_of_ble_eq_true rfl) (ok_X4_isMissing d p0 σ q8 h9) ?_
        show rf_G _ _ _ (35, [some (.ref 0), some (.int p0), some (.int p1), some (.int p2), some (.int p3), some (.int p4)], [.int q8], σ) _ _
        by_cases c10 : q8 ≠ 0
        · rw [if_pos c10] at h
          refine rf_t wf0 rc_X9_copy_ok 18 (49, [some (.ref 0), some (.int p0), some (.int p1), some (.int p2), some (.int p3), some (.int p4)], [], σ) rfl rfl c10 rfl ?_
          refine rf_fg [true, false, false, false, false, false] [some (.ref 0), none, none, none, none, none] rfl ?_
          exact ok_X9_copy_j49 d σ q h
        · rw [if_neg c10] at h
          refine rf_f wf0 rc_X9_copy_ok 18 (38, [some (.ref 0), some (.int p0), some (.int p1), some (.int p2), some (.int p3), some (.int p4)], [], σ) rfl rfl c10 rfl ?_
          refine rf_b wf0 rc_X9_copy_ok 19 3 (43, [some (.ref 0), some (.int p0), some (.int p1), some (.int p2), some (.int p3), some (.int p4)], [.int p2, .ref 1], σ) rfl ?_
          obtain ⟨q13, h14, h⟩ := Option.bind_eq_some_iff.mp h
          refine rf_cv1 (Mt := mX4_isMissing) wf0 rc_X9_copy_ok 22 false rfl (List.mem_of_getElem? (i := 71) rfl) mw_X4_isMissing rfl 1 [.int p2] [] rfl rfl rfl (Nat.le_of_ble_eq_true rfl) (ok_X4_isMissing d p2 σ q13 h14) ?_
          show rf_G _ _ _ (46, [some (.ref 0), some (.int p0), some (.int p1), some (.int p2), some (.int p3), some (.int p4)], [.int q13], σ) _ _
          by_cases c15 : q13 = 0
          · rw [if_pos c15] at h
            refine rf_t wf0 rc_X9_copy_ok 23 (55, [some (.ref 0), some (.int p0), some (.int p1), some (.int p2), some (.int p3), some (.int p4)], [], σ) rfl rfl c15 rfl ?_
            refine rf_b wf0 rc_X9_copy_ok 28 5 (63, [some (.ref 0), some (.int p0), some (.int p1), some (.int p2), some (.int p3), some (.int p4)], [.int p4, .int p1, .int p0, .ref 1], σ) rfl ?_
            obtain ⟨q16, h17, h⟩ := Option.bind_eq_some_iff.mp h
            refine rf_cv1 (Mt := mX4_hasAll) wf0 rc_X9_copy_ok 33 false rfl (List.mem_of_getElem? (i := 72) rfl) mw_X4_hasAll rfl 1 [.int p0, .int p1, .int p4] [] rfl rfl rfl (Nat.le_of_ble_eq_true rfl) (ok_X4_hasAll d p0 p1 p4 σ q16 h17) ?_
            show rf_G _ _ _ (66, [some (.ref 0), some (.int p0), some (.int p1), some (.int p2), some (.int p3), some (.int p4)], [.int q16], σ) _ _
            by_cases c18 : q16 = 0
            · rw [if_pos c18] at h
              refine rf_t wf0 rc_X9_copy_ok 34 (84, [some (.ref 0), some (.int p0), some (.int p1), some (.int p2), some (.int p3), some (.int p4)], [], σ) rfl rfl c18 rfl ?_
              refine rf_fg [true, false, false, false, false, false] [some (.ref 0), none, none, none, none, none] rfl ?_
              exact ok_X9_copy_j84 d σ q h
            · rw [if_neg c18] at h
              refine rf_f wf0 rc_X9_copy_ok 34 (69, [some (.ref 0), some (.int p0), some (.int p1), some (.int p2), some (.int p3), some (.int p4)], [], σ) rfl rfl c18 rfl ?_
              refine rf_b wf0 rc_X9_copy_ok 35 5 (78, [some (.ref 0), some (.int p0), some (.int p1), some (.int p2), some (.int p3), some (.int p4)], [.int p4, .int p3, .int p2, .ref 1], σ) rfl ?_
              obtain ⟨q21, h22, h⟩ := Option.bind_eq_some_iff.mp h
              refine rf_cv1 (Mt := mX4_hasAll) wf0 rc_X9_copy_ok 40 false rfl (List.mem_of_getElem? (i := 72) rfl) mw_X4_hasAll rfl 1 [.int p2, .int p3, .int p4] [] rfl rfl rfl (Nat.le_of_ble_eq_true rfl) (ok_X4_hasAll d p2 p3 p4 σ q21 h22) ?_
              show rf_G _ _ _ (81, [some (.ref 0), some (.int p0), some (.int p1), some (.int p2), some (.int p3), some (.int p4)], [.int q21], σ) _ _
              by_cases c23 : q21 ≠ 0
              · rw [if_pos c23] at h
                refine rf_t wf0 rc_X9_copy_ok 41 (90, [some (.ref 0), some (.int p0), some (.int p1), some (.int p2), some (.int p3), some (.int p4)], [], σ) rfl rfl c23 rfl ?_
                refine rf_b wf0 rc_X9_copy_ok 46 7 (101, [some (.ref 0), some (.int p0), some (.int p1), some (.int p2), some (.int p3), some (.int p4)], [.int p4, .int p3, .int p2, .int p1, .int p0, .ref 1], σ) rfl ?_
                obtain ⟨q24, h25, h⟩ := Option.bind_eq_some_iff.mp h
                refine rf_cv1 (Mt := mX4_move) wf0 rc_X9_copy_ok 53 false rfl (List.mem_of_getElem? (i := 73) rfl) mw_X4_move rfl 1 [.int p0, .int p1, .int p2, .int p3, .int p4] [] rfl rfl rfl (Nat.le_of_ble_eq_true rfl) (ok_X4_move d p0 p1 p2 p3 p4 σ q24 h25) ?_
                show rf_G _ _ _ (104, [some (.ref 0), some (.int p0), some (.int p1), some (.int p2), some (.int p3), some (.int p4)], [], q24) _ _
                refine rf_b wf0 rc_X9_copy_ok 54 1 (105, [some (.ref 0), some (.int p0), some (.int p1), some (.int p2), some (.int p3), some (.int p4)], [.int 1], q24) rfl ?_
                obtain rfl := Option.some.inj h
                exact rf_ri rc_X9_copy_ok 55 rfl rfl
              · rw [if_neg c23] at h
                refine rf_f wf0 rc_X9_copy_ok 41 (84, [some (.ref 0), some (.int p0), some (.int p1), some (.int p2), some (.int p3), some (.int p4)], [], σ) rfl rfl c23 rfl ?_
                refine rf_fg [true, false, false, false, false, false] [some (.ref 0), none, none, none, none, none] rfl ?_
                exact ok_X9_copy_j84 d σ q h
          · rw [if_neg c15] at h
            refine rf_f wf0 rc_X9_copy_ok 23 (49, [some (.ref 0), some (.int p0), some (.int p1), some (.int p2), some (.int p3), some (.int p4)], [], σ) rfl rfl c15 rfl ?_
            refine rf_fg [true, false, false, false, false, false] [some (.ref 0), none, none, none, none, none] rfl ?_
            exact ok_X9_copy_j49 d σ q h
      · rw [if_neg c7] at h
        refine rf_f wf0 rc_X9_copy_ok 9 (21, [some (.ref 0), some (.int p0), some (.int p1), some (.int p2), some (.int p3), some (.int p4)], [], σ) rfl rfl c7 rfl ?_
        refine rf_b wf0 rc_X9_copy_ok 10 2 (23, [some (.ref 0), some (.int p0), some (.int p1), some (.int p2), some (.int p3), some (.int p4)], [.int 5, .ref 0], σ) rfl ?_
        obtain ⟨q26, h27, h⟩ := Option.bind_eq_some_iff.mp h
        refine rf_cv1 (Mt := mX9_find) wf0 rc_X9_copy_ok 12 false rfl (List.mem_of_getElem? (i := 64) rfl) mw_X9_find rfl 0 [.int 5] [] rfl rfl rfl (Nat.le_of_ble_eq_true rfl) (ok_X9_find d 5 σ q26 h27) ?_
        show rf_G _ _ _ (26, [some (.ref 0), some (.int p0), some (.int p1), some (.int p2), some (.int p3), some (.int p4)], [.int q26.1], q26.2) _ _
        obtain rfl := Option.some.inj h
        exact rf_ri rc_X9_copy_ok 13 rfl rfl
    · rw [if_neg c6] at h
      refine rf_f wf0 rc_X9_copy_ok 5 (14, [some (.ref 0), some (.int p0), some (.int p1), some (.int p2), some (.int p3), some (.int p4)], [], σ) rfl rfl c6 rfl ?_
      refine rf_b wf0 rc_X9_copy_ok 6 1 (15, [some (.ref 0), some (.int p0), some (.int p1), some (.int p2), some (.int p3), some (.int p4)], [.int (-1)], σ) rfl ?_
      obtain rfl := Option.some.inj h
      exact rf_ri rc_X9_copy_ok 7 rfl rfl
def rc_X9_mean : List rf_E := [(0, .aload_n 0, 1, 0), (1, .iload_n 1, 1, 1), (2, .invokevirtual 96, 3, 0), (5, .istore_n 2, 1, 2), (6, .iload_n 2, 1, 2), (7, .ifCond .eq 5, 3, 12), (10, .iload_n 2, 1, 2), (11, .ireturn, 1, 0), (12, .aload_n 0, 1, 0), (13, .getfield 10, 3, 900), (16, .iload_n 1, 1, 1), (17, .invokevirtual 114, 3, 0), (20, .istore_n 3, 1, 3), (21, .iload_n 3, 1, 3), (22, .ifCond .ne 9, 3, 31), (25, .aload_n 0, 1, 0), (26, .iconst 4, 1, 0), (27, .invokevirtual 73, 3, 0), (30, .ireturn, 1, 0), (31, .aload_n 0, 1, 0), (32, .aload_n 0, 1, 0), (33, .getfield 10, 3, 900), (36, .iload_n 1, 1, 1), (37, .invokevirtual 117, 3, 0), (40, .iload_n 3, 1, 3), (41, .i2l, 1, 0), (42, .ldiv, 1, 0), (43, .l2i, 1, 0), (44, .putfield 88, 3, 910), (47, .iconst 1, 1, 0), (48, .ireturn, 1, 0)]
theorem rc_X9_mean_ok : rf_rc mX9_mean rc_X9_mean = true := by decide +kernel
theorem mw_X9_mean : rf_mw mX9_mean := ⟨rf_mt_ok _ (List.mem_of_getElem? (i := 80) rfl), fun h => absurd h (by decide), fun _ => ⟨rf_mi_ok _ (List.mem_of_getElem? (i := 75) rfl), rf_mv_ok _ (List.mem_of_getElem? (i := 75) rfl)⟩, rf_mq_3 _ (List.mem_of_getElem? (i := 5) rfl)⟩
def f_X9_mean (p0 : Int32) (σ : rf_S) : Option (Int32 × rf_S) := (f_X9_refusedRow p0 σ).bind (fun q1 => if q1.1 = 0 then ((f_X4_sizeOf p0 q1.2).bind (fun q4 => if q4 ≠ 0 then ((f_X4_sum p0 q1.2).bind (fun q7 => if q4.toInt64 = 0 then none else (some (1, (rf_sI q1.2 0 10 ((q7 / q4.toInt64).toInt32)))))) else ((f_X9_find 4 q1.2).bind (fun q10 => some (q10.1, q10.2))))) else (some (q1.1, q1.2)))
set_option maxHeartbeats 2000000 in
theorem ok_X9_mean (d : Nat) (p0 : Int32) (σ : rf_S) (q : (Int32 × rf_S)) (h : f_X9_mean p0 σ = some q) : rf_Ex ly0 (d + 3) mX9_mean [.ref 0, .int p0] σ (some (.int q.1) : Option Value) q.2 := by
  unfold f_X9_mean at h
  refine rf_ex mw_X9_mean [some (.ref 0), some (.int p0), none, none] (Nat.le_of_ble_eq_true rfl) rfl ?_
  refine rf_b wf0 rc_X9_mean_ok 0 2 (2, [some (.ref 0), some (.int p0), none, none], [.int p0, .ref 0], σ) rfl ?_
  obtain ⟨q1, h2, h⟩ := Option.bind_eq_some_iff.mp h
  refine rf_cv1 (Mt := mX9_refusedRow) wf0 rc_X9_mean_ok 2 false rfl (List.mem_of_getElem? (i := 69) rfl) mw_X9_refusedRow rfl 0 [.int p0] [] rfl rfl rfl (Nat.le_of_ble_eq_true rfl) (ok_X9_refusedRow d p0 σ q1 h2) ?_
  show rf_G _ _ _ (5, [some (.ref 0), some (.int p0), none, none], [.int q1.1], q1.2) _ _
  refine rf_b wf0 rc_X9_mean_ok 3 2 (7, [some (.ref 0), some (.int p0), some (.int q1.1), none], [.int q1.1], q1.2) rfl ?_
  by_cases c3 : q1.1 = 0
  · rw [if_pos c3] at h
    refine rf_t wf0 rc_X9_mean_ok 5 (12, [some (.ref 0), some (.int p0), some (.int q1.1), none], [], q1.2) rfl rfl c3 rfl ?_
    refine rf_b wf0 rc_X9_mean_ok 8 3 (17, [some (.ref 0), some (.int p0), some (.int q1.1), none], [.int p0, .ref 1], q1.2) rfl ?_
    obtain ⟨q4, h5, h⟩ := Option.bind_eq_some_iff.mp h
    refine rf_cv1 (Mt := mX4_sizeOf) wf0 rc_X9_mean_ok 11 false rfl (List.mem_of_getElem? (i := 74) rfl) mw_X4_sizeOf rfl 1 [.int p0] [] rfl rfl rfl (Nat.le_of_ble_eq_true rfl) (ok_X4_sizeOf (d + 1) p0 q1.2 q4 h5) ?_
    show rf_G _ _ _ (20, [some (.ref 0), some (.int p0), some (.int q1.1), none], [.int q4], q1.2) _ _
    refine rf_b wf0 rc_X9_mean_ok 12 2 (22, [some (.ref 0), some (.int p0), some (.int q1.1), some (.int q4)], [.int q4], q1.2) rfl ?_
    by_cases c6 : q4 ≠ 0
    · rw [if_pos c6] at h
      refine rf_t wf0 rc_X9_mean_ok 14 (31, [some (.ref 0), some (.int p0), some (.int q1.1), some (.int q4)], [], q1.2) rfl rfl c6 rfl ?_
      refine rf_b wf0 rc_X9_mean_ok 19 4 (37, [some (.ref 0), some (.int p0), some (.int q1.1), some (.int q4)], [.int p0, .ref 1, .ref 0], q1.2) rfl ?_
      obtain ⟨q7, h8, h⟩ := Option.bind_eq_some_iff.mp h
      refine rf_cv1 (Mt := mX4_sum) wf0 rc_X9_mean_ok 23 false rfl (List.mem_of_getElem? (i := 75) rfl) mw_X4_sum rfl 1 [.int p0] [.ref 0] rfl rfl rfl (Nat.le_of_ble_eq_true rfl) (ok_X4_sum (d + 1) p0 q1.2 q7 h8) ?_
      show rf_G _ _ _ (40, [some (.ref 0), some (.int p0), some (.int q1.1), some (.int q4)], [.long q7, .ref 0], q1.2) _ _
      refine rf_b wf0 rc_X9_mean_ok 24 2 (42, [some (.ref 0), some (.int p0), some (.int q1.1), some (.int q4)], [.long q4.toInt64, .long q7, .ref 0], q1.2) rfl ?_
      obtain ⟨g9, h⟩ := rf_ifz h
      refine rf_nz wf0 rc_X9_mean_ok 26 (43, [some (.ref 0), some (.int p0), some (.int q1.1), some (.int q4)], [.long (q7 / q4.toInt64), .ref 0], q1.2) rfl rfl g9 rfl ?_
      refine rf_b wf0 rc_X9_mean_ok 27 3 (48, [some (.ref 0), some (.int p0), some (.int q1.1), some (.int q4)], [.int 1], (rf_sI q1.2 0 10 ((q7 / q4.toInt64).toInt32))) rfl ?_
      obtain rfl := Option.some.inj h
      exact rf_ri rc_X9_mean_ok 30 rfl rfl
    · rw [if_neg c6] at h
      refine rf_f wf0 rc_X9_mean_ok 14 (25, [some (.ref 0), some (.int p0), some (.int q1.1), some (.int q4)], [], q1.2) rfl rfl c6 rfl ?_
      refine rf_b wf0 rc_X9_mean_ok 15 2 (27, [some (.ref 0), some (.int p0), some (.int q1.1), some (.int q4)], [.int 4, .ref 0], q1.2) rfl ?_
      obtain ⟨q10, h11, h⟩ := Option.bind_eq_some_iff.mp h
      refine rf_cv1 (Mt := mX9_find) wf0 rc_X9_mean_ok 17 false rfl (List.mem_of_getElem? (i := 64) rfl) mw_X9_find rfl 0 [.int 4] [] rfl rfl rfl (Nat.le_of_ble_eq_true rfl) (ok_X9_find (d + 1) 4 q1.2 q10 h11) ?_
      show rf_G _ _ _ (30, [some (.ref 0), some (.int p0), some (.int q1.1), some (.int q4)], [.int q10.1], q10.2) _ _
      obtain rfl := Option.some.inj h
      exact rf_ri rc_X9_mean_ok 18 rfl rfl
  · rw [if_neg c3] at h
    refine rf_f wf0 rc_X9_mean_ok 5 (10, [some (.ref 0), some (.int p0), some (.int q1.1), none], [], q1.2) rfl rfl c3 rfl ?_
    refine rf_b wf0 rc_X9_mean_ok 6 1 (11, [some (.ref 0), some (.int p0), some (.int q1.1), none], [.int q1.1], q1.2) rfl ?_
    obtain rfl := Option.some.inj h
    exact rf_ri rc_X9_mean_ok 7 rfl rfl
def rc_X9_isText : List rf_E := [(0, .iload_n 0, 1, 0), (1, .ifCond .lt 12, 3, 13), (4, .iload_n 0, 1, 0), (5, .iconst 4, 1, 0), (6, .if_icmp .ge 7, 3, 13), (9, .iconst 1, 1, 0), (10, .goto 4, 3, 14), (13, .iconst 0, 1, 0), (14, .ireturn, 1, 0)]
theorem rc_X9_isText_ok : rf_rc mX9_isText rc_X9_isText = true := by decide +kernel
theorem mw_X9_isText : rf_mw mX9_isText := ⟨rf_mt_ok _ (List.mem_of_getElem? (i := 126) rfl), fun _ => rf_ms_ok _ (List.mem_of_getElem? (i := 6) rfl), fun h => absurd h (by decide), rf_mq_5 _ (List.mem_of_getElem? (i := 1) rfl)⟩
def f_X9_isText (p0 : Int32) (σ : rf_S) : Option Int32 := if p0 < 0 then (some 0) else (if 4 ≤ p0 then (some 0) else (some 1))
set_option maxHeartbeats 2000000 in
theorem ok_X9_isText (d : Nat) (p0 : Int32) (σ : rf_S) (q : Int32) (h : f_X9_isText p0 σ = some q) : rf_Ex ly0 (d + 1) mX9_isText [.int p0] σ (some (.int q) : Option Value) σ := by
  unfold f_X9_isText at h
  refine rf_ex mw_X9_isText [some (.int p0)] (Nat.le_of_ble_eq_true rfl) rfl ?_
  refine rf_b wf0 rc_X9_isText_ok 0 1 (1, [some (.int p0)], [.int p0], σ) rfl ?_
  by_cases c1 : p0 < 0
  · rw [if_pos c1] at h
    refine rf_t wf0 rc_X9_isText_ok 1 (13, [some (.int p0)], [], σ) rfl rfl c1 rfl ?_
    refine rf_b wf0 rc_X9_isText_ok 7 1 (14, [some (.int p0)], [.int 0], σ) rfl ?_
    obtain rfl := Option.some.inj h
    exact rf_rz rc_X9_isText_ok 8 rfl rfl (by decide)
  · rw [if_neg c1] at h
    refine rf_f wf0 rc_X9_isText_ok 1 (4, [some (.int p0)], [], σ) rfl rfl c1 rfl ?_
    refine rf_b wf0 rc_X9_isText_ok 2 2 (6, [some (.int p0)], [.int 4, .int p0], σ) rfl ?_
    by_cases c2 : 4 ≤ p0
    · rw [if_pos c2] at h
      refine rf_t wf0 rc_X9_isText_ok 4 (13, [some (.int p0)], [], σ) rfl rfl c2 rfl ?_
      refine rf_b wf0 rc_X9_isText_ok 7 1 (14, [some (.int p0)], [.int 0], σ) rfl ?_
      obtain rfl := Option.some.inj h
      exact rf_rz rc_X9_isText_ok 8 rfl rfl (by decide)
    · rw [if_neg c2] at h
      refine rf_f wf0 rc_X9_isText_ok 4 (9, [some (.int p0)], [], σ) rfl rfl c2 rfl ?_
      refine rf_b wf0 rc_X9_isText_ok 5 2 (14, [some (.int p0)], [.int 1], σ) rfl ?_
      obtain rfl := Option.some.inj h
      exact rf_rz rc_X9_isText_ok 8 rfl rfl (by decide)
def rc_X9_text : List rf_E := [(0, .iload_n 1, 1, 1), (1, .invokestatic 121, 3, 0), (4, .ifCond .eq 9, 3, 13), (7, .iload_n 2, 1, 2), (8, .bipush 60, 2, 0), (10, .if_icmp .le 5, 3, 15), (13, .iconst (-1), 1, 0), (14, .ireturn, 1, 0), (15, .iload_n 2, 1, 2), (16, .ifCond .ge 9, 3, 25), (19, .aload_n 0, 1, 0), (20, .iconst 5, 1, 0), (21, .invokevirtual 73, 3, 0), (24, .ireturn, 1, 0), (25, .aload_n 0, 1, 0), (26, .getfield 19, 3, 901), (29, .iload_n 1, 1, 1), (30, .iload_n 2, 1, 2), (31, .invokevirtual 124, 3, 0), (34, .iload_n 2, 1, 2), (35, .ireturn, 1, 0)]
theorem rc_X9_text_ok : rf_rc mX9_text rc_X9_text = true := by decide +kernel
theorem mw_X9_text : rf_mw mX9_text := ⟨rf_mt_ok _ (List.mem_of_getElem? (i := 81) rfl), fun h => absurd h (by decide), fun _ => ⟨rf_mi_ok _ (List.mem_of_getElem? (i := 76) rfl), rf_mv_ok _ (List.mem_of_getElem? (i := 76) rfl)⟩, rf_mq_3 _ (List.mem_of_getElem? (i := 6) rfl)⟩
def f_X9_text (p0 : Int32) (p1 : Int32) (σ : rf_S) : Option (Int32 × rf_S) := (f_X9_isText p0 σ).bind (fun q1 => if q1 = 0 then (some ((-1), σ)) else (if p1 ≤ 60 then (if 0 ≤ p1 then ((f_X7_make p0 p1 σ).bind (fun q6 => some (p1, q6))) else ((f_X9_find 5 σ).bind (fun q8 => some (q8.1, q8.2)))) else (some ((-1), σ))))
set_option maxHeartbeats 2000000 in
theorem ok_X9_text (d : Nat) (p0 : Int32) (p1 : Int32) (σ : rf_S) (q : (Int32 × rf_S)) (h : f_X9_text p0 p1 σ = some q) : rf_Ex ly0 (d + 3) mX9_text [.ref 0, .int p0, .int p1] σ (some (.int q.1) : Option Value) q.2 := by
  unfold f_X9_text at h
  refine rf_ex mw_X9_text [some (.ref 0), some (.int p0), some (.int p1)] (Nat.le_of_ble_eq_true rfl) rfl ?_
  refine rf_b wf0 rc_X9_text_ok 0 1 (1, [some (.ref 0), some (.int p0), some (.int p1)], [.int p0], σ) rfl ?_
  obtain ⟨q1, h2, h⟩ := Option.bind_eq_some_iff.mp h
  refine rf_cs1 (Mt := mX9_isText) rc_X9_text_ok 1 false rfl (List.mem_of_getElem? (i := 76) rfl) mw_X9_isText rfl [.int p0] [] rfl rfl (Nat.le_of_ble_eq_true rfl) (ok_X9_isText (d + 1) p0 σ q1 h2) ?_
  show rf_G _ _ _ (4, [some (.ref 0), some (.int p0), some (.int p1)], [.int q1], σ) _ _
  by_cases c3 : q1 = 0
  · rw [if_pos c3] at h
    refine rf_t wf0 rc_X9_text_ok 2 (13, [some (.ref 0), some (.int p0), some (.int p1)], [], σ) rfl rfl c3 rfl ?_
    refine rf_b wf0 rc_X9_text_ok 6 1 (14, [some (.ref 0), some (.int p0), some (.int p1)], [.int (-1)], σ) rfl ?_
    obtain rfl := Option.some.inj h
    exact rf_ri rc_X9_text_ok 7 rfl rfl
  · rw [if_neg c3] at h
    refine rf_f wf0 rc_X9_text_ok 2 (7, [some (.ref 0), some (.int p0), some (.int p1)], [], σ) rfl rfl c3 rfl ?_
    refine rf_b wf0 rc_X9_text_ok 3 2 (10, [some (.ref 0), some (.int p0), some (.int p1)], [.int 60, .int p1], σ) rfl ?_
    by_cases c4 : p1 ≤ 60
    · rw [if_pos c4] at h
      refine rf_t wf0 rc_X9_text_ok 5 (15, [some (.ref 0), some (.int p0), some (.int p1)], [], σ) rfl rfl c4 rfl ?_
      refine rf_b wf0 rc_X9_text_ok 8 1 (16, [some (.ref 0), some (.int p0), some (.int p1)], [.int p1], σ) rfl ?_
      by_cases c5 : 0 ≤ p1
      · rw [if_pos c5] at h
        refine rf_t wf0 rc_X9_text_ok 9 (25, [some (.ref 0), some (.int p0), some (.int p1)], [], σ) rfl rfl c5 rfl ?_
        refine rf_b wf0 rc_X9_text_ok 14 4 (31, [some (.ref 0), some (.int p0), some (.int p1)], [.int p1, .int p0, .ref 10], σ) rfl ?_
        obtain ⟨q6, h7, h⟩ := Option.bind_eq_some_iff.mp h
        refine rf_cv1 (Mt := mX7_make) wf0 rc_X9_text_ok 18 false rfl (List.mem_of_getElem? (i := 77) rfl) mw_X7_make rfl 10 [.int p0, .int p1] [] rfl rfl rfl (Nat.le_of_ble_eq_true rfl) (ok_X7_make d p0 p1 σ q6 h7) ?_
        show rf_G _ _ _ (34, [some (.ref 0), some (.int p0), some (.int p1)], [], q6) _ _
        refine rf_b wf0 rc_X9_text_ok 19 1 (35, [some (.ref 0), some (.int p0), some (.int p1)], [.int p1], q6) rfl ?_
        obtain rfl := Option.some.inj h
        exact rf_ri rc_X9_text_ok 20 rfl rfl
      · rw [if_neg c5] at h
        refine rf_f wf0 rc_X9_text_ok 9 (19, [some (.ref 0), some (.int p0), some (.int p1)], [], σ) rfl rfl c5 rfl ?_
        refine rf_b wf0 rc_X9_text_ok 10 2 (21, [some (.ref 0), some (.int p0), some (.int p1)], [.int 5, .ref 0], σ) rfl ?_
        obtain ⟨q8, h9, h⟩ := Option.bind_eq_some_iff.mp h
        refine rf_cv1 (Mt := mX9_find) wf0 rc_X9_text_ok 12 false rfl (List.mem_of_getElem? (i := 64) rfl) mw_X9_find rfl 0 [.int 5] [] rfl rfl rfl (Nat.le_of_ble_eq_true rfl) (ok_X9_find (d + 1) 5 σ q8 h9) ?_
        show rf_G _ _ _ (24, [some (.ref 0), some (.int p0), some (.int p1)], [.int q8.1], q8.2) _ _
        obtain rfl := Option.some.inj h
        exact rf_ri rc_X9_text_ok 13 rfl rfl
    · rw [if_neg c4] at h
      refine rf_f wf0 rc_X9_text_ok 5 (13, [some (.ref 0), some (.int p0), some (.int p1)], [], σ) rfl rfl c4 rfl ?_
      refine rf_b wf0 rc_X9_text_ok 6 1 (14, [some (.ref 0), some (.int p0), some (.int p1)], [.int (-1)], σ) rfl ?_
      obtain rfl := Option.some.inj h
      exact rf_ri rc_X9_text_ok 7 rfl rfl
def rc_X9_refusedText : List rf_E := [(0, .iload_n 1, 1, 1), (1, .invokestatic 121, 3, 0), (4, .ifCond .ne 5, 3, 9), (7, .iconst (-1), 1, 0), (8, .ireturn, 1, 0), (9, .aload_n 0, 1, 0), (10, .getfield 19, 3, 901), (13, .iload_n 1, 1, 1), (14, .invokevirtual 387, 3, 0), (17, .ifCond .eq 11, 3, 28), (20, .aload_n 0, 1, 0), (21, .iconst 1, 1, 0), (22, .invokevirtual 73, 3, 0), (25, .goto 4, 3, 29), (28, .iconst 0, 1, 0), (29, .ireturn, 1, 0)]
theorem rc_X9_refusedText_ok : rf_rc mX9_refusedText rc_X9_refusedText = true := by decide +kernel
theorem mw_X9_refusedText : rf_mw mX9_refusedText := ⟨rf_mt_ok _ (List.mem_of_getElem? (i := 134) rfl), fun h => absurd h (by decide), fun _ => ⟨rf_mi_ok _ (List.mem_of_getElem? (i := 125) rfl), rf_mv_ok _ (List.mem_of_getElem? (i := 125) rfl)⟩, rf_mq_5 _ (List.mem_of_getElem? (i := 9) rfl)⟩
def f_X9_refusedText (p0 : Int32) (σ : rf_S) : Option (Int32 × rf_S) := (f_X9_isText p0 σ).bind (fun q1 => if q1 ≠ 0 then ((f_X7_isMissing p0 σ).bind (fun q4 => if q4 = 0 then (some (0, σ)) else ((f_X9_find 1 σ).bind (fun q7 => some (q7.1, q7.2))))) else (some ((-1), σ)))
set_option maxHeartbeats 2000000 in
theorem ok_X9_refusedText (d : Nat) (p0 : Int32) (σ : rf_S) (q : (Int32 × rf_S)) (h : f_X9_refusedText p0 σ = some q) : rf_Ex ly0 (d + 2) mX9_refusedText [.ref 0, .int p0] σ (some (.int q.1) : Option Value) q.2 := by
  unfold f_X9_refusedText at h
  refine rf_ex mw_X9_refusedText [some (.ref 0), some (.int p0)] (Nat.le_of_ble_eq_true rfl) rfl ?_
  refine rf_b wf0 rc_X9_refusedText_ok 0 1 (1, [some (.ref 0), some (.int p0)], [.int p0], σ) rfl ?_
  obtain ⟨q1, h2, h⟩ := Option.bind_eq_some_iff.mp h
  refine rf_cs1 (Mt := mX9_isText) rc_X9_refusedText_ok 1 false rfl (List.mem_of_getElem? (i := 76) rfl) mw_X9_isText rfl [.int p0] [] rfl rfl (Nat.le_of_ble_eq_true rfl) (ok_X9_isText d p0 σ q1 h2) ?_
  show rf_G _ _ _ (4, [some (.ref 0), some (.int p0)], [.int q1], σ) _ _
  by_cases c3 : q1 ≠ 0
  · rw [if_pos c3] at h
    refine rf_t wf0 rc_X9_refusedText_ok 2 (9, [some (.ref 0), some (.int p0)], [], σ) rfl rfl c3 rfl ?_
    refine rf_b wf0 rc_X9_refusedText_ok 5 3 (14, [some (.ref 0), some (.int p0)], [.int p0, .ref 10], σ) rfl ?_
    obtain ⟨q4, h5, h⟩ := Option.bind_eq_some_iff.mp h
    refine rf_cv1 (Mt := mX7_isMissing) wf0 rc_X9_refusedText_ok 8 false rfl (List.mem_of_getElem? (i := 138) rfl) mw_X7_isMissing rfl 10 [.int p0] [] rfl rfl rfl (Nat.le_of_ble_eq_true rfl) (ok_X7_isMissing d p0 σ q4 h5) ?_
    show rf_G _ _ _ (17, [some (.ref 0), some (.int p0)], [.int q4], σ) _ _
    by_cases c6 : q4 = 0
    · rw [if_pos c6] at h
      refine rf_t wf0 rc_X9_refusedText_ok 9 (28, [some (.ref 0), some (.int p0)], [], σ) rfl rfl c6 rfl ?_
      refine rf_b wf0 rc_X9_refusedText_ok 14 1 (29, [some (.ref 0), some (.int p0)], [.int 0], σ) rfl ?_
      obtain rfl := Option.some.inj h
      exact rf_ri rc_X9_refusedText_ok 15 rfl rfl
    · rw [if_neg c6] at h
      refine rf_f wf0 rc_X9_refusedText_ok 9 (20, [some (.ref 0), some (.int p0)], [], σ) rfl rfl c6 rfl ?_
      refine rf_b wf0 rc_X9_refusedText_ok 10 2 (22, [some (.ref 0), some (.int p0)], [.int 1, .ref 0], σ) rfl ?_
      obtain ⟨q7, h8, h⟩ := Option.bind_eq_some_iff.mp h
      refine rf_cv1 (Mt := mX9_find) wf0 rc_X9_refusedText_ok 12 false rfl (List.mem_of_getElem? (i := 64) rfl) mw_X9_find rfl 0 [.int 1] [] rfl rfl rfl (Nat.le_of_ble_eq_true rfl) (ok_X9_find d 1 σ q7 h8) ?_
      show rf_G _ _ _ (25, [some (.ref 0), some (.int p0)], [.int q7.1], q7.2) _ _
      refine rf_b wf0 rc_X9_refusedText_ok 13 1 (29, [some (.ref 0), some (.int p0)], [.int q7.1], q7.2) rfl ?_
      obtain rfl := Option.some.inj h
      exact rf_ri rc_X9_refusedText_ok 15 rfl rfl
  · rw [if_neg c3] at h
    refine rf_f wf0 rc_X9_refusedText_ok 2 (7, [some (.ref 0), some (.int p0)], [], σ) rfl rfl c3 rfl ?_
    refine rf_b wf0 rc_X9_refusedText_ok 3 1 (8, [some (.ref 0), some (.int p0)], [.int (-1)], σ) rfl ?_
    obtain rfl := Option.some.inj h
    exact rf_ri rc_X9_refusedText_ok 4 rfl rfl
def rc_X9_put : List rf_E := [(0, .aload_n 0, 1, 0), (1, .iload_n 1, 1, 1), (2, .invokevirtual 125, 3, 0), (5, .istore 4, 2, 4), (7, .iload 4, 2, 4), (9, .ifCond .eq 6, 3, 15), (12, .iload 4, 2, 4), (14, .ireturn, 1, 0), (15, .aload_n 0, 1, 0), (16, .getfield 19, 3, 901), (19, .iload_n 1, 1, 1), (20, .iload_n 2, 1, 2), (21, .invokevirtual 128, 3, 0), (24, .ifCond .ne 9, 3, 33), (27, .aload_n 0, 1, 0), (28, .iconst 2, 1, 0), (29, .invokevirtual 73, 3, 0), (32, .ireturn, 1, 0), (33, .aload_n 0, 1, 0), (34, .getfield 19, 3, 901), (37, .iload_n 1, 1, 1), (38, .iload_n 2, 1, 2), (39, .invokevirtual 132, 3, 0), (42, .istore 5, 2, 5), (44, .aload_n 0, 1, 0), (45, .getfield 19, 3, 901), (48, .iload_n 1, 1, 1), (49, .iload_n 2, 1, 2), (50, .iload_n 3, 1, 3), (51, .i2b, 1, 0), (52, .invokevirtual 133, 3, 0), (55, .iload 5, 2, 5), (57, .sipush 1000, 3, 0), (60, .iadd, 1, 0), (61, .ireturn, 1, 0)]
theorem rc_X9_put_ok : rf_rc mX9_put rc_X9_put = true := by decide +kernel
theorem mw_X9_put : rf_mw mX9_put := ⟨rf_mt_ok _ (List.mem_of_getElem? (i := 82) rfl), fun h => absurd h (by decide), fun _ => ⟨rf_mi_ok _ (List.mem_of_getElem? (i := 77) rfl), rf_mv_ok _ (List.mem_of_getElem? (i := 77) rfl)⟩, rf_mq_3 _ (List.mem_of_getElem? (i := 7) rfl)⟩
def f_X9_put (p0 : Int32) (p1 : Int32) (p2 : Int32) (σ : rf_S) : Option (Int32 × rf_S) := (f_X9_refusedText p0 σ).bind (fun q1 => if q1.1 = 0 then ((f_X7_has p0 p1 q1.2).bind (fun q4 => if q4 ≠ 0 then ((f_X7_get p0 p1 q1.2).bind (fun q7 => (f_X7_set p0 p1 p2.toInt8.toInt32 q1.2).bind (fun q9 => some ((q7 + 1000), q9)))) else ((f_X9_find 2 q1.2).bind (fun q11 => some (q11.1, q11.2))))) else (some (q1.1, q1.2)))
set_option maxHeartbeats 2000000 in
theorem ok_X9_put (d : Nat) (p0 : Int32) (p1 : Int32) (p2 : Int32) (σ : rf_S) (q : (Int32 × rf_S)) (h : f_X9_put p0 p1 p2 σ = some q) : rf_Ex ly0 (d + 3) mX9_put [.ref 0, .int p0, .int p1, .int p2] σ (some (.int q.1) : Option Value) q.2 := by
  unfold f_X9_put at h
  refine rf_ex mw_X9_put [some (.ref 0), some (.int p0), some (.int p1), some (.int p2), none, none] (Nat.le_of_ble_eq_true rfl) rfl ?_
  refine rf_b wf0 rc_X9_put_ok 0 2 (2, [some (.ref 0), some (.int p0), some (.int p1), some (.int p2), none, none], [.int p0, .ref 0], σ) rfl ?_
  obtain ⟨q1, h2, h⟩ := Option.bind_eq_some_iff.mp h
  refine rf_cv1 (Mt := mX9_refusedText) wf0 rc_X9_put_ok 2 false rfl (List.mem_of_getElem? (i := 78) rfl) mw_X9_refusedText rfl 0 [.int p0] [] rfl rfl rfl (Nat.le_of_ble_eq_true rfl) (ok_X9_refusedText d p0 σ q1 h2) ?_
  show rf_G _ _ _ (5, [some (.ref 0), some (.int p0), some (.int p1), some (.int p2), none, none], [.int q1.1], q1.2) _ _
  refine rf_b wf0 rc_X9_put_ok 3 2 (9, [some (.ref 0), some (.int p0), some (.int p1), some (.int p2), some (.int q1.1), none], [.int q1.1], q1.2) rfl ?_
  by_cases c3 : q1.1 = 0
  · rw [if_pos c3] at h
    refine rf_t wf0 rc_X9_put_ok 5 (15, [some (.ref 0), some (.int p0), some (.int p1), some (.int p2), some (.int q1.1), none], [], q1.2) rfl rfl c3 rfl ?_
    refine rf_b wf0 rc_X9_put_ok 8 4 (21, [some (.ref 0), some (.int p0), some (.int p1), some (.int p2), some (.int q1.1), none], [.int p1, .int p0, .ref 10], q1.2) rfl ?_
    obtain ⟨q4, h5, h⟩ := Option.bind_eq_some_iff.mp h
    refine rf_cv1 (Mt := mX7_has) wf0 rc_X9_put_ok 12 false rfl (List.mem_of_getElem? (i := 79) rfl) mw_X7_has rfl 10 [.int p0, .int p1] [] rfl rfl rfl (Nat.le_of_ble_eq_true rfl) (ok_X7_has (d + 1) p0 p1 q1.2 q4 h5) ?_
    show rf_G _ _ _ (24, [some (.ref 0), some (.int p0), some (.int p1), some (.int p2), some (.int q1.1), none], [.int q4], q1.2) _ _
    by_cases c6 : q4 ≠ 0
    · rw [if_pos c6] at h
      refine rf_t wf0 rc_X9_put_ok 13 (33, [some (.ref 0), some (.int p0), some (.int p1), some (.int p2), some (.int q1.1), none], [], q1.2) rfl rfl c6 rfl ?_
      refine rf_b wf0 rc_X9_put_ok 18 4 (39, [some (.ref 0), some (.int p0), some (.int p1), some (.int p2), some (.int q1.1), none], [.int p1, .int p0, .ref 10], q1.2) rfl ?_
      obtain ⟨q7, h8, h⟩ := Option.bind_eq_some_iff.mp h
      refine rf_cv1 (Mt := mX7_get) wf0 rc_X9_put_ok 22 false rfl (List.mem_of_getElem? (i := 80) rfl) mw_X7_get rfl 10 [.int p0, .int p1] [] rfl rfl rfl (Nat.le_of_ble_eq_true rfl) (ok_X7_get (d + 1) p0 p1 q1.2 q7 h8) ?_
      show rf_G _ _ _ (42, [some (.ref 0), some (.int p0), some (.int p1), some (.int p2), some (.int q1.1), none], [.int q7], q1.2) _ _
      refine rf_b wf0 rc_X9_put_ok 23 7 (52, [some (.ref 0), some (.int p0), some (.int p1), some (.int p2), some (.int q1.1), some (.int q7)], [.int p2.toInt8.toInt32, .int p1, .int p0, .ref 10], q1.2) rfl ?_
      obtain ⟨q9, h10, h⟩ := Option.bind_eq_some_iff.mp h
      refine rf_cv1 (Mt := mX7_set) wf0 rc_X9_put_ok 30 false rfl (List.mem_of_getElem? (i := 81) rfl) mw_X7_set rfl 10 [.int p0, .int p1, .int p2.toInt8.toInt32] [] rfl rfl rfl (Nat.le_of_ble_eq_true rfl) (ok_X7_set (d + 1) p0 p1 p2.toInt8.toInt32 q1.2 q9 h10) ?_
      show rf_G _ _ _ (55, [some (.ref 0), some (.int p0), some (.int p1), some (.int p2), some (.int q1.1), some (.int q7)], [], q9) _ _
      refine rf_b wf0 rc_X9_put_ok 31 3 (61, [some (.ref 0), some (.int p0), some (.int p1), some (.int p2), some (.int q1.1), some (.int q7)], [.int (q7 + 1000)], q9) rfl ?_
      obtain rfl := Option.some.inj h
      exact rf_ri rc_X9_put_ok 34 rfl rfl
    · rw [if_neg c6] at h
      refine rf_f wf0 rc_X9_put_ok 13 (27, [some (.ref 0), some (.int p0), some (.int p1), some (.int p2), some (.int q1.1), none], [], q1.2) rfl rfl c6 rfl ?_
      refine rf_b wf0 rc_X9_put_ok 14 2 (29, [some (.ref 0), some (.int p0), some (.int p1), some (.int p2), some (.int q1.1), none], [.int 2, .ref 0], q1.2) rfl ?_
      obtain ⟨q11, h12, h⟩ := Option.bind_eq_some_iff.mp h
      refine rf_cv1 (Mt := mX9_find) wf0 rc_X9_put_ok 16 false rfl (List.mem_of_getElem? (i := 64) rfl) mw_X9_find rfl 0 [.int 2] [] rfl rfl rfl (Nat.le_of_ble_eq_true rfl) (ok_X9_find (d + 1) 2 q1.2 q11 h12) ?_
      show rf_G _ _ _ (32, [some (.ref 0), some (.int p0), some (.int p1), some (.int p2), some (.int q1.1), none], [.int q11.1], q11.2) _ _
      obtain rfl := Option.some.inj h
      exact rf_ri rc_X9_put_ok 17 rfl rfl
  · rw [if_neg c3] at h
    refine rf_f wf0 rc_X9_put_ok 5 (12, [some (.ref 0), some (.int p0), some (.int p1), some (.int p2), some (.int q1.1), none], [], q1.2) rfl rfl c3 rfl ?_
    refine rf_b wf0 rc_X9_put_ok 6 1 (14, [some (.ref 0), some (.int p0), some (.int p1), some (.int p2), some (.int q1.1), none], [.int q1.1], q1.2) rfl ?_
    obtain rfl := Option.some.inj h
    exact rf_ri rc_X9_put_ok 7 rfl rfl
def rc_X9_fault : List rf_E := [(0, .aload_n 0, 1, 0), (1, .iload_n 1, 1, 1), (2, .invokevirtual 125, 3, 0), (5, .istore_n 2, 1, 2), (6, .iload_n 2, 1, 2), (7, .ifCond .eq 5, 3, 12), (10, .iload_n 2, 1, 2), (11, .ireturn, 1, 0), (12, .aload_n 0, 1, 0), (13, .getfield 26, 3, 902), (16, .aload_n 0, 1, 0), (17, .getfield 19, 3, 901), (20, .iload_n 1, 1, 1), (21, .invokevirtual 136, 3, 0), (24, .ireturn, 1, 0)]
theorem rc_X9_fault_ok : rf_rc mX9_fault rc_X9_fault = true := by decide +kernel
theorem mw_X9_fault : rf_mw mX9_fault := ⟨rf_mt_ok _ (List.mem_of_getElem? (i := 83) rfl), fun h => absurd h (by decide), fun _ => ⟨rf_mi_ok _ (List.mem_of_getElem? (i := 78) rfl), rf_mv_ok _ (List.mem_of_getElem? (i := 78) rfl)⟩, rf_mq_3 _ (List.mem_of_getElem? (i := 8) rfl)⟩
def f_X9_fault (p0 : Int32) (σ : rf_S) : Option (Int32 × rf_S) := (f_X9_refusedText p0 σ).bind (fun q1 => if q1.1 = 0 then ((f_X3_read p0 q1.2).bind (fun q4 => some (q4.1, q4.2))) else (some (q1.1, q1.2)))
set_option maxHeartbeats 2000000 in
theorem ok_X9_fault (d : Nat) (p0 : Int32) (σ : rf_S) (q : (Int32 × rf_S)) (h : f_X9_fault p0 σ = some q) : rf_Ex ly0 (d + 6) mX9_fault [.ref 0, .int p0] σ (some (.int q.1) : Option Value) q.2 := by
  unfold f_X9_fault at h
  refine rf_ex mw_X9_fault [some (.ref 0), some (.int p0), none] (Nat.le_of_ble_eq_true rfl) rfl ?_
  refine rf_b wf0 rc_X9_fault_ok 0 2 (2, [some (.ref 0), some (.int p0), none], [.int p0, .ref 0], σ) rfl ?_
  obtain ⟨q1, h2, h⟩ := Option.bind_eq_some_iff.mp h
  refine rf_cv1 (Mt := mX9_refusedText) wf0 rc_X9_fault_ok 2 false rfl (List.mem_of_getElem? (i := 78) rfl) mw_X9_refusedText rfl 0 [.int p0] [] rfl rfl rfl (Nat.le_of_ble_eq_true rfl) (ok_X9_refusedText (d + 3) p0 σ q1 h2) ?_
  show rf_G _ _ _ (5, [some (.ref 0), some (.int p0), none], [.int q1.1], q1.2) _ _
  refine rf_b wf0 rc_X9_fault_ok 3 2 (7, [some (.ref 0), some (.int p0), some (.int q1.1)], [.int q1.1], q1.2) rfl ?_
  by_cases c3 : q1.1 = 0
  · rw [if_pos c3] at h
    refine rf_t wf0 rc_X9_fault_ok 5 (12, [some (.ref 0), some (.int p0), some (.int q1.1)], [], q1.2) rfl rfl c3 rfl ?_
    refine rf_b wf0 rc_X9_fault_ok 8 5 (21, [some (.ref 0), some (.int p0), some (.int q1.1)], [.int p0, .ref 10, .ref 17], q1.2) rfl ?_
    obtain ⟨q4, h5, h⟩ := Option.bind_eq_some_iff.mp h
    refine rf_cv1 (Mt := mX3_read) wf0 rc_X9_fault_ok 13 false rfl (List.mem_of_getElem? (i := 82) rfl) mw_X3_read rfl 17 [.ref 10, .int p0] [] rfl rfl rfl (Nat.le_of_ble_eq_true rfl) (ok_X3_read d p0 q1.2 q4 h5) ?_
    show rf_G _ _ _ (24, [some (.ref 0), some (.int p0), some (.int q1.1)], [.int q4.1], q4.2) _ _
    obtain rfl := Option.some.inj h
    exact rf_ri rc_X9_fault_ok 14 rfl rfl
  · rw [if_neg c3] at h
    refine rf_f wf0 rc_X9_fault_ok 5 (10, [some (.ref 0), some (.int p0), some (.int q1.1)], [], q1.2) rfl rfl c3 rfl ?_
    refine rf_b wf0 rc_X9_fault_ok 6 1 (11, [some (.ref 0), some (.int p0), some (.int q1.1)], [.int q1.1], q1.2) rfl ?_
    obtain rfl := Option.some.inj h
    exact rf_ri rc_X9_fault_ok 7 rfl rfl
def rc_X9_town : List rf_E := [(0, .aload_n 0, 1, 0), (1, .iload_n 1, 1, 1), (2, .invokevirtual 125, 3, 0), (5, .istore_n 2, 1, 2), (6, .iload_n 2, 1, 2), (7, .ifCond .eq 5, 3, 12), (10, .iload_n 2, 1, 2), (11, .ireturn, 1, 0), (12, .aload_n 0, 1, 0), (13, .getfield 26, 3, 902), (16, .aload_n 0, 1, 0), (17, .getfield 19, 3, 901), (20, .iload_n 1, 1, 1), (21, .invokevirtual 136, 3, 0), (24, .bipush (-9), 2, 0), (26, .if_icmp .eq 6, 3, 32), (29, .bipush (-4), 2, 0), (31, .ireturn, 1, 0), (32, .aload_n 0, 1, 0), (33, .getfield 33, 3, 903), (36, .aload_n 0, 1, 0), (37, .getfield 26, 3, 902), (40, .getfield 140, 3, 300), (43, .invokevirtual 144, 3, 0), (46, .aload_n 0, 1, 0), (47, .getfield 40, 3, 904), (50, .invokevirtual 148, 3, 0), (53, .aload_n 0, 1, 0), (54, .getfield 33, 3, 903), (57, .invokevirtual 151, 3, 0), (60, .ireturn, 1, 0)]
theorem rc_X9_town_ok : rf_rc mX9_town rc_X9_town = true := by decide +kernel
theorem mw_X9_town : rf_mw mX9_town := ⟨rf_mt_ok _ (List.mem_of_getElem? (i := 84) rfl), fun h => absurd h (by decide), fun _ => ⟨rf_mi_ok _ (List.mem_of_getElem? (i := 79) rfl), rf_mv_ok _ (List.mem_of_getElem? (i := 79) rfl)⟩, rf_mq_3 _ (List.mem_of_getElem? (i := 9) rfl)⟩
def f_X9_town (p0 : Int32) (σ : rf_S) : Option (Int32 × rf_S) := (f_X9_refusedText p0 σ).bind (fun q1 => if q1.1 = 0 then ((f_X3_read p0 q1.2).bind (fun q4 => if q4.1 = (-9) then ((f_X8_settle q4.2).bind (fun q7 => (f_X1_forget q7).bind (fun q9 => (f_X8_members q9).bind (fun q11 => some (q11, q9))))) else (some ((-4), q4.2)))) else (some (q1.1, q1.2)))
set_option maxHeartbeats 2000000 in
theorem ok_X9_town (d : Nat) (p0 : Int32) (σ : rf_S) (q : (Int32 × rf_S)) (h : f_X9_town p0 σ = some q) : rf_Ex ly0 (d + 6) mX9_town [.ref 0, .int p0] σ (some (.int q.1) : Option Value) q.2 := by
  unfold f_X9_town at h
  refine rf_ex mw_X9_town [some (.ref 0), some (.int p0), none] (Nat.le_of_ble_eq_true rfl) rfl ?_
  refine rf_b wf0 rc_X9_town_ok 0 2 (2, [some (.ref 0), some (.int p0), none], [.int p0, .ref 0], σ) rfl ?_
  obtain ⟨q1, h2, h⟩ := Option.bind_eq_some_iff.mp h
  refine rf_cv1 (Mt := mX9_refusedText) wf0 rc_X9_town_ok 2 false rfl (List.mem_of_getElem? (i := 78) rfl) mw_X9_refusedText rfl 0 [.int p0] [] rfl rfl rfl (Nat.le_of_ble_eq_true rfl) (ok_X9_refusedText (d + 3) p0 σ q1 h2) ?_
  show rf_G _ _ _ (5, [some (.ref 0), some (.int p0), none], [.int q1.1], q1.2) _ _
  refine rf_b wf0 rc_X9_town_ok 3 2 (7, [some (.ref 0), some (.int p0), some (.int q1.1)], [.int q1.1], q1.2) rfl ?_
  by_cases c3 : q1.1 = 0
  · rw [if_pos c3] at h
    refine rf_t wf0 rc_X9_town_ok 5 (12, [some (.ref 0), some (.int p0), some (.int q1.1)], [], q1.2) rfl rfl c3 rfl ?_
    refine rf_b wf0 rc_X9_town_ok 8 5 (21, [some (.ref 0), some (.int p0), some (.int q1.1)], [.int p0, .ref 10, .ref 17], q1.2) rfl ?_
    obtain ⟨q4, h5, h⟩ := Option.bind_eq_some_iff.mp h
    refine rf_cv1 (Mt := mX3_read) wf0 rc_X9_town_ok 13 false rfl (List.mem_of_getElem? (i := 82) rfl) mw_X3_read rfl 17 [.ref 10, .int p0] [] rfl rfl rfl (Nat.le_of_ble_eq_true rfl) (ok_X3_read d p0 q1.2 q4 h5) ?_
    show rf_G _ _ _ (24, [some (.ref 0), some (.int p0), some (.int q1.1)], [.int q4.1], q4.2) _ _
    refine rf_b wf0 rc_X9_town_ok 14 1 (26, [some (.ref 0), some (.int p0), some (.int q1.1)], [.int (-9), .int q4.1], q4.2) rfl ?_
    by_cases c6 : q4.1 = (-9)
    · rw [if_pos c6] at h
      refine rf_t wf0 rc_X9_town_ok 15 (32, [some (.ref 0), some (.int p0), some (.int q1.1)], [], q4.2) rfl rfl c6 rfl ?_
      refine rf_b wf0 rc_X9_town_ok 18 5 (43, [some (.ref 0), some (.int p0), some (.int q1.1)], [.ref 18, .ref 25], q4.2) rfl ?_
      obtain ⟨q7, h8, h⟩ := Option.bind_eq_some_iff.mp h
      refine rf_cv1 (Mt := mX8_settle) wf0 rc_X9_town_ok 23 false rfl (List.mem_of_getElem? (i := 83) rfl) mw_X8_settle rfl 25 [.ref 18] [] rfl rfl rfl (Nat.le_of_ble_eq_true rfl) (ok_X8_settle (d + 2)  q4.2 q7 h8) ?_
      show rf_G _ _ _ (46, [some (.ref 0), some (.int p0), some (.int q1.1)], [], q7) _ _
      refine rf_b wf0 rc_X9_town_ok 24 2 (50, [some (.ref 0), some (.int p0), some (.int q1.1)], [.ref 38], q7) rfl ?_
      obtain ⟨q9, h10, h⟩ := Option.bind_eq_some_iff.mp h
      refine rf_cv1 (Mt := mX1_forget) wf0 rc_X9_town_ok 26 false rfl (List.mem_of_getElem? (i := 84) rfl) mw_X1_forget rfl 38 [] [] rfl rfl rfl (Nat.le_of_ble_eq_true rfl) (ok_X1_forget (d + 3)  q7 q9 h10) ?_
      show rf_G _ _ _ (53, [some (.ref 0), some (.int p0), some (.int q1.1)], [], q9) _ _
      refine rf_b wf0 rc_X9_town_ok 27 2 (57, [some (.ref 0), some (.int p0), some (.int q1.1)], [.ref 25], q9) rfl ?_
      obtain ⟨q11, h12, h⟩ := Option.bind_eq_some_iff.mp h
      refine rf_cv1 (Mt := mX8_members) wf0 rc_X9_town_ok 29 false rfl (List.mem_of_getElem? (i := 85) rfl) mw_X8_members rfl 25 [] [] rfl rfl rfl (Nat.le_of_ble_eq_true rfl) (ok_X8_members (d + 4)  q9 q11 h12) ?_
      show rf_G _ _ _ (60, [some (.ref 0), some (.int p0), some (.int q1.1)], [.int q11], q9) _ _
      obtain rfl := Option.some.inj h
      exact rf_ri rc_X9_town_ok 30 rfl rfl
    · rw [if_neg c6] at h
      refine rf_f wf0 rc_X9_town_ok 15 (29, [some (.ref 0), some (.int p0), some (.int q1.1)], [], q4.2) rfl rfl c6 rfl ?_
      refine rf_b wf0 rc_X9_town_ok 16 1 (31, [some (.ref 0), some (.int p0), some (.int q1.1)], [.int (-4)], q4.2) rfl ?_
      obtain rfl := Option.some.inj h
      exact rf_ri rc_X9_town_ok 17 rfl rfl
  · rw [if_neg c3] at h
    refine rf_f wf0 rc_X9_town_ok 5 (10, [some (.ref 0), some (.int p0), some (.int q1.1)], [], q1.2) rfl rfl c3 rfl ?_
    refine rf_b wf0 rc_X9_town_ok 6 1 (11, [some (.ref 0), some (.int p0), some (.int q1.1)], [.int q1.1], q1.2) rfl ?_
    obtain rfl := Option.some.inj h
    exact rf_ri rc_X9_town_ok 7 rfl rfl
def rc_X9_isMember : List rf_E := [(0, .iload_n 1, 1, 1), (1, .ifCond .lt 18, 3, 19), (4, .iload_n 1, 1, 1), (5, .aload_n 0, 1, 0), (6, .getfield 33, 3, 903), (9, .invokevirtual 151, 3, 0), (12, .if_icmp .ge 7, 3, 19), (15, .iconst 1, 1, 0), (16, .goto 4, 3, 20), (19, .iconst 0, 1, 0), (20, .ireturn, 1, 0)]
theorem rc_X9_isMember_ok : rf_rc mX9_isMember rc_X9_isMember = true := by decide +kernel
theorem mw_X9_isMember : rf_mw mX9_isMember := ⟨rf_mt_ok _ (List.mem_of_getElem? (i := 130) rfl), fun h => absurd h (by decide), fun _ => ⟨rf_mi_ok _ (List.mem_of_getElem? (i := 121) rfl), rf_mv_ok _ (List.mem_of_getElem? (i := 121) rfl)⟩, rf_mq_5 _ (List.mem_of_getElem? (i := 5) rfl)⟩
def f_X9_isMember (p0 : Int32) (σ : rf_S) : Option Int32 := if p0 < 0 then (some 0) else ((f_X8_members σ).bind (fun q2 => if q2 ≤ p0 then (some 0) else (some 1)))
set_option maxHeartbeats 2000000 in
theorem ok_X9_isMember (d : Nat) (p0 : Int32) (σ : rf_S) (q : Int32) (h : f_X9_isMember p0 σ = some q) : rf_Ex ly0 (d + 2) mX9_isMember [.ref 0, .int p0] σ (some (.int q) : Option Value) σ := by
  unfold f_X9_isMember at h
  refine rf_ex mw_X9_isMember [some (.ref 0), some (.int p0)] (Nat.le_of_ble_eq_true rfl) rfl ?_
  refine rf_b wf0 rc_X9_isMember_ok 0 1 (1, [some (.ref 0), some (.int p0)], [.int p0], σ) rfl ?_
  by_cases c1 : p0 < 0
  · rw [if_pos c1] at h
    refine rf_t wf0 rc_X9_isMember_ok 1 (19, [some (.ref 0), some (.int p0)], [], σ) rfl rfl c1 rfl ?_
    refine rf_b wf0 rc_X9_isMember_ok 9 1 (20, [some (.ref 0), some (.int p0)], [.int 0], σ) rfl ?_
    obtain rfl := Option.some.inj h
    exact rf_rz rc_X9_isMember_ok 10 rfl rfl (by decide)
  · rw [if_neg c1] at h
    refine rf_f wf0 rc_X9_isMember_ok 1 (4, [some (.ref 0), some (.int p0)], [], σ) rfl rfl c1 rfl ?_
    refine rf_b wf0 rc_X9_isMember_ok 2 3 (9, [some (.ref 0), some (.int p0)], [.ref 25, .int p0], σ) rfl ?_
    obtain ⟨q2, h3, h⟩ := Option.bind_eq_some_iff.mp h
    refine rf_cv1 (Mt := mX8_members) wf0 rc_X9_isMember_ok 5 false rfl (List.mem_of_getElem? (i := 85) rfl) mw_X8_members rfl 25 [] [.int p0] rfl rfl rfl (Nat.le_of_ble_eq_true rfl) (ok_X8_members d  σ q2 h3) ?_
    show rf_G _ _ _ (12, [some (.ref 0), some (.int p0)], [.int q2, .int p0], σ) _ _
    by_cases c4 : q2 ≤ p0
    · rw [if_pos c4] at h
      refine rf_t wf0 rc_X9_isMember_ok 6 (19, [some (.ref 0), some (.int p0)], [], σ) rfl rfl c4 rfl ?_
      refine rf_b wf0 rc_X9_isMember_ok 9 1 (20, [some (.ref 0), some (.int p0)], [.int 0], σ) rfl ?_
      obtain rfl := Option.some.inj h
      exact rf_rz rc_X9_isMember_ok 10 rfl rfl (by decide)
    · rw [if_neg c4] at h
      refine rf_f wf0 rc_X9_isMember_ok 6 (15, [some (.ref 0), some (.int p0)], [], σ) rfl rfl c4 rfl ?_
      refine rf_b wf0 rc_X9_isMember_ok 7 2 (20, [some (.ref 0), some (.int p0)], [.int 1], σ) rfl ?_
      obtain rfl := Option.some.inj h
      exact rf_rz rc_X9_isMember_ok 10 rfl rfl (by decide)
def rc_X9_ofMember : List rf_E := [(0, .iload_n 2, 1, 2), (1, .tableswitch 109 0 6 #[43, 52, 61, 70, 80, 90, 100], 43, 0), (44, .aload_n 0, 1, 0), (45, .getfield 33, 3, 903), (48, .iload_n 1, 1, 1), (49, .invokevirtual 176, 3, 0), (52, .ireturn, 1, 0), (53, .aload_n 0, 1, 0), (54, .getfield 33, 3, 903), (57, .iload_n 1, 1, 1), (58, .invokevirtual 196, 3, 0), (61, .ireturn, 1, 0), (62, .aload_n 0, 1, 0), (63, .getfield 33, 3, 903), (66, .iload_n 1, 1, 1), (67, .invokevirtual 383, 3, 0), (70, .ireturn, 1, 0), (71, .aload_n 0, 1, 0), (72, .getfield 33, 3, 903), (75, .getfield 207, 3, 802), (78, .iload_n 1, 1, 1), (79, .iaload, 1, 0), (80, .ireturn, 1, 0), (81, .aload_n 0, 1, 0), (82, .getfield 33, 3, 903), (85, .getfield 210, 3, 803), (88, .iload_n 1, 1, 1), (89, .iaload, 1, 0), (90, .ireturn, 1, 0), (91, .aload_n 0, 1, 0), (92, .getfield 33, 3, 903), (95, .getfield 199, 3, 804), (98, .iload_n 1, 1, 1), (99, .iaload, 1, 0), (100, .ireturn, 1, 0), (101, .aload_n 0, 1, 0), (102, .getfield 33, 3, 903), (105, .iload_n 1, 1, 1), (106, .invokevirtual 193, 3, 0), (109, .ireturn, 1, 0), (110, .aload_n 0, 1, 0), (111, .getfield 33, 3, 903), (114, .iload_n 1, 1, 1), (115, .invokevirtual 236, 3, 0), (118, .ireturn, 1, 0)]
theorem rc_X9_ofMember_ok : rf_rc mX9_ofMember rc_X9_ofMember = true := by decide +kernel
theorem mw_X9_ofMember : rf_mw mX9_ofMember := ⟨rf_mt_ok _ (List.mem_of_getElem? (i := 131) rfl), fun h => absurd h (by decide), fun _ => ⟨rf_mi_ok _ (List.mem_of_getElem? (i := 122) rfl), rf_mv_ok _ (List.mem_of_getElem? (i := 122) rfl)⟩, rf_mq_5 _ (List.mem_of_getElem? (i := 6) rfl)⟩
def f_X9_ofMember (p0 : Int32) (p1 : Int32) (σ : rf_S) : Option Int32 := if p1 = 0 then ((f_X8_kindOf p0 σ).bind (fun q2 => some q2)) else (if p1 = 1 then ((f_X8_markOf p0 σ).bind (fun q5 => some q5)) else (if p1 = 2 then ((f_X8_widthOf p0 σ).bind (fun q8 => some q8)) else (if p1 = 3 then (if rf_ck ly0 0 34 p0 = true then (some (σ.1 34 p0.toNatClampNeg)) else none) else (if p1 = 4 then (if rf_ck ly0 0 35 p0 = true then (some (σ.1 35 p0.toNatClampNeg)) else none) else (if p1 = 5 then (if rf_ck ly0 0 36 p0 = true then (some (σ.1 36 p0.toNatClampNeg)) else none) else (if p1 = 6 then ((f_X8_feltBy p0 σ).bind (fun q17 => some q17)) else ((f_X8_doesNow p0 σ).bind (fun q19 => some q19))))))))
set_option maxHeartbeats 2000000 in
theorem ok_X9_ofMember (d : Nat) (p0 : Int32) (p1 : Int32) (σ : rf_S) (q : Int32) (h : f_X9_ofMember p0 p1 σ = some q) : rf_Ex ly0 (d + 5) mX9_ofMember [.ref 0, .int p0, .int p1] σ (some (.int q) : Option Value) σ := by
  unfold f_X9_ofMember at h
  refine rf_ex mw_X9_ofMember [some (.ref 0), some (.int p0), some (.int p1)] (Nat.le_of_ble_eq_true rfl) rfl ?_
  refine rf_b wf0 rc_X9_ofMember_ok 0 1 (1, [some (.ref 0), some (.int p0), some (.int p1)], [.int p1], σ) rfl ?_
  by_cases c1 : p1 = 0
  · rw [if_pos c1] at h
    refine rf_sw rc_X9_ofMember_ok 1 44 rfl c1 (by decide) (by decide) rfl (by decide) ?_
    refine rf_b wf0 rc_X9_ofMember_ok 2 3 (49, [some (.ref 0), some (.int p0), some (.int p1)], [.int p0, .ref 25], σ) rfl ?_
    obtain ⟨q2, h3, h⟩ := Option.bind_eq_some_iff.mp h
    refine rf_cv1 (Mt := mX8_kindOf) wf0 rc_X9_ofMember_ok 5 false rfl (List.mem_of_getElem? (i := 92) rfl) mw_X8_kindOf rfl 25 [.int p0] [] rfl rfl rfl (Nat.le_of_ble_eq_true rfl) (ok_X8_kindOf (d + 3) p0 σ q2 h3) ?_
    show rf_G _ _ _ (52, [some (.ref 0), some (.int p0), some (.int p1)], [.int q2], σ) _ _
    obtain rfl := Option.some.inj h
    exact rf_ri rc_X9_ofMember_ok 6 rfl rfl
  · rw [if_neg c1] at h
    by_cases c4 : p1 = 1
    · rw [if_pos c4] at h
      refine rf_sw rc_X9_ofMember_ok 1 53 rfl c4 (by decide) (by decide) rfl (by decide) ?_
      refine rf_b wf0 rc_X9_ofMember_ok 7 3 (58, [some (.ref 0), some (.int p0), some (.int p1)], [.int p0, .ref 25], σ) rfl ?_
      obtain ⟨q5, h6, h⟩ := Option.bind_eq_some_iff.mp h
      refine rf_cv1 (Mt := mX8_markOf) wf0 rc_X9_ofMember_ok 10 false rfl (List.mem_of_getElem? (i := 98) rfl) mw_X8_markOf rfl 25 [.int p0] [] rfl rfl rfl (Nat.le_of_ble_eq_true rfl) (ok_X8_markOf (d + 3) p0 σ q5 h6) ?_
      show rf_G _ _ _ (61, [some (.ref 0), some (.int p0), some (.int p1)], [.int q5], σ) _ _
      obtain rfl := Option.some.inj h
      exact rf_ri rc_X9_ofMember_ok 11 rfl rfl
    · rw [if_neg c4] at h
      by_cases c7 : p1 = 2
      · rw [if_pos c7] at h
        refine rf_sw rc_X9_ofMember_ok 1 62 rfl c7 (by decide) (by decide) rfl (by decide) ?_
        refine rf_b wf0 rc_X9_ofMember_ok 12 3 (67, [some (.ref 0), some (.int p0), some (.int p1)], [.int p0, .ref 25], σ) rfl ?_
        obtain ⟨q8, h9, h⟩ := Option.bind_eq_some_iff.mp h
        refine rf_cv1 (Mt := mX8_widthOf) wf0 rc_X9_ofMember_ok 15 false rfl (List.mem_of_getElem? (i := 136) rfl) mw_X8_widthOf rfl 25 [.int p0] [] rfl rfl rfl (Nat.le_of_ble_eq_true rfl) (ok_X8_widthOf (d + 3) p0 σ q8 h9) ?_
        show rf_G _ _ _ (70, [some (.ref 0), some (.int p0), some (.int p1)], [.int q8], σ) _ _
        obtain rfl := Option.some.inj h
        exact rf_ri rc_X9_ofMember_ok 16 rfl rfl
      · rw [if_neg c7] at h
        by_cases c10 : p1 = 3
        · rw [if_pos c10] at h
          refine rf_sw rc_X9_ofMember_ok 1 71 rfl c10 (by decide) (by decide) rfl (by decide) ?_
          refine rf_b wf0 rc_X9_ofMember_ok 17 4 (79, [some (.ref 0), some (.int p0), some (.int p1)], [.int p0, .ref 34], σ) rfl ?_
          obtain ⟨g11, h⟩ := rf_ifn h
          refine rf_gd wf0 rc_X9_ofMember_ok 21 (80, [some (.ref 0), some (.int p0), some (.int p1)], [.int (σ.1 34 p0.toNatClampNeg)], σ) rfl rfl g11 rfl ?_
          obtain rfl := Option.some.inj h
          exact rf_ri rc_X9_ofMember_ok 22 rfl rfl
        · rw [if_neg c10] at h
          by_cases c12 : p1 = 4
          · rw [if_pos c12] at h
            refine rf_sw rc_X9_ofMember_ok 1 81 rfl c12 (by decide) (by decide) rfl (by decide) ?_
            refine rf_b wf0 rc_X9_ofMember_ok 23 4 (89, [some (.ref 0), some (.int p0), some (.int p1)], [.int p0, .ref 35], σ) rfl ?_
            obtain ⟨g13, h⟩ := rf_ifn h
            refine rf_gd wf0 rc_X9_ofMember_ok 27 (90, [some (.ref 0), some (.int p0), some (.int p1)], [.int (σ.1 35 p0.toNatClampNeg)], σ) rfl rfl g13 rfl ?_
            obtain rfl := Option.some.inj h
            exact rf_ri rc_X9_ofMember_ok 28 rfl rfl
          · rw [if_neg c12] at h
            by_cases c14 : p1 = 5
            · rw [if_pos c14] at h
              refine rf_sw rc_X9_ofMember_ok 1 91 rfl c14 (by decide) (by decide) rfl (by decide) ?_
              refine rf_b wf0 rc_X9_ofMember_ok 29 4 (99, [some (.ref 0), some (.int p0), some (.int p1)], [.int p0, .ref 36], σ) rfl ?_
              obtain ⟨g15, h⟩ := rf_ifn h
              refine rf_gd wf0 rc_X9_ofMember_ok 33 (100, [some (.ref 0), some (.int p0), some (.int p1)], [.int (σ.1 36 p0.toNatClampNeg)], σ) rfl rfl g15 rfl ?_
              obtain rfl := Option.some.inj h
              exact rf_ri rc_X9_ofMember_ok 34 rfl rfl
            · rw [if_neg c14] at h
              by_cases c16 : p1 = 6
              · rw [if_pos c16] at h
                refine rf_sw rc_X9_ofMember_ok 1 101 rfl c16 (by decide) (by decide) rfl (by decide) ?_
                refine rf_b wf0 rc_X9_ofMember_ok 35 3 (106, [some (.ref 0), some (.int p0), some (.int p1)], [.int p0, .ref 25], σ) rfl ?_
                obtain ⟨q17, h18, h⟩ := Option.bind_eq_some_iff.mp h
                refine rf_cv1 (Mt := mX8_feltBy) wf0 rc_X9_ofMember_ok 38 false rfl (List.mem_of_getElem? (i := 97) rfl) mw_X8_feltBy rfl 25 [.int p0] [] rfl rfl rfl (Nat.le_of_ble_eq_true rfl) (ok_X8_feltBy (d + 2) p0 σ q17 h18) ?_
                show rf_G _ _ _ (109, [some (.ref 0), some (.int p0), some (.int p1)], [.int q17], σ) _ _
                obtain rfl := Option.some.inj h
                exact rf_ri rc_X9_ofMember_ok 39 rfl rfl
              · rw [if_neg c16] at h
                refine rf_sd rc_X9_ofMember_ok 1 [0, 1, 2, 3, 4, 5, 6] 110 rfl (by intro k hk; simp only [List.mem_cons, List.not_mem_nil, or_false] at hk; rcases hk with rfl | rfl | rfl | rfl | rfl | rfl | rfl <;> assumption) (by decide) (by decide) ?_
                refine rf_b wf0 rc_X9_ofMember_ok 40 3 (115, [some (.ref 0), some (.int p0), some (.int p1)], [.int p0, .ref 25], σ) rfl ?_
                obtain ⟨q19, h20, h⟩ := Option.bind_eq_some_iff.mp h
                refine rf_cv1 (Mt := mX8_doesNow) wf0 rc_X9_ofMember_ok 43 false rfl (List.mem_of_getElem? (i := 104) rfl) mw_X8_doesNow rfl 25 [.int p0] [] rfl rfl rfl (Nat.le_of_ble_eq_true rfl) (ok_X8_doesNow d p0 σ q19 h20) ?_
                show rf_G _ _ _ (118, [some (.ref 0), some (.int p0), some (.int p1)], [.int q19], σ) _ _
                obtain rfl := Option.some.inj h
                exact rf_ri rc_X9_ofMember_ok 44 rfl rfl
