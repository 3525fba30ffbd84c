def rc_X10_noDeed : List rf_E := [(0, .aload_n 0, 1, 0), (1, .getfield 75, 3, 1017), (4, .ifCond .ne 8, 3, 12), (7, .bipush (-4), 2, 0), (9, .goto 18, 3, 27), (12, .aload_n 0, 1, 0), (13, .getfield 143, 3, 1025), (16, .bipush 40, 2, 0), (18, .if_icmp .ne 8, 3, 26), (21, .bipush (-2), 2, 0), (23, .goto 4, 3, 27), (26, .iconst 0, 1, 0), (27, .ireturn, 1, 0)]
theorem rc_X10_noDeed_ok : rf_rc mX10_noDeed rc_X10_noDeed = true := by decide +kernel
theorem mw_X10_noDeed : rf_mw mX10_noDeed := ⟨rf_mt_ok _ (List.mem_of_getElem? (i := 195) rfl), fun h => absurd h (by decide), fun _ => ⟨rf_mi_ok _ (List.mem_of_getElem? (i := 173) rfl), rf_mv_ok _ (List.mem_of_getElem? (i := 173) rfl)⟩, rf_mq_7 _ (List.mem_of_getElem? (i := 20) rfl)⟩
def f_X10_noDeed (σ : rf_S) : Option Int32 := if (σ.1 0 17) ≠ 0 then (if (σ.1 0 25) ≠ 40 then (some 0) else (some (-2))) else (some (-4))
set_option maxHeartbeats 2000000 in
theorem ok_X10_noDeed (d : Nat) (σ : rf_S) (q : Int32) (h : f_X10_noDeed σ = some q) : rf_Ex ly1 (d + 1) mX10_noDeed [.ref 0] σ (some (.int q) : Option Value) σ := by
  unfold f_X10_noDeed at h
  refine rf_ex mw_X10_noDeed [some (.ref 0)] (Nat.le_of_ble_eq_true rfl) rfl ?_
  refine rf_b wf1 rc_X10_noDeed_ok 0 2 (4, [some (.ref 0)], [.int (σ.1 0 17)], σ) rfl ?_
  by_cases c1 : (σ.1 0 17) ≠ 0
  · rw [if_pos c1] at h
    refine rf_t wf1 rc_X10_noDeed_ok 2 (12, [some (.ref 0)], [], σ) rfl rfl c1 rfl ?_
    refine rf_b wf1 rc_X10_noDeed_ok 5 3 (18, [some (.ref 0)], [.int 40, .int (σ.1 0 25)], σ) rfl ?_
    by_cases c2 : (σ.1 0 25) ≠ 40
    · rw [if_pos c2] at h
      refine rf_t wf1 rc_X10_noDeed_ok 8 (26, [some (.ref 0)], [], σ) rfl rfl c2 rfl ?_
      refine rf_b wf1 rc_X10_noDeed_ok 11 1 (27, [some (.ref 0)], [.int 0], σ) rfl ?_
      obtain rfl := Option.some.inj h
      exact rf_ri rc_X10_noDeed_ok 12 rfl rfl
    · rw [if_neg c2] at h
      refine rf_f wf1 rc_X10_noDeed_ok 8 (21, [some (.ref 0)], [], σ) rfl rfl c2 rfl ?_
      refine rf_b wf1 rc_X10_noDeed_ok 9 2 (27, [some (.ref 0)], [.int (-2)], σ) rfl ?_
      obtain rfl := Option.some.inj h
      exact rf_ri rc_X10_noDeed_ok 12 rfl rfl
  · rw [if_neg c1] at h
    refine rf_f wf1 rc_X10_noDeed_ok 2 (7, [some (.ref 0)], [], σ) rfl rfl c1 rfl ?_
    refine rf_b wf1 rc_X10_noDeed_ok 3 2 (27, [some (.ref 0)], [.int (-4)], σ) rfl ?_
    obtain rfl := Option.some.inj h
    exact rf_ri rc_X10_noDeed_ok 12 rfl rfl
def rc_X10_hour : List rf_E := [(0, .aload_n 0, 1, 0), (1, .invokevirtual 209, 3, 0), (4, .ifCond .eq 8, 3, 12), (7, .aload_n 0, 1, 0), (8, .invokevirtual 209, 3, 0), (11, .ireturn, 1, 0), (12, .aload_n 0, 1, 0), (13, .invokevirtual 199, 3, 0), (16, .aload_n 0, 1, 0), (17, .aload_n 0, 1, 0), (18, .getfield 47, 3, 1022), (21, .invokevirtual 213, 3, 0), (24, .ireturn, 1, 0)]
theorem rc_X10_hour_ok : rf_rc mX10_hour rc_X10_hour = true := by decide +kernel
theorem mw_X10_hour : rf_mw mX10_hour := ⟨rf_mt_ok _ (List.mem_of_getElem? (i := 196) rfl), fun h => absurd h (by decide), fun _ => ⟨rf_mi_ok _ (List.mem_of_getElem? (i := 174) rfl), rf_mv_ok _ (List.mem_of_getElem? (i := 174) rfl)⟩, rf_mq_7 _ (List.mem_of_getElem? (i := 21) rfl)⟩
def f_X10_hour (σ : rf_S) : Option (Int32 × rf_S) := (f_X10_noDeed σ).bind (fun q1 => if q1 = 0 then ((f_X10_note σ).bind (fun q4 => (f_X10_pass 12 q4).bind (fun q6 => some (q6.1, q6.2)))) else ((f_X10_noDeed σ).bind (fun q8 => some (q8, σ))))
set_option maxHeartbeats 2000000 in
theorem ok_X10_hour (d : Nat) (σ : rf_S) (q : (Int32 × rf_S)) (h : f_X10_hour σ = some q) : rf_Ex ly1 (d + 3) mX10_hour [.ref 0] σ (some (.int q.1) : Option Value) q.2 := by
  unfold f_X10_hour at h
  refine rf_ex mw_X10_hour [some (.ref 0)] (Nat.le_of_ble_eq_true rfl) rfl ?_
  refine rf_b wf1 rc_X10_hour_ok 0 1 (1, [some (.ref 0)], [.ref 0], σ) rfl ?_
  obtain ⟨q1, h2, h⟩ := Option.bind_eq_some_iff.mp h
  refine rf_cv1 (Mt := mX10_noDeed) wf1 rc_X10_hour_ok 1 false rfl (List.mem_of_getElem? (i := 175) rfl) mw_X10_noDeed rfl 0 [] [] rfl rfl rfl (Nat.le_of_ble_eq_true rfl) (ok_X10_noDeed (d + 1)  σ q1 h2) ?_
  show rf_G _ _ _ (4, [some (.ref 0)], [.int q1], σ) _ _
  by_cases c3 : q1 = 0
  · rw [if_pos c3] at h
    refine rf_t wf1 rc_X10_hour_ok 2 (12, [some (.ref 0)], [], σ) rfl rfl c3 rfl ?_
    refine rf_b wf1 rc_X10_hour_ok 6 1 (13, [some (.ref 0)], [.ref 0], σ) rfl ?_
    obtain ⟨q4, h5, h⟩ := Option.bind_eq_some_iff.mp h
    refine rf_cv1 (Mt := mX10_note) wf1 rc_X10_hour_ok 7 false rfl (List.mem_of_getElem? (i := 172) rfl) mw_X10_note rfl 0 [] [] rfl rfl rfl (Nat.le_of_ble_eq_true rfl) (ok_X10_note d  σ q4 h5) ?_
    show rf_G _ _ _ (16, [some (.ref 0)], [], q4) _ _
    refine rf_b wf1 rc_X10_hour_ok 8 3 (21, [some (.ref 0)], [.ref 12, .ref 0], q4) rfl ?_
    obtain ⟨q6, h7, h⟩ := Option.bind_eq_some_iff.mp h
    refine rf_cv1 (Mt := mX10_pass) wf1 rc_X10_hour_ok 11 false rfl (List.mem_of_getElem? (i := 176) rfl) mw_X10_pass rfl 0 [.ref 12] [] rfl rfl rfl (Nat.le_of_ble_eq_true rfl) (ok_X10_pass d 12 q4 q6 h7) ?_
    show rf_G _ _ _ (24, [some (.ref 0)], [.int q6.1], q6.2) _ _
    obtain rfl := Option.some.inj h
    exact rf_ri rc_X10_hour_ok 12 rfl rfl
  · rw [if_neg c3] at h
    refine rf_f wf1 rc_X10_hour_ok 2 (7, [some (.ref 0)], [], σ) rfl rfl c3 rfl ?_
    refine rf_b wf1 rc_X10_hour_ok 3 1 (8, [some (.ref 0)], [.ref 0], σ) rfl ?_
    obtain ⟨q8, h9, h⟩ := Option.bind_eq_some_iff.mp h
    refine rf_cv1 (Mt := mX10_noDeed) wf1 rc_X10_hour_ok 4 false rfl (List.mem_of_getElem? (i := 175) rfl) mw_X10_noDeed rfl 0 [] [] rfl rfl rfl (Nat.le_of_ble_eq_true rfl) (ok_X10_noDeed (d + 1)  σ q8 h9) ?_
    show rf_G _ _ _ (11, [some (.ref 0)], [.int q8], σ) _ _
    obtain rfl := Option.some.inj h
    exact rf_ri rc_X10_hour_ok 5 rfl rfl
def rc_X10_soup : List rf_E := [(0, .aload_n 0, 1, 0), (1, .invokevirtual 209, 3, 0), (4, .ifCond .eq 8, 3, 12), (7, .aload_n 0, 1, 0), (8, .invokevirtual 209, 3, 0), (11, .ireturn, 1, 0), (12, .aload_n 0, 1, 0), (13, .invokevirtual 199, 3, 0), (16, .aload_n 0, 1, 0), (17, .getfield 47, 3, 1022), (20, .bipush 23, 2, 0), (22, .iconst 3, 1, 0), (23, .iastore, 1, 0), (24, .aload_n 0, 1, 0), (25, .aload_n 0, 1, 0), (26, .getfield 47, 3, 1022), (29, .invokevirtual 181, 3, 0), (32, .ireturn, 1, 0)]
theorem rc_X10_soup_ok : rf_rc mX10_soup rc_X10_soup = true := by decide +kernel
theorem mw_X10_soup : rf_mw mX10_soup := ⟨rf_mt_ok _ (List.mem_of_getElem? (i := 197) rfl), fun h => absurd h (by decide), fun _ => ⟨rf_mi_ok _ (List.mem_of_getElem? (i := 175) rfl), rf_mv_ok _ (List.mem_of_getElem? (i := 175) rfl)⟩, rf_mq_7 _ (List.mem_of_getElem? (i := 22) rfl)⟩
def f_X10_soup (σ : rf_S) : Option (Int32 × rf_S) := (f_X10_noDeed σ).bind (fun q1 => if q1 = 0 then ((f_X10_note σ).bind (fun q4 => if rf_ck ly1 0 12 23 = true then ((f_X10_doing 12 (rf_sI q4 12 (23 : Int32).toNatClampNeg 3)).bind (fun q7 => some (q7, (rf_sI q4 12 (23 : Int32).toNatClampNeg 3)))) else none)) else ((f_X10_noDeed σ).bind (fun q9 => some (q9, σ))))
set_option maxHeartbeats 2000000 in
theorem ok_X10_soup (d : Nat) (σ : rf_S) (q : (Int32 × rf_S)) (h : f_X10_soup σ = some q) : rf_Ex ly1 (d + 7) mX10_soup [.ref 0] σ (some (.int q.1) : Option Value) q.2 := by
  unfold f_X10_soup at h
  refine rf_ex mw_X10_soup [some (.ref 0)] (Nat.le_of_ble_eq_true rfl) rfl ?_
  refine rf_b wf1 rc_X10_soup_ok 0 1 (1, [some (.ref 0)], [.ref 0], σ) rfl ?_
  obtain ⟨q1, h2, h⟩ := Option.bind_eq_some_iff.mp h
  refine rf_cv1 (Mt := mX10_noDeed) wf1 rc_X10_soup_ok 1 false rfl (List.mem_of_getElem? (i := 175) rfl) mw_X10_noDeed rfl 0 [] [] rfl rfl rfl (Nat.le_of_ble_eq_true rfl) (ok_X10_noDeed (d + 5)  σ q1 h2) ?_
  show rf_G _ _ _ (4, [some (.ref 0)], [.int q1], σ) _ _
  by_cases c3 : q1 = 0
  · rw [if_pos c3] at h
    refine rf_t wf1 rc_X10_soup_ok 2 (12, [some (.ref 0)], [], σ) rfl rfl c3 rfl ?_
    refine rf_b wf1 rc_X10_soup_ok 6 1 (13, [some (.ref 0)], [.ref 0], σ) rfl ?_
    obtain ⟨q4, h5, h⟩ := Option.bind_eq_some_iff.mp h
    refine rf_cv1 (Mt := mX10_note) wf1 rc_X10_soup_ok 7 false rfl (List.mem_of_getElem? (i := 172) rfl) mw_X10_note rfl 0 [] [] rfl rfl rfl (Nat.le_of_ble_eq_true rfl) (ok_X10_note (d + 4)  σ q4 h5) ?_
    show rf_G _ _ _ (16, [some (.ref 0)], [], q4) _ _
    refine rf_b wf1 rc_X10_soup_ok 8 4 (23, [some (.ref 0)], [.int 3, .int 23, .ref 12], q4) rfl ?_
    obtain ⟨g6, h⟩ := rf_ifn h
    refine rf_gd wf1 rc_X10_soup_ok 12 (24, [some (.ref 0)], [], (rf_sI q4 12 (23 : Int32).toNatClampNeg 3)) rfl rfl g6 rfl ?_
    refine rf_b wf1 rc_X10_soup_ok 13 3 (29, [some (.ref 0)], [.ref 12, .ref 0], (rf_sI q4 12 (23 : Int32).toNatClampNeg 3)) rfl ?_
    obtain ⟨q7, h8, h⟩ := Option.bind_eq_some_iff.mp h
    refine rf_cv1 (Mt := mX10_doing) wf1 rc_X10_soup_ok 16 false rfl (List.mem_of_getElem? (i := 167) rfl) mw_X10_doing rfl 0 [.ref 12] [] rfl rfl rfl (Nat.le_of_ble_eq_true rfl) (ok_X10_doing d 12 (rf_sI q4 12 (23 : Int32).toNatClampNeg 3) q7 h8) ?_
    show rf_G _ _ _ (32, [some (.ref 0)], [.int q7], (rf_sI q4 12 (23 : Int32).toNatClampNeg 3)) _ _
    obtain rfl := Option.some.inj h
    exact rf_ri rc_X10_soup_ok 17 rfl rfl
  · rw [if_neg c3] at h
    refine rf_f wf1 rc_X10_soup_ok 2 (7, [some (.ref 0)], [], σ) rfl rfl c3 rfl ?_
    refine rf_b wf1 rc_X10_soup_ok 3 1 (8, [some (.ref 0)], [.ref 0], σ) rfl ?_
    obtain ⟨q9, h10, h⟩ := Option.bind_eq_some_iff.mp h
    refine rf_cv1 (Mt := mX10_noDeed) wf1 rc_X10_soup_ok 4 false rfl (List.mem_of_getElem? (i := 175) rfl) mw_X10_noDeed rfl 0 [] [] rfl rfl rfl (Nat.le_of_ble_eq_true rfl) (ok_X10_noDeed (d + 5)  σ q9 h10) ?_
    show rf_G _ _ _ (11, [some (.ref 0)], [.int q9], σ) _ _
    obtain rfl := Option.some.inj h
    exact rf_ri rc_X10_soup_ok 5 rfl rfl
def rc_X10_coldOnes : List rf_E := [(0, .iconst 0, 1, 0), (1, .istore_n 2, 1, 2), (2, .iconst 0, 1, 0), (3, .istore_n 3, 1, 3), (4, .iload_n 3, 1, 3), (5, .aload_n 0, 1, 0), (6, .getfield 75, 3, 1017), (9, .if_icmp .ge 28, 3, 37), (12, .iload_n 2, 1, 2), (13, .aload_n 1, 1, 1), (14, .bipush 10, 2, 0), (16, .iload_n 3, 1, 3), (17, .iadd, 1, 0), (18, .iaload, 1, 0), (19, .ifCond .le 9, 3, 28), (22, .iconst 1, 1, 0), (23, .iload_n 3, 1, 3), (24, .ishl, 1, 0), (25, .goto 4, 3, 29), (28, .iconst 0, 1, 0), (29, .ior, 1, 0), (30, .istore_n 2, 1, 2), (31, .iinc 3 1, 3, 3), (34, .goto (-30), 3, 4), (37, .iload_n 2, 1, 2), (38, .ireturn, 1, 0)]
theorem rc_X10_coldOnes_ok : rf_rc mX10_coldOnes rc_X10_coldOnes = true := by decide +kernel
theorem mw_X10_coldOnes : rf_mw mX10_coldOnes := ⟨rf_mt_ok _ (List.mem_of_getElem? (i := 198) rfl), fun h => absurd h (by decide), fun _ => ⟨rf_mi_ok _ (List.mem_of_getElem? (i := 176) rfl), rf_mv_ok _ (List.mem_of_getElem? (i := 176) rfl)⟩, rf_mq_7 _ (List.mem_of_getElem? (i := 23) rfl)⟩
def f_X10_coldOnes_j29 (l1 : Nat) (l3 : Int32) (t0 : Int32) (t1 : Int32) (σ : rf_S) : Option ((Int32 × Int32) ⊕ (Int32)) := some (.inl ((t1 ||| t0), (l3 + 1)))
set_option maxHeartbeats 2000000 in
theorem ok_X10_coldOnes_j29 (d : Nat) (l1 : Nat) (l3 : Int32) (t0 : Int32) (t1 : Int32) (σ : rf_S) (o : ((Int32 × Int32) ⊕ (Int32))) (h : f_X10_coldOnes_j29 l1 l3 t0 t1 σ = some o) {r : Option Value} {σr : rf_S} (kl : ∀ s', o = .inl s' → rf_G ly1 (d) mX10_coldOnes (4, [some (.ref 0), some (.ref l1), some (.int s'.1), some (.int s'.2)], [], σ) r σr) (kx : ∀ e, o = .inr e → rf_G ly1 (d) mX10_coldOnes (37, [none, none, some (.int e), none], [], σ) r σr) : rf_G ly1 (d) mX10_coldOnes (29, [some (.ref 0), some (.ref l1), none, some (.int l3)], [.int t0, .int t1], σ) r σr := by
  unfold f_X10_coldOnes_j29 at h
  refine rf_b wf1 rc_X10_coldOnes_ok 20 4 (4, [some (.ref 0), some (.ref l1), some (.int (t1 ||| t0)), some (.int (l3 + 1))], [], σ) rfl ?_
  exact kl ((t1 ||| t0), (l3 + 1)) (Option.some.inj h).symm
def f_X10_coldOnes_b4 (l1 : Nat) (σ : rf_S) (s4 : Int32 × Int32) : Option ((Int32 × Int32) ⊕ (Int32)) := if (σ.1 0 17) ≤ s4.2 then (some (.inr s4.1)) else (if rf_ck ly1 0 l1 (10 + s4.2) = true then (if (σ.1 l1 (10 + s4.2).toNatClampNeg) ≤ 0 then (f_X10_coldOnes_j29 l1 s4.2 0 s4.1 σ) else (f_X10_coldOnes_j29 l1 s4.2 (1 <<< (s4.2 &&& 31)) s4.1 σ)) else none)
set_option maxHeartbeats 2000000 in
theorem ok_X10_coldOnes_b4 (d : Nat) (l1 : Nat) (σ : rf_S) (s4 : Int32 × Int32) (o : ((Int32 × Int32) ⊕ (Int32))) (h : f_X10_coldOnes_b4 l1 σ s4 = some o) {r : Option Value} {σr : rf_S} (kl : ∀ s', o = .inl s' → rf_G ly1 (d) mX10_coldOnes (4, [some (.ref 0), some (.ref l1), some (.int s'.1), some (.int s'.2)], [], σ) r σr) (kx : ∀ e, o = .inr e → rf_G ly1 (d) mX10_coldOnes (37, [none, none, some (.int e), none], [], σ) r σr) : rf_G ly1 (d) mX10_coldOnes (4, [some (.ref 0), some (.ref l1), some (.int s4.1), some (.int s4.2)], [], σ) r σr := by
  unfold f_X10_coldOnes_b4 at h
  refine rf_b wf1 rc_X10_coldOnes_ok 4 3 (9, [some (.ref 0), some (.ref l1), some (.int s4.1), some (.int s4.2)], [.int (σ.1 0 17), .int s4.2], σ) rfl ?_
  by_cases c1 : (σ.1 0 17) ≤ s4.2
  · rw [if_pos c1] at h
    refine rf_t wf1 rc_X10_coldOnes_ok 7 (37, [some (.ref 0), some (.ref l1), some (.int s4.1), some (.int s4.2)], [], σ) rfl rfl c1 rfl ?_
    refine rf_fg [false, false, true, false] [none, none, some (.int s4.1), none] rfl ?_
    exact kx s4.1 (Option.some.inj h).symm
  · rw [if_neg c1] at h
    refine rf_f wf1 rc_X10_coldOnes_ok 7 (12, [some (.ref 0), some (.ref l1), some (.int s4.1), some (.int s4.2)], [], σ) rfl rfl c1 rfl ?_
    refine rf_b wf1 rc_X10_coldOnes_ok 8 5 (18, [some (.ref 0), some (.ref l1), some (.int s4.1), some (.int s4.2)], [.int (10 + s4.2), .ref l1, .int s4.1], σ) rfl ?_
    obtain ⟨g2, h⟩ := rf_ifn h
    refine rf_gd wf1 rc_X10_coldOnes_ok 13 (19, [some (.ref 0), some (.ref l1), some (.int s4.1), some (.int s4.2)], [.int (σ.1 l1 (10 + s4.2).toNatClampNeg), .int s4.1], σ) rfl rfl g2 rfl ?_
    by_cases c3 : (σ.1 l1 (10 + s4.2).toNatClampNeg) ≤ 0
    · rw [if_pos c3] at h
      refine rf_t wf1 rc_X10_coldOnes_ok 14 (28, [some (.ref 0), some (.ref l1), some (.int s4.1), some (.int s4.2)], [.int s4.1], σ) rfl rfl c3 rfl ?_
      refine rf_b wf1 rc_X10_coldOnes_ok 19 1 (29, [some (.ref 0), some (.ref l1), some (.int s4.1), some (.int s4.2)], [.int 0, .int s4.1], σ) rfl ?_
      refine rf_fg [true, true, false, true] [some (.ref 0), some (.ref l1), none, some (.int s4.2)] rfl ?_
      exact ok_X10_coldOnes_j29 d l1 s4.2 0 s4.1 σ o h kl kx
    · rw [if_neg c3] at h
      refine rf_f wf1 rc_X10_coldOnes_ok 14 (22, [some (.ref 0), some (.ref l1), some (.int s4.1), some (.int s4.2)], [.int s4.1], σ) rfl rfl c3 rfl ?_
      refine rf_b wf1 rc_X10_coldOnes_ok 15 4 (29, [some (.ref 0), some (.ref l1), some (.int s4.1), some (.int s4.2)], [.int (1 <<< (s4.2 &&& 31)), .int s4.1], σ) rfl ?_
      refine rf_fg [true, true, false, true] [some (.ref 0), some (.ref l1), none, some (.int s4.2)] rfl ?_
      exact ok_X10_coldOnes_j29 d l1 s4.2 (1 <<< (s4.2 &&& 31)) s4.1 σ o h kl kx
def f_X10_coldOnes (p0 : Nat) (σ : rf_S) : Option Int32 := (rf_lp (f_X10_coldOnes_b4 p0 σ) 5000 (0, 0)).bind (fun e4 => some e4)
set_option maxHeartbeats 2000000 in
theorem ok_X10_coldOnes (d : Nat) (p0 : Nat) (σ : rf_S) (q : Int32) (h : f_X10_coldOnes p0 σ = some q) : rf_Ex ly1 (d + 1) mX10_coldOnes [.ref 0, .ref p0] σ (some (.int q) : Option Value) σ := by
  unfold f_X10_coldOnes at h
  refine rf_ex mw_X10_coldOnes [some (.ref 0), some (.ref p0), none, none] (Nat.le_of_ble_eq_true rfl) rfl ?_
  refine rf_b wf1 rc_X10_coldOnes_ok 0 4 (4, [some (.ref 0), some (.ref p0), some (.int 0), some (.int 0)], [], σ) rfl ?_
  obtain ⟨e4, h5, h⟩ := Option.bind_eq_some_iff.mp h
  refine rf_lpG (b := f_X10_coldOnes_b4 p0 σ) (G := fun (s4 : Int32 × Int32) => rf_G ly1 (d) mX10_coldOnes (4, [some (.ref 0), some (.ref p0), some (.int s4.1), some (.int s4.2)], [], σ) (some (.int q) : Option Value) σ) (K := fun (e : (Int32)) => rf_G ly1 (d) mX10_coldOnes (37, [none, none, some (.int e), none], [], σ) (some (.int q) : Option Value) σ) (fun (s4 : Int32 × Int32) (o : (Int32 × Int32) ⊕ (Int32)) hb kl kx => ok_X10_coldOnes_b4 d p0 σ s4 o hb kl kx) 5000 (0, 0) e4 h5 ?_
  show rf_G _ _ _ (37, [none, none, some (.int e4), none], [], σ) _ _
  refine rf_b wf1 rc_X10_coldOnes_ok 24 1 (38, [none, none, some (.int e4), none], [.int e4], σ) rfl ?_
  obtain rfl := Option.some.inj h
  exact rf_ri rc_X10_coldOnes_ok 25 rfl rfl
def rc_X10_cold : List rf_E := [(0, .aload_n 0, 1, 0), (1, .iload_n 1, 1, 1), (2, .invokevirtual 169, 3, 0), (5, .ifCond .ne 5, 3, 10), (8, .iconst (-1), 1, 0), (9, .ireturn, 1, 0), (10, .aload_n 0, 1, 0), (11, .getfield 47, 3, 1022), (14, .bipush 10, 2, 0), (16, .iload_n 1, 1, 1), (17, .iadd, 1, 0), (18, .iaload, 1, 0), (19, .ifCond .le 6, 3, 25), (22, .bipush (-4), 2, 0), (24, .ireturn, 1, 0), (25, .aload_n 0, 1, 0), (26, .getfield 143, 3, 1025), (29, .bipush 40, 2, 0), (31, .if_icmp .ne 6, 3, 37), (34, .bipush (-2), 2, 0), (36, .ireturn, 1, 0), (37, .aload_n 0, 1, 0), (38, .invokevirtual 199, 3, 0), (41, .aload_n 0, 1, 0), (42, .getfield 47, 3, 1022), (45, .bipush 10, 2, 0), (47, .iload_n 1, 1, 1), (48, .iadd, 1, 0), (49, .iconst 2, 1, 0), (50, .iastore, 1, 0), (51, .aload_n 0, 1, 0), (52, .aload_n 0, 1, 0), (53, .getfield 47, 3, 1022), (56, .invokevirtual 216, 3, 0), (59, .invokestatic 192, 3, 0), (62, .ireturn, 1, 0)]
theorem rc_X10_cold_ok : rf_rc mX10_cold rc_X10_cold = true := by decide +kernel
theorem mw_X10_cold : rf_mw mX10_cold := ⟨rf_mt_ok _ (List.mem_of_getElem? (i := 199) rfl), fun h => absurd h (by decide), fun _ => ⟨rf_mi_ok _ (List.mem_of_getElem? (i := 177) rfl), rf_mv_ok _ (List.mem_of_getElem? (i := 177) rfl)⟩, rf_mq_7 _ (List.mem_of_getElem? (i := 24) rfl)⟩
def f_X10_cold (p0 : Int32) (σ : rf_S) : Option (Int32 × rf_S) := (f_X10_isOne p0 σ).bind (fun q1 => if q1 ≠ 0 then (if rf_ck ly1 0 12 (10 + p0) = true then (if (σ.1 12 (10 + p0).toNatClampNeg) ≤ 0 then (if (σ.1 0 25) ≠ 40 then ((f_X10_note σ).bind (fun q7 => if rf_ck ly1 0 12 (10 + p0) = true then ((f_X10_coldOnes 12 (rf_sI q7 12 (10 + p0).toNatClampNeg 2)).bind (fun q10 => (f_X10_bits q10 (rf_sI q7 12 (10 + p0).toNatClampNeg 2)).bind (fun q12 => some (q12, (rf_sI q7 12 (10 + p0).toNatClampNeg 2))))) else none)) else (some ((-2), σ))) else (some ((-4), σ))) else none) else (some ((-1), σ)))
set_option maxHeartbeats 2000000 in
theorem ok_X10_cold (d : Nat) (p0 : Int32) (σ : rf_S) (q : (Int32 × rf_S)) (h : f_X10_cold p0 σ = some q) : rf_Ex ly1 (d + 3) mX10_cold [.ref 0, .int p0] σ (some (.int q.1) : Option Value) q.2 := by
  unfold f_X10_cold at h
  refine rf_ex mw_X10_cold [some (.ref 0), some (.int p0)] (Nat.le_of_ble_eq_true rfl) rfl ?_
  refine rf_b wf1 rc_X10_cold_ok 0 2 (2, [some (.ref 0), some (.int p0)], [.int p0, .ref 0], σ) rfl ?_
  obtain ⟨q1, h2, h⟩ := Option.bind_eq_some_iff.mp h
  refine rf_cv1 (Mt := mX10_isOne) wf1 rc_X10_cold_ok 2 false rfl (List.mem_of_getElem? (i := 163) rfl) mw_X10_isOne rfl 0 [.int p0] [] rfl rfl rfl (Nat.le_of_ble_eq_true rfl) (ok_X10_isOne d p0 σ q1 h2) ?_
  show rf_G _ _ _ (5, [some (.ref 0), some (.int p0)], [.int q1], σ) _ _
  by_cases c3 : q1 ≠ 0
  · rw [if_pos c3] at h
    refine rf_t wf1 rc_X10_cold_ok 3 (10, [some (.ref 0), some (.int p0)], [], σ) rfl rfl c3 rfl ?_
    refine rf_b wf1 rc_X10_cold_ok 6 5 (18, [some (.ref 0), some (.int p0)], [.int (10 + p0), .ref 12], σ) rfl ?_
    obtain ⟨g4, h⟩ := rf_ifn h
    refine rf_gd wf1 rc_X10_cold_ok 11 (19, [some (.ref 0), some (.int p0)], [.int (σ.1 12 (10 + p0).toNatClampNeg)], σ) rfl rfl g4 rfl ?_
    by_cases c5 : (σ.1 12 (10 + p0).toNatClampNeg) ≤ 0
    · rw [if_pos c5] at h
      refine rf_t wf1 rc_X10_cold_ok 12 (25, [some (.ref 0), some (.int p0)], [], σ) rfl rfl c5 rfl ?_
      refine rf_b wf1 rc_X10_cold_ok 15 3 (31, [some (.ref 0), some (.int p0)], [.int 40, .int (σ.1 0 25)], σ) rfl ?_
      by_cases c6 : (σ.1 0 25) ≠ 40
      · rw [if_pos c6] at h
        refine rf_t wf1 rc_X10_cold_ok 18 (37, [some (.ref 0), some (.int p0)], [], σ) rfl rfl c6 rfl ?_
        refine rf_b wf1 rc_X10_cold_ok 21 1 (38, [some (.ref 0), some (.int p0)], [.ref 0], σ) rfl ?_
        obtain ⟨q7, h8, h⟩ := Option.bind_eq_some_iff.mp h
        refine rf_cv1 (Mt := mX10_note) wf1 rc_X10_cold_ok 22 false rfl (List.mem_of_getElem? (i := 172) rfl) mw_X10_note rfl 0 [] [] rfl rfl rfl (Nat.le_of_ble_eq_true rfl) (ok_X10_note d  σ q7 h8) ?_
        show rf_G _ _ _ (41, [some (.ref 0), some (.int p0)], [], q7) _ _
        refine rf_b wf1 rc_X10_cold_ok 23 6 (50, [some (.ref 0), some (.int p0)], [.int 2, .int (10 + p0), .ref 12], q7) rfl ?_
        obtain ⟨g9, h⟩ := rf_ifn h
        refine rf_gd wf1 rc_X10_cold_ok 29 (51, [some (.ref 0), some (.int p0)], [], (rf_sI q7 12 (10 + p0).toNatClampNeg 2)) rfl rfl g9 rfl ?_
        refine rf_b wf1 rc_X10_cold_ok 30 3 (56, [some (.ref 0), some (.int p0)], [.ref 12, .ref 0], (rf_sI q7 12 (10 + p0).toNatClampNeg 2)) rfl ?_
        obtain ⟨q10, h11, h⟩ := Option.bind_eq_some_iff.mp h
        refine rf_cv1 (Mt := mX10_coldOnes) wf1 rc_X10_cold_ok 33 false rfl (List.mem_of_getElem? (i := 177) rfl) mw_X10_coldOnes rfl 0 [.ref 12] [] rfl rfl rfl (Nat.le_of_ble_eq_true rfl) (ok_X10_coldOnes (d + 1) 12 (rf_sI q7 12 (10 + p0).toNatClampNeg 2) q10 h11) ?_
        show rf_G _ _ _ (59, [some (.ref 0), some (.int p0)], [.int q10], (rf_sI q7 12 (10 + p0).toNatClampNeg 2)) _ _
        obtain ⟨q12, h13, h⟩ := Option.bind_eq_some_iff.mp h
        refine rf_cs1 (Mt := mX10_bits) rc_X10_cold_ok 34 false rfl (List.mem_of_getElem? (i := 170) rfl) mw_X10_bits rfl [.int q10] [] rfl rfl (Nat.le_of_ble_eq_true rfl) (ok_X10_bits (d + 1) q10 (rf_sI q7 12 (10 + p0).toNatClampNeg 2) q12 h13) ?_
        show rf_G _ _ _ (62, [some (.ref 0), some (.int p0)], [.int q12], (rf_sI q7 12 (10 + p0).toNatClampNeg 2)) _ _
        obtain rfl := Option.some.inj h
        exact rf_ri rc_X10_cold_ok 35 rfl rfl
      · rw [if_neg c6] at h
        refine rf_f wf1 rc_X10_cold_ok 18 (34, [some (.ref 0), some (.int p0)], [], σ) rfl rfl c6 rfl ?_
        refine rf_b wf1 rc_X10_cold_ok 19 1 (36, [some (.ref 0), some (.int p0)], [.int (-2)], σ) rfl ?_
        obtain rfl := Option.some.inj h
        exact rf_ri rc_X10_cold_ok 20 rfl rfl
    · rw [if_neg c5] at h
      refine rf_f wf1 rc_X10_cold_ok 12 (22, [some (.ref 0), some (.int p0)], [], σ) rfl rfl c5 rfl ?_
      refine rf_b wf1 rc_X10_cold_ok 13 1 (24, [some (.ref 0), some (.int p0)], [.int (-4)], σ) rfl ?_
      obtain rfl := Option.some.inj h
      exact rf_ri rc_X10_cold_ok 14 rfl rfl
  · rw [if_neg c3] at h
    refine rf_f wf1 rc_X10_cold_ok 3 (8, [some (.ref 0), some (.int p0)], [], σ) rfl rfl c3 rfl ?_
    refine rf_b wf1 rc_X10_cold_ok 4 1 (9, [some (.ref 0), some (.int p0)], [.int (-1)], σ) rfl ?_
    obtain rfl := Option.some.inj h
    exact rf_ri rc_X10_cold_ok 5 rfl rfl
def rc_X10_love : List rf_E := [(0, .aload_n 0, 1, 0), (1, .iload_n 1, 1, 1), (2, .invokevirtual 169, 3, 0), (5, .ifCond .eq 13, 3, 18), (8, .iload_n 2, 1, 2), (9, .bipush (-5), 2, 0), (11, .iconst 5, 1, 0), (12, .invokestatic 78, 3, 0), (15, .ifCond .ne 5, 3, 20), (18, .iconst (-1), 1, 0), (19, .ireturn, 1, 0), (20, .aload_n 0, 1, 0), (21, .getfield 47, 3, 1022), (24, .bipush 16, 2, 0), (26, .iload_n 1, 1, 1), (27, .iadd, 1, 0), (28, .iaload, 1, 0), (29, .iload_n 2, 1, 2), (30, .if_icmp .ne 6, 3, 36), (33, .bipush (-4), 2, 0), (35, .ireturn, 1, 0), (36, .aload_n 0, 1, 0), (37, .getfield 143, 3, 1025), (40, .bipush 40, 2, 0), (42, .if_icmp .ne 6, 3, 48), (45, .bipush (-2), 2, 0), (47, .ireturn, 1, 0), (48, .aload_n 0, 1, 0), (49, .invokevirtual 199, 3, 0), (52, .aload_n 0, 1, 0), (53, .getfield 47, 3, 1022), (56, .bipush 16, 2, 0), (58, .iload_n 1, 1, 1), (59, .iadd, 1, 0), (60, .iload_n 2, 1, 2), (61, .iastore, 1, 0), (62, .aload_n 0, 1, 0), (63, .aload_n 0, 1, 0), (64, .getfield 47, 3, 1022), (67, .iload_n 1, 1, 1), (68, .invokevirtual 165, 3, 0), (71, .ifCond .eq 7, 3, 78), (74, .iconst 1, 1, 0), (75, .goto 4, 3, 79), (78, .iconst 0, 1, 0), (79, .ireturn, 1, 0)]
theorem rc_X10_love_ok : rf_rc mX10_love rc_X10_love = true := by decide +kernel
theorem mw_X10_love : rf_mw mX10_love := ⟨rf_mt_ok _ (List.mem_of_getElem? (i := 200) rfl), fun h => absurd h (by decide), fun _ => ⟨rf_mi_ok _ (List.mem_of_getElem? (i := 178) rfl), rf_mv_ok _ (List.mem_of_getElem? (i := 178) rfl)⟩, rf_mq_8 _ (List.mem_of_getElem? (i := 0) rfl)⟩
def f_X10_love (p0 : Int32) (p1 : Int32) (σ : rf_S) : Option (Int32 × rf_S) := (f_X10_isOne p0 σ).bind (fun q1 => if q1 = 0 then (some ((-1), σ)) else ((f_X10_in p1 (-5) 5 σ).bind (fun q4 => if q4 ≠ 0 then (if rf_ck ly1 0 12 (16 + p0) = true then (if (σ.1 12 (16 + p0).toNatClampNeg) ≠ p1 then (if (σ.1 0 25) ≠ 40 then ((f_X10_note σ).bind (fun q10 => if rf_ck ly1 0 12 (16 + p0) = true then ((f_X10_does 12 p0 (rf_sI q10 12 (16 + p0).toNatClampNeg p1)).bind (fun q13 => if q13 = 0 then (some (0, (rf_sI q10 12 (16 + p0).toNatClampNeg p1))) else (some (1, (rf_sI q10 12 (16 + p0).toNatClampNeg p1))))) else none)) else (some ((-2), σ))) else (some ((-4), σ))) else none) else (some ((-1), σ)))))
set_option maxHeartbeats 2000000 in
theorem ok_X10_love (d : Nat) (p0 : Int32) (p1 : Int32) (σ : rf_S) (q : (Int32 × rf_S)) (h : f_X10_love p0 p1 σ = some q) : rf_Ex ly1 (d + 6) mX10_love [.ref 0, .int p0, .int p1] σ (some (.int q.1) : Option Value) q.2 := by
  unfold f_X10_love at h
  refine rf_ex mw_X10_love [some (.ref 0), some (.int p0), some (.int p1)] (Nat.le_of_ble_eq_true rfl) rfl ?_
  refine rf_b wf1 rc_X10_love_ok 0 2 (2, [some (.ref 0), some (.int p0), some (.int p1)], [.int p0, .ref 0], σ) rfl ?_
  obtain ⟨q1, h2, h⟩ := Option.bind_eq_some_iff.mp h
  refine rf_cv1 (Mt := mX10_isOne) wf1 rc_X10_love_ok 2 false rfl (List.mem_of_getElem? (i := 163) rfl) mw_X10_isOne rfl 0 [.int p0] [] rfl rfl rfl (Nat.le_of_ble_eq_true rfl) (ok_X10_isOne (d + 3) p0 σ q1 h2) ?_
  show rf_G _ _ _ (5, [some (.ref 0), some (.int p0), some (.int p1)], [.int q1], σ) _ _
  by_cases c3 : q1 = 0
  · rw [if_pos c3] at h
    refine rf_t wf1 rc_X10_love_ok 3 (18, [some (.ref 0), some (.int p0), some (.int p1)], [], σ) rfl rfl c3 rfl ?_
    refine rf_b wf1 rc_X10_love_ok 9 1 (19, [some (.ref 0), some (.int p0), some (.int p1)], [.int (-1)], σ) rfl ?_
    obtain rfl := Option.some.inj h
    exact rf_ri rc_X10_love_ok 10 rfl rfl
  · rw [if_neg c3] at h
    refine rf_f wf1 rc_X10_love_ok 3 (8, [some (.ref 0), some (.int p0), some (.int p1)], [], σ) rfl rfl c3 rfl ?_
    refine rf_b wf1 rc_X10_love_ok 4 3 (12, [some (.ref 0), some (.int p0), some (.int p1)], [.int 5, .int (-5), .int p1], σ) rfl ?_
    obtain ⟨q4, h5, h⟩ := Option.bind_eq_some_iff.mp h
    refine rf_cs1 (Mt := mX10_in) rc_X10_love_ok 7 false rfl (List.mem_of_getElem? (i := 143) rfl) mw_X10_in rfl [.int p1, .int (-5), .int 5] [] rfl rfl (Nat.le_of_ble_eq_true rfl) (ok_X10_in (d + 4) p1 (-5) 5 σ q4 h5) ?_
    show rf_G _ _ _ (15, [some (.ref 0), some (.int p0), some (.int p1)], [.int q4], σ) _ _
    by_cases c6 : q4 ≠ 0
    · rw [if_pos c6] at h
      refine rf_t wf1 rc_X10_love_ok 8 (20, [some (.ref 0), some (.int p0), some (.int p1)], [], σ) rfl rfl c6 rfl ?_
      refine rf_b wf1 rc_X10_love_ok 11 5 (28, [some (.ref 0), some (.int p0), some (.int p1)], [.int (16 + p0), .ref 12], σ) rfl ?_
      obtain ⟨g7, h⟩ := rf_ifn h
      refine rf_gd wf1 rc_X10_love_ok 16 (29, [some (.ref 0), some (.int p0), some (.int p1)], [.int (σ.1 12 (16 + p0).toNatClampNeg)], σ) rfl rfl g7 rfl ?_
      refine rf_b wf1 rc_X10_love_ok 17 1 (30, [some (.ref 0), some (.int p0), some (.int p1)], [.int p1, .int (σ.1 12 (16 + p0).toNatClampNeg)], σ) rfl ?_
      by_cases c8 : (σ.1 12 (16 + p0).toNatClampNeg) ≠ p1
      · rw [if_pos c8] at h
        refine rf_t wf1 rc_X10_love_ok 18 (36, [some (.ref 0), some (.int p0), some (.int p1)], [], σ) rfl rfl c8 rfl ?_
        refine rf_b wf1 rc_X10_love_ok 21 3 (42, [some (.ref 0), some (.int p0), some (.int p1)], [.int 40, .int (σ.1 0 25)], σ) rfl ?_
        by_cases c9 : (σ.1 0 25) ≠ 40
        · rw [if_pos c9] at h
          refine rf_t wf1 rc_X10_love_ok 24 (48, [some (.ref 0), some (.int p0), some (.int p1)], [], σ) rfl rfl c9 rfl ?_
          refine rf_b wf1 rc_X10_love_ok 27 1 (49, [some (.ref 0), some (.int p0), some (.int p1)], [.ref 0], σ) rfl ?_
          obtain ⟨q10, h11, h⟩ := Option.bind_eq_some_iff.mp h
          refine rf_cv1 (Mt := mX10_note) wf1 rc_X10_love_ok 28 false rfl (List.mem_of_getElem? (i := 172) rfl) mw_X10_note rfl 0 [] [] rfl rfl rfl (Nat.le_of_ble_eq_true rfl) (ok_X10_note (d + 3)  σ q10 h11) ?_
          show rf_G _ _ _ (52, [some (.ref 0), some (.int p0), some (.int p1)], [], q10) _ _
          refine rf_b wf1 rc_X10_love_ok 29 6 (61, [some (.ref 0), some (.int p0), some (.int p1)], [.int p1, .int (16 + p0), .ref 12], q10) rfl ?_
          obtain ⟨g12, h⟩ := rf_ifn h
          refine rf_gd wf1 rc_X10_love_ok 35 (62, [some (.ref 0), some (.int p0), some (.int p1)], [], (rf_sI q10 12 (16 + p0).toNatClampNeg p1)) rfl rfl g12 rfl ?_
          refine rf_b wf1 rc_X10_love_ok 36 4 (68, [some (.ref 0), some (.int p0), some (.int p1)], [.int p0, .ref 12, .ref 0], (rf_sI q10 12 (16 + p0).toNatClampNeg p1)) rfl ?_
          obtain ⟨q13, h14, h⟩ := Option.bind_eq_some_iff.mp h
          refine rf_cv1 (Mt := mX10_does) wf1 rc_X10_love_ok 40 false rfl (List.mem_of_getElem? (i := 162) rfl) mw_X10_does rfl 0 [.ref 12, .int p0] [] rfl rfl rfl (Nat.le_of_ble_eq_true rfl) (ok_X10_does d 12 p0 (rf_sI q10 12 (16 + p0).toNatClampNeg p1) q13 h14) ?_
          show rf_G _ _ _ (71, [some (.ref 0), some (.int p0), some (.int p1)], [.int q13], (rf_sI q10 12 (16 + p0).toNatClampNeg p1)) _ _
          by_cases c15 : q13 = 0
          · rw [if_pos c15] at h
            refine rf_t wf1 rc_X10_love_ok 41 (78, [some (.ref 0), some (.int p0), some (.int p1)], [], (rf_sI q10 12 (16 + p0).toNatClampNeg p1)) rfl rfl c15 rfl ?_
            refine rf_b wf1 rc_X10_love_ok 44 1 (79, [some (.ref 0), some (.int p0), some (.int p1)], [.int 0], (rf_sI q10 12 (16 + p0).toNatClampNeg p1)) rfl ?_
            obtain rfl := Option.some.inj h
            exact rf_ri rc_X10_love_ok 45 rfl rfl
          · rw [if_neg c15] at h
            refine rf_f wf1 rc_X10_love_ok 41 (74, [some (.ref 0), some (.int p0), some (.int p1)], [], (rf_sI q10 12 (16 + p0).toNatClampNeg p1)) rfl rfl c15 rfl ?_
            refine rf_b wf1 rc_X10_love_ok 42 2 (79, [some (.ref 0), some (.int p0), some (.int p1)], [.int 1], (rf_sI q10 12 (16 + p0).toNatClampNeg p1)) rfl ?_
            obtain rfl := Option.some.inj h
            exact rf_ri rc_X10_love_ok 45 rfl rfl
        · rw [if_neg c9] at h
          refine rf_f wf1 rc_X10_love_ok 24 (45, [some (.ref 0), some (.int p0), some (.int p1)], [], σ) rfl rfl c9 rfl ?_
          refine rf_b wf1 rc_X10_love_ok 25 1 (47, [some (.ref 0), some (.int p0), some (.int p1)], [.int (-2)], σ) rfl ?_
          obtain rfl := Option.some.inj h
          exact rf_ri rc_X10_love_ok 26 rfl rfl
      · rw [if_neg c8] at h
        refine rf_f wf1 rc_X10_love_ok 18 (33, [some (.ref 0), some (.int p0), some (.int p1)], [], σ) rfl rfl c8 rfl ?_
        refine rf_b wf1 rc_X10_love_ok 19 1 (35, [some (.ref 0), some (.int p0), some (.int p1)], [.int (-4)], σ) rfl ?_
        obtain rfl := Option.some.inj h
        exact rf_ri rc_X10_love_ok 20 rfl rfl
    · rw [if_neg c6] at h
      refine rf_f wf1 rc_X10_love_ok 8 (18, [some (.ref 0), some (.int p0), some (.int p1)], [], σ) rfl rfl c6 rfl ?_
      refine rf_b wf1 rc_X10_love_ok 9 1 (19, [some (.ref 0), some (.int p0), some (.int p1)], [.int (-1)], σ) rfl ?_
      obtain rfl := Option.some.inj h
      exact rf_ri rc_X10_love_ok 10 rfl rfl
def rc_X10_fire : List rf_E := [(0, .aload_n 0, 1, 0), (1, .iload_n 1, 1, 1), (2, .invokevirtual 175, 3, 0), (5, .ifCond .eq 13, 3, 18), (8, .iload_n 2, 1, 2), (9, .iconst 0, 1, 0), (10, .bipush 30, 2, 0), (12, .invokestatic 78, 3, 0), (15, .ifCond .ne 5, 3, 20), (18, .iconst (-1), 1, 0), (19, .ireturn, 1, 0), (20, .aload_n 0, 1, 0), (21, .getfield 47, 3, 1022), (24, .iload_n 1, 1, 1), (25, .iaload, 1, 0), (26, .iload_n 2, 1, 2), (27, .if_icmp .ne 6, 3, 33), (30, .bipush (-4), 2, 0), (32, .ireturn, 1, 0), (33, .aload_n 0, 1, 0), (34, .getfield 143, 3, 1025), (37, .bipush 40, 2, 0), (39, .if_icmp .ne 6, 3, 45), (42, .bipush (-2), 2, 0), (44, .ireturn, 1, 0), (45, .aload_n 0, 1, 0), (46, .invokevirtual 199, 3, 0), (49, .aload_n 0, 1, 0), (50, .getfield 47, 3, 1022), (53, .iload_n 1, 1, 1), (54, .iaload, 1, 0), (55, .istore_n 3, 1, 3), (56, .aload_n 0, 1, 0), (57, .getfield 47, 3, 1022), (60, .iload_n 1, 1, 1), (61, .iload_n 2, 1, 2), (62, .iastore, 1, 0), (63, .iload_n 3, 1, 3), (64, .ireturn, 1, 0)]
theorem rc_X10_fire_ok : rf_rc mX10_fire rc_X10_fire = true := by decide +kernel
theorem mw_X10_fire : rf_mw mX10_fire := ⟨rf_mt_ok _ (List.mem_of_getElem? (i := 201) rfl), fun h => absurd h (by decide), fun _ => ⟨rf_mi_ok _ (List.mem_of_getElem? (i := 179) rfl), rf_mv_ok _ (List.mem_of_getElem? (i := 179) rfl)⟩, rf_mq_8 _ (List.mem_of_getElem? (i := 1) rfl)⟩
def f_X10_fire (p0 : Int32) (p1 : Int32) (σ : rf_S) : Option (Int32 × rf_S) := (f_X10_isRoom p0 σ).bind (fun q1 => if q1 = 0 then (some ((-1), σ)) else ((f_X10_in p1 0 30 σ).bind (fun q4 => if q4 ≠ 0 then (if rf_ck ly1 0 12 p0 = true then (if (σ.1 12 p0.toNatClampNeg) ≠ p1 then (if (σ.1 0 25) ≠ 40 then ((f_X10_note σ).bind (fun q10 => if rf_ck ly1 0 12 p0 = true then (if rf_ck ly1 0 12 p0 = true then (some ((q10.1 12 p0.toNatClampNeg), (rf_sI q10 12 p0.toNatClampNeg p1))) else none) else none)) else (some ((-2), σ))) else (some ((-4), σ))) else none) else (some ((-1), σ)))))
set_option maxHeartbeats 2000000 in
theorem ok_X10_fire (d : Nat) (p0 : Int32) (p1 : Int32) (σ : rf_S) (q : (Int32 × rf_S)) (h : f_X10_fire p0 p1 σ = some q) : rf_Ex ly1 (d + 3) mX10_fire [.ref 0, .int p0, .int p1] σ (some (.int q.1) : Option Value) q.2 := by
  unfold f_X10_fire at h
  refine rf_ex mw_X10_fire [some (.ref 0), some (.int p0), some (.int p1), none] (Nat.le_of_ble_eq_true rfl) rfl ?_
  refine rf_b wf1 rc_X10_fire_ok 0 2 (2, [some (.ref 0), some (.int p0), some (.int p1), none], [.int p0, .ref 0], σ) rfl ?_
  obtain ⟨q1, h2, h⟩ := Option.bind_eq_some_iff.mp h
  refine rf_cv1 (Mt := mX10_isRoom) wf1 rc_X10_fire_ok 2 false rfl (List.mem_of_getElem? (i := 165) rfl) mw_X10_isRoom rfl 0 [.int p0] [] rfl rfl rfl (Nat.le_of_ble_eq_true rfl) (ok_X10_isRoom d p0 σ q1 h2) ?_
  show rf_G _ _ _ (5, [some (.ref 0), some (.int p0), some (.int p1), none], [.int q1], σ) _ _
  by_cases c3 : q1 = 0
  · rw [if_pos c3] at h
    refine rf_t wf1 rc_X10_fire_ok 3 (18, [some (.ref 0), some (.int p0), some (.int p1), none], [], σ) rfl rfl c3 rfl ?_
    refine rf_b wf1 rc_X10_fire_ok 9 1 (19, [some (.ref 0), some (.int p0), some (.int p1), none], [.int (-1)], σ) rfl ?_
    obtain rfl := Option.some.inj h
    exact rf_ri rc_X10_fire_ok 10 rfl rfl
  · rw [if_neg c3] at h
    refine rf_f wf1 rc_X10_fire_ok 3 (8, [some (.ref 0), some (.int p0), some (.int p1), none], [], σ) rfl rfl c3 rfl ?_
    refine rf_b wf1 rc_X10_fire_ok 4 3 (12, [some (.ref 0), some (.int p0), some (.int p1), none], [.int 30, .int 0, .int p1], σ) rfl ?_
    obtain ⟨q4, h5, h⟩ := Option.bind_eq_some_iff.mp h
    refine rf_cs1 (Mt := mX10_in) rc_X10_fire_ok 7 false rfl (List.mem_of_getElem? (i := 143) rfl) mw_X10_in rfl [.int p1, .int 0, .int 30] [] rfl rfl (Nat.le_of_ble_eq_true rfl) (ok_X10_in (d + 1) p1 0 30 σ q4 h5) ?_
    show rf_G _ _ _ (15, [some (.ref 0), some (.int p0), some (.int p1), none], [.int q4], σ) _ _
    by_cases c6 : q4 ≠ 0
    · rw [if_pos c6] at h
      refine rf_t wf1 rc_X10_fire_ok 8 (20, [some (.ref 0), some (.int p0), some (.int p1), none], [], σ) rfl rfl c6 rfl ?_
      refine rf_b wf1 rc_X10_fire_ok 11 3 (25, [some (.ref 0), some (.int p0), some (.int p1), none], [.int p0, .ref 12], σ) rfl ?_
      obtain ⟨g7, h⟩ := rf_ifn h
      refine rf_gd wf1 rc_X10_fire_ok 14 (26, [some (.ref 0), some (.int p0), some (.int p1), none], [.int (σ.1 12 p0.toNatClampNeg)], σ) rfl rfl g7 rfl ?_
      refine rf_b wf1 rc_X10_fire_ok 15 1 (27, [some (.ref 0), some (.int p0), some (.int p1), none], [.int p1, .int (σ.1 12 p0.toNatClampNeg)], σ) rfl ?_
      by_cases c8 : (σ.1 12 p0.toNatClampNeg) ≠ p1
      · rw [if_pos c8] at h
        refine rf_t wf1 rc_X10_fire_ok 16 (33, [some (.ref 0), some (.int p0), some (.int p1), none], [], σ) rfl rfl c8 rfl ?_
        refine rf_b wf1 rc_X10_fire_ok 19 3 (39, [some (.ref 0), some (.int p0), some (.int p1), none], [.int 40, .int (σ.1 0 25)], σ) rfl ?_
        by_cases c9 : (σ.1 0 25) ≠ 40
        · rw [if_pos c9] at h
          refine rf_t wf1 rc_X10_fire_ok 22 (45, [some (.ref 0), some (.int p0), some (.int p1), none], [], σ) rfl rfl c9 rfl ?_
          refine rf_b wf1 rc_X10_fire_ok 25 1 (46, [some (.ref 0), some (.int p0), some (.int p1), none], [.ref 0], σ) rfl ?_
          obtain ⟨q10, h11, h⟩ := Option.bind_eq_some_iff.mp h
          refine rf_cv1 (Mt := mX10_note) wf1 rc_X10_fire_ok 26 false rfl (List.mem_of_getElem? (i := 172) rfl) mw_X10_note rfl 0 [] [] rfl rfl rfl (Nat.le_of_ble_eq_true rfl) (ok_X10_note d  σ q10 h11) ?_
          show rf_G _ _ _ (49, [some (.ref 0), some (.int p0), some (.int p1), none], [], q10) _ _
          refine rf_b wf1 rc_X10_fire_ok 27 3 (54, [some (.ref 0), some (.int p0), some (.int p1), none], [.int p0, .ref 12], q10) rfl ?_
          obtain ⟨g12, h⟩ := rf_ifn h
          refine rf_gd wf1 rc_X10_fire_ok 30 (55, [some (.ref 0), some (.int p0), some (.int p1), none], [.int (q10.1 12 p0.toNatClampNeg)], q10) rfl rfl g12 rfl ?_
          refine rf_b wf1 rc_X10_fire_ok 31 5 (62, [some (.ref 0), some (.int p0), some (.int p1), some (.int (q10.1 12 p0.toNatClampNeg))], [.int p1, .int p0, .ref 12], q10) rfl ?_
          obtain ⟨g13, h⟩ := rf_ifn h
          refine rf_gd wf1 rc_X10_fire_ok 36 (63, [some (.ref 0), some (.int p0), some (.int p1), some (.int (q10.1 12 p0.toNatClampNeg))], [], (rf_sI q10 12 p0.toNatClampNeg p1)) rfl rfl g13 rfl ?_
          refine rf_b wf1 rc_X10_fire_ok 37 1 (64, [some (.ref 0), some (.int p0), some (.int p1), some (.int (q10.1 12 p0.toNatClampNeg))], [.int (q10.1 12 p0.toNatClampNeg)], (rf_sI q10 12 p0.toNatClampNeg p1)) rfl ?_
          obtain rfl := Option.some.inj h
          exact rf_ri rc_X10_fire_ok 38 rfl rfl
        · rw [if_neg c9] at h
          refine rf_f wf1 rc_X10_fire_ok 22 (42, [some (.ref 0), some (.int p0), some (.int p1), none], [], σ) rfl rfl c9 rfl ?_
          refine rf_b wf1 rc_X10_fire_ok 23 1 (44, [some (.ref 0), some (.int p0), some (.int p1), none], [.int (-2)], σ) rfl ?_
          obtain rfl := Option.some.inj h
          exact rf_ri rc_X10_fire_ok 24 rfl rfl
      · rw [if_neg c8] at h
        refine rf_f wf1 rc_X10_fire_ok 16 (30, [some (.ref 0), some (.int p0), some (.int p1), none], [], σ) rfl rfl c8 rfl ?_
        refine rf_b wf1 rc_X10_fire_ok 17 1 (32, [some (.ref 0), some (.int p0), some (.int p1), none], [.int (-4)], σ) rfl ?_
        obtain rfl := Option.some.inj h
        exact rf_ri rc_X10_fire_ok 18 rfl rfl
    · rw [if_neg c6] at h
      refine rf_f wf1 rc_X10_fire_ok 8 (18, [some (.ref 0), some (.int p0), some (.int p1), none], [], σ) rfl rfl c6 rfl ?_
      refine rf_b wf1 rc_X10_fire_ok 9 1 (19, [some (.ref 0), some (.int p0), some (.int p1), none], [.int (-1)], σ) rfl ?_
      obtain rfl := Option.some.inj h
      exact rf_ri rc_X10_fire_ok 10 rfl rfl
def rc_X10_undo : List rf_E := [(0, .iload_n 1, 1, 1), (1, .iconst 0, 1, 0), (2, .aload_n 0, 1, 0), (3, .getfield 143, 3, 1025), (6, .invokestatic 78, 3, 0), (9, .ifCond .ne 5, 3, 14), (12, .iconst (-1), 1, 0), (13, .ireturn, 1, 0), (14, .aload_n 0, 1, 0), (15, .getfield 143, 3, 1025), (18, .iload_n 1, 1, 1), (19, .isub, 1, 0), (20, .istore_n 2, 1, 2), (21, .iload_n 2, 1, 2), (22, .ifCond .le 21, 3, 43), (25, .aload_n 0, 1, 0), (26, .getfield 53, 3, 1024), (29, .bipush 25, 2, 0), (31, .iload_n 1, 1, 1), (32, .imul, 1, 0), (33, .aload_n 0, 1, 0), (34, .getfield 47, 3, 1022), (37, .iconst 0, 1, 0), (38, .bipush 25, 2, 0), (40, .invokestatic 195, 3, 0), (43, .aload_n 0, 1, 0), (44, .iload_n 1, 1, 1), (45, .putfield 143, 3, 1025), (48, .iload_n 2, 1, 2), (49, .ireturn, 1, 0)]
theorem rc_X10_undo_ok : rf_rc mX10_undo rc_X10_undo = true := by decide +kernel
theorem mw_X10_undo : rf_mw mX10_undo := ⟨rf_mt_ok _ (List.mem_of_getElem? (i := 202) rfl), fun h => absurd h (by decide), fun _ => ⟨rf_mi_ok _ (List.mem_of_getElem? (i := 180) rfl), rf_mv_ok _ (List.mem_of_getElem? (i := 180) rfl)⟩, rf_mq_8 _ (List.mem_of_getElem? (i := 2) rfl)⟩
def f_X10_undo_j43 (l1 : Int32) (l2 : Int32) (σ : rf_S) : Option (Int32 × rf_S) := some (l2, (rf_sI σ 0 25 l1))
set_option maxHeartbeats 2000000 in
theorem ok_X10_undo_j43 (d : Nat) (l1 : Int32) (l2 : Int32) (σ : rf_S) (q : (Int32 × rf_S)) (h : f_X10_undo_j43 l1 l2 σ = some q) : rf_G ly1 (d + 1) mX10_undo (43, [some (.ref 0), some (.int l1), some (.int l2)], [], σ) (some (.int q.1) : Option Value) q.2 := by
  unfold f_X10_undo_j43 at h
  refine rf_b wf1 rc_X10_undo_ok 25 4 (49, [some (.ref 0), some (.int l1), some (.int l2)], [.int l2], (rf_sI σ 0 25 l1)) rfl ?_
  obtain rfl := Option.some.inj h
  exact rf_ri rc_X10_undo_ok 29 rfl rfl
def f_X10_undo (p0 : Int32) (σ : rf_S) : Option (Int32 × rf_S) := (f_X10_in p0 0 (σ.1 0 25) σ).bind (fun q1 => if q1 ≠ 0 then (if ((σ.1 0 25) - p0) ≤ 0 then (f_X10_undo_j43 p0 ((σ.1 0 25) - p0) σ) else ((f_X10_bring 14 (25 * p0) 12 0 25 σ).bind (fun q5 => f_X10_undo_j43 p0 ((σ.1 0 25) - p0) q5))) else (some ((-1), σ)))
set_option maxHeartbeats 2000000 in
theorem ok_X10_undo (d : Nat) (p0 : Int32) (σ : rf_S) (q : (Int32 × rf_S)) (h : f_X10_undo p0 σ = some q) : rf_Ex ly1 (d + 2) mX10_undo [.ref 0, .int p0] σ (some (.int q.1) : Option Value) q.2 := by
  unfold f_X10_undo at h
  refine rf_ex mw_X10_undo [some (.ref 0), some (.int p0), none] (Nat.le_of_ble_eq_true rfl) rfl ?_
  refine rf_b wf1 rc_X10_undo_ok 0 4 (6, [some (.ref 0), some (.int p0), none], [.int (σ.1 0 25), .int 0, .int p0], σ) rfl ?_
  obtain ⟨q1, h2, h⟩ := Option.bind_eq_some_iff.mp h
  refine rf_cs1 (Mt := mX10_in) rc_X10_undo_ok 4 false rfl (List.mem_of_getElem? (i := 143) rfl) mw_X10_in rfl [.int p0, .int 0, .int (σ.1 0 25)] [] rfl rfl (Nat.le_of_ble_eq_true rfl) (ok_X10_in d p0 0 (σ.1 0 25) σ q1 h2) ?_
  show rf_G _ _ _ (9, [some (.ref 0), some (.int p0), none], [.int q1], σ) _ _
  by_cases c3 : q1 ≠ 0
  · rw [if_pos c3] at h
    refine rf_t wf1 rc_X10_undo_ok 5 (14, [some (.ref 0), some (.int p0), none], [], σ) rfl rfl c3 rfl ?_
    refine rf_b wf1 rc_X10_undo_ok 8 6 (22, [some (.ref 0), some (.int p0), some (.int ((σ.1 0 25) - p0))], [.int ((σ.1 0 25) - p0)], σ) rfl ?_
    by_cases c4 : ((σ.1 0 25) - p0) ≤ 0
    · rw [if_pos c4] at h
      refine rf_t wf1 rc_X10_undo_ok 14 (43, [some (.ref 0), some (.int p0), some (.int ((σ.1 0 25) - p0))], [], σ) rfl rfl c4 rfl ?_
      exact ok_X10_undo_j43 d p0 ((σ.1 0 25) - p0) σ q h
    · rw [if_neg c4] at h
      refine rf_f wf1 rc_X10_undo_ok 14 (25, [some (.ref 0), some (.int p0), some (.int ((σ.1 0 25) - p0))], [], σ) rfl rfl c4 rfl ?_
      refine rf_b wf1 rc_X10_undo_ok 15 9 (40, [some (.ref 0), some (.int p0), some (.int ((σ.1 0 25) - p0))], [.int 25, .int 0, .ref 12, .int (25 * p0), .ref 14], σ) rfl ?_
      obtain ⟨q5, h6, h⟩ := Option.bind_eq_some_iff.mp h
      refine rf_cs1 (Mt := mX10_bring) rc_X10_undo_ok 24 false rfl (List.mem_of_getElem? (i := 171) rfl) mw_X10_bring rfl [.ref 14, .int (25 * p0), .ref 12, .int 0, .int 25] [] rfl rfl (Nat.le_of_ble_eq_true rfl) (ok_X10_bring d 14 (25 * p0) 12 0 25 σ q5 h6) ?_
      show rf_G _ _ _ (43, [some (.ref 0), some (.int p0), some (.int ((σ.1 0 25) - p0))], [], q5) _ _
      exact ok_X10_undo_j43 d p0 ((σ.1 0 25) - p0) q5 q h
  · rw [if_neg c3] at h
    refine rf_f wf1 rc_X10_undo_ok 5 (12, [some (.ref 0), some (.int p0), none], [], σ) rfl rfl c3 rfl ?_
    refine rf_b wf1 rc_X10_undo_ok 6 1 (13, [some (.ref 0), some (.int p0), none], [.int (-1)], σ) rfl ?_
    obtain rfl := Option.some.inj h
    exact rf_ri rc_X10_undo_ok 7 rfl rfl
def rc_X10_keep : List rf_E := [(0, .iload_n 1, 1, 1), (1, .iconst 0, 1, 0), (2, .iconst 2, 1, 0), (3, .invokestatic 78, 3, 0), (6, .ifCond .ne 5, 3, 11), (9, .iconst (-1), 1, 0), (10, .ireturn, 1, 0), (11, .aload_n 0, 1, 0), (12, .getfield 75, 3, 1017), (15, .ifCond .ne 6, 3, 21), (18, .bipush (-4), 2, 0), (20, .ireturn, 1, 0), (21, .aload_n 0, 1, 0), (22, .getfield 47, 3, 1022), (25, .iconst 0, 1, 0), (26, .aload_n 0, 1, 0), (27, .getfield 56, 3, 1026), (30, .bipush 25, 2, 0), (32, .iload_n 1, 1, 1), (33, .imul, 1, 0), (34, .bipush 25, 2, 0), (36, .invokestatic 195, 3, 0), (39, .aload_n 0, 1, 0), (40, .getfield 53, 3, 1024), (43, .iconst 0, 1, 0), (44, .aload_n 0, 1, 0), (45, .getfield 59, 3, 1027), (48, .sipush 1000, 3, 0), (51, .iload_n 1, 1, 1), (52, .imul, 1, 0), (53, .sipush 1000, 3, 0), (56, .invokestatic 195, 3, 0), (59, .aload_n 0, 1, 0), (60, .getfield 62, 3, 1028), (63, .iload_n 1, 1, 1), (64, .aload_n 0, 1, 0), (65, .getfield 143, 3, 1025), (68, .iastore, 1, 0), (69, .aload_n 0, 1, 0), (70, .getfield 143, 3, 1025), (73, .ireturn, 1, 0)]
theorem rc_X10_keep_ok : rf_rc mX10_keep rc_X10_keep = true := by decide +kernel
theorem mw_X10_keep : rf_mw mX10_keep := ⟨rf_mt_ok _ (List.mem_of_getElem? (i := 203) rfl), fun h => absurd h (by decide), fun _ => ⟨rf_mi_ok _ (List.mem_of_getElem? (i := 181) rfl), rf_mv_ok _ (List.mem_of_getElem? (i := 181) rfl)⟩, rf_mq_8 _ (List.mem_of_getElem? (i := 3) rfl)⟩
def f_X10_keep (p0 : Int32) (σ : rf_S) : Option (Int32 × rf_S) := (f_X10_in p0 0 2 σ).bind (fun q1 => if q1 ≠ 0 then (if (σ.1 0 17) ≠ 0 then ((f_X10_bring 12 0 15 (25 * p0) 25 σ).bind (fun q5 => (f_X10_bring 14 0 16 (1000 * p0) 1000 q5).bind (fun q7 => if rf_ck ly1 0 17 p0 = true then (some (((rf_sI q7 17 p0.toNatClampNeg (q7.1 0 25)).1 0 25), (rf_sI q7 17 p0.toNatClampNeg (q7.1 0 25)))) else none))) else (some ((-4), σ))) else (some ((-1), σ)))
set_option maxHeartbeats 2000000 in
theorem ok_X10_keep (d : Nat) (p0 : Int32) (σ : rf_S) (q : (Int32 × rf_S)) (h : f_X10_keep p0 σ = some q) : rf_Ex ly1 (d + 2) mX10_keep [.ref 0, .int p0] σ (some (.int q.1) : Option Value) q.2 := by
  unfold f_X10_keep at h
  refine rf_ex mw_X10_keep [some (.ref 0), some (.int p0)] (Nat.le_of_ble_eq_true rfl) rfl ?_
  refine rf_b wf1 rc_X10_keep_ok 0 3 (3, [some (.ref 0), some (.int p0)], [.int 2, .int 0, .int p0], σ) rfl ?_
  obtain ⟨q1, h2, h⟩ := Option.bind_eq_some_iff.mp h
  refine rf_cs1 (Mt := mX10_in) rc_X10_keep_ok 3 false rfl (List.mem_of_getElem? (i := 143) rfl) mw_X10_in rfl [.int p0, .int 0, .int 2] [] rfl rfl (Nat.le_of_ble_eq_true rfl) (ok_X10_in d p0 0 2 σ q1 h2) ?_
  show rf_G _ _ _ (6, [some (.ref 0), some (.int p0)], [.int q1], σ) _ _
  by_cases c3 : q1 ≠ 0
  · rw [if_pos c3] at h
    refine rf_t wf1 rc_X10_keep_ok 4 (11, [some (.ref 0), some (.int p0)], [], σ) rfl rfl c3 rfl ?_
    refine rf_b wf1 rc_X10_keep_ok 7 2 (15, [some (.ref 0), some (.int p0)], [.int (σ.1 0 17)], σ) rfl ?_
    by_cases c4 : (σ.1 0 17) ≠ 0
    · rw [if_pos c4] at h
      refine rf_t wf1 rc_X10_keep_ok 9 (21, [some (.ref 0), some (.int p0)], [], σ) rfl rfl c4 rfl ?_
      refine rf_b wf1 rc_X10_keep_ok 12 9 (36, [some (.ref 0), some (.int p0)], [.int 25, .int (25 * p0), .ref 15, .int 0, .ref 12], σ) rfl ?_
      obtain ⟨q5, h6, h⟩ := Option.bind_eq_some_iff.mp h
      refine rf_cs1 (Mt := mX10_bring) rc_X10_keep_ok 21 false rfl (List.mem_of_getElem? (i := 171) rfl) mw_X10_bring rfl [.ref 12, .int 0, .ref 15, .int (25 * p0), .int 25] [] rfl rfl (Nat.le_of_ble_eq_true rfl) (ok_X10_bring d 12 0 15 (25 * p0) 25 σ q5 h6) ?_
      show rf_G _ _ _ (39, [some (.ref 0), some (.int p0)], [], q5) _ _
      refine rf_b wf1 rc_X10_keep_ok 22 9 (56, [some (.ref 0), some (.int p0)], [.int 1000, .int (1000 * p0), .ref 16, .int 0, .ref 14], q5) rfl ?_
      obtain ⟨q7, h8, h⟩ := Option.bind_eq_some_iff.mp h
      refine rf_cs1 (Mt := mX10_bring) rc_X10_keep_ok 31 false rfl (List.mem_of_getElem? (i := 171) rfl) mw_X10_bring rfl [.ref 14, .int 0, .ref 16, .int (1000 * p0), .int 1000] [] rfl rfl (Nat.le_of_ble_eq_true rfl) (ok_X10_bring d 14 0 16 (1000 * p0) 1000 q5 q7 h8) ?_
      show rf_G _ _ _ (59, [some (.ref 0), some (.int p0)], [], q7) _ _
      refine rf_b wf1 rc_X10_keep_ok 32 5 (68, [some (.ref 0), some (.int p0)], [.int (q7.1 0 25), .int p0, .ref 17], q7) rfl ?_
      obtain ⟨g9, h⟩ := rf_ifn h
      refine rf_gd wf1 rc_X10_keep_ok 37 (69, [some (.ref 0), some (.int p0)], [], (rf_sI q7 17 p0.toNatClampNeg (q7.1 0 25))) rfl rfl g9 rfl ?_
      refine rf_b wf1 rc_X10_keep_ok 38 2 (73, [some (.ref 0), some (.int p0)], [.int ((rf_sI q7 17 p0.toNatClampNeg (q7.1 0 25)).1 0 25)], (rf_sI q7 17 p0.toNatClampNeg (q7.1 0 25))) rfl ?_
      obtain rfl := Option.some.inj h
      exact rf_ri rc_X10_keep_ok 40 rfl rfl
    · rw [if_neg c4] at h
      refine rf_f wf1 rc_X10_keep_ok 9 (18, [some (.ref 0), some (.int p0)], [], σ) rfl rfl c4 rfl ?_
      refine rf_b wf1 rc_X10_keep_ok 10 1 (20, [some (.ref 0), some (.int p0)], [.int (-4)], σ) rfl ?_
      obtain rfl := Option.some.inj h
      exact rf_ri rc_X10_keep_ok 11 rfl rfl
  · rw [if_neg c3] at h
    refine rf_f wf1 rc_X10_keep_ok 4 (9, [some (.ref 0), some (.int p0)], [], σ) rfl rfl c3 rfl ?_
    refine rf_b wf1 rc_X10_keep_ok 5 1 (10, [some (.ref 0), some (.int p0)], [.int (-1)], σ) rfl ?_
    obtain rfl := Option.some.inj h
    exact rf_ri rc_X10_keep_ok 6 rfl rfl
def rc_X10_on : List rf_E := [(0, .iload_n 1, 1, 1), (1, .iconst 0, 1, 0), (2, .iconst 2, 1, 0), (3, .invokestatic 78, 3, 0), (6, .ifCond .ne 5, 3, 11), (9, .iconst (-1), 1, 0), (10, .ireturn, 1, 0), (11, .aload_n 0, 1, 0), (12, .getfield 62, 3, 1028), (15, .iload_n 1, 1, 1), (16, .iaload, 1, 0), (17, .ifCond .ge 9, 3, 26), (20, .aload_n 0, 1, 0), (21, .iconst 1, 1, 0), (22, .invokevirtual 85, 3, 0), (25, .ireturn, 1, 0), (26, .aload_n 0, 1, 0), (27, .getfield 56, 3, 1026), (30, .bipush 25, 2, 0), (32, .iload_n 1, 1, 1), (33, .imul, 1, 0), (34, .aload_n 0, 1, 0), (35, .getfield 47, 3, 1022), (38, .iconst 0, 1, 0), (39, .bipush 25, 2, 0), (41, .invokestatic 195, 3, 0), (44, .aload_n 0, 1, 0), (45, .getfield 59, 3, 1027), (48, .sipush 1000, 3, 0), (51, .iload_n 1, 1, 1), (52, .imul, 1, 0), (53, .aload_n 0, 1, 0), (54, .getfield 53, 3, 1024), (57, .iconst 0, 1, 0), (58, .sipush 1000, 3, 0), (61, .invokestatic 195, 3, 0), (64, .aload_n 0, 1, 0), (65, .aload_n 0, 1, 0), (66, .getfield 62, 3, 1028), (69, .iload_n 1, 1, 1), (70, .iaload, 1, 0), (71, .putfield 143, 3, 1025), (74, .aload_n 0, 1, 0), (75, .getfield 143, 3, 1025), (78, .ireturn, 1, 0)]
theorem rc_X10_on_ok : rf_rc mX10_on rc_X10_on = true := by decide +kernel
theorem mw_X10_on : rf_mw mX10_on := ⟨rf_mt_ok _ (List.mem_of_getElem? (i := 204) rfl), fun h => absurd h (by decide), fun _ => ⟨rf_mi_ok _ (List.mem_of_getElem? (i := 182) rfl), rf_mv_ok _ (List.mem_of_getElem? (i := 182) rfl)⟩, rf_mq_8 _ (List.mem_of_getElem? (i := 4) rfl)⟩
def f_X10_on (p0 : Int32) (σ : rf_S) : Option (Int32 × rf_S) := (f_X10_in p0 0 2 σ).bind (fun q1 => if q1 ≠ 0 then (if rf_ck ly1 0 17 p0 = true then (if 0 ≤ (σ.1 17 p0.toNatClampNeg) then ((f_X10_bring 15 (25 * p0) 12 0 25 σ).bind (fun q6 => (f_X10_bring 16 (1000 * p0) 14 0 1000 q6).bind (fun q8 => if rf_ck ly1 0 17 p0 = true then (some (((rf_sI q8 0 25 (q8.1 17 p0.toNatClampNeg)).1 0 25), (rf_sI q8 0 25 (q8.1 17 p0.toNatClampNeg)))) else none))) else ((f_X10_finds 1 σ).bind (fun q11 => some (q11.1, q11.2)))) else none) else (some ((-1), σ)))
set_option maxHeartbeats 2000000 in
theorem ok_X10_on (d : Nat) (p0 : Int32) (σ : rf_S) (q : (Int32 × rf_S)) (h : f_X10_on p0 σ = some q) : rf_Ex ly1 (d + 2) mX10_on [.ref 0, .int p0] σ (some (.int q.1) : Option Value) q.2 := by
  unfold f_X10_on at h
  refine rf_ex mw_X10_on [some (.ref 0), some (.int p0)] (Nat.le_of_ble_eq_true rfl) rfl ?_
  refine rf_b wf1 rc_X10_on_ok 0 3 (3, [some (.ref 0), some (.int p0)], [.int 2, .int 0, .int p0], σ) rfl ?_
  obtain ⟨q1, h2, h⟩ := Option.bind_eq_some_iff.mp h
  refine rf_cs1 (Mt := mX10_in) rc_X10_on_ok 3 false rfl (List.mem_of_getElem? (i := 143) rfl) mw_X10_in rfl [.int p0, .int 0, .int 2] [] rfl rfl (Nat.le_of_ble_eq_true rfl) (ok_X10_in d p0 0 2 σ q1 h2) ?_
  show rf_G _ _ _ (6, [some (.ref 0), some (.int p0)], [.int q1], σ) _ _
  by_cases c3 : q1 ≠ 0
  · rw [if_pos c3] at h
    refine rf_t wf1 rc_X10_on_ok 4 (11, [some (.ref 0), some (.int p0)], [], σ) rfl rfl c3 rfl ?_
    refine rf_b wf1 rc_X10_on_ok 7 3 (16, [some (.ref 0), some (.int p0)], [.int p0, .ref 17], σ) rfl ?_
    obtain ⟨g4, h⟩ := rf_ifn h
    refine rf_gd wf1 rc_X10_on_ok 10 (17, [some (.ref 0), some (.int p0)], [.int (σ.1 17 p0.toNatClampNeg)], σ) rfl rfl g4 rfl ?_
    by_cases c5 : 0 ≤ (σ.1 17 p0.toNatClampNeg)
    · rw [if_pos c5] at h
      refine rf_t wf1 rc_X10_on_ok 11 (26, [some (.ref 0), some (.int p0)], [], σ) rfl rfl c5 rfl ?_
      refine rf_b wf1 rc_X10_on_ok 16 9 (41, [some (.ref 0), some (.int p0)], [.int 25, .int 0, .ref 12, .int (25 * p0), .ref 15], σ) rfl ?_
      obtain ⟨q6, h7, h⟩ := Option.bind_eq_some_iff.mp h
      refine rf_cs1 (Mt := mX10_bring) rc_X10_on_ok 25 false rfl (List.mem_of_getElem? (i := 171) rfl) mw_X10_bring rfl [.ref 15, .int (25 * p0), .ref 12, .int 0, .int 25] [] rfl rfl (Nat.le_of_ble_eq_true rfl) (ok_X10_bring d 15 (25 * p0) 12 0 25 σ q6 h7) ?_
      show rf_G _ _ _ (44, [some (.ref 0), some (.int p0)], [], q6) _ _
      refine rf_b wf1 rc_X10_on_ok 26 9 (61, [some (.ref 0), some (.int p0)], [.int 1000, .int 0, .ref 14, .int (1000 * p0), .ref 16], q6) rfl ?_
      obtain ⟨q8, h9, h⟩ := Option.bind_eq_some_iff.mp h
      refine rf_cs1 (Mt := mX10_bring) rc_X10_on_ok 35 false rfl (List.mem_of_getElem? (i := 171) rfl) mw_X10_bring rfl [.ref 16, .int (1000 * p0), .ref 14, .int 0, .int 1000] [] rfl rfl (Nat.le_of_ble_eq_true rfl) (ok_X10_bring d 16 (1000 * p0) 14 0 1000 q6 q8 h9) ?_
      show rf_G _ _ _ (64, [some (.ref 0), some (.int p0)], [], q8) _ _
      refine rf_b wf1 rc_X10_on_ok 36 4 (70, [some (.ref 0), some (.int p0)], [.int p0, .ref 17, .ref 0], q8) rfl ?_
      obtain ⟨g10, h⟩ := rf_ifn h
      refine rf_gd wf1 rc_X10_on_ok 40 (71, [some (.ref 0), some (.int p0)], [.int (q8.1 17 p0.toNatClampNeg), .ref 0], q8) rfl rfl g10 rfl ?_
      refine rf_b wf1 rc_X10_on_ok 41 3 (78, [some (.ref 0), some (.int p0)], [.int ((rf_sI q8 0 25 (q8.1 17 p0.toNatClampNeg)).1 0 25)], (rf_sI q8 0 25 (q8.1 17 p0.toNatClampNeg))) rfl ?_
      obtain rfl := Option.some.inj h
      exact rf_ri rc_X10_on_ok 44 rfl rfl
    · rw [if_neg c5] at h
      refine rf_f wf1 rc_X10_on_ok 11 (20, [some (.ref 0), some (.int p0)], [], σ) rfl rfl c5 rfl ?_
      refine rf_b wf1 rc_X10_on_ok 12 2 (22, [some (.ref 0), some (.int p0)], [.int 1, .ref 0], σ) rfl ?_
      obtain ⟨q11, h12, h⟩ := Option.bind_eq_some_iff.mp h
      refine rf_cv1 (Mt := mX10_finds) wf1 rc_X10_on_ok 14 false rfl (List.mem_of_getElem? (i := 144) rfl) mw_X10_finds rfl 0 [.int 1] [] rfl rfl rfl (Nat.le_of_ble_eq_true rfl) (ok_X10_finds d 1 σ q11 h12) ?_
      show rf_G _ _ _ (25, [some (.ref 0), some (.int p0)], [.int q11.1], q11.2) _ _
      obtain rfl := Option.some.inj h
      exact rf_ri rc_X10_on_ok 15 rfl rfl
  · rw [if_neg c3] at h
    refine rf_f wf1 rc_X10_on_ok 4 (9, [some (.ref 0), some (.int p0)], [], σ) rfl rfl c3 rfl ?_
    refine rf_b wf1 rc_X10_on_ok 5 1 (10, [some (.ref 0), some (.int p0)], [.int (-1)], σ) rfl ?_
    obtain rfl := Option.some.inj h
    exact rf_ri rc_X10_on_ok 6 rfl rfl
def rc_X10_spanOf : List rf_E := [(0, .iconst 0, 1, 0), (1, .istore 4, 2, 4), (3, .iconst 0, 1, 0), (4, .istore 5, 2, 5), (6, .iload 5, 2, 5), (8, .bipush 31, 2, 0), (10, .if_icmp .ge 89, 3, 99), (13, .iconst 1, 1, 0), (14, .istore 6, 2, 6), (16, .iconst 0, 1, 0), (17, .istore 7, 2, 7), (19, .iload 7, 2, 7), (21, .aload_n 0, 1, 0), (22, .getfield 75, 3, 1017), (25, .if_icmp .ge 50, 3, 75), (28, .iload 6, 2, 6), (30, .ifCond .eq 36, 3, 66), (33, .iload_n 2, 1, 2), (34, .iload 7, 2, 7), (36, .invokestatic 206, 3, 0), (39, .ifCond .eq 23, 3, 62), (42, .aload_n 0, 1, 0), (43, .aload_n 1, 1, 1), (44, .iload 7, 2, 7), (46, .iload 5, 2, 5), (48, .invokevirtual 162, 3, 0), (51, .aload_n 0, 1, 0), (52, .aload_n 1, 1, 1), (53, .iload 7, 2, 7), (55, .iload_n 3, 1, 3), (56, .invokevirtual 162, 3, 0), (59, .if_icmp .ne 7, 3, 66), (62, .iconst 1, 1, 0), (63, .goto 4, 3, 67), (66, .iconst 0, 1, 0), (67, .istore 6, 2, 6), (69, .iinc 7 1, 3, 7), (72, .goto (-53), 3, 19), (75, .iload 4, 2, 4), (77, .iload 6, 2, 6), (79, .ifCond .eq 10, 3, 89), (82, .iconst 1, 1, 0), (83, .iload 5, 2, 5), (85, .ishl, 1, 0), (86, .goto 4, 3, 90), (89, .iconst 0, 1, 0), (90, .ior, 1, 0), (91, .istore 4, 2, 4), (93, .iinc 5 1, 3, 5), (96, .goto (-90), 3, 6), (99, .iload 4, 2, 4), (101, .ireturn, 1, 0)]
theorem rc_X10_spanOf_ok : rf_rc mX10_spanOf rc_X10_spanOf = true := by decide +kernel
theorem mw_X10_spanOf : rf_mw mX10_spanOf := ⟨rf_mt_ok _ (List.mem_of_getElem? (i := 205) rfl), fun h => absurd h (by decide), fun _ => ⟨rf_mi_ok _ (List.mem_of_getElem? (i := 183) rfl), rf_mv_ok _ (List.mem_of_getElem? (i := 183) rfl)⟩, rf_mq_8 _ (List.mem_of_getElem? (i := 5) rfl)⟩
def f_X10_spanOf_j67 (l1 : Nat) (l2 : Int32) (l3 : Int32) (l4 : Int32) (l5 : Int32) (l7 : Int32) (t0 : Int32) (σ : rf_S) : Option ((Int32 × Int32) ⊕ (Int32)) := some (.inl (t0, (l7 + 1)))
set_option maxHeartbeats 2000000 in
theorem ok_X10_spanOf_j67 (d : Nat) (l1 : Nat) (l2 : Int32) (l3 : Int32) (l4 : Int32) (l5 : Int32) (l7 : Int32) (t0 : Int32) (σ : rf_S) (o : ((Int32 × Int32) ⊕ (Int32))) (h : f_X10_spanOf_j67 l1 l2 l3 l4 l5 l7 t0 σ = some o) {r : Option Value} {σr : rf_S} (kl : ∀ s', o = .inl s' → rf_G ly1 (d + 4) mX10_spanOf (19, [some (.ref 0), some (.ref l1), some (.int l2), some (.int l3), some (.int l4), some (.int l5), some (.int s'.1), some (.int s'.2)], [], σ) r σr) (kx : ∀ e, o = .inr e → rf_G ly1 (d + 4) mX10_spanOf (75, [some (.ref 0), some (.ref l1), some (.int l2), some (.int l3), some (.int l4), some (.int l5), some (.int e), none], [], σ) r σr) : rf_G ly1 (d + 4) mX10_spanOf (67, [some (.ref 0), some (.ref l1), some (.int l2), some (.int l3), some (.int l4), some (.int l5), none, some (.int l7)], [.int t0], σ) r σr := by
  unfold f_X10_spanOf_j67 at h
  refine rf_b wf1 rc_X10_spanOf_ok 35 3 (19, [some (.ref 0), some (.ref l1), some (.int l2), some (.int l3), some (.int l4), some (.int l5), some (.int t0), some (.int (l7 + 1))], [], σ) rfl ?_
  exact kl (t0, (l7 + 1)) (Option.some.inj h).symm
def f_X10_spanOf_j66 (l1 : Nat) (l2 : Int32) (l3 : Int32) (l4 : Int32) (l5 : Int32) (l7 : Int32) (σ : rf_S) : Option ((Int32 × Int32) ⊕ (Int32)) := f_X10_spanOf_j67 l1 l2 l3 l4 l5 l7 0 σ
set_option maxHeartbeats 2000000 in
theorem ok_X10_spanOf_j66 (d : Nat) (l1 : Nat) (l2 : Int32) (l3 : Int32) (l4 : Int32) (l5 : Int32) (l7 : Int32) (σ : rf_S) (o : ((Int32 × Int32) ⊕ (Int32))) (h : f_X10_spanOf_j66 l1 l2 l3 l4 l5 l7 σ = some o) {r : Option Value} {σr : rf_S} (kl : ∀ s', o = .inl s' → rf_G ly1 (d + 4) mX10_spanOf (19, [some (.ref 0), some (.ref l1), some (.int l2), some (.int l3), some (.int l4), some (.int l5), some (.int s'.1), some (.int s'.2)], [], σ) r σr) (kx : ∀ e, o = .inr e → rf_G ly1 (d + 4) mX10_spanOf (75, [some (.ref 0), some (.ref l1), some (.int l2), some (.int l3), some (.int l4), some (.int l5), some (.int e), none], [], σ) r σr) : rf_G ly1 (d + 4) mX10_spanOf (66, [some (.ref 0), some (.ref l1), some (.int l2), some (.int l3), some (.int l4), some (.int l5), none, some (.int l7)], [], σ) r σr := by
  unfold f_X10_spanOf_j66 at h
  refine rf_b wf1 rc_X10_spanOf_ok 34 1 (67, [some (.ref 0), some (.ref l1), some (.int l2), some (.int l3), some (.int l4), some (.int l5), none, some (.int l7)], [.int 0], σ) rfl ?_
  exact ok_X10_spanOf_j67 d l1 l2 l3 l4 l5 l7 0 σ o h kl kx
def f_X10_spanOf_j62 (l1 : Nat) (l2 : Int32) (l3 : Int32) (l4 : Int32) (l5 : Int32) (l7 : Int32) (σ : rf_S) : Option ((Int32 × Int32) ⊕ (Int32)) := f_X10_spanOf_j67 l1 l2 l3 l4 l5 l7 1 σ
set_option maxHeartbeats 2000000 in
theorem ok_X10_spanOf_j62 (d : Nat) (l1 : Nat) (l2 : Int32) (l3 : Int32) (l4 : Int32) (l5 : Int32) (l7 : Int32) (σ : rf_S) (o : ((Int32 × Int32) ⊕ (Int32))) (h : f_X10_spanOf_j62 l1 l2 l3 l4 l5 l7 σ = some o) {r : Option Value} {σr : rf_S} (kl : ∀ s', o = .inl s' → rf_G ly1 (d + 4) mX10_spanOf (19, [some (.ref 0), some (.ref l1), some (.int l2), some (.int l3), some (.int l4), some (.int l5), some (.int s'.1), some (.int s'.2)], [], σ) r σr) (kx : ∀ e, o = .inr e → rf_G ly1 (d + 4) mX10_spanOf (75, [some (.ref 0), some (.ref l1), some (.int l2), some (.int l3), some (.int l4), some (.int l5), some (.int e), none], [], σ) r σr) : rf_G ly1 (d + 4) mX10_spanOf (62, [some (.ref 0), some (.ref l1), some (.int l2), some (.int l3), some (.int l4), some (.int l5), none, some (.int l7)], [], σ) r σr := by
  unfold f_X10_spanOf_j62 at h
  refine rf_b wf1 rc_X10_spanOf_ok 32 2 (67, [some (.ref 0), some (.ref l1), some (.int l2), some (.int l3), some (.int l4), some (.int l5), none, some (.int l7)], [.int 1], σ) rfl ?_
  exact ok_X10_spanOf_j67 d l1 l2 l3 l4 l5 l7 1 σ o h kl kx
def f_X10_spanOf_b19 (l1 : Nat) (l2 : Int32) (l3 : Int32) (l4 : Int32) (l5 : Int32) (σ : rf_S) (s19 : Int32 × Int32) : Option ((Int32 × Int32) ⊕ (Int32)) := if (σ.1 0 17) ≤ s19.2 then (some (.inr s19.1)) else (if s19.1 = 0 then (f_X10_spanOf_j66 l1 l2 l3 l4 l5 s19.2 σ) else ((f_X10_has l2 s19.2 σ).bind (fun q4 => if q4 = 0 then (f_X10_spanOf_j62 l1 l2 l3 l4 l5 s19.2 σ) else ((f_X10_doesAt l1 s19.2 l5 σ).bind (fun q7 => (f_X10_doesAt l1 s19.2 l3 σ).bind (fun q9 => if q7 ≠ q9 then (f_X10_spanOf_j66 l1 l2 l3 l4 l5 s19.2 σ) else (f_X10_spanOf_j62 l1 l2 l3 l4 l5 s19.2 σ)))))))
set_option maxHeartbeats 2000000 in
theorem ok_X10_spanOf_b19 (d : Nat) (l1 : Nat) (l2 : Int32) (l3 : Int32) (l4 : Int32) (l5 : Int32) (σ : rf_S) (s19 : Int32 × Int32) (o : ((Int32 × Int32) ⊕ (Int32))) (h : f_X10_spanOf_b19 l1 l2 l3 l4 l5 σ s19 = some o) {r : Option Value} {σr : rf_S} (kl : ∀ s', o = .inl s' → rf_G ly1 (d + 4) mX10_spanOf (19, [some (.ref 0), some (.ref l1), some (.int l2), some (.int l3), some (.int l4), some (.int l5), some (.int s'.1), some (.int s'.2)], [], σ) r σr) (kx : ∀ e, o = .inr e → rf_G ly1 (d + 4) mX10_spanOf (75, [some (.ref 0), some (.ref l1), some (.int l2), some (.int l3), some (.int l4), some (.int l5), some (.int e), none], [], σ) r σr) : rf_G ly1 (d + 4) mX10_spanOf (19, [some (.ref 0), some (.ref l1), some (.int l2), some (.int l3), some (.int l4), some (.int l5), some (.int s19.1), some (.int s19.2)], [], σ) r σr := by
  unfold f_X10_spanOf_b19 at h
  refine rf_b wf1 rc_X10_spanOf_ok 11 3 (25, [some (.ref 0), some (.ref l1), some (.int l2), some (.int l3), some (.int l4), some (.int l5), some (.int s19.1), some (.int s19.2)], [.int (σ.1 0 17), .int s19.2], σ) rfl ?_
  by_cases c2 : (σ.1 0 17) ≤ s19.2
  · rw [if_pos c2] at h
    refine rf_t wf1 rc_X10_spanOf_ok 14 (75, [some (.ref 0), some (.ref l1), some (.int l2), some (.int l3), some (.int l4), some (.int l5), some (.int s19.1), some (.int s19.2)], [], σ) rfl rfl c2 rfl ?_
    refine rf_fg [true, true, true, true, true, true, true, false] [some (.ref 0), some (.ref l1), some (.int l2), some (.int l3), some (.int l4), some (.int l5), some (.int s19.1), none] rfl ?_
    exact kx s19.1 (Option.some.inj h).symm
  · rw [if_neg c2] at h
    refine rf_f wf1 rc_X10_spanOf_ok 14 (28, [some (.ref 0), some (.ref l1), some (.int l2), some (.int l3), some (.int l4), some (.int l5), some (.int s19.1), some (.int s19.2)], [], σ) rfl rfl c2 rfl ?_
    refine rf_b wf1 rc_X10_spanOf_ok 15 1 (30, [some (.ref 0), some (.ref l1), some (.int l2), some (.int l3), some (.int l4), some (.int l5), some (.int s19.1), some (.int s19.2)], [.int s19.1], σ) rfl ?_
    by_cases c3 : s19.1 = 0
    · rw [if_pos c3] at h
      refine rf_t wf1 rc_X10_spanOf_ok 16 (66, [some (.ref 0), some (.ref l1), some (.int l2), some (.int l3), some (.int l4), some (.int l5), some (.int s19.1), some (.int s19.2)], [], σ) rfl rfl c3 rfl ?_
      refine rf_fg [true, true, true, true, true, true, false, true] [some (.ref 0), some (.ref l1), some (.int l2), some (.int l3), some (.int l4), some (.int l5), none, some (.int s19.2)] rfl ?_
      exact ok_X10_spanOf_j66 d l1 l2 l3 l4 l5 s19.2 σ o h kl kx
    · rw [if_neg c3] at h
      refine rf_f wf1 rc_X10_spanOf_ok 16 (33, [some (.ref 0), some (.ref l1), some (.int l2), some (.int l3), some (.int l4), some (.int l5), some (.int s19.1), some (.int s19.2)], [], σ) rfl rfl c3 rfl ?_
      refine rf_b wf1 rc_X10_spanOf_ok 17 2 (36, [some (.ref 0), some (.ref l1), some (.int l2), some (.int l3), some (.int l4), some (.int l5), some (.int s19.1), some (.int s19.2)], [.int s19.2, .int l2], σ) rfl ?_
      obtain ⟨q4, h5, h⟩ := Option.bind_eq_some_iff.mp h
      refine rf_cs1 (Mt := mX10_has) rc_X10_spanOf_ok 19 false rfl (List.mem_of_getElem? (i := 174) rfl) mw_X10_has rfl [.int l2, .int s19.2] [] rfl rfl (Nat.le_of_ble_eq_true rfl) (ok_X10_has (d + 3) l2 s19.2 σ q4 h5) ?_
      show rf_G _ _ _ (39, [some (.ref 0), some (.ref l1), some (.int l2), some (.int l3), some (.int l4), some (.int l5), some (.int s19.1), some (.int s19.2)], [.int q4], σ) _ _
      by_cases c6 : q4 = 0
      · rw [if_pos c6] at h
        refine rf_t wf1 rc_X10_spanOf_ok 20 (62, [some (.ref 0), some (.ref l1), some (.int l2), some (.int l3), some (.int l4), some (.int l5), some (.int s19.1), some (.int s19.2)], [], σ) rfl rfl c6 rfl ?_
        refine rf_fg [true, true, true, true, true, true, false, true] [some (.ref 0), some (.ref l1), some (.int l2), some (.int l3), some (.int l4), some (.int l5), none, some (.int s19.2)] rfl ?_
        exact ok_X10_spanOf_j62 d l1 l2 l3 l4 l5 s19.2 σ o h kl kx
      · rw [if_neg c6] at h
        refine rf_f wf1 rc_X10_spanOf_ok 20 (42, [some (.ref 0), some (.ref l1), some (.int l2), some (.int l3), some (.int l4), some (.int l5), some (.int s19.1), some (.int s19.2)], [], σ) rfl rfl c6 rfl ?_
        refine rf_b wf1 rc_X10_spanOf_ok 21 4 (48, [some (.ref 0), some (.ref l1), some (.int l2), some (.int l3), some (.int l4), some (.int l5), some (.int s19.1), some (.int s19.2)], [.int l5, .int s19.2, .ref l1, .ref 0], σ) rfl ?_
        obtain ⟨q7, h8, h⟩ := Option.bind_eq_some_iff.mp h
        refine rf_cv1 (Mt := mX10_doesAt) wf1 rc_X10_spanOf_ok 25 false rfl (List.mem_of_getElem? (i := 161) rfl) mw_X10_doesAt rfl 0 [.ref l1, .int s19.2, .int l5] [] rfl rfl rfl (Nat.le_of_ble_eq_true rfl) (ok_X10_doesAt d l1 s19.2 l5 σ q7 h8) ?_
        show rf_G _ _ _ (51, [some (.ref 0), some (.ref l1), some (.int l2), some (.int l3), some (.int l4), some (.int l5), some (.int s19.1), some (.int s19.2)], [.int q7], σ) _ _
        refine rf_b wf1 rc_X10_spanOf_ok 26 4 (56, [some (.ref 0), some (.ref l1), some (.int l2), some (.int l3), some (.int l4), some (.int l5), some (.int s19.1), some (.int s19.2)], [.int l3, .int s19.2, .ref l1, .ref 0, .int q7], σ) rfl ?_
        obtain ⟨q9, h10, h⟩ := Option.bind_eq_some_iff.mp h
        refine rf_cv1 (Mt := mX10_doesAt) wf1 rc_X10_spanOf_ok 30 false rfl (List.mem_of_getElem? (i := 161) rfl) mw_X10_doesAt rfl 0 [.ref l1, .int s19.2, .int l3] [.int q7] rfl rfl rfl (Nat.le_of_ble_eq_true rfl) (ok_X10_doesAt d l1 s19.2 l3 σ q9 h10) ?_
        show rf_G _ _ _ (59, [some (.ref 0), some (.ref l1), some (.int l2), some (.int l3), some (.int l4), some (.int l5), some (.int s19.1), some (.int s19.2)], [.int q9, .int q7], σ) _ _
        by_cases c11 : q7 ≠ q9
        · rw [if_pos c11] at h
          refine rf_t wf1 rc_X10_spanOf_ok 31 (66, [some (.ref 0), some (.ref l1), some (.int l2), some (.int l3), some (.int l4), some (.int l5), some (.int s19.1), some (.int s19.2)], [], σ) rfl rfl c11 rfl ?_
          refine rf_fg [true, true, true, true, true, true, false, true] [some (.ref 0), some (.ref l1), some (.int l2), some (.int l3), some (.int l4), some (.int l5), none, some (.int s19.2)] rfl ?_
          exact ok_X10_spanOf_j66 d l1 l2 l3 l4 l5 s19.2 σ o h kl kx
        · rw [if_neg c11] at h
          refine rf_f wf1 rc_X10_spanOf_ok 31 (62, [some (.ref 0), some (.ref l1), some (.int l2), some (.int l3), some (.int l4), some (.int l5), some (.int s19.1), some (.int s19.2)], [], σ) rfl rfl c11 rfl ?_
          refine rf_fg [true, true, true, true, true, true, false, true] [some (.ref 0), some (.ref l1), some (.int l2), some (.int l3), some (.int l4), some (.int l5), none, some (.int s19.2)] rfl ?_
          exact ok_X10_spanOf_j62 d l1 l2 l3 l4 l5 s19.2 σ o h kl kx
def f_X10_spanOf_j90 (l1 : Nat) (l2 : Int32) (l3 : Int32) (l5 : Int32) (t0 : Int32) (t1 : Int32) (σ : rf_S) : Option ((Int32 × Int32) ⊕ (Int32)) := some (.inl ((t1 ||| t0), (l5 + 1)))
set_option maxHeartbeats 2000000 in
theorem ok_X10_spanOf_j90 (d : Nat) (l1 : Nat) (l2 : Int32) (l3 : Int32) (l5 : Int32) (t0 : Int32) (t1 : Int32) (σ : rf_S) (o : ((Int32 × Int32) ⊕ (Int32))) (h : f_X10_spanOf_j90 l1 l2 l3 l5 t0 t1 σ = some o) {r : Option Value} {σr : rf_S} (kl : ∀ s', o = .inl s' → rf_G ly1 (d + 4) mX10_spanOf (6, [some (.ref 0), some (.ref l1), some (.int l2), some (.int l3), some (.int s'.1), some (.int s'.2), none, none], [], σ) r σr) (kx : ∀ e, o = .inr e → rf_G ly1 (d + 4) mX10_spanOf (99, [none, none, none, none, some (.int e), none, none, none], [], σ) r σr) : rf_G ly1 (d + 4) mX10_spanOf (90, [some (.ref 0), some (.ref l1), some (.int l2), some (.int l3), none, some (.int l5), none, none], [.int t0, .int t1], σ) r σr := by
  unfold f_X10_spanOf_j90 at h
  refine rf_b wf1 rc_X10_spanOf_ok 46 4 (6, [some (.ref 0), some (.ref l1), some (.int l2), some (.int l3), some (.int (t1 ||| t0)), some (.int (l5 + 1)), none, none], [], σ) rfl ?_
  exact kl ((t1 ||| t0), (l5 + 1)) (Option.some.inj h).symm
def f_X10_spanOf_b6 (l1 : Nat) (l2 : Int32) (l3 : Int32) (σ : rf_S) (s6 : Int32 × Int32) : Option ((Int32 × Int32) ⊕ (Int32)) := if 31 ≤ s6.2 then (some (.inr s6.1)) else ((rf_lp (f_X10_spanOf_b19 l1 l2 l3 s6.1 s6.2 σ) 5000 (1, 0)).bind (fun e12 => if e12 = 0 then (f_X10_spanOf_j90 l1 l2 l3 s6.2 0 s6.1 σ) else (f_X10_spanOf_j90 l1 l2 l3 s6.2 (1 <<< (s6.2 &&& 31)) s6.1 σ)))
set_option maxHeartbeats 2000000 in
theorem ok_X10_spanOf_b6 (d : Nat) (l1 : Nat) (l2 : Int32) (l3 : Int32) (σ : rf_S) (s6 : Int32 × Int32) (o : ((Int32 × Int32) ⊕ (Int32))) (h : f_X10_spanOf_b6 l1 l2 l3 σ s6 = some o) {r : Option Value} {σr : rf_S} (kl : ∀ s', o = .inl s' → rf_G ly1 (d + 4) mX10_spanOf (6, [some (.ref 0), some (.ref l1), some (.int l2), some (.int l3), some (.int s'.1), some (.int s'.2), none, none], [], σ) r σr) (kx : ∀ e, o = .inr e → rf_G ly1 (d + 4) mX10_spanOf (99, [none, none, none, none, some (.int e), none, none, none], [], σ) r σr) : rf_G ly1 (d + 4) mX10_spanOf (6, [some (.ref 0), some (.ref l1), some (.int l2), some (.int l3), some (.int s6.1), some (.int s6.2), none, none], [], σ) r σr := by
  unfold f_X10_spanOf_b6 at h
  refine rf_b wf1 rc_X10_spanOf_ok 4 2 (10, [some (.ref 0), some (.ref l1), some (.int l2), some (.int l3), some (.int s6.1), some (.int s6.2), none, none], [.int 31, .int s6.2], σ) rfl ?_
  by_cases c1 : 31 ≤ s6.2
  · rw [if_pos c1] at h
    refine rf_t wf1 rc_X10_spanOf_ok 6 (99, [some (.ref 0), some (.ref l1), some (.int l2), some (.int l3), some (.int s6.1), some (.int s6.2), none, none], [], σ) rfl rfl c1 rfl ?_
    refine rf_fg [false, false, false, false, true, false, true, true] [none, none, none, none, some (.int s6.1), none, none, none] rfl ?_
    exact kx s6.1 (Option.some.inj h).symm
  · rw [if_neg c1] at h
    refine rf_f wf1 rc_X10_spanOf_ok 6 (13, [some (.ref 0), some (.ref l1), some (.int l2), some (.int l3), some (.int s6.1), some (.int s6.2), none, none], [], σ) rfl rfl c1 rfl ?_
    refine rf_b wf1 rc_X10_spanOf_ok 7 4 (19, [some (.ref 0), some (.ref l1), some (.int l2), some (.int l3), some (.int s6.1), some (.int s6.2), some (.int 1), some (.int 0)], [], σ) rfl ?_
    obtain ⟨e12, h13, h⟩ := Option.bind_eq_some_iff.mp h
    refine rf_lpG (b := f_X10_spanOf_b19 l1 l2 l3 s6.1 s6.2 σ) (G := fun (s19 : Int32 × Int32) => rf_G ly1 (d + 4) mX10_spanOf (19, [some (.ref 0), some (.ref l1), some (.int l2), some (.int l3), some (.int s6.1), some (.int s6.2), some (.int s19.1), some (.int s19.2)], [], σ) r σr) (K := fun (e : (Int32)) => rf_G ly1 (d + 4) mX10_spanOf (75, [some (.ref 0), some (.ref l1), some (.int l2), some (.int l3), some (.int s6.1), some (.int s6.2), some (.int e), none], [], σ) r σr) (fun (s19 : Int32 × Int32) (o : (Int32 × Int32) ⊕ (Int32)) hb kl kx => ok_X10_spanOf_b19 d l1 l2 l3 s6.1 s6.2 σ s19 o hb kl kx) 5000 (1, 0) e12 h13 ?_
    show rf_G _ _ _ (75, [some (.ref 0), some (.ref l1), some (.int l2), some (.int l3), some (.int s6.1), some (.int s6.2), some (.int e12), none], [], σ) _ _
    refine rf_b wf1 rc_X10_spanOf_ok 38 2 (79, [some (.ref 0), some (.ref l1), some (.int l2), some (.int l3), some (.int s6.1), some (.int s6.2), some (.int e12), none], [.int e12, .int s6.1], σ) rfl ?_
    by_cases c14 : e12 = 0
    · rw [if_pos c14] at h
      refine rf_t wf1 rc_X10_spanOf_ok 40 (89, [some (.ref 0), some (.ref l1), some (.int l2), some (.int l3), some (.int s6.1), some (.int s6.2), some (.int e12), none], [.int s6.1], σ) rfl rfl c14 rfl ?_
      refine rf_b wf1 rc_X10_spanOf_ok 45 1 (90, [some (.ref 0), some (.ref l1), some (.int l2), some (.int l3), some (.int s6.1), some (.int s6.2), some (.int e12), none], [.int 0, .int s6.1], σ) rfl ?_
      refine rf_fg [true, true, true, true, false, true, false, true] [some (.ref 0), some (.ref l1), some (.int l2), some (.int l3), none, some (.int s6.2), none, none] rfl ?_
      exact ok_X10_spanOf_j90 d l1 l2 l3 s6.2 0 s6.1 σ o h kl kx
    · rw [if_neg c14] at h
      refine rf_f wf1 rc_X10_spanOf_ok 40 (82, [some (.ref 0), some (.ref l1), some (.int l2), some (.int l3), some (.int s6.1), some (.int s6.2), some (.int e12), none], [.int s6.1], σ) rfl rfl c14 rfl ?_
      refine rf_b wf1 rc_X10_spanOf_ok 41 4 (90, [some (.ref 0), some (.ref l1), some (.int l2), some (.int l3), some (.int s6.1), some (.int s6.2), some (.int e12), none], [.int (1 <<< (s6.2 &&& 31)), .int s6.1], σ) rfl ?_
      refine rf_fg [true, true, true, true, false, true, false, true] [some (.ref 0), some (.ref l1), some (.int l2), some (.int l3), none, some (.int s6.2), none, none] rfl ?_
      exact ok_X10_spanOf_j90 d l1 l2 l3 s6.2 (1 <<< (s6.2 &&& 31)) s6.1 σ o h kl kx
def f_X10_spanOf (p0 : Nat) (p1 : Int32) (p2 : Int32) (σ : rf_S) : Option Int32 := (rf_lp (f_X10_spanOf_b6 p0 p1 p2 σ) 5000 (0, 0)).bind (fun e15 => some e15)
set_option maxHeartbeats 2000000 in
theorem ok_X10_spanOf (d : Nat) (p0 : Nat) (p1 : Int32) (p2 : Int32) (σ : rf_S) (q : Int32) (h : f_X10_spanOf p0 p1 p2 σ = some q) : rf_Ex ly1 (d + 5) mX10_spanOf [.ref 0, .ref p0, .int p1, .int p2] σ (some (.int q) : Option Value) σ := by
  unfold f_X10_spanOf at h
  refine rf_ex mw_X10_spanOf [some (.ref 0), some (.ref p0), some (.int p1), some (.int p2), none, none, none, none] (Nat.le_of_ble_eq_true rfl) rfl ?_
  refine rf_b wf1 rc_X10_spanOf_ok 0 4 (6, [some (.ref 0), some (.ref p0), some (.int p1), some (.int p2), some (.int 0), some (.int 0), none, none], [], σ) rfl ?_
  obtain ⟨e15, h16, h⟩ := Option.bind_eq_some_iff.mp h
  refine rf_lpG (b := f_X10_spanOf_b6 p0 p1 p2 σ) (G := fun (s6 : Int32 × Int32) => rf_G ly1 (d + 4) mX10_spanOf (6, [some (.ref 0), some (.ref p0), some (.int p1), some (.int p2), some (.int s6.1), some (.int s6.2), none, none], [], σ) (some (.int q) : Option Value) σ) (K := fun (e : (Int32)) => rf_G ly1 (d + 4) mX10_spanOf (99, [none, none, none, none, some (.int e), none, none, none], [], σ) (some (.int q) : Option Value) σ) (fun (s6 : Int32 × Int32) (o : (Int32 × Int32) ⊕ (Int32)) hb kl kx => ok_X10_spanOf_b6 d p0 p1 p2 σ s6 o hb kl kx) 5000 (0, 0) e15 h16 ?_
  show rf_G _ _ _ (99, [none, none, none, none, some (.int e15), none, none, none], [], σ) _ _
  refine rf_b wf1 rc_X10_spanOf_ok 50 1 (101, [none, none, none, none, some (.int e15), none, none, none], [.int e15], σ) rfl ?_
  obtain rfl := Option.some.inj h
  exact rf_ri rc_X10_spanOf_ok 51 rfl rfl
def rc_X10_span : List rf_E := [(0, .aload_n 0, 1, 0), (1, .iload_n 1, 1, 1), (2, .invokevirtual 175, 3, 0), (5, .ifCond .ne 5, 3, 10), (8, .iconst (-1), 1, 0), (9, .ireturn, 1, 0), (10, .aload_n 0, 1, 0), (11, .aload_n 0, 1, 0), (12, .getfield 47, 3, 1022), (15, .aload_n 0, 1, 0), (16, .aload_n 0, 1, 0), (17, .getfield 47, 3, 1022), (20, .iload_n 1, 1, 1), (21, .invokevirtual 178, 3, 0), (24, .aload_n 0, 1, 0), (25, .getfield 47, 3, 1022), (28, .iload_n 1, 1, 1), (29, .iaload, 1, 0), (30, .invokevirtual 219, 3, 0), (33, .istore_n 2, 1, 2), (34, .aload_n 0, 1, 0), (35, .iload_n 2, 1, 2), (36, .invokestatic 192, 3, 0), (39, .invokevirtual 93, 3, 0), (42, .pop, 1, 0), (43, .iload_n 2, 1, 2), (44, .ireturn, 1, 0)]
theorem rc_X10_span_ok : rf_rc mX10_span rc_X10_span = true := by decide +kernel
theorem mw_X10_span : rf_mw mX10_span := ⟨rf_mt_ok _ (List.mem_of_getElem? (i := 206) rfl), fun h => absurd h (by decide), fun _ => ⟨rf_mi_ok _ (List.mem_of_getElem? (i := 184) rfl), rf_mv_ok _ (List.mem_of_getElem? (i := 184) rfl)⟩, rf_mq_8 _ (List.mem_of_getElem? (i := 6) rfl)⟩
def f_X10_span (p0 : Int32) (σ : rf_S) : Option (Int32 × rf_S) := (f_X10_isRoom p0 σ).bind (fun q1 => if q1 ≠ 0 then ((f_X10_thereIn 12 p0 σ).bind (fun q4 => if rf_ck ly1 0 12 p0 = true then ((f_X10_spanOf 12 q4 (σ.1 12 p0.toNatClampNeg) σ).bind (fun q7 => (f_X10_bits q7 σ).bind (fun q9 => (f_X10_tells q9 σ).bind (fun q11 => some (q7, q11.2))))) else none)) else (some ((-1), σ)))
set_option maxHeartbeats 2000000 in
theorem ok_X10_span (d : Nat) (p0 : Int32) (σ : rf_S) (q : (Int32 × rf_S)) (h : f_X10_span p0 σ = some q) : rf_Ex ly1 (d + 6) mX10_span [.ref 0, .int p0] σ (some (.int q.1) : Option Value) q.2 := by
  unfold f_X10_span at h
  refine rf_ex mw_X10_span [some (.ref 0), some (.int p0), none] (Nat.le_of_ble_eq_true rfl) rfl ?_
  refine rf_b wf1 rc_X10_span_ok 0 2 (2, [some (.ref 0), some (.int p0), none], [.int p0, .ref 0], σ) rfl ?_
  obtain ⟨q1, h2, h⟩ := Option.bind_eq_some_iff.mp h
  refine rf_cv1 (Mt := mX10_isRoom) wf1 rc_X10_span_ok 2 false rfl (List.mem_of_getElem? (i := 165) rfl) mw_X10_isRoom rfl 0 [.int p0] [] rfl rfl rfl (Nat.le_of_ble_eq_true rfl) (ok_X10_isRoom (d + 3) p0 σ q1 h2) ?_
  show rf_G _ _ _ (5, [some (.ref 0), some (.int p0), none], [.int q1], σ) _ _
  by_cases c3 : q1 ≠ 0
  · rw [if_pos c3] at h
    refine rf_t wf1 rc_X10_span_ok 3 (10, [some (.ref 0), some (.int p0), none], [], σ) rfl rfl c3 rfl ?_
    refine rf_b wf1 rc_X10_span_ok 6 7 (21, [some (.ref 0), some (.int p0), none], [.int p0, .ref 12, .ref 0, .ref 12, .ref 0], σ) rfl ?_
    obtain ⟨q4, h5, h⟩ := Option.bind_eq_some_iff.mp h
    refine rf_cv1 (Mt := mX10_thereIn) wf1 rc_X10_span_ok 13 false rfl (List.mem_of_getElem? (i := 166) rfl) mw_X10_thereIn rfl 0 [.ref 12, .int p0] [.ref 12, .ref 0] rfl rfl rfl (Nat.le_of_ble_eq_true rfl) (ok_X10_thereIn (d + 4) 12 p0 σ q4 h5) ?_
    show rf_G _ _ _ (24, [some (.ref 0), some (.int p0), none], [.int q4, .ref 12, .ref 0], σ) _ _
    refine rf_b wf1 rc_X10_span_ok 14 3 (29, [some (.ref 0), some (.int p0), none], [.int p0, .ref 12, .int q4, .ref 12, .ref 0], σ) rfl ?_
    obtain ⟨g6, h⟩ := rf_ifn h
    refine rf_gd wf1 rc_X10_span_ok 17 (30, [some (.ref 0), some (.int p0), none], [.int (σ.1 12 p0.toNatClampNeg), .int q4, .ref 12, .ref 0], σ) rfl rfl g6 rfl ?_
    obtain ⟨q7, h8, h⟩ := Option.bind_eq_some_iff.mp h
    refine rf_cv1 (Mt := mX10_spanOf) wf1 rc_X10_span_ok 18 false rfl (List.mem_of_getElem? (i := 178) rfl) mw_X10_spanOf rfl 0 [.ref 12, .int q4, .int (σ.1 12 p0.toNatClampNeg)] [] rfl rfl rfl (Nat.le_of_ble_eq_true rfl) (ok_X10_spanOf d 12 q4 (σ.1 12 p0.toNatClampNeg) σ q7 h8) ?_
    show rf_G _ _ _ (33, [some (.ref 0), some (.int p0), none], [.int q7], σ) _ _
    refine rf_b wf1 rc_X10_span_ok 19 3 (36, [some (.ref 0), some (.int p0), some (.int q7)], [.int q7, .ref 0], σ) rfl ?_
    obtain ⟨q9, h10, h⟩ := Option.bind_eq_some_iff.mp h
    refine rf_cs1 (Mt := mX10_bits) rc_X10_span_ok 22 false rfl (List.mem_of_getElem? (i := 170) rfl) mw_X10_bits rfl [.int q7] [.ref 0] rfl rfl (Nat.le_of_ble_eq_true rfl) (ok_X10_bits (d + 4) q7 σ q9 h10) ?_
    show rf_G _ _ _ (39, [some (.ref 0), some (.int p0), some (.int q7)], [.int q9, .ref 0], σ) _ _
    obtain ⟨q11, h12, h⟩ := Option.bind_eq_some_iff.mp h
    refine rf_cv1 (Mt := mX10_tells) wf1 rc_X10_span_ok 23 false rfl (List.mem_of_getElem? (i := 146) rfl) mw_X10_tells rfl 0 [.int q9] [] rfl rfl rfl (Nat.le_of_ble_eq_true rfl) (ok_X10_tells (d + 4) q9 σ q11 h12) ?_
    show rf_G _ _ _ (42, [some (.ref 0), some (.int p0), some (.int q7)], [.int q11.1], q11.2) _ _
    refine rf_b wf1 rc_X10_span_ok 24 2 (44, [some (.ref 0), some (.int p0), some (.int q7)], [.int q7], q11.2) rfl ?_
    obtain rfl := Option.some.inj h
    exact rf_ri rc_X10_span_ok 26 rfl rfl
  · rw [if_neg c3] at h
    refine rf_f wf1 rc_X10_span_ok 3 (8, [some (.ref 0), some (.int p0), none], [], σ) rfl rfl c3 rfl ?_
    refine rf_b wf1 rc_X10_span_ok 4 1 (9, [some (.ref 0), some (.int p0), none], [.int (-1)], σ) rfl ?_
    obtain rfl := Option.some.inj h
    exact rf_ri rc_X10_span_ok 5 rfl rfl
def rc_X10_spanBy : List rf_E := [(0, .aload_n 0, 1, 0), (1, .iload_n 1, 1, 1), (2, .invokevirtual 175, 3, 0), (5, .ifCond .eq 32, 3, 37), (8, .aload_n 0, 1, 0), (9, .iload_n 2, 1, 2), (10, .invokevirtual 222, 3, 0), (13, .ifCond .eq 24, 3, 37), (16, .aload_n 0, 1, 0), (17, .aload_n 0, 1, 0), (18, .getfield 47, 3, 1022), (21, .iload_n 2, 1, 2), (22, .aload_n 0, 1, 0), (23, .getfield 47, 3, 1022), (26, .iload_n 1, 1, 1), (27, .iaload, 1, 0), (28, .invokevirtual 219, 3, 0), (31, .invokestatic 192, 3, 0), (34, .goto 4, 3, 38), (37, .iconst (-1), 1, 0), (38, .ireturn, 1, 0)]
theorem rc_X10_spanBy_ok : rf_rc mX10_spanBy rc_X10_spanBy = true := by decide +kernel
theorem mw_X10_spanBy : rf_mw mX10_spanBy := ⟨rf_mt_ok _ (List.mem_of_getElem? (i := 207) rfl), fun h => absurd h (by decide), fun _ => ⟨rf_mi_ok _ (List.mem_of_getElem? (i := 185) rfl), rf_mv_ok _ (List.mem_of_getElem? (i := 185) rfl)⟩, rf_mq_8 _ (List.mem_of_getElem? (i := 7) rfl)⟩
def f_X10_spanBy (p0 : Int32) (p1 : Int32) (σ : rf_S) : Option Int32 := (f_X10_isRoom p0 σ).bind (fun q1 => if q1 = 0 then (some (-1)) else ((f_X10_isSet p1 σ).bind (fun q4 => if q4 = 0 then (some (-1)) else (if rf_ck ly1 0 12 p0 = true then ((f_X10_spanOf 12 p1 (σ.1 12 p0.toNatClampNeg) σ).bind (fun q8 => (f_X10_bits q8 σ).bind (fun q10 => some q10))) else none))))
set_option maxHeartbeats 2000000 in
theorem ok_X10_spanBy (d : Nat) (p0 : Int32) (p1 : Int32) (σ : rf_S) (q : Int32) (h : f_X10_spanBy p0 p1 σ = some q) : rf_Ex ly1 (d + 6) mX10_spanBy [.ref 0, .int p0, .int p1] σ (some (.int q) : Option Value) σ := by
  unfold f_X10_spanBy at h
  refine rf_ex mw_X10_spanBy [some (.ref 0), some (.int p0), some (.int p1)] (Nat.le_of_ble_eq_true rfl) rfl ?_
  refine rf_b wf1 rc_X10_spanBy_ok 0 2 (2, [some (.ref 0), some (.int p0), some (.int p1)], [.int p0, .ref 0], σ) rfl ?_
  obtain ⟨q1, h2, h⟩ := Option.bind_eq_some_iff.mp h
  refine rf_cv1 (Mt := mX10_isRoom) wf1 rc_X10_spanBy_ok 2 false rfl (List.mem_of_getElem? (i := 165) rfl) mw_X10_isRoom rfl 0 [.int p0] [] rfl rfl rfl (Nat.le_of_ble_eq_true rfl) (ok_X10_isRoom (d + 3) p0 σ q1 h2) ?_
  show rf_G _ _ _ (5, [some (.ref 0), some (.int p0), some (.int p1)], [.int q1], σ) _ _
  by_cases c3 : q1 = 0
  · rw [if_pos c3] at h
    refine rf_t wf1 rc_X10_spanBy_ok 3 (37, [some (.ref 0), some (.int p0), some (.int p1)], [], σ) rfl rfl c3 rfl ?_
    refine rf_b wf1 rc_X10_spanBy_ok 19 1 (38, [some (.ref 0), some (.int p0), some (.int p1)], [.int (-1)], σ) rfl ?_
    obtain rfl := Option.some.inj h
    exact rf_ri rc_X10_spanBy_ok 20 rfl rfl
  · rw [if_neg c3] at h
    refine rf_f wf1 rc_X10_spanBy_ok 3 (8, [some (.ref 0), some (.int p0), some (.int p1)], [], σ) rfl rfl c3 rfl ?_
    refine rf_b wf1 rc_X10_spanBy_ok 4 2 (10, [some (.ref 0), some (.int p0), some (.int p1)], [.int p1, .ref 0], σ) rfl ?_
    obtain ⟨q4, h5, h⟩ := Option.bind_eq_some_iff.mp h
    refine rf_cv1 (Mt := mX10_isSet) wf1 rc_X10_spanBy_ok 6 false rfl (List.mem_of_getElem? (i := 179) rfl) mw_X10_isSet rfl 0 [.int p1] [] rfl rfl rfl (Nat.le_of_ble_eq_true rfl) (ok_X10_isSet (d + 3) p1 σ q4 h5) ?_
    show rf_G _ _ _ (13, [some (.ref 0), some (.int p0), some (.int p1)], [.int q4], σ) _ _
    by_cases c6 : q4 = 0
    · rw [if_pos c6] at h
      refine rf_t wf1 rc_X10_spanBy_ok 7 (37, [some (.ref 0), some (.int p0), some (.int p1)], [], σ) rfl rfl c6 rfl ?_
      refine rf_b wf1 rc_X10_spanBy_ok 19 1 (38, [some (.ref 0), some (.int p0), some (.int p1)], [.int (-1)], σ) rfl ?_
      obtain rfl := Option.some.inj h
      exact rf_ri rc_X10_spanBy_ok 20 rfl rfl
    · rw [if_neg c6] at h
      refine rf_f wf1 rc_X10_spanBy_ok 7 (16, [some (.ref 0), some (.int p0), some (.int p1)], [], σ) rfl rfl c6 rfl ?_
      refine rf_b wf1 rc_X10_spanBy_ok 8 7 (27, [some (.ref 0), some (.int p0), some (.int p1)], [.int p0, .ref 12, .int p1, .ref 12, .ref 0], σ) rfl ?_
      obtain ⟨g7, h⟩ := rf_ifn h
      refine rf_gd wf1 rc_X10_spanBy_ok 15 (28, [some (.ref 0), some (.int p0), some (.int p1)], [.int (σ.1 12 p0.toNatClampNeg), .int p1, .ref 12, .ref 0], σ) rfl rfl g7 rfl ?_
      obtain ⟨q8, h9, h⟩ := Option.bind_eq_some_iff.mp h
      refine rf_cv1 (Mt := mX10_spanOf) wf1 rc_X10_spanBy_ok 16 false rfl (List.mem_of_getElem? (i := 178) rfl) mw_X10_spanOf rfl 0 [.ref 12, .int p1, .int (σ.1 12 p0.toNatClampNeg)] [] rfl rfl rfl (Nat.le_of_ble_eq_true rfl) (ok_X10_spanOf d 12 p1 (σ.1 12 p0.toNatClampNeg) σ q8 h9) ?_
      show rf_G _ _ _ (31, [some (.ref 0), some (.int p0), some (.int p1)], [.int q8], σ) _ _
      obtain ⟨q10, h11, h⟩ := Option.bind_eq_some_iff.mp h
      refine rf_cs1 (Mt := mX10_bits) rc_X10_spanBy_ok 17 false rfl (List.mem_of_getElem? (i := 170) rfl) mw_X10_bits rfl [.int q8] [] rfl rfl (Nat.le_of_ble_eq_true rfl) (ok_X10_bits (d + 4) q8 σ q10 h11) ?_
      show rf_G _ _ _ (34, [some (.ref 0), some (.int p0), some (.int p1)], [.int q10], σ) _ _
      refine rf_b wf1 rc_X10_spanBy_ok 18 1 (38, [some (.ref 0), some (.int p0), some (.int p1)], [.int q10], σ) rfl ?_
      obtain rfl := Option.some.inj h
      exact rf_ri rc_X10_spanBy_ok 20 rfl rfl
def rc_X10_knownIn : List rf_E := [(0, .iconst 0, 1, 0), (1, .istore_n 2, 1, 2), (2, .iconst 0, 1, 0), (3, .istore_n 3, 1, 3), (4, .iload_n 3, 1, 3), (5, .aload_n 0, 1, 0), (6, .getfield 82, 3, 1016), (9, .if_icmp .ge 45, 3, 54), (12, .iload_n 2, 1, 2), (13, .aload_n 0, 1, 0), (14, .aload_n 1, 1, 1), (15, .aload_n 0, 1, 0), (16, .aload_n 1, 1, 1), (17, .iload_n 3, 1, 3), (18, .invokevirtual 178, 3, 0), (21, .aload_n 1, 1, 1), (22, .iload_n 3, 1, 3), (23, .iaload, 1, 0), (24, .invokevirtual 219, 3, 0), (27, .invokestatic 192, 3, 0), (30, .aload_n 0, 1, 0), (31, .getfield 35, 3, 1018), (34, .iload_n 3, 1, 3), (35, .iaload, 1, 0), (36, .if_icmp .gt 9, 3, 45), (39, .iconst 1, 1, 0), (40, .iload_n 3, 1, 3), (41, .ishl, 1, 0), (42, .goto 4, 3, 46), (45, .iconst 0, 1, 0), (46, .ior, 1, 0), (47, .istore_n 2, 1, 2), (48, .iinc 3 1, 3, 3), (51, .goto (-47), 3, 4), (54, .iload_n 2, 1, 2), (55, .ireturn, 1, 0)]
theorem rc_X10_knownIn_ok : rf_rc mX10_knownIn rc_X10_knownIn = true := by decide +kernel
theorem mw_X10_knownIn : rf_mw mX10_knownIn := ⟨rf_mt_ok _ (List.mem_of_getElem? (i := 208) rfl), fun h => absurd h (by decide), fun _ => ⟨rf_mi_ok _ (List.mem_of_getElem? (i := 186) rfl), rf_mv_ok _ (List.mem_of_getElem? (i := 186) rfl)⟩, rf_mq_8 _ (List.mem_of_getElem? (i := 8) rfl)⟩
def f_X10_knownIn_j46 (l1 : Nat) (l3 : Int32) (t0 : Int32) (t1 : Int32) (σ : rf_S) : Option ((Int32 × Int32) ⊕ (Int32)) := some (.inl ((t1 ||| t0), (l3 + 1)))
set_option maxHeartbeats 2000000 in
theorem ok_X10_knownIn_j46 (d : Nat) (l1 : Nat) (l3 : Int32) (t0 : Int32) (t1 : Int32) (σ : rf_S) (o : ((Int32 × Int32) ⊕ (Int32))) (h : f_X10_knownIn_j46 l1 l3 t0 t1 σ = some o) {r : Option Value} {σr : rf_S} (kl : ∀ s', o = .inl s' → rf_G ly1 (d + 5) mX10_knownIn (4, [some (.ref 0), some (.ref l1), some (.int s'.1), some (.int s'.2)], [], σ) r σr) (kx : ∀ e, o = .inr e → rf_G ly1 (d + 5) mX10_knownIn (54, [none, none, some (.int e), none], [], σ) r σr) : rf_G ly1 (d + 5) mX10_knownIn (46, [some (.ref 0), some (.ref l1), none, some (.int l3)], [.int t0, .int t1], σ) r σr := by
  unfold f_X10_knownIn_j46 at h
  refine rf_b wf1 rc_X10_knownIn_ok 30 4 (4, [some (.ref 0), some (.ref l1), some (.int (t1 ||| t0)), some (.int (l3 + 1))], [], σ) rfl ?_
  exact kl ((t1 ||| t0), (l3 + 1)) (Option.some.inj h).symm
def f_X10_knownIn_b4 (l1 : Nat) (σ : rf_S) (s4 : Int32 × Int32) : Option ((Int32 × Int32) ⊕ (Int32)) := if (σ.1 0 16) ≤ s4.2 then (some (.inr s4.1)) else ((f_X10_thereIn l1 s4.2 σ).bind (fun q2 => if rf_ck ly1 0 l1 s4.2 = true then ((f_X10_spanOf l1 q2 (σ.1 l1 s4.2.toNatClampNeg) σ).bind (fun q5 => (f_X10_bits q5 σ).bind (fun q7 => if rf_ck ly1 0 8 s4.2 = true then (if (σ.1 8 s4.2.toNatClampNeg) < q7 then (f_X10_knownIn_j46 l1 s4.2 0 s4.1 σ) else (f_X10_knownIn_j46 l1 s4.2 (1 <<< (s4.2 &&& 31)) s4.1 σ)) else none))) else none))
set_option maxHeartbeats 2000000 in
theorem ok_X10_knownIn_b4 (d : Nat) (l1 : Nat) (σ : rf_S) (s4 : Int32 × Int32) (o : ((Int32 × Int32) ⊕ (Int32))) (h : f_X10_knownIn_b4 l1 σ s4 = some o) {r : Option Value} {σr : rf_S} (kl : ∀ s', o = .inl s' → rf_G ly1 (d + 5) mX10_knownIn (4, [some (.ref 0), some (.ref l1), some (.int s'.1), some (.int s'.2)], [], σ) r σr) (kx : ∀ e, o = .inr e → rf_G ly1 (d + 5) mX10_knownIn (54, [none, none, some (.int e), none], [], σ) r σr) : rf_G ly1 (d + 5) mX10_knownIn (4, [some (.ref 0), some (.ref l1), some (.int s4.1), some (.int s4.2)], [], σ) r σr := by
  unfold f_X10_knownIn_b4 at h
  refine rf_b wf1 rc_X10_knownIn_ok 4 3 (9, [some (.ref 0), some (.ref l1), some (.int s4.1), some (.int s4.2)], [.int (σ.1 0 16), .int s4.2], σ) rfl ?_
  by_cases c1 : (σ.1 0 16) ≤ s4.2
  · rw [if_pos c1] at h
    refine rf_t wf1 rc_X10_knownIn_ok 7 (54, [some (.ref 0), some (.ref l1), some (.int s4.1), some (.int s4.2)], [], σ) rfl rfl c1 rfl ?_
    refine rf_fg [false, false, true, false] [none, none, some (.int s4.1), none] rfl ?_
    exact kx s4.1 (Option.some.inj h).symm
  · rw [if_neg c1] at h
    refine rf_f wf1 rc_X10_knownIn_ok 7 (12, [some (.ref 0), some (.ref l1), some (.int s4.1), some (.int s4.2)], [], σ) rfl rfl c1 rfl ?_
    refine rf_b wf1 rc_X10_knownIn_ok 8 6 (18, [some (.ref 0), some (.ref l1), some (.int s4.1), some (.int s4.2)], [.int s4.2, .ref l1, .ref 0, .ref l1, .ref 0, .int s4.1], σ) rfl ?_
    obtain ⟨q2, h3, h⟩ := Option.bind_eq_some_iff.mp h
    refine rf_cv1 (Mt := mX10_thereIn) wf1 rc_X10_knownIn_ok 14 false rfl (List.mem_of_getElem? (i := 166) rfl) mw_X10_thereIn rfl 0 [.ref l1, .int s4.2] [.ref l1, .ref 0, .int s4.1] rfl rfl rfl (Nat.le_of_ble_eq_true rfl) (ok_X10_thereIn (d + 4) l1 s4.2 σ q2 h3) ?_
    show rf_G _ _ _ (21, [some (.ref 0), some (.ref l1), some (.int s4.1), some (.int s4.2)], [.int q2, .ref l1, .ref 0, .int s4.1], σ) _ _
    refine rf_b wf1 rc_X10_knownIn_ok 15 2 (23, [some (.ref 0), some (.ref l1), some (.int s4.1), some (.int s4.2)], [.int s4.2, .ref l1, .int q2, .ref l1, .ref 0, .int s4.1], σ) rfl ?_
    obtain ⟨g4, h⟩ := rf_ifn h
    refine rf_gd wf1 rc_X10_knownIn_ok 17 (24, [some (.ref 0), some (.ref l1), some (.int s4.1), some (.int s4.2)], [.int (σ.1 l1 s4.2.toNatClampNeg), .int q2, .ref l1, .ref 0, .int s4.1], σ) rfl rfl g4 rfl ?_
    obtain ⟨q5, h6, h⟩ := Option.bind_eq_some_iff.mp h
    refine rf_cv1 (Mt := mX10_spanOf) wf1 rc_X10_knownIn_ok 18 false rfl (List.mem_of_getElem? (i := 178) rfl) mw_X10_spanOf rfl 0 [.ref l1, .int q2, .int (σ.1 l1 s4.2.toNatClampNeg)] [.int s4.1] rfl rfl rfl (Nat.le_of_ble_eq_true rfl) (ok_X10_spanOf d l1 q2 (σ.1 l1 s4.2.toNatClampNeg) σ q5 h6) ?_
    show rf_G _ _ _ (27, [some (.ref 0), some (.ref l1), some (.int s4.1), some (.int s4.2)], [.int q5, .int s4.1], σ) _ _
    obtain ⟨q7, h8, h⟩ := Option.bind_eq_some_iff.mp h
    refine rf_cs1 (Mt := mX10_bits) rc_X10_knownIn_ok 19 false rfl (List.mem_of_getElem? (i := 170) rfl) mw_X10_bits rfl [.int q5] [.int s4.1] rfl rfl (Nat.le_of_ble_eq_true rfl) (ok_X10_bits (d + 4) q5 σ q7 h8) ?_
    show rf_G _ _ _ (30, [some (.ref 0), some (.ref l1), some (.int s4.1), some (.int s4.2)], [.int q7, .int s4.1], σ) _ _
    refine rf_b wf1 rc_X10_knownIn_ok 20 3 (35, [some (.ref 0), some (.ref l1), some (.int s4.1), some (.int s4.2)], [.int s4.2, .ref 8, .int q7, .int s4.1], σ) rfl ?_
    obtain ⟨g9, h⟩ := rf_ifn h
    refine rf_gd wf1 rc_X10_knownIn_ok 23 (36, [some (.ref 0), some (.ref l1), some (.int s4.1), some (.int s4.2)], [.int (σ.1 8 s4.2.toNatClampNeg), .int q7, .int s4.1], σ) rfl rfl g9 rfl ?_
    by_cases c10 : (σ.1 8 s4.2.toNatClampNeg) < q7
    · rw [if_pos c10] at h
      refine rf_t wf1 rc_X10_knownIn_ok 24 (45, [some (.ref 0), some (.ref l1), some (.int s4.1), some (.int s4.2)], [.int s4.1], σ) rfl rfl c10 rfl ?_
      refine rf_b wf1 rc_X10_knownIn_ok 29 1 (46, [some (.ref 0), some (.ref l1), some (.int s4.1), some (.int s4.2)], [.int 0, .int s4.1], σ) rfl ?_
      refine rf_fg [true, true, false, true] [some (.ref 0), some (.ref l1), none, some (.int s4.2)] rfl ?_
      exact ok_X10_knownIn_j46 d l1 s4.2 0 s4.1 σ o h kl kx
    · rw [if_neg c10] at h
      refine rf_f wf1 rc_X10_knownIn_ok 24 (39, [some (.ref 0), some (.ref l1), some (.int s4.1), some (.int s4.2)], [.int s4.1], σ) rfl rfl c10 rfl ?_
      refine rf_b wf1 rc_X10_knownIn_ok 25 4 (46, [some (.ref 0), some (.ref l1), some (.int s4.1), some (.int s4.2)], [.int (1 <<< (s4.2 &&& 31)), .int s4.1], σ) rfl ?_
      refine rf_fg [true, true, false, true] [some (.ref 0), some (.ref l1), none, some (.int s4.2)] rfl ?_
      exact ok_X10_knownIn_j46 d l1 s4.2 (1 <<< (s4.2 &&& 31)) s4.1 σ o h kl kx
def f_X10_knownIn (p0 : Nat) (σ : rf_S) : Option Int32 := (rf_lp (f_X10_knownIn_b4 p0 σ) 5000 (0, 0)).bind (fun e11 => some e11)
set_option maxHeartbeats 2000000 in
theorem ok_X10_knownIn (d : Nat) (p0 : Nat) (σ : rf_S) (q : Int32) (h : f_X10_knownIn p0 σ = some q) : rf_Ex ly1 (d + 6) mX10_knownIn [.ref 0, .ref p0] σ (some (.int q) : Option Value) σ := by
  unfold f_X10_knownIn at h
  refine rf_ex mw_X10_knownIn [some (.ref 0), some (.ref p0), none, none] (Nat.le_of_ble_eq_true rfl) rfl ?_
  refine rf_b wf1 rc_X10_knownIn_ok 0 4 (4, [some (.ref 0), some (.ref p0), some (.int 0), some (.int 0)], [], σ) rfl ?_
  obtain ⟨e11, h12, h⟩ := Option.bind_eq_some_iff.mp h
  refine rf_lpG (b := f_X10_knownIn_b4 p0 σ) (G := fun (s4 : Int32 × Int32) => rf_G ly1 (d + 5) mX10_knownIn (4, [some (.ref 0), some (.ref p0), some (.int s4.1), some (.int s4.2)], [], σ) (some (.int q) : Option Value) σ) (K := fun (e : (Int32)) => rf_G ly1 (d + 5) mX10_knownIn (54, [none, none, some (.int e), none], [], σ) (some (.int q) : Option Value) σ) (fun (s4 : Int32 × Int32) (o : (Int32 × Int32) ⊕ (Int32)) hb kl kx => ok_X10_knownIn_b4 d p0 σ s4 o hb kl kx) 5000 (0, 0) e11 h12 ?_
  show rf_G _ _ _ (54, [none, none, some (.int e11), none], [], σ) _ _
  refine rf_b wf1 rc_X10_knownIn_ok 34 1 (55, [none, none, some (.int e11), none], [.int e11], σ) rfl ?_
  obtain rfl := Option.some.inj h
  exact rf_ri rc_X10_knownIn_ok 35 rfl rfl
def rc_X10_known : List rf_E := [(0, .aload_n 0, 1, 0), (1, .aload_n 0, 1, 0), (2, .getfield 47, 3, 1022), (5, .invokevirtual 225, 3, 0), (8, .ireturn, 1, 0)]
theorem rc_X10_known_ok : rf_rc mX10_known rc_X10_known = true := by decide +kernel
theorem mw_X10_known : rf_mw mX10_known := ⟨rf_mt_ok _ (List.mem_of_getElem? (i := 209) rfl), fun h => absurd h (by decide), fun _ => ⟨rf_mi_ok _ (List.mem_of_getElem? (i := 187) rfl), rf_mv_ok _ (List.mem_of_getElem? (i := 187) rfl)⟩, rf_mq_8 _ (List.mem_of_getElem? (i := 9) rfl)⟩
def f_X10_known (σ : rf_S) : Option Int32 := (f_X10_knownIn 12 σ).bind (fun q1 => some q1)
set_option maxHeartbeats 2000000 in
theorem ok_X10_known (d : Nat) (σ : rf_S) (q : Int32) (h : f_X10_known σ = some q) : rf_Ex ly1 (d + 7) mX10_known [.ref 0] σ (some (.int q) : Option Value) σ := by
  unfold f_X10_known at h
  refine rf_ex mw_X10_known [some (.ref 0)] (Nat.le_of_ble_eq_true rfl) rfl ?_
  refine rf_b wf1 rc_X10_known_ok 0 3 (5, [some (.ref 0)], [.ref 12, .ref 0], σ) rfl ?_
  obtain ⟨q1, h2, h⟩ := Option.bind_eq_some_iff.mp h
  refine rf_cv1 (Mt := mX10_knownIn) wf1 rc_X10_known_ok 3 false rfl (List.mem_of_getElem? (i := 180) rfl) mw_X10_knownIn rfl 0 [.ref 12] [] rfl rfl rfl (Nat.le_of_ble_eq_true rfl) (ok_X10_knownIn d 12 σ q1 h2) ?_
  show rf_G _ _ _ (8, [some (.ref 0)], [.int q1], σ) _ _
  obtain rfl := Option.some.inj h
  exact rf_ri rc_X10_known_ok 4 rfl rfl
def rc_X10_box : List rf_E := [(0, .aload_n 0, 1, 0), (1, .iload_n 1, 1, 1), (2, .invokevirtual 175, 3, 0), (5, .ifCond .eq 13, 3, 18), (8, .iload_n 2, 1, 2), (9, .iconst 0, 1, 0), (10, .bipush 6, 2, 0), (12, .invokestatic 78, 3, 0), (15, .ifCond .ne 5, 3, 20), (18, .iconst (-1), 1, 0), (19, .ireturn, 1, 0), (20, .iconst (-1), 1, 0), (21, .istore_n 3, 1, 3), (22, .bipush 99, 2, 0), (24, .istore 4, 2, 4), (26, .iconst 0, 1, 0), (27, .istore 5, 2, 5), (29, .iload 5, 2, 5), (31, .iconst 1, 1, 0), (32, .aload_n 0, 1, 0), (33, .getfield 75, 3, 1017), (36, .ishl, 1, 0), (37, .if_icmp .ge 69, 3, 106), (40, .iload 5, 2, 5), (42, .invokestatic 192, 3, 0), (45, .iload_n 2, 1, 2), (46, .if_icmp .ne 54, 3, 100), (49, .aload_n 0, 1, 0), (50, .aload_n 0, 1, 0), (51, .getfield 47, 3, 1022), (54, .iload 5, 2, 5), (56, .aload_n 0, 1, 0), (57, .getfield 47, 3, 1022), (60, .iload_n 1, 1, 1), (61, .iaload, 1, 0), (62, .invokevirtual 219, 3, 0), (65, .invokestatic 192, 3, 0), (68, .istore 6, 2, 6), (70, .iload 6, 2, 6), (72, .iload 4, 2, 4), (74, .if_icmp .ge 8, 3, 82), (77, .iload 5, 2, 5), (79, .goto 4, 3, 83), (82, .iload_n 3, 1, 3), (83, .istore_n 3, 1, 3), (84, .iload 6, 2, 6), (86, .iload 4, 2, 4), (88, .if_icmp .ge 8, 3, 96), (91, .iload 6, 2, 6), (93, .goto 5, 3, 98), (96, .iload 4, 2, 4), (98, .istore 4, 2, 4), (100, .iinc 5 1, 3, 5), (103, .goto (-74), 3, 29), (106, .iload_n 3, 1, 3), (107, .ifCond .ge 6, 3, 113), (110, .bipush (-9), 2, 0), (112, .ireturn, 1, 0), (113, .aload_n 0, 1, 0), (114, .iload 4, 2, 4), (116, .invokevirtual 93, 3, 0), (119, .pop, 1, 0), (120, .iload_n 3, 1, 3), (121, .ireturn, 1, 0)]
theorem rc_X10_box_ok : rf_rc mX10_box rc_X10_box = true := by decide +kernel
theorem mw_X10_box : rf_mw mX10_box := ⟨rf_mt_ok _ (List.mem_of_getElem? (i := 210) rfl), fun h => absurd h (by decide), fun _ => ⟨rf_mi_ok _ (List.mem_of_getElem? (i := 188) rfl), rf_mv_ok _ (List.mem_of_getElem? (i := 188) rfl)⟩, rf_mq_8 _ (List.mem_of_getElem? (i := 10) rfl)⟩
def f_X10_box_j100 (l1 : Int32) (l2 : Int32) (l3 : Int32) (l4 : Int32) (l5 : Int32) (σ : rf_S) : Option ((Int32 × Int32 × Int32) ⊕ (Int32 × Int32)) := some (.inl (l3, l4, (l5 + 1)))
set_option maxHeartbeats 2000000 in
theorem ok_X10_box_j100 (d : Nat) (l1 : Int32) (l2 : Int32) (l3 : Int32) (l4 : Int32) (l5 : Int32) (σ : rf_S) (o : ((Int32 × Int32 × Int32) ⊕ (Int32 × Int32))) (h : f_X10_box_j100 l1 l2 l3 l4 l5 σ = some o) {r : Option Value} {σr : rf_S} (kl : ∀ s', o = .inl s' → rf_G ly1 (d + 5) mX10_box (29, [some (.ref 0), some (.int l1), some (.int l2), some (.int s'.1), some (.int s'.2.1), some (.int s'.2.2), none], [], σ) r σr) (kx : ∀ e, o = .inr e → rf_G ly1 (d + 5) mX10_box (106, [some (.ref 0), none, none, some (.int e.1), some (.int e.2), none, none], [], σ) r σr) : rf_G ly1 (d + 5) mX10_box (100, [some (.ref 0), some (.int l1), some (.int l2), some (.int l3), some (.int l4), some (.int l5), none], [], σ) r σr := by
  unfold f_X10_box_j100 at h
  refine rf_b wf1 rc_X10_box_ok 52 2 (29, [some (.ref 0), some (.int l1), some (.int l2), some (.int l3), some (.int l4), some (.int (l5 + 1)), none], [], σ) rfl ?_
  exact kl (l3, l4, (l5 + 1)) (Option.some.inj h).symm
def f_X10_box_j98 (l1 : Int32) (l2 : Int32) (l3 : Int32) (l5 : Int32) (t0 : Int32) (σ : rf_S) : Option ((Int32 × Int32 × Int32) ⊕ (Int32 × Int32)) := f_X10_box_j100 l1 l2 l3 t0 l5 σ
set_option maxHeartbeats 2000000 in
theorem ok_X10_box_j98 (d : Nat) (l1 : Int32) (l2 : Int32) (l3 : Int32) (l5 : Int32) (t0 : Int32) (σ : rf_S) (o : ((Int32 × Int32 × Int32) ⊕ (Int32 × Int32))) (h : f_X10_box_j98 l1 l2 l3 l5 t0 σ = some o) {r : Option Value} {σr : rf_S} (kl : ∀ s', o = .inl s' → rf_G ly1 (d + 5) mX10_box (29, [some (.ref 0), some (.int l1), some (.int l2), some (.int s'.1), some (.int s'.2.1), some (.int s'.2.2), none], [], σ) r σr) (kx : ∀ e, o = .inr e → rf_G ly1 (d + 5) mX10_box (106, [some (.ref 0), none, none, some (.int e.1), some (.int e.2), none, none], [], σ) r σr) : rf_G ly1 (d + 5) mX10_box (98, [some (.ref 0), some (.int l1), some (.int l2), some (.int l3), none, some (.int l5), none], [.int t0], σ) r σr := by
  unfold f_X10_box_j98 at h
  refine rf_b wf1 rc_X10_box_ok 51 1 (100, [some (.ref 0), some (.int l1), some (.int l2), some (.int l3), some (.int t0), some (.int l5), none], [], σ) rfl ?_
  exact ok_X10_box_j100 d l1 l2 l3 t0 l5 σ o h kl kx
def f_X10_box_j83 (l1 : Int32) (l2 : Int32) (l4 : Int32) (l5 : Int32) (l6 : Int32) (t0 : Int32) (σ : rf_S) : Option ((Int32 × Int32 × Int32) ⊕ (Int32 × Int32)) := if l4 ≤ l6 then (f_X10_box_j98 l1 l2 t0 l5 l4 σ) else (f_X10_box_j98 l1 l2 t0 l5 l6 σ)
set_option maxHeartbeats 2000000 in
theorem ok_X10_box_j83 (d : Nat) (l1 : Int32) (l2 : Int32) (l4 : Int32) (l5 : Int32) (l6 : Int32) (t0 : Int32) (σ : rf_S) (o : ((Int32 × Int32 × Int32) ⊕ (Int32 × Int32))) (h : f_X10_box_j83 l1 l2 l4 l5 l6 t0 σ = some o) {r : Option Value} {σr : rf_S} (kl : ∀ s', o = .inl s' → rf_G ly1 (d + 5) mX10_box (29, [some (.ref 0), some (.int l1), some (.int l2), some (.int s'.1), some (.int s'.2.1), some (.int s'.2.2), none], [], σ) r σr) (kx : ∀ e, o = .inr e → rf_G ly1 (d + 5) mX10_box (106, [some (.ref 0), none, none, some (.int e.1), some (.int e.2), none, none], [], σ) r σr) : rf_G ly1 (d + 5) mX10_box (83, [some (.ref 0), some (.int l1), some (.int l2), none, some (.int l4), some (.int l5), some (.int l6)], [.int t0], σ) r σr := by
  unfold f_X10_box_j83 at h
  refine rf_b wf1 rc_X10_box_ok 44 3 (88, [some (.ref 0), some (.int l1), some (.int l2), some (.int t0), some (.int l4), some (.int l5), some (.int l6)], [.int l4, .int l6], σ) rfl ?_
  by_cases c17 : l4 ≤ l6
  · rw [if_pos c17] at h
    refine rf_t wf1 rc_X10_box_ok 47 (96, [some (.ref 0), some (.int l1), some (.int l2), some (.int t0), some (.int l4), some (.int l5), some (.int l6)], [], σ) rfl rfl c17 rfl ?_
    refine rf_b wf1 rc_X10_box_ok 50 1 (98, [some (.ref 0), some (.int l1), some (.int l2), some (.int t0), some (.int l4), some (.int l5), some (.int l6)], [.int l4], σ) rfl ?_
    refine rf_fg [true, true, true, true, false, true, false] [some (.ref 0), some (.int l1), some (.int l2), some (.int t0), none, some (.int l5), none] rfl ?_
    exact ok_X10_box_j98 d l1 l2 t0 l5 l4 σ o h kl kx
  · rw [if_neg c17] at h
    refine rf_f wf1 rc_X10_box_ok 47 (91, [some (.ref 0), some (.int l1), some (.int l2), some (.int t0), some (.int l4), some (.int l5), some (.int l6)], [], σ) rfl rfl c17 rfl ?_
    refine rf_b wf1 rc_X10_box_ok 48 2 (98, [some (.ref 0), some (.int l1), some (.int l2), some (.int t0), some (.int l4), some (.int l5), some (.int l6)], [.int l6], σ) rfl ?_
    refine rf_fg [true, true, true, true, false, true, false] [some (.ref 0), some (.int l1), some (.int l2), some (.int t0), none, some (.int l5), none] rfl ?_
    exact ok_X10_box_j98 d l1 l2 t0 l5 l6 σ o h kl kx
def f_X10_box_b29 (l1 : Int32) (l2 : Int32) (σ : rf_S) (s29 : Int32 × Int32 × Int32) : Option ((Int32 × Int32 × Int32) ⊕ (Int32 × Int32)) := if (1 <<< ((σ.1 0 17) &&& 31)) ≤ s29.2.2 then (some (.inr (s29.1, s29.2.1))) else ((f_X10_bits s29.2.2 σ).bind (fun q8 => if q8 ≠ l2 then (f_X10_box_j100 l1 l2 s29.1 s29.2.1 s29.2.2 σ) else (if rf_ck ly1 0 12 l1 = true then ((f_X10_spanOf 12 s29.2.2 (σ.1 12 l1.toNatClampNeg) σ).bind (fun q12 => (f_X10_bits q12 σ).bind (fun q14 => if s29.2.1 ≤ q14 then (f_X10_box_j83 l1 l2 s29.2.1 s29.2.2 q14 s29.1 σ) else (f_X10_box_j83 l1 l2 s29.2.1 s29.2.2 q14 s29.2.2 σ)))) else none)))
set_option maxHeartbeats 2000000 in
theorem ok_X10_box_b29 (d : Nat) (l1 : Int32) (l2 : Int32) (σ : rf_S) (s29 : Int32 × Int32 × Int32) (o : ((Int32 × Int32 × Int32) ⊕ (Int32 × Int32))) (h : f_X10_box_b29 l1 l2 σ s29 = some o) {r : Option Value} {σr : rf_S} (kl : ∀ s', o = .inl s' → rf_G ly1 (d + 5) mX10_box (29, [some (.ref 0), some (.int l1), some (.int l2), some (.int s'.1), some (.int s'.2.1), some (.int s'.2.2), none], [], σ) r σr) (kx : ∀ e, o = .inr e → rf_G ly1 (d + 5) mX10_box (106, [some (.ref 0), none, none, some (.int e.1), some (.int e.2), none, none], [], σ) r σr) : rf_G ly1 (d + 5) mX10_box (29, [some (.ref 0), some (.int l1), some (.int l2), some (.int s29.1), some (.int s29.2.1), some (.int s29.2.2), none], [], σ) r σr := by
  unfold f_X10_box_b29 at h
  refine rf_b wf1 rc_X10_box_ok 17 5 (37, [some (.ref 0), some (.int l1), some (.int l2), some (.int s29.1), some (.int s29.2.1), some (.int s29.2.2), none], [.int (1 <<< ((σ.1 0 17) &&& 31)), .int s29.2.2], σ) rfl ?_
  by_cases c7 : (1 <<< ((σ.1 0 17) &&& 31)) ≤ s29.2.2
  · rw [if_pos c7] at h
    refine rf_t wf1 rc_X10_box_ok 22 (106, [some (.ref 0), some (.int l1), some (.int l2), some (.int s29.1), some (.int s29.2.1), some (.int s29.2.2), none], [], σ) rfl rfl c7 rfl ?_
    refine rf_fg [true, false, false, true, true, false, true] [some (.ref 0), none, none, some (.int s29.1), some (.int s29.2.1), none, none] rfl ?_
    exact kx (s29.1, s29.2.1) (Option.some.inj h).symm
  · rw [if_neg c7] at h
    refine rf_f wf1 rc_X10_box_ok 22 (40, [some (.ref 0), some (.int l1), some (.int l2), some (.int s29.1), some (.int s29.2.1), some (.int s29.2.2), none], [], σ) rfl rfl c7 rfl ?_
    refine rf_b wf1 rc_X10_box_ok 23 1 (42, [some (.ref 0), some (.int l1), some (.int l2), some (.int s29.1), some (.int s29.2.1), some (.int s29.2.2), none], [.int s29.2.2], σ) rfl ?_
    obtain ⟨q8, h9, h⟩ := Option.bind_eq_some_iff.mp h
    refine rf_cs1 (Mt := mX10_bits) rc_X10_box_ok 24 false rfl (List.mem_of_getElem? (i := 170) rfl) mw_X10_bits rfl [.int s29.2.2] [] rfl rfl (Nat.le_of_ble_eq_true rfl) (ok_X10_bits (d + 4) s29.2.2 σ q8 h9) ?_
    show rf_G _ _ _ (45, [some (.ref 0), some (.int l1), some (.int l2), some (.int s29.1), some (.int s29.2.1), some (.int s29.2.2), none], [.int q8], σ) _ _
    refine rf_b wf1 rc_X10_box_ok 25 1 (46, [some (.ref 0), some (.int l1), some (.int l2), some (.int s29.1), some (.int s29.2.1), some (.int s29.2.2), none], [.int l2, .int q8], σ) rfl ?_
    by_cases c10 : q8 ≠ l2
    · rw [if_pos c10] at h
      refine rf_t wf1 rc_X10_box_ok 26 (100, [some (.ref 0), some (.int l1), some (.int l2), some (.int s29.1), some (.int s29.2.1), some (.int s29.2.2), none], [], σ) rfl rfl c10 rfl ?_
      exact ok_X10_box_j100 d l1 l2 s29.1 s29.2.1 s29.2.2 σ o h kl kx
    · rw [if_neg c10] at h
      refine rf_f wf1 rc_X10_box_ok 26 (49, [some (.ref 0), some (.int l1), some (.int l2), some (.int s29.1), some (.int s29.2.1), some (.int s29.2.2), none], [], σ) rfl rfl c10 rfl ?_
      refine rf_b wf1 rc_X10_box_ok 27 7 (61, [some (.ref 0), some (.int l1), some (.int l2), some (.int s29.1), some (.int s29.2.1), some (.int s29.2.2), none], [.int l1, .ref 12, .int s29.2.2, .ref 12, .ref 0], σ) rfl ?_
      obtain ⟨g11, h⟩ := rf_ifn h
      refine rf_gd wf1 rc_X10_box_ok 34 (62, [some (.ref 0), some (.int l1), some (.int l2), some (.int s29.1), some (.int s29.2.1), some (.int s29.2.2), none], [.int (σ.1 12 l1.toNatClampNeg), .int s29.2.2, .ref 12, .ref 0], σ) rfl rfl g11 rfl ?_
      obtain ⟨q12, h13, h⟩ := Option.bind_eq_some_iff.mp h
      refine rf_cv1 (Mt := mX10_spanOf) wf1 rc_X10_box_ok 35 false rfl (List.mem_of_getElem? (i := 178) rfl) mw_X10_spanOf rfl 0 [.ref 12, .int s29.2.2, .int (σ.1 12 l1.toNatClampNeg)] [] rfl rfl rfl (Nat.le_of_ble_eq_true rfl) (ok_X10_spanOf d 12 s29.2.2 (σ.1 12 l1.toNatClampNeg) σ q12 h13) ?_
      show rf_G _ _ _ (65, [some (.ref 0), some (.int l1), some (.int l2), some (.int s29.1), some (.int s29.2.1), some (.int s29.2.2), none], [.int q12], σ) _ _
      obtain ⟨q14, h15, h⟩ := Option.bind_eq_some_iff.mp h
      refine rf_cs1 (Mt := mX10_bits) rc_X10_box_ok 36 false rfl (List.mem_of_getElem? (i := 170) rfl) mw_X10_bits rfl [.int q12] [] rfl rfl (Nat.le_of_ble_eq_true rfl) (ok_X10_bits (d + 4) q12 σ q14 h15) ?_
      show rf_G _ _ _ (68, [some (.ref 0), some (.int l1), some (.int l2), some (.int s29.1), some (.int s29.2.1), some (.int s29.2.2), none], [.int q14], σ) _ _
      refine rf_b wf1 rc_X10_box_ok 37 3 (74, [some (.ref 0), some (.int l1), some (.int l2), some (.int s29.1), some (.int s29.2.1), some (.int s29.2.2), some (.int q14)], [.int s29.2.1, .int q14], σ) rfl ?_
      by_cases c16 : s29.2.1 ≤ q14
      · rw [if_pos c16] at h
        refine rf_t wf1 rc_X10_box_ok 40 (82, [some (.ref 0), some (.int l1), some (.int l2), some (.int s29.1), some (.int s29.2.1), some (.int s29.2.2), some (.int q14)], [], σ) rfl rfl c16 rfl ?_
        refine rf_b wf1 rc_X10_box_ok 43 1 (83, [some (.ref 0), some (.int l1), some (.int l2), some (.int s29.1), some (.int s29.2.1), some (.int s29.2.2), some (.int q14)], [.int s29.1], σ) rfl ?_
        refine rf_fg [true, true, true, false, true, true, true] [some (.ref 0), some (.int l1), some (.int l2), none, some (.int s29.2.1), some (.int s29.2.2), some (.int q14)] rfl ?_
        exact ok_X10_box_j83 d l1 l2 s29.2.1 s29.2.2 q14 s29.1 σ o h kl kx
      · rw [if_neg c16] at h
        refine rf_f wf1 rc_X10_box_ok 40 (77, [some (.ref 0), some (.int l1), some (.int l2), some (.int s29.1), some (.int s29.2.1), some (.int s29.2.2), some (.int q14)], [], σ) rfl rfl c16 rfl ?_
        refine rf_b wf1 rc_X10_box_ok 41 2 (83, [some (.ref 0), some (.int l1), some (.int l2), some (.int s29.1), some (.int s29.2.1), some (.int s29.2.2), some (.int q14)], [.int s29.2.2], σ) rfl ?_
        refine rf_fg [true, true, true, false, true, true, true] [some (.ref 0), some (.int l1), some (.int l2), none, some (.int s29.2.1), some (.int s29.2.2), some (.int q14)] rfl ?_
        exact ok_X10_box_j83 d l1 l2 s29.2.1 s29.2.2 q14 s29.2.2 σ o h kl kx
def f_X10_box (p0 : Int32) (p1 : Int32) (σ : rf_S) : Option (Int32 × rf_S) := (f_X10_isRoom p0 σ).bind (fun q1 => if q1 = 0 then (some ((-1), σ)) else ((f_X10_in p1 0 6 σ).bind (fun q4 => if q4 ≠ 0 then ((rf_lp (f_X10_box_b29 p0 p1 σ) 5000 ((-1), 99, 0)).bind (fun e18 => if 0 ≤ e18.1 then ((f_X10_tells e18.2 σ).bind (fun q21 => some (e18.1, q21.2))) else (some ((-9), σ)))) else (some ((-1), σ)))))
set_option maxHeartbeats 2000000 in
theorem ok_X10_box (d : Nat) (p0 : Int32) (p1 : Int32) (σ : rf_S) (q : (Int32 × rf_S)) (h : f_X10_box p0 p1 σ = some q) : rf_Ex ly1 (d + 6) mX10_box [.ref 0, .int p0, .int p1] σ (some (.int q.1) : Option Value) q.2 := by
  unfold f_X10_box at h
  refine rf_ex mw_X10_box [some (.ref 0), some (.int p0), some (.int p1), none, none, none, none] (Nat.le_of_ble_eq_true rfl) rfl ?_
  refine rf_b wf1 rc_X10_box_ok 0 2 (2, [some (.ref 0), some (.int p0), some (.int p1), none, none, none, none], [.int p0, .ref 0], σ) rfl ?_
  obtain ⟨q1, h2, h⟩ := Option.bind_eq_some_iff.mp h
  refine rf_cv1 (Mt := mX10_isRoom) wf1 rc_X10_box_ok 2 false rfl (List.mem_of_getElem? (i := 165) rfl) mw_X10_isRoom rfl 0 [.int p0] [] rfl rfl rfl (Nat.le_of_ble_eq_true rfl) (ok_X10_isRoom (d + 3) p0 σ q1 h2) ?_
  show rf_G _ _ _ (5, [some (.ref 0), some (.int p0), some (.int p1), none, none, none, none], [.int q1], σ) _ _
  by_cases c3 : q1 = 0
  · rw [if_pos c3] at h
    refine rf_t wf1 rc_X10_box_ok 3 (18, [some (.ref 0), some (.int p0), some (.int p1), none, none, none, none], [], σ) rfl rfl c3 rfl ?_
    refine rf_b wf1 rc_X10_box_ok 9 1 (19, [some (.ref 0), some (.int p0), some (.int p1), none, none, none, none], [.int (-1)], σ) rfl ?_
    obtain rfl := Option.some.inj h
    exact rf_ri rc_X10_box_ok 10 rfl rfl
  · rw [if_neg c3] at h
    refine rf_f wf1 rc_X10_box_ok 3 (8, [some (.ref 0), some (.int p0), some (.int p1), none, none, none, none], [], σ) rfl rfl c3 rfl ?_
    refine rf_b wf1 rc_X10_box_ok 4 3 (12, [some (.ref 0), some (.int p0), some (.int p1), none, none, none, none], [.int 6, .int 0, .int p1], σ) rfl ?_
    obtain ⟨q4, h5, h⟩ := Option.bind_eq_some_iff.mp h
    refine rf_cs1 (Mt := mX10_in) rc_X10_box_ok 7 false rfl (List.mem_of_getElem? (i := 143) rfl) mw_X10_in rfl [.int p1, .int 0, .int 6] [] rfl rfl (Nat.le_of_ble_eq_true rfl) (ok_X10_in (d + 4) p1 0 6 σ q4 h5) ?_
    show rf_G _ _ _ (15, [some (.ref 0), some (.int p0), some (.int p1), none, none, none, none], [.int q4], σ) _ _
    by_cases c6 : q4 ≠ 0
    · rw [if_pos c6] at h
      refine rf_t wf1 rc_X10_box_ok 8 (20, [some (.ref 0), some (.int p0), some (.int p1), none, none, none, none], [], σ) rfl rfl c6 rfl ?_
      refine rf_b wf1 rc_X10_box_ok 11 6 (29, [some (.ref 0), some (.int p0), some (.int p1), some (.int (-1)), some (.int 99), some (.int 0), none], [], σ) rfl ?_
      obtain ⟨e18, h19, h⟩ := Option.bind_eq_some_iff.mp h
      refine rf_lpG (b := f_X10_box_b29 p0 p1 σ) (G := fun (s29 : Int32 × Int32 × Int32) => rf_G ly1 (d + 5) mX10_box (29, [some (.ref 0), some (.int p0), some (.int p1), some (.int s29.1), some (.int s29.2.1), some (.int s29.2.2), none], [], σ) (some (.int q.1) : Option Value) q.2) (K := fun (e : (Int32 × Int32)) => rf_G ly1 (d + 5) mX10_box (106, [some (.ref 0), none, none, some (.int e.1), some (.int e.2), none, none], [], σ) (some (.int q.1) : Option Value) q.2) (fun (s29 : Int32 × Int32 × Int32) (o : (Int32 × Int32 × Int32) ⊕ (Int32 × Int32)) hb kl kx => ok_X10_box_b29 d p0 p1 σ s29 o hb kl kx) 5000 ((-1), 99, 0) e18 h19 ?_
      show rf_G _ _ _ (106, [some (.ref 0), none, none, some (.int e18.1), some (.int e18.2), none, none], [], σ) _ _
      refine rf_b wf1 rc_X10_box_ok 54 1 (107, [some (.ref 0), none, none, some (.int e18.1), some (.int e18.2), none, none], [.int e18.1], σ) rfl ?_
      by_cases c20 : 0 ≤ e18.1
      · rw [if_pos c20] at h
        refine rf_t wf1 rc_X10_box_ok 55 (113, [some (.ref 0), none, none, some (.int e18.1), some (.int e18.2), none, none], [], σ) rfl rfl c20 rfl ?_
        refine rf_b wf1 rc_X10_box_ok 58 2 (116, [some (.ref 0), none, none, some (.int e18.1), some (.int e18.2), none, none], [.int e18.2, .ref 0], σ) rfl ?_
        obtain ⟨q21, h22, h⟩ := Option.bind_eq_some_iff.mp h
        refine rf_cv1 (Mt := mX10_tells) wf1 rc_X10_box_ok 60 false rfl (List.mem_of_getElem? (i := 146) rfl) mw_X10_tells rfl 0 [.int e18.2] [] rfl rfl rfl (Nat.le_of_ble_eq_true rfl) (ok_X10_tells (d + 4) e18.2 σ q21 h22) ?_
        show rf_G _ _ _ (119, [some (.ref 0), none, none, some (.int e18.1), some (.int e18.2), none, none], [.int q21.1], q21.2) _ _
        refine rf_b wf1 rc_X10_box_ok 61 2 (121, [some (.ref 0), none, none, some (.int e18.1), some (.int e18.2), none, none], [.int e18.1], q21.2) rfl ?_
        obtain rfl := Option.some.inj h
        exact rf_ri rc_X10_box_ok 63 rfl rfl
      · rw [if_neg c20] at h
        refine rf_f wf1 rc_X10_box_ok 55 (110, [some (.ref 0), none, none, some (.int e18.1), some (.int e18.2), none, none], [], σ) rfl rfl c20 rfl ?_
        refine rf_b wf1 rc_X10_box_ok 56 1 (112, [some (.ref 0), none, none, some (.int e18.1), some (.int e18.2), none, none], [.int (-9)], σ) rfl ?_
        obtain rfl := Option.some.inj h
        exact rf_ri rc_X10_box_ok 57 rfl rfl
    · rw [if_neg c6] at h
      refine rf_f wf1 rc_X10_box_ok 8 (18, [some (.ref 0), some (.int p0), some (.int p1), none, none, none, none], [], σ) rfl rfl c6 rfl ?_
      refine rf_b wf1 rc_X10_box_ok 9 1 (19, [some (.ref 0), some (.int p0), some (.int p1), none, none, none, none], [.int (-1)], σ) rfl ?_
      obtain rfl := Option.some.inj h
      exact rf_ri rc_X10_box_ok 10 rfl rfl
def rc_X10_walkBy : List rf_E := [(0, .aload_n 0, 1, 0), (1, .getfield 47, 3, 1022), (4, .iconst 0, 1, 0), (5, .aload_n 0, 1, 0), (6, .getfield 50, 3, 1023), (9, .iconst 0, 1, 0), (10, .bipush 25, 2, 0), (12, .invokestatic 195, 3, 0), (15, .aload_n 0, 1, 0), (16, .getfield 50, 3, 1023), (19, .bipush 24, 2, 0), (21, .iconst 0, 1, 0), (22, .iastore, 1, 0), (23, .iload_n 1, 1, 1), (24, .istore_n 2, 1, 2), (25, .aload_n 0, 1, 0), (26, .getfield 75, 3, 1017), (29, .iconst 1, 1, 0), (30, .isub, 1, 0), (31, .istore_n 3, 1, 3), (32, .iload_n 3, 1, 3), (33, .ifCond .lt 31, 3, 64), (36, .aload_n 0, 1, 0), (37, .aload_n 0, 1, 0), (38, .getfield 50, 3, 1023), (41, .iload_n 3, 1, 3), (42, .iload_n 2, 1, 2), (43, .aload_n 0, 1, 0), (44, .getfield 82, 3, 1016), (47, .irem, 1, 0), (48, .invokevirtual 202, 3, 0), (51, .iload_n 2, 1, 2), (52, .aload_n 0, 1, 0), (53, .getfield 82, 3, 1016), (56, .idiv, 1, 0), (57, .istore_n 2, 1, 2), (58, .iinc 3 (-1), 3, 3), (61, .goto (-29), 3, 32), (64, .return_, 1, 0)]
theorem rc_X10_walkBy_ok : rf_rc mX10_walkBy rc_X10_walkBy = true := by decide +kernel
theorem mw_X10_walkBy : rf_mw mX10_walkBy := ⟨rf_mt_ok _ (List.mem_of_getElem? (i := 211) rfl), fun h => absurd h (by decide), fun _ => ⟨rf_mi_ok _ (List.mem_of_getElem? (i := 189) rfl), rf_mv_ok _ (List.mem_of_getElem? (i := 189) rfl)⟩, rf_mq_8 _ (List.mem_of_getElem? (i := 11) rfl)⟩
def f_X10_walkBy_b32 (s32 : Int32 × Int32 × rf_S) : Option ((Int32 × Int32 × rf_S) ⊕ (rf_S)) := if s32.2.1 < 0 then (some (.inr s32.2.2)) else (if (s32.2.2.1 0 16) = 0 then none else ((f_X10_step 13 s32.2.1 (s32.1 - s32.1 / (s32.2.2.1 0 16) * (s32.2.2.1 0 16)) s32.2.2).bind (fun q6 => if (q6.1 0 16) = 0 then none else (some (.inl ((s32.1 / (q6.1 0 16)), (s32.2.1 + (-1)), q6))))))
set_option maxHeartbeats 2000000 in
theorem ok_X10_walkBy_b32 (d : Nat) (s32 : Int32 × Int32 × rf_S) (o : ((Int32 × Int32 × rf_S) ⊕ (rf_S))) (h : f_X10_walkBy_b32 s32 = some o) {r : Option Value} {σr : rf_S} (kl : ∀ s', o = .inl s' → rf_G ly1 (d + 1) mX10_walkBy (32, [some (.ref 0), none, some (.int s'.1), some (.int s'.2.1)], [], s'.2.2) r σr) (kx : ∀ e, o = .inr e → rf_G ly1 (d + 1) mX10_walkBy (64, [none, none, none, none], [], e) r σr) : rf_G ly1 (d + 1) mX10_walkBy (32, [some (.ref 0), none, some (.int s32.1), some (.int s32.2.1)], [], s32.2.2) r σr := by
  unfold f_X10_walkBy_b32 at h
  refine rf_b wf1 rc_X10_walkBy_ok 20 1 (33, [some (.ref 0), none, some (.int s32.1), some (.int s32.2.1)], [.int s32.2.1], s32.2.2) rfl ?_
  by_cases c4 : s32.2.1 < 0
  · rw [if_pos c4] at h
    refine rf_t wf1 rc_X10_walkBy_ok 21 (64, [some (.ref 0), none, some (.int s32.1), some (.int s32.2.1)], [], s32.2.2) rfl rfl c4 rfl ?_
    refine rf_fg [false, true, false, false] [none, none, none, none] rfl ?_
    exact kx s32.2.2 (Option.some.inj h).symm
  · rw [if_neg c4] at h
    refine rf_f wf1 rc_X10_walkBy_ok 21 (36, [some (.ref 0), none, some (.int s32.1), some (.int s32.2.1)], [], s32.2.2) rfl rfl c4 rfl ?_
    refine rf_b wf1 rc_X10_walkBy_ok 22 7 (47, [some (.ref 0), none, some (.int s32.1), some (.int s32.2.1)], [.int (s32.2.2.1 0 16), .int s32.1, .int s32.2.1, .ref 13, .ref 0], s32.2.2) rfl ?_
    obtain ⟨g5, h⟩ := rf_ifz h
    refine rf_nz wf1 rc_X10_walkBy_ok 29 (48, [some (.ref 0), none, some (.int s32.1), some (.int s32.2.1)], [.int (s32.1 - s32.1 / (s32.2.2.1 0 16) * (s32.2.2.1 0 16)), .int s32.2.1, .ref 13, .ref 0], s32.2.2) rfl rfl g5 rfl ?_
    obtain ⟨q6, h7, h⟩ := Option.bind_eq_some_iff.mp h
    refine rf_cv1 (Mt := mX10_step) wf1 rc_X10_walkBy_ok 30 false rfl (List.mem_of_getElem? (i := 173) rfl) mw_X10_step rfl 0 [.ref 13, .int s32.2.1, .int (s32.1 - s32.1 / (s32.2.2.1 0 16) * (s32.2.2.1 0 16))] [] rfl rfl rfl (Nat.le_of_ble_eq_true rfl) (ok_X10_step d 13 s32.2.1 (s32.1 - s32.1 / (s32.2.2.1 0 16) * (s32.2.2.1 0 16)) s32.2.2 q6 h7) ?_
    show rf_G _ _ _ (51, [some (.ref 0), none, some (.int s32.1), some (.int s32.2.1)], [], q6) _ _
    refine rf_b wf1 rc_X10_walkBy_ok 31 3 (56, [some (.ref 0), none, some (.int s32.1), some (.int s32.2.1)], [.int (q6.1 0 16), .int s32.1], q6) rfl ?_
    obtain ⟨g8, h⟩ := rf_ifz h
    refine rf_nz wf1 rc_X10_walkBy_ok 34 (57, [some (.ref 0), none, some (.int s32.1), some (.int s32.2.1)], [.int (s32.1 / (q6.1 0 16))], q6) rfl rfl g8 rfl ?_
    refine rf_b wf1 rc_X10_walkBy_ok 35 3 (32, [some (.ref 0), none, some (.int (s32.1 / (q6.1 0 16))), some (.int (s32.2.1 + (-1)))], [], q6) rfl ?_
    exact kl ((s32.1 / (q6.1 0 16)), (s32.2.1 + (-1)), q6) (Option.some.inj h).symm
def f_X10_walkBy (p0 : Int32) (σ : rf_S) : Option rf_S := (f_X10_bring 12 0 13 0 25 σ).bind (fun q1 => if rf_ck ly1 0 13 24 = true then ((rf_lp f_X10_walkBy_b32 5000 (p0, (((rf_sI q1 13 (24 : Int32).toNatClampNeg 0).1 0 17) - 1), (rf_sI q1 13 (24 : Int32).toNatClampNeg 0))).bind (fun e9 => some e9)) else none)
set_option maxHeartbeats 2000000 in
theorem ok_X10_walkBy (d : Nat) (p0 : Int32) (σ : rf_S) (q : rf_S) (h : f_X10_walkBy p0 σ = some q) : rf_Ex ly1 (d + 2) mX10_walkBy [.ref 0, .int p0] σ none q := by
  unfold f_X10_walkBy at h
  refine rf_ex mw_X10_walkBy [some (.ref 0), some (.int p0), none, none] (Nat.le_of_ble_eq_true rfl) rfl ?_
  refine rf_b wf1 rc_X10_walkBy_ok 0 7 (12, [some (.ref 0), some (.int p0), none, none], [.int 25, .int 0, .ref 13, .int 0, .ref 12], σ) rfl ?_
  obtain ⟨q1, h2, h⟩ := Option.bind_eq_some_iff.mp h
  refine rf_cs1 (Mt := mX10_bring) rc_X10_walkBy_ok 7 false rfl (List.mem_of_getElem? (i := 171) rfl) mw_X10_bring rfl [.ref 12, .int 0, .ref 13, .int 0, .int 25] [] rfl rfl (Nat.le_of_ble_eq_true rfl) (ok_X10_bring d 12 0 13 0 25 σ q1 h2) ?_
  show rf_G _ _ _ (15, [some (.ref 0), some (.int p0), none, none], [], q1) _ _
  refine rf_b wf1 rc_X10_walkBy_ok 8 4 (22, [some (.ref 0), some (.int p0), none, none], [.int 0, .int 24, .ref 13], q1) rfl ?_
  obtain ⟨g3, h⟩ := rf_ifn h
  refine rf_gd wf1 rc_X10_walkBy_ok 12 (23, [some (.ref 0), some (.int p0), none, none], [], (rf_sI q1 13 (24 : Int32).toNatClampNeg 0)) rfl rfl g3 rfl ?_
  refine rf_b wf1 rc_X10_walkBy_ok 13 7 (32, [some (.ref 0), some (.int p0), some (.int p0), some (.int (((rf_sI q1 13 (24 : Int32).toNatClampNeg 0).1 0 17) - 1))], [], (rf_sI q1 13 (24 : Int32).toNatClampNeg 0)) rfl ?_
  refine rf_fg [true, false, true, true] [some (.ref 0), none, some (.int p0), some (.int (((rf_sI q1 13 (24 : Int32).toNatClampNeg 0).1 0 17) - 1))] rfl ?_
  obtain ⟨e9, h10, h⟩ := Option.bind_eq_some_iff.mp h
  refine rf_lpG (b := f_X10_walkBy_b32) (G := fun (s32 : Int32 × Int32 × rf_S) => rf_G ly1 (d + 1) mX10_walkBy (32, [some (.ref 0), none, some (.int s32.1), some (.int s32.2.1)], [], s32.2.2) none q) (K := fun (e : (rf_S)) => rf_G ly1 (d + 1) mX10_walkBy (64, [none, none, none, none], [], e) none q) (fun (s32 : Int32 × Int32 × rf_S) (o : (Int32 × Int32 × rf_S) ⊕ (rf_S)) hb kl kx => ok_X10_walkBy_b32 d  s32 o hb kl kx) 5000 (p0, (((rf_sI q1 13 (24 : Int32).toNatClampNeg 0).1 0 17) - 1), (rf_sI q1 13 (24 : Int32).toNatClampNeg 0)) e9 h10 ?_
  show rf_G _ _ _ (64, [none, none, none, none], [], e9) _ _
  obtain rfl := Option.some.inj h
  exact rf_rv rc_X10_walkBy_ok 38 rfl rfl
def rc_X10_ways : List rf_E := [(0, .iconst 1, 1, 0), (1, .istore_n 1, 1, 1), (2, .iconst 0, 1, 0), (3, .istore_n 2, 1, 2), (4, .iload_n 2, 1, 2), (5, .aload_n 0, 1, 0), (6, .getfield 75, 3, 1017), (9, .if_icmp .ge 16, 3, 25), (12, .iload_n 1, 1, 1), (13, .aload_n 0, 1, 0), (14, .getfield 82, 3, 1016), (17, .imul, 1, 0), (18, .istore_n 1, 1, 1), (19, .iinc 2 1, 3, 2), (22, .goto (-18), 3, 4), (25, .iload_n 1, 1, 1), (26, .ireturn, 1, 0)]
theorem rc_X10_ways_ok : rf_rc mX10_ways rc_X10_ways = true := by decide +kernel
theorem mw_X10_ways : rf_mw mX10_ways := ⟨rf_mt_ok _ (List.mem_of_getElem? (i := 212) rfl), fun h => absurd h (by decide), fun _ => ⟨rf_mi_ok _ (List.mem_of_getElem? (i := 190) rfl), rf_mv_ok _ (List.mem_of_getElem? (i := 190) rfl)⟩, rf_mq_8 _ (List.mem_of_getElem? (i := 12) rfl)⟩
def f_X10_ways_b4 (σ : rf_S) (s4 : Int32 × Int32) : Option ((Int32 × Int32) ⊕ (Int32)) := if (σ.1 0 17) ≤ s4.2 then (some (.inr s4.1)) else (some (.inl ((s4.1 * (σ.1 0 16)), (s4.2 + 1))))
set_option maxHeartbeats 2000000 in
theorem ok_X10_ways_b4 (d : Nat) (σ : rf_S) (s4 : Int32 × Int32) (o : ((Int32 × Int32) ⊕ (Int32))) (h : f_X10_ways_b4 σ s4 = some o) {r : Option Value} {σr : rf_S} (kl : ∀ s', o = .inl s' → rf_G ly1 (d) mX10_ways (4, [some (.ref 0), some (.int s'.1), some (.int s'.2)], [], σ) r σr) (kx : ∀ e, o = .inr e → rf_G ly1 (d) mX10_ways (25, [none, some (.int e), none], [], σ) r σr) : rf_G ly1 (d) mX10_ways (4, [some (.ref 0), some (.int s4.1), some (.int s4.2)], [], σ) r σr := by
  unfold f_X10_ways_b4 at h
  refine rf_b wf1 rc_X10_ways_ok 4 3 (9, [some (.ref 0), some (.int s4.1), some (.int s4.2)], [.int (σ.1 0 17), .int s4.2], σ) rfl ?_
  by_cases c1 : (σ.1 0 17) ≤ s4.2
  · rw [if_pos c1] at h
    refine rf_t wf1 rc_X10_ways_ok 7 (25, [some (.ref 0), some (.int s4.1), some (.int s4.2)], [], σ) rfl rfl c1 rfl ?_
    refine rf_fg [false, true, false] [none, some (.int s4.1), none] rfl ?_
    exact kx s4.1 (Option.some.inj h).symm
  · rw [if_neg c1] at h
    refine rf_f wf1 rc_X10_ways_ok 7 (12, [some (.ref 0), some (.int s4.1), some (.int s4.2)], [], σ) rfl rfl c1 rfl ?_
    refine rf_b wf1 rc_X10_ways_ok 8 7 (4, [some (.ref 0), some (.int (s4.1 * (σ.1 0 16))), some (.int (s4.2 + 1))], [], σ) rfl ?_
    exact kl ((s4.1 * (σ.1 0 16)), (s4.2 + 1)) (Option.some.inj h).symm
def f_X10_ways (σ : rf_S) : Option Int32 := (rf_lp (f_X10_ways_b4 σ) 5000 (1, 0)).bind (fun e2 => some e2)
set_option maxHeartbeats 2000000 in
theorem ok_X10_ways (d : Nat) (σ : rf_S) (q : Int32) (h : f_X10_ways σ = some q) : rf_Ex ly1 (d + 1) mX10_ways [.ref 0] σ (some (.int q) : Option Value) σ := by
  unfold f_X10_ways at h
  refine rf_ex mw_X10_ways [some (.ref 0), none, none] (Nat.le_of_ble_eq_true rfl) rfl ?_
  refine rf_b wf1 rc_X10_ways_ok 0 4 (4, [some (.ref 0), some (.int 1), some (.int 0)], [], σ) rfl ?_
  obtain ⟨e2, h3, h⟩ := Option.bind_eq_some_iff.mp h
  refine rf_lpG (b := f_X10_ways_b4 σ) (G := fun (s4 : Int32 × Int32) => rf_G ly1 (d) mX10_ways (4, [some (.ref 0), some (.int s4.1), some (.int s4.2)], [], σ) (some (.int q) : Option Value) σ) (K := fun (e : (Int32)) => rf_G ly1 (d) mX10_ways (25, [none, some (.int e), none], [], σ) (some (.int q) : Option Value) σ) (fun (s4 : Int32 × Int32) (o : (Int32 × Int32) ⊕ (Int32)) hb kl kx => ok_X10_ways_b4 d σ s4 o hb kl kx) 5000 (1, 0) e2 h3 ?_
  show rf_G _ _ _ (25, [none, some (.int e2), none], [], σ) _ _
  refine rf_b wf1 rc_X10_ways_ok 15 1 (26, [none, some (.int e2), none], [.int e2], σ) rfl ?_
  obtain rfl := Option.some.inj h
  exact rf_ri rc_X10_ways_ok 16 rfl rfl
def rc_X10_send : List rf_E := [(0, .iload_n 1, 1, 1), (1, .iconst 0, 1, 0), (2, .iconst 5, 1, 0), (3, .invokestatic 78, 3, 0), (6, .ifCond .ne 5, 3, 11), (9, .iconst (-1), 1, 0), (10, .ireturn, 1, 0), (11, .aload_n 0, 1, 0), (12, .getfield 75, 3, 1017), (15, .ifCond .ne 6, 3, 21), (18, .bipush (-4), 2, 0), (20, .ireturn, 1, 0), (21, .iconst (-1), 1, 0), (22, .istore_n 2, 1, 2), (23, .bipush 99, 2, 0), (25, .istore_n 3, 1, 3), (26, .iconst 0, 1, 0), (27, .istore 4, 2, 4), (29, .iload 4, 2, 4), (31, .aload_n 0, 1, 0), (32, .invokevirtual 228, 3, 0), (35, .if_icmp .ge 56, 3, 91), (38, .aload_n 0, 1, 0), (39, .iload 4, 2, 4), (41, .invokevirtual 231, 3, 0), (44, .aload_n 0, 1, 0), (45, .getfield 50, 3, 1023), (48, .bipush 24, 2, 0), (50, .iaload, 1, 0), (51, .iload_n 3, 1, 3), (52, .if_icmp .ge 33, 3, 85), (55, .aload_n 0, 1, 0), (56, .aload_n 0, 1, 0), (57, .getfield 50, 3, 1023), (60, .invokevirtual 225, 3, 0), (63, .iconst 1, 1, 0), (64, .aload_n 0, 1, 0), (65, .getfield 82, 3, 1016), (68, .ishl, 1, 0), (69, .iconst 1, 1, 0), (70, .isub, 1, 0), (71, .if_icmp .ne 14, 3, 85), (74, .iload 4, 2, 4), (76, .istore_n 2, 1, 2), (77, .aload_n 0, 1, 0), (78, .getfield 50, 3, 1023), (81, .bipush 24, 2, 0), (83, .iaload, 1, 0), (84, .istore_n 3, 1, 3), (85, .iinc 4 1, 3, 4), (88, .goto (-59), 3, 29), (91, .iload_n 2, 1, 2), (92, .ifCond .ge 6, 3, 98), (95, .bipush (-9), 2, 0), (97, .ireturn, 1, 0), (98, .aload_n 0, 1, 0), (99, .iload_n 2, 1, 2), (100, .invokevirtual 231, 3, 0), (103, .aload_n 0, 1, 0), (104, .iload_n 1, 1, 1), (105, .aload_n 0, 1, 0), (106, .getfield 75, 3, 1017), (109, .invokevirtual 235, 3, 0), (112, .pop, 1, 0), (113, .aload_n 0, 1, 0), (114, .getfield 50, 3, 1023), (117, .iconst 4, 1, 0), (118, .aload_n 0, 1, 0), (119, .getfield 13, 3, 1001), (122, .bipush 40, 2, 0), (124, .iload_n 1, 1, 1), (125, .imul, 1, 0), (126, .aload_n 0, 1, 0), (127, .getfield 75, 3, 1017), (130, .invokestatic 195, 3, 0), (133, .iload_n 3, 1, 3), (134, .ireturn, 1, 0)]
theorem rc_X10_send_ok : rf_rc mX10_send rc_X10_send = true := by decide +kernel
theorem mw_X10_send : rf_mw mX10_send := ⟨rf_mt_ok _ (List.mem_of_getElem? (i := 213) rfl), fun h => absurd h (by decide), fun _ => ⟨rf_mi_ok _ (List.mem_of_getElem? (i := 191) rfl), rf_mv_ok _ (List.mem_of_getElem? (i := 191) rfl)⟩, rf_mq_8 _ (List.mem_of_getElem? (i := 13) rfl)⟩
def f_X10_send_j85 (l1 : Int32) (l2 : Int32) (l3 : Int32) (l4 : Int32) (σ : rf_S) : Option ((Int32 × Int32 × Int32 × rf_S) ⊕ (Int32 × Int32 × rf_S)) := some (.inl (l2, l3, (l4 + 1), σ))
set_option maxHeartbeats 2000000 in
theorem ok_X10_send_j85 (d : Nat) (l1 : Int32) (l2 : Int32) (l3 : Int32) (l4 : Int32) (σ : rf_S) (o : ((Int32 × Int32 × Int32 × rf_S) ⊕ (Int32 × Int32 × rf_S))) (h : f_X10_send_j85 l1 l2 l3 l4 σ = some o) {r : Option Value} {σr : rf_S} (kl : ∀ s', o = .inl s' → rf_G ly1 (d + 6) mX10_send (29, [some (.ref 0), some (.int l1), some (.int s'.1), some (.int s'.2.1), some (.int s'.2.2.1)], [], s'.2.2.2) r σr) (kx : ∀ e, o = .inr e → rf_G ly1 (d + 6) mX10_send (91, [some (.ref 0), some (.int l1), some (.int e.1), some (.int e.2.1), none], [], e.2.2) r σr) : rf_G ly1 (d + 6) mX10_send (85, [some (.ref 0), some (.int l1), some (.int l2), some (.int l3), some (.int l4)], [], σ) r σr := by
  unfold f_X10_send_j85 at h
  refine rf_b wf1 rc_X10_send_ok 49 2 (29, [some (.ref 0), some (.int l1), some (.int l2), some (.int l3), some (.int (l4 + 1))], [], σ) rfl ?_
  exact kl (l2, l3, (l4 + 1), σ) (Option.some.inj h).symm
def f_X10_send_b29 (l1 : Int32) (s29 : Int32 × Int32 × Int32 × rf_S) : Option ((Int32 × Int32 × Int32 × rf_S) ⊕ (Int32 × Int32 × rf_S)) := (f_X10_ways s29.2.2.2).bind (fun q5 => if q5 ≤ s29.2.2.1 then (some (.inr (s29.1, s29.2.1, s29.2.2.2))) else ((f_X10_walkBy s29.2.2.1 s29.2.2.2).bind (fun q8 => if rf_ck ly1 0 13 24 = true then (if s29.2.1 ≤ (q8.1 13 (24 : Int32).toNatClampNeg) then (f_X10_send_j85 l1 s29.1 s29.2.1 s29.2.2.1 q8) else ((f_X10_knownIn 13 q8).bind (fun q12 => if q12 ≠ ((1 <<< ((q8.1 0 16) &&& 31)) - 1) then (f_X10_send_j85 l1 s29.1 s29.2.1 s29.2.2.1 q8) else (if rf_ck ly1 0 13 24 = true then (f_X10_send_j85 l1 s29.2.2.1 (q8.1 13 (24 : Int32).toNatClampNeg) s29.2.2.1 q8) else none)))) else none)))
set_option maxHeartbeats 2000000 in
theorem ok_X10_send_b29 (d : Nat) (l1 : Int32) (s29 : Int32 × Int32 × Int32 × rf_S) (o : ((Int32 × Int32 × Int32 × rf_S) ⊕ (Int32 × Int32 × rf_S))) (h : f_X10_send_b29 l1 s29 = some o) {r : Option Value} {σr : rf_S} (kl : ∀ s', o = .inl s' → rf_G ly1 (d + 6) mX10_send (29, [some (.ref 0), some (.int l1), some (.int s'.1), some (.int s'.2.1), some (.int s'.2.2.1)], [], s'.2.2.2) r σr) (kx : ∀ e, o = .inr e → rf_G ly1 (d + 6) mX10_send (91, [some (.ref 0), some (.int l1), some (.int e.1), some (.int e.2.1), none], [], e.2.2) r σr) : rf_G ly1 (d + 6) mX10_send (29, [some (.ref 0), some (.int l1), some (.int s29.1), some (.int s29.2.1), some (.int s29.2.2.1)], [], s29.2.2.2) r σr := by
  unfold f_X10_send_b29 at h
  refine rf_b wf1 rc_X10_send_ok 18 2 (32, [some (.ref 0), some (.int l1), some (.int s29.1), some (.int s29.2.1), some (.int s29.2.2.1)], [.ref 0, .int s29.2.2.1], s29.2.2.2) rfl ?_
  obtain ⟨q5, h6, h⟩ := Option.bind_eq_some_iff.mp h
  refine rf_cv1 (Mt := mX10_ways) wf1 rc_X10_send_ok 20 false rfl (List.mem_of_getElem? (i := 181) rfl) mw_X10_ways rfl 0 [] [.int s29.2.2.1] rfl rfl rfl (Nat.le_of_ble_eq_true rfl) (ok_X10_ways (d + 5)  s29.2.2.2 q5 h6) ?_
  show rf_G _ _ _ (35, [some (.ref 0), some (.int l1), some (.int s29.1), some (.int s29.2.1), some (.int s29.2.2.1)], [.int q5, .int s29.2.2.1], s29.2.2.2) _ _
  by_cases c7 : q5 ≤ s29.2.2.1
  · rw [if_pos c7] at h
    refine rf_t wf1 rc_X10_send_ok 21 (91, [some (.ref 0), some (.int l1), some (.int s29.1), some (.int s29.2.1), some (.int s29.2.2.1)], [], s29.2.2.2) rfl rfl c7 rfl ?_
    refine rf_fg [true, true, true, true, false] [some (.ref 0), some (.int l1), some (.int s29.1), some (.int s29.2.1), none] rfl ?_
    exact kx (s29.1, s29.2.1, s29.2.2.2) (Option.some.inj h).symm
  · rw [if_neg c7] at h
    refine rf_f wf1 rc_X10_send_ok 21 (38, [some (.ref 0), some (.int l1), some (.int s29.1), some (.int s29.2.1), some (.int s29.2.2.1)], [], s29.2.2.2) rfl rfl c7 rfl ?_
    refine rf_b wf1 rc_X10_send_ok 22 2 (41, [some (.ref 0), some (.int l1), some (.int s29.1), some (.int s29.2.1), some (.int s29.2.2.1)], [.int s29.2.2.1, .ref 0], s29.2.2.2) rfl ?_
    obtain ⟨q8, h9, h⟩ := Option.bind_eq_some_iff.mp h
    refine rf_cv1 (Mt := mX10_walkBy) wf1 rc_X10_send_ok 24 false rfl (List.mem_of_getElem? (i := 182) rfl) mw_X10_walkBy rfl 0 [.int s29.2.2.1] [] rfl rfl rfl (Nat.le_of_ble_eq_true rfl) (ok_X10_walkBy (d + 4) s29.2.2.1 s29.2.2.2 q8 h9) ?_
    show rf_G _ _ _ (44, [some (.ref 0), some (.int l1), some (.int s29.1), some (.int s29.2.1), some (.int s29.2.2.1)], [], q8) _ _
    refine rf_b wf1 rc_X10_send_ok 25 3 (50, [some (.ref 0), some (.int l1), some (.int s29.1), some (.int s29.2.1), some (.int s29.2.2.1)], [.int 24, .ref 13], q8) rfl ?_
    obtain ⟨g10, h⟩ := rf_ifn h
    refine rf_gd wf1 rc_X10_send_ok 28 (51, [some (.ref 0), some (.int l1), some (.int s29.1), some (.int s29.2.1), some (.int s29.2.2.1)], [.int (q8.1 13 (24 : Int32).toNatClampNeg)], q8) rfl rfl g10 rfl ?_
    refine rf_b wf1 rc_X10_send_ok 29 1 (52, [some (.ref 0), some (.int l1), some (.int s29.1), some (.int s29.2.1), some (.int s29.2.2.1)], [.int s29.2.1, .int (q8.1 13 (24 : Int32).toNatClampNeg)], q8) rfl ?_
    by_cases c11 : s29.2.1 ≤ (q8.1 13 (24 : Int32).toNatClampNeg)
    · rw [if_pos c11] at h
      refine rf_t wf1 rc_X10_send_ok 30 (85, [some (.ref 0), some (.int l1), some (.int s29.1), some (.int s29.2.1), some (.int s29.2.2.1)], [], q8) rfl rfl c11 rfl ?_
      exact ok_X10_send_j85 d l1 s29.1 s29.2.1 s29.2.2.1 q8 o h kl kx
    · rw [if_neg c11] at h
      refine rf_f wf1 rc_X10_send_ok 30 (55, [some (.ref 0), some (.int l1), some (.int s29.1), some (.int s29.2.1), some (.int s29.2.2.1)], [], q8) rfl rfl c11 rfl ?_
      refine rf_b wf1 rc_X10_send_ok 31 3 (60, [some (.ref 0), some (.int l1), some (.int s29.1), some (.int s29.2.1), some (.int s29.2.2.1)], [.ref 13, .ref 0], q8) rfl ?_
      obtain ⟨q12, h13, h⟩ := Option.bind_eq_some_iff.mp h
      refine rf_cv1 (Mt := mX10_knownIn) wf1 rc_X10_send_ok 34 false rfl (List.mem_of_getElem? (i := 180) rfl) mw_X10_knownIn rfl 0 [.ref 13] [] rfl rfl rfl (Nat.le_of_ble_eq_true rfl) (ok_X10_knownIn d 13 q8 q12 h13) ?_
      show rf_G _ _ _ (63, [some (.ref 0), some (.int l1), some (.int s29.1), some (.int s29.2.1), some (.int s29.2.2.1)], [.int q12], q8) _ _
      refine rf_b wf1 rc_X10_send_ok 35 6 (71, [some (.ref 0), some (.int l1), some (.int s29.1), some (.int s29.2.1), some (.int s29.2.2.1)], [.int ((1 <<< ((q8.1 0 16) &&& 31)) - 1), .int q12], q8) rfl ?_
      by_cases c14 : q12 ≠ ((1 <<< ((q8.1 0 16) &&& 31)) - 1)
      · rw [if_pos c14] at h
        refine rf_t wf1 rc_X10_send_ok 41 (85, [some (.ref 0), some (.int l1), some (.int s29.1), some (.int s29.2.1), some (.int s29.2.2.1)], [], q8) rfl rfl c14 rfl ?_
        exact ok_X10_send_j85 d l1 s29.1 s29.2.1 s29.2.2.1 q8 o h kl kx
      · rw [if_neg c14] at h
        refine rf_f wf1 rc_X10_send_ok 41 (74, [some (.ref 0), some (.int l1), some (.int s29.1), some (.int s29.2.1), some (.int s29.2.2.1)], [], q8) rfl rfl c14 rfl ?_
        refine rf_b wf1 rc_X10_send_ok 42 5 (83, [some (.ref 0), some (.int l1), some (.int s29.2.2.1), some (.int s29.2.1), some (.int s29.2.2.1)], [.int 24, .ref 13], q8) rfl ?_
        obtain ⟨g15, h⟩ := rf_ifn h
        refine rf_gd wf1 rc_X10_send_ok 47 (84, [some (.ref 0), some (.int l1), some (.int s29.2.2.1), some (.int s29.2.1), some (.int s29.2.2.1)], [.int (q8.1 13 (24 : Int32).toNatClampNeg)], q8) rfl rfl g15 rfl ?_
        refine rf_b wf1 rc_X10_send_ok 48 1 (85, [some (.ref 0), some (.int l1), some (.int s29.2.2.1), some (.int (q8.1 13 (24 : Int32).toNatClampNeg)), some (.int s29.2.2.1)], [], q8) rfl ?_
        exact ok_X10_send_j85 d l1 s29.2.2.1 (q8.1 13 (24 : Int32).toNatClampNeg) s29.2.2.1 q8 o h kl kx
def f_X10_send (p0 : Int32) (σ : rf_S) : Option (Int32 × rf_S) := (f_X10_in p0 0 5 σ).bind (fun q1 => if q1 ≠ 0 then (if (σ.1 0 17) ≠ 0 then ((rf_lp (f_X10_send_b29 p0) 5000 ((-1), 99, 0, σ)).bind (fun e16 => if 0 ≤ e16.1 then ((f_X10_walkBy e16.1 e16.2.2).bind (fun q19 => (f_X10_row p0 (q19.1 0 17) q19).bind (fun q21 => (f_X10_bring 13 4 2 (40 * p0) (q21.2.1 0 17) q21.2).bind (fun q23 => some (e16.2.1, q23))))) else (some ((-9), e16.2.2)))) else (some ((-4), σ))) else (some ((-1), σ)))
set_option maxHeartbeats 2000000 in
theorem ok_X10_send (d : Nat) (p0 : Int32) (σ : rf_S) (q : (Int32 × rf_S)) (h : f_X10_send p0 σ = some q) : rf_Ex ly1 (d + 7) mX10_send [.ref 0, .int p0] σ (some (.int q.1) : Option Value) q.2 := by
  unfold f_X10_send at h
  refine rf_ex mw_X10_send [some (.ref 0), some (.int p0), none, none, none] (Nat.le_of_ble_eq_true rfl) rfl ?_
  refine rf_b wf1 rc_X10_send_ok 0 3 (3, [some (.ref 0), some (.int p0), none, none, none], [.int 5, .int 0, .int p0], σ) rfl ?_
  obtain ⟨q1, h2, h⟩ := Option.bind_eq_some_iff.mp h
  refine rf_cs1 (Mt := mX10_in) rc_X10_send_ok 3 false rfl (List.mem_of_getElem? (i := 143) rfl) mw_X10_in rfl [.int p0, .int 0, .int 5] [] rfl rfl (Nat.le_of_ble_eq_true rfl) (ok_X10_in (d + 5) p0 0 5 σ q1 h2) ?_
  show rf_G _ _ _ (6, [some (.ref 0), some (.int p0), none, none, none], [.int q1], σ) _ _
  by_cases c3 : q1 ≠ 0
  · rw [if_pos c3] at h
    refine rf_t wf1 rc_X10_send_ok 4 (11, [some (.ref 0), some (.int p0), none, none, none], [], σ) rfl rfl c3 rfl ?_
    refine rf_b wf1 rc_X10_send_ok 7 2 (15, [some (.ref 0), some (.int p0), none, none, none], [.int (σ.1 0 17)], σ) rfl ?_
    by_cases c4 : (σ.1 0 17) ≠ 0
    · rw [if_pos c4] at h
      refine rf_t wf1 rc_X10_send_ok 9 (21, [some (.ref 0), some (.int p0), none, none, none], [], σ) rfl rfl c4 rfl ?_
      refine rf_b wf1 rc_X10_send_ok 12 6 (29, [some (.ref 0), some (.int p0), some (.int (-1)), some (.int 99), some (.int 0)], [], σ) rfl ?_
      obtain ⟨e16, h17, h⟩ := Option.bind_eq_some_iff.mp h
      refine rf_lpG (b := f_X10_send_b29 p0) (G := fun (s29 : Int32 × Int32 × Int32 × rf_S) => rf_G ly1 (d + 6) mX10_send (29, [some (.ref 0), some (.int p0), some (.int s29.1), some (.int s29.2.1), some (.int s29.2.2.1)], [], s29.2.2.2) (some (.int q.1) : Option Value) q.2) (K := fun (e : (Int32 × Int32 × rf_S)) => rf_G ly1 (d + 6) mX10_send (91, [some (.ref 0), some (.int p0), some (.int e.1), some (.int e.2.1), none], [], e.2.2) (some (.int q.1) : Option Value) q.2) (fun (s29 : Int32 × Int32 × Int32 × rf_S) (o : (Int32 × Int32 × Int32 × rf_S) ⊕ (Int32 × Int32 × rf_S)) hb kl kx => ok_X10_send_b29 d p0 s29 o hb kl kx) 5000 ((-1), 99, 0, σ) e16 h17 ?_
      show rf_G _ _ _ (91, [some (.ref 0), some (.int p0), some (.int e16.1), some (.int e16.2.1), none], [], e16.2.2) _ _
      refine rf_b wf1 rc_X10_send_ok 51 1 (92, [some (.ref 0), some (.int p0), some (.int e16.1), some (.int e16.2.1), none], [.int e16.1], e16.2.2) rfl ?_
      by_cases c18 : 0 ≤ e16.1
      · rw [if_pos c18] at h
        refine rf_t wf1 rc_X10_send_ok 52 (98, [some (.ref 0), some (.int p0), some (.int e16.1), some (.int e16.2.1), none], [], e16.2.2) rfl rfl c18 rfl ?_
        refine rf_b wf1 rc_X10_send_ok 55 2 (100, [some (.ref 0), some (.int p0), some (.int e16.1), some (.int e16.2.1), none], [.int e16.1, .ref 0], e16.2.2) rfl ?_
        obtain ⟨q19, h20, h⟩ := Option.bind_eq_some_iff.mp h
        refine rf_cv1 (Mt := mX10_walkBy) wf1 rc_X10_send_ok 57 false rfl (List.mem_of_getElem? (i := 182) rfl) mw_X10_walkBy rfl 0 [.int e16.1] [] rfl rfl rfl (Nat.le_of_ble_eq_true rfl) (ok_X10_walkBy (d + 4) e16.1 e16.2.2 q19 h20) ?_
        show rf_G _ _ _ (103, [some (.ref 0), some (.int p0), some (.int e16.1), some (.int e16.2.1), none], [], q19) _ _
        refine rf_b wf1 rc_X10_send_ok 58 4 (109, [some (.ref 0), some (.int p0), some (.int e16.1), some (.int e16.2.1), none], [.int (q19.1 0 17), .int p0, .ref 0], q19) rfl ?_
        obtain ⟨q21, h22, h⟩ := Option.bind_eq_some_iff.mp h
        refine rf_cv1 (Mt := mX10_row) wf1 rc_X10_send_ok 62 false rfl (List.mem_of_getElem? (i := 183) rfl) mw_X10_row rfl 0 [.int p0, .int (q19.1 0 17)] [] rfl rfl rfl (Nat.le_of_ble_eq_true rfl) (ok_X10_row (d + 4) p0 (q19.1 0 17) q19 q21 h22) ?_
        show rf_G _ _ _ (112, [some (.ref 0), some (.int p0), some (.int e16.1), some (.int e16.2.1), none], [.int q21.1], q21.2) _ _
        refine rf_b wf1 rc_X10_send_ok 63 11 (130, [some (.ref 0), some (.int p0), some (.int e16.1), some (.int e16.2.1), none], [.int (q21.2.1 0 17), .int (40 * p0), .ref 2, .int 4, .ref 13], q21.2) rfl ?_
        obtain ⟨q23, h24, h⟩ := Option.bind_eq_some_iff.mp h
        refine rf_cs1 (Mt := mX10_bring) rc_X10_send_ok 74 false rfl (List.mem_of_getElem? (i := 171) rfl) mw_X10_bring rfl [.ref 13, .int 4, .ref 2, .int (40 * p0), .int (q21.2.1 0 17)] [] rfl rfl (Nat.le_of_ble_eq_true rfl) (ok_X10_bring (d + 5) 13 4 2 (40 * p0) (q21.2.1 0 17) q21.2 q23 h24) ?_
        show rf_G _ _ _ (133, [some (.ref 0), some (.int p0), some (.int e16.1), some (.int e16.2.1), none], [], q23) _ _
        refine rf_b wf1 rc_X10_send_ok 75 1 (134, [some (.ref 0), some (.int p0), some (.int e16.1), some (.int e16.2.1), none], [.int e16.2.1], q23) rfl ?_
        obtain rfl := Option.some.inj h
        exact rf_ri rc_X10_send_ok 76 rfl rfl
      · rw [if_neg c18] at h
        refine rf_f wf1 rc_X10_send_ok 52 (95, [some (.ref 0), some (.int p0), some (.int e16.1), some (.int e16.2.1), none], [], e16.2.2) rfl rfl c18 rfl ?_
        refine rf_b wf1 rc_X10_send_ok 53 1 (97, [some (.ref 0), some (.int p0), some (.int e16.1), some (.int e16.2.1), none], [.int (-9)], e16.2.2) rfl ?_
        obtain rfl := Option.some.inj h
        exact rf_ri rc_X10_send_ok 54 rfl rfl
    · rw [if_neg c4] at h
      refine rf_f wf1 rc_X10_send_ok 9 (18, [some (.ref 0), some (.int p0), none, none, none], [], σ) rfl rfl c4 rfl ?_
      refine rf_b wf1 rc_X10_send_ok 10 1 (20, [some (.ref 0), some (.int p0), none, none, none], [.int (-4)], σ) rfl ?_
      obtain rfl := Option.some.inj h
      exact rf_ri rc_X10_send_ok 11 rfl rfl
  · rw [if_neg c3] at h
    refine rf_f wf1 rc_X10_send_ok 4 (9, [some (.ref 0), some (.int p0), none, none, none], [], σ) rfl rfl c3 rfl ?_
    refine rf_b wf1 rc_X10_send_ok 5 1 (10, [some (.ref 0), some (.int p0), none, none, none], [.int (-1)], σ) rfl ?_
    obtain rfl := Option.some.inj h
    exact rf_ri rc_X10_send_ok 6 rfl rfl
def rc_X10_most : List rf_E := [(0, .iload_n 1, 1, 1), (1, .iconst 0, 1, 0), (2, .bipush 18, 2, 0), (4, .invokestatic 78, 3, 0), (7, .ifCond .ne 5, 3, 12), (10, .iconst (-1), 1, 0), (11, .ireturn, 1, 0), (12, .aload_n 0, 1, 0), (13, .getfield 75, 3, 1017), (16, .ifCond .ne 6, 3, 22), (19, .bipush (-4), 2, 0), (21, .ireturn, 1, 0), (22, .iconst (-1), 1, 0), (23, .istore_n 2, 1, 2), (24, .bipush 99, 2, 0), (26, .istore_n 3, 1, 3), (27, .iconst 0, 1, 0), (28, .istore 4, 2, 4), (30, .iload 4, 2, 4), (32, .aload_n 0, 1, 0), (33, .invokevirtual 228, 3, 0), (36, .if_icmp .ge 87, 3, 123), (39, .aload_n 0, 1, 0), (40, .iload 4, 2, 4), (42, .invokevirtual 231, 3, 0), (45, .aload_n 0, 1, 0), (46, .getfield 50, 3, 1023), (49, .bipush 24, 2, 0), (51, .iaload, 1, 0), (52, .iload_n 1, 1, 1), (53, .if_icmp .gt 64, 3, 117), (56, .aload_n 0, 1, 0), (57, .aload_n 0, 1, 0), (58, .getfield 50, 3, 1023), (61, .invokevirtual 225, 3, 0), (64, .invokestatic 192, 3, 0), (67, .istore 5, 2, 5), (69, .iload 5, 2, 5), (71, .iload_n 2, 1, 2), (72, .if_icmp .gt 20, 3, 92), (75, .iload 5, 2, 5), (77, .iload_n 2, 1, 2), (78, .if_icmp .ne 24, 3, 102), (81, .aload_n 0, 1, 0), (82, .getfield 50, 3, 1023), (85, .bipush 24, 2, 0), (87, .iaload, 1, 0), (88, .iload_n 3, 1, 3), (89, .if_icmp .ge 13, 3, 102), (92, .aload_n 0, 1, 0), (93, .getfield 50, 3, 1023), (96, .bipush 24, 2, 0), (98, .iaload, 1, 0), (99, .goto 4, 3, 103), (102, .iload_n 3, 1, 3), (103, .istore_n 3, 1, 3), (104, .iload 5, 2, 5), (106, .iload_n 2, 1, 2), (107, .if_icmp .le 8, 3, 115), (110, .iload 5, 2, 5), (112, .goto 4, 3, 116), (115, .iload_n 2, 1, 2), (116, .istore_n 2, 1, 2), (117, .iinc 4 1, 3, 4), (120, .goto (-90), 3, 30), (123, .aload_n 0, 1, 0), (124, .iload_n 3, 1, 3), (125, .invokevirtual 93, 3, 0), (128, .pop, 1, 0), (129, .iload_n 2, 1, 2), (130, .ireturn, 1, 0)]
theorem rc_X10_most_ok : rf_rc mX10_most rc_X10_most = true := by decide +kernel
theorem mw_X10_most : rf_mw mX10_most := ⟨rf_mt_ok _ (List.mem_of_getElem? (i := 214) rfl), fun h => absurd h (by decide), fun _ => ⟨rf_mi_ok _ (List.mem_of_getElem? (i := 192) rfl), rf_mv_ok _ (List.mem_of_getElem? (i := 192) rfl)⟩, rf_mq_8 _ (List.mem_of_getElem? (i := 14) rfl)⟩
def f_X10_most_j117 (l1 : Int32) (l2 : Int32) (l3 : Int32) (l4 : Int32) (σ : rf_S) : Option ((Int32 × Int32 × Int32 × rf_S) ⊕ (Int32 × Int32 × rf_S)) := some (.inl (l2, l3, (l4 + 1), σ))
set_option maxHeartbeats 2000000 in
theorem ok_X10_most_j117 (d : Nat) (l1 : Int32) (l2 : Int32) (l3 : Int32) (l4 : Int32) (σ : rf_S) (o : ((Int32 × Int32 × Int32 × rf_S) ⊕ (Int32 × Int32 × rf_S))) (h : f_X10_most_j117 l1 l2 l3 l4 σ = some o) {r : Option Value} {σr : rf_S} (kl : ∀ s', o = .inl s' → rf_G ly1 (d + 6) mX10_most (30, [some (.ref 0), some (.int l1), some (.int s'.1), some (.int s'.2.1), some (.int s'.2.2.1), none], [], s'.2.2.2) r σr) (kx : ∀ e, o = .inr e → rf_G ly1 (d + 6) mX10_most (123, [some (.ref 0), none, some (.int e.1), some (.int e.2.1), none, none], [], e.2.2) r σr) : rf_G ly1 (d + 6) mX10_most (117, [some (.ref 0), some (.int l1), some (.int l2), some (.int l3), some (.int l4), none], [], σ) r σr := by
  unfold f_X10_most_j117 at h
  refine rf_b wf1 rc_X10_most_ok 63 2 (30, [some (.ref 0), some (.int l1), some (.int l2), some (.int l3), some (.int (l4 + 1)), none], [], σ) rfl ?_
  exact kl (l2, l3, (l4 + 1), σ) (Option.some.inj h).symm
def f_X10_most_j116 (l1 : Int32) (l3 : Int32) (l4 : Int32) (t0 : Int32) (σ : rf_S) : Option ((Int32 × Int32 × Int32 × rf_S) ⊕ (Int32 × Int32 × rf_S)) := f_X10_most_j117 l1 t0 l3 l4 σ
set_option maxHeartbeats 2000000 in
theorem ok_X10_most_j116 (d : Nat) (l1 : Int32) (l3 : Int32) (l4 : Int32) (t0 : Int32) (σ : rf_S) (o : ((Int32 × Int32 × Int32 × rf_S) ⊕ (Int32 × Int32 × rf_S))) (h : f_X10_most_j116 l1 l3 l4 t0 σ = some o) {r : Option Value} {σr : rf_S} (kl : ∀ s', o = .inl s' → rf_G ly1 (d + 6) mX10_most (30, [some (.ref 0), some (.int l1), some (.int s'.1), some (.int s'.2.1), some (.int s'.2.2.1), none], [], s'.2.2.2) r σr) (kx : ∀ e, o = .inr e → rf_G ly1 (d + 6) mX10_most (123, [some (.ref 0), none, some (.int e.1), some (.int e.2.1), none, none], [], e.2.2) r σr) : rf_G ly1 (d + 6) mX10_most (116, [some (.ref 0), some (.int l1), none, some (.int l3), some (.int l4), none], [.int t0], σ) r σr := by
  unfold f_X10_most_j116 at h
  refine rf_b wf1 rc_X10_most_ok 62 1 (117, [some (.ref 0), some (.int l1), some (.int t0), some (.int l3), some (.int l4), none], [], σ) rfl ?_
  exact ok_X10_most_j117 d l1 t0 l3 l4 σ o h kl kx
def f_X10_most_j103 (l1 : Int32) (l2 : Int32) (l4 : Int32) (l5 : Int32) (t0 : Int32) (σ : rf_S) : Option ((Int32 × Int32 × Int32 × rf_S) ⊕ (Int32 × Int32 × rf_S)) := if l5 ≤ l2 then (f_X10_most_j116 l1 t0 l4 l2 σ) else (f_X10_most_j116 l1 t0 l4 l5 σ)
set_option maxHeartbeats 2000000 in
theorem ok_X10_most_j103 (d : Nat) (l1 : Int32) (l2 : Int32) (l4 : Int32) (l5 : Int32) (t0 : Int32) (σ : rf_S) (o : ((Int32 × Int32 × Int32 × rf_S) ⊕ (Int32 × Int32 × rf_S))) (h : f_X10_most_j103 l1 l2 l4 l5 t0 σ = some o) {r : Option Value} {σr : rf_S} (kl : ∀ s', o = .inl s' → rf_G ly1 (d + 6) mX10_most (30, [some (.ref 0), some (.int l1), some (.int s'.1), some (.int s'.2.1), some (.int s'.2.2.1), none], [], s'.2.2.2) r σr) (kx : ∀ e, o = .inr e → rf_G ly1 (d + 6) mX10_most (123, [some (.ref 0), none, some (.int e.1), some (.int e.2.1), none, none], [], e.2.2) r σr) : rf_G ly1 (d + 6) mX10_most (103, [some (.ref 0), some (.int l1), some (.int l2), none, some (.int l4), some (.int l5)], [.int t0], σ) r σr := by
  unfold f_X10_most_j103 at h
  refine rf_b wf1 rc_X10_most_ok 55 3 (107, [some (.ref 0), some (.int l1), some (.int l2), some (.int t0), some (.int l4), some (.int l5)], [.int l2, .int l5], σ) rfl ?_
  by_cases c18 : l5 ≤ l2
  · rw [if_pos c18] at h
    refine rf_t wf1 rc_X10_most_ok 58 (115, [some (.ref 0), some (.int l1), some (.int l2), some (.int t0), some (.int l4), some (.int l5)], [], σ) rfl rfl c18 rfl ?_
    refine rf_b wf1 rc_X10_most_ok 61 1 (116, [some (.ref 0), some (.int l1), some (.int l2), some (.int t0), some (.int l4), some (.int l5)], [.int l2], σ) rfl ?_
    refine rf_fg [true, true, false, true, true, false] [some (.ref 0), some (.int l1), none, some (.int t0), some (.int l4), none] rfl ?_
    exact ok_X10_most_j116 d l1 t0 l4 l2 σ o h kl kx
  · rw [if_neg c18] at h
    refine rf_f wf1 rc_X10_most_ok 58 (110, [some (.ref 0), some (.int l1), some (.int l2), some (.int t0), some (.int l4), some (.int l5)], [], σ) rfl rfl c18 rfl ?_
    refine rf_b wf1 rc_X10_most_ok 59 2 (116, [some (.ref 0), some (.int l1), some (.int l2), some (.int t0), some (.int l4), some (.int l5)], [.int l5], σ) rfl ?_
    refine rf_fg [true, true, false, true, true, false] [some (.ref 0), some (.int l1), none, some (.int t0), some (.int l4), none] rfl ?_
    exact ok_X10_most_j116 d l1 t0 l4 l5 σ o h kl kx
def f_X10_most_j92 (l1 : Int32) (l2 : Int32) (l4 : Int32) (l5 : Int32) (σ : rf_S) : Option ((Int32 × Int32 × Int32 × rf_S) ⊕ (Int32 × Int32 × rf_S)) := if rf_ck ly1 0 13 24 = true then (f_X10_most_j103 l1 l2 l4 l5 (σ.1 13 (24 : Int32).toNatClampNeg) σ) else none
set_option maxHeartbeats 2000000 in
theorem ok_X10_most_j92 (d : Nat) (l1 : Int32) (l2 : Int32) (l4 : Int32) (l5 : Int32) (σ : rf_S) (o : ((Int32 × Int32 × Int32 × rf_S) ⊕ (Int32 × Int32 × rf_S))) (h : f_X10_most_j92 l1 l2 l4 l5 σ = some o) {r : Option Value} {σr : rf_S} (kl : ∀ s', o = .inl s' → rf_G ly1 (d + 6) mX10_most (30, [some (.ref 0), some (.int l1), some (.int s'.1), some (.int s'.2.1), some (.int s'.2.2.1), none], [], s'.2.2.2) r σr) (kx : ∀ e, o = .inr e → rf_G ly1 (d + 6) mX10_most (123, [some (.ref 0), none, some (.int e.1), some (.int e.2.1), none, none], [], e.2.2) r σr) : rf_G ly1 (d + 6) mX10_most (92, [some (.ref 0), some (.int l1), some (.int l2), none, some (.int l4), some (.int l5)], [], σ) r σr := by
  unfold f_X10_most_j92 at h
  refine rf_b wf1 rc_X10_most_ok 49 3 (98, [some (.ref 0), some (.int l1), some (.int l2), none, some (.int l4), some (.int l5)], [.int 24, .ref 13], σ) rfl ?_
  obtain ⟨g17, h⟩ := rf_ifn h
  refine rf_gd wf1 rc_X10_most_ok 52 (99, [some (.ref 0), some (.int l1), some (.int l2), none, some (.int l4), some (.int l5)], [.int (σ.1 13 (24 : Int32).toNatClampNeg)], σ) rfl rfl g17 rfl ?_
  refine rf_b wf1 rc_X10_most_ok 53 1 (103, [some (.ref 0), some (.int l1), some (.int l2), none, some (.int l4), some (.int l5)], [.int (σ.1 13 (24 : Int32).toNatClampNeg)], σ) rfl ?_
  exact ok_X10_most_j103 d l1 l2 l4 l5 (σ.1 13 (24 : Int32).toNatClampNeg) σ o h kl kx
def f_X10_most_j102 (l1 : Int32) (l2 : Int32) (l3 : Int32) (l4 : Int32) (l5 : Int32) (σ : rf_S) : Option ((Int32 × Int32 × Int32 × rf_S) ⊕ (Int32 × Int32 × rf_S)) := f_X10_most_j103 l1 l2 l4 l5 l3 σ
set_option maxHeartbeats 2000000 in
theorem ok_X10_most_j102 (d : Nat) (l1 : Int32) (l2 : Int32) (l3 : Int32) (l4 : Int32) (l5 : Int32) (σ : rf_S) (o : ((Int32 × Int32 × Int32 × rf_S) ⊕ (Int32 × Int32 × rf_S))) (h : f_X10_most_j102 l1 l2 l3 l4 l5 σ = some o) {r : Option Value} {σr : rf_S} (kl : ∀ s', o = .inl s' → rf_G ly1 (d + 6) mX10_most (30, [some (.ref 0), some (.int l1), some (.int s'.1), some (.int s'.2.1), some (.int s'.2.2.1), none], [], s'.2.2.2) r σr) (kx : ∀ e, o = .inr e → rf_G ly1 (d + 6) mX10_most (123, [some (.ref 0), none, some (.int e.1), some (.int e.2.1), none, none], [], e.2.2) r σr) : rf_G ly1 (d + 6) mX10_most (102, [some (.ref 0), some (.int l1), some (.int l2), some (.int l3), some (.int l4), some (.int l5)], [], σ) r σr := by
  unfold f_X10_most_j102 at h
  refine rf_b wf1 rc_X10_most_ok 54 1 (103, [some (.ref 0), some (.int l1), some (.int l2), some (.int l3), some (.int l4), some (.int l5)], [.int l3], σ) rfl ?_
  refine rf_fg [true, true, true, false, true, true] [some (.ref 0), some (.int l1), some (.int l2), none, some (.int l4), some (.int l5)] rfl ?_
  exact ok_X10_most_j103 d l1 l2 l4 l5 l3 σ o h kl kx
def f_X10_most_b30 (l1 : Int32) (s30 : Int32 × Int32 × Int32 × rf_S) : Option ((Int32 × Int32 × Int32 × rf_S) ⊕ (Int32 × Int32 × rf_S)) := (f_X10_ways s30.2.2.2).bind (fun q5 => if q5 ≤ s30.2.2.1 then (some (.inr (s30.1, s30.2.1, s30.2.2.2))) else ((f_X10_walkBy s30.2.2.1 s30.2.2.2).bind (fun q8 => if rf_ck ly1 0 13 24 = true then (if l1 < (q8.1 13 (24 : Int32).toNatClampNeg) then (f_X10_most_j117 l1 s30.1 s30.2.1 s30.2.2.1 q8) else ((f_X10_knownIn 13 q8).bind (fun q12 => (f_X10_bits q12 q8).bind (fun q14 => if s30.1 < q14 then (f_X10_most_j92 l1 s30.1 s30.2.2.1 q14 q8) else (if q14 ≠ s30.1 then (f_X10_most_j102 l1 s30.1 s30.2.1 s30.2.2.1 q14 q8) else (if rf_ck ly1 0 13 24 = true then (if s30.2.1 ≤ (q8.1 13 (24 : Int32).toNatClampNeg) then (f_X10_most_j102 l1 s30.1 s30.2.1 s30.2.2.1 q14 q8) else (f_X10_most_j92 l1 s30.1 s30.2.2.1 q14 q8)) else none)))))) else none)))
set_option maxHeartbeats 2000000 in
theorem ok_X10_most_b30 (d : Nat) (l1 : Int32) (s30 : Int32 × Int32 × Int32 × rf_S) (o : ((Int32 × Int32 × Int32 × rf_S) ⊕ (Int32 × Int32 × rf_S))) (h : f_X10_most_b30 l1 s30 = some o) {r : Option Value} {σr : rf_S} (kl : ∀ s', o = .inl s' → rf_G ly1 (d + 6) mX10_most (30, [some (.ref 0), some (.int l1), some (.int s'.1), some (.int s'.2.1), some (.int s'.2.2.1), none], [], s'.2.2.2) r σr) (kx : ∀ e, o = .inr e → rf_G ly1 (d + 6) mX10_most (123, [some (.ref 0), none, some (.int e.1), some (.int e.2.1), none, none], [], e.2.2) r σr) : rf_G ly1 (d + 6) mX10_most (30, [some (.ref 0), some (.int l1), some (.int s30.1), some (.int s30.2.1), some (.int s30.2.2.1), none], [], s30.2.2.2) r σr := by
  unfold f_X10_most_b30 at h
  refine rf_b wf1 rc_X10_most_ok 18 2 (33, [some (.ref 0), some (.int l1), some (.int s30.1), some (.int s30.2.1), some (.int s30.2.2.1), none], [.ref 0, .int s30.2.2.1], s30.2.2.2) rfl ?_
  obtain ⟨q5, h6, h⟩ := Option.bind_eq_some_iff.mp h
  refine rf_cv1 (Mt := mX10_ways) wf1 rc_X10_most_ok 20 false rfl (List.mem_of_getElem? (i := 181) rfl) mw_X10_ways rfl 0 [] [.int s30.2.2.1] rfl rfl rfl (Nat.le_of_ble_eq_true rfl) (ok_X10_ways (d + 5)  s30.2.2.2 q5 h6) ?_
  show rf_G _ _ _ (36, [some (.ref 0), some (.int l1), some (.int s30.1), some (.int s30.2.1), some (.int s30.2.2.1), none], [.int q5, .int s30.2.2.1], s30.2.2.2) _ _
  by_cases c7 : q5 ≤ s30.2.2.1
  · rw [if_pos c7] at h
    refine rf_t wf1 rc_X10_most_ok 21 (123, [some (.ref 0), some (.int l1), some (.int s30.1), some (.int s30.2.1), some (.int s30.2.2.1), none], [], s30.2.2.2) rfl rfl c7 rfl ?_
    refine rf_fg [true, false, true, true, false, true] [some (.ref 0), none, some (.int s30.1), some (.int s30.2.1), none, none] rfl ?_
    exact kx (s30.1, s30.2.1, s30.2.2.2) (Option.some.inj h).symm
  · rw [if_neg c7] at h
    refine rf_f wf1 rc_X10_most_ok 21 (39, [some (.ref 0), some (.int l1), some (.int s30.1), some (.int s30.2.1), some (.int s30.2.2.1), none], [], s30.2.2.2) rfl rfl c7 rfl ?_
    refine rf_b wf1 rc_X10_most_ok 22 2 (42, [some (.ref 0), some (.int l1), some (.int s30.1), some (.int s30.2.1), some (.int s30.2.2.1), none], [.int s30.2.2.1, .ref 0], s30.2.2.2) rfl ?_
    obtain ⟨q8, h9, h⟩ := Option.bind_eq_some_iff.mp h
    refine rf_cv1 (Mt := mX10_walkBy) wf1 rc_X10_most_ok 24 false rfl (List.mem_of_getElem? (i := 182) rfl) mw_X10_walkBy rfl 0 [.int s30.2.2.1] [] rfl rfl rfl (Nat.le_of_ble_eq_true rfl) (ok_X10_walkBy (d + 4) s30.2.2.1 s30.2.2.2 q8 h9) ?_
    show rf_G _ _ _ (45, [some (.ref 0), some (.int l1), some (.int s30.1), some (.int s30.2.1), some (.int s30.2.2.1), none], [], q8) _ _
    refine rf_b wf1 rc_X10_most_ok 25 3 (51, [some (.ref 0), some (.int l1), some (.int s30.1), some (.int s30.2.1), some (.int s30.2.2.1), none], [.int 24, .ref 13], q8) rfl ?_
    obtain ⟨g10, h⟩ := rf_ifn h
    refine rf_gd wf1 rc_X10_most_ok 28 (52, [some (.ref 0), some (.int l1), some (.int s30.1), some (.int s30.2.1), some (.int s30.2.2.1), none], [.int (q8.1 13 (24 : Int32).toNatClampNeg)], q8) rfl rfl g10 rfl ?_
    refine rf_b wf1 rc_X10_most_ok 29 1 (53, [some (.ref 0), some (.int l1), some (.int s30.1), some (.int s30.2.1), some (.int s30.2.2.1), none], [.int l1, .int (q8.1 13 (24 : Int32).toNatClampNeg)], q8) rfl ?_
    by_cases c11 : l1 < (q8.1 13 (24 : Int32).toNatClampNeg)
    · rw [if_pos c11] at h
      refine rf_t wf1 rc_X10_most_ok 30 (117, [some (.ref 0), some (.int l1), some (.int s30.1), some (.int s30.2.1), some (.int s30.2.2.1), none], [], q8) rfl rfl c11 rfl ?_
      exact ok_X10_most_j117 d l1 s30.1 s30.2.1 s30.2.2.1 q8 o h kl kx
    · rw [if_neg c11] at h
      refine rf_f wf1 rc_X10_most_ok 30 (56, [some (.ref 0), some (.int l1), some (.int s30.1), some (.int s30.2.1), some (.int s30.2.2.1), none], [], q8) rfl rfl c11 rfl ?_
      refine rf_b wf1 rc_X10_most_ok 31 3 (61, [some (.ref 0), some (.int l1), some (.int s30.1), some (.int s30.2.1), some (.int s30.2.2.1), none], [.ref 13, .ref 0], q8) rfl ?_
      obtain ⟨q12, h13, h⟩ := Option.bind_eq_some_iff.mp h
      refine rf_cv1 (Mt := mX10_knownIn) wf1 rc_X10_most_ok 34 false rfl (List.mem_of_getElem? (i := 180) rfl) mw_X10_knownIn rfl 0 [.ref 13] [] rfl rfl rfl (Nat.le_of_ble_eq_true rfl) (ok_X10_knownIn d 13 q8 q12 h13) ?_
      show rf_G _ _ _ (64, [some (.ref 0), some (.int l1), some (.int s30.1), some (.int s30.2.1), some (.int s30.2.2.1), none], [.int q12], q8) _ _
      obtain ⟨q14, h15, h⟩ := Option.bind_eq_some_iff.mp h
      refine rf_cs1 (Mt := mX10_bits) rc_X10_most_ok 35 false rfl (List.mem_of_getElem? (i := 170) rfl) mw_X10_bits rfl [.int q12] [] rfl rfl (Nat.le_of_ble_eq_true rfl) (ok_X10_bits (d + 5) q12 q8 q14 h15) ?_
      show rf_G _ _ _ (67, [some (.ref 0), some (.int l1), some (.int s30.1), some (.int s30.2.1), some (.int s30.2.2.1), none], [.int q14], q8) _ _
      refine rf_b wf1 rc_X10_most_ok 36 3 (72, [some (.ref 0), some (.int l1), some (.int s30.1), some (.int s30.2.1), some (.int s30.2.2.1), some (.int q14)], [.int s30.1, .int q14], q8) rfl ?_
      by_cases c16 : s30.1 < q14
      · rw [if_pos c16] at h
        refine rf_t wf1 rc_X10_most_ok 39 (92, [some (.ref 0), some (.int l1), some (.int s30.1), some (.int s30.2.1), some (.int s30.2.2.1), some (.int q14)], [], q8) rfl rfl c16 rfl ?_
        refine rf_fg [true, true, true, false, true, true] [some (.ref 0), some (.int l1), some (.int s30.1), none, some (.int s30.2.2.1), some (.int q14)] rfl ?_
        exact ok_X10_most_j92 d l1 s30.1 s30.2.2.1 q14 q8 o h kl kx
      · rw [if_neg c16] at h
        refine rf_f wf1 rc_X10_most_ok 39 (75, [some (.ref 0), some (.int l1), some (.int s30.1), some (.int s30.2.1), some (.int s30.2.2.1), some (.int q14)], [], q8) rfl rfl c16 rfl ?_
        refine rf_b wf1 rc_X10_most_ok 40 2 (78, [some (.ref 0), some (.int l1), some (.int s30.1), some (.int s30.2.1), some (.int s30.2.2.1), some (.int q14)], [.int s30.1, .int q14], q8) rfl ?_
        by_cases c19 : q14 ≠ s30.1
        · rw [if_pos c19] at h
          refine rf_t wf1 rc_X10_most_ok 42 (102, [some (.ref 0), some (.int l1), some (.int s30.1), some (.int s30.2.1), some (.int s30.2.2.1), some (.int q14)], [], q8) rfl rfl c19 rfl ?_
          exact ok_X10_most_j102 d l1 s30.1 s30.2.1 s30.2.2.1 q14 q8 o h kl kx
        · rw [if_neg c19] at h
          refine rf_f wf1 rc_X10_most_ok 42 (81, [some (.ref 0), some (.int l1), some (.int s30.1), some (.int s30.2.1), some (.int s30.2.2.1), some (.int q14)], [], q8) rfl rfl c19 rfl ?_
          refine rf_b wf1 rc_X10_most_ok 43 3 (87, [some (.ref 0), some (.int l1), some (.int s30.1), some (.int s30.2.1), some (.int s30.2.2.1), some (.int q14)], [.int 24, .ref 13], q8) rfl ?_
          obtain ⟨g20, h⟩ := rf_ifn h
          refine rf_gd wf1 rc_X10_most_ok 46 (88, [some (.ref 0), some (.int l1), some (.int s30.1), some (.int s30.2.1), some (.int s30.2.2.1), some (.int q14)], [.int (q8.1 13 (24 : Int32).toNatClampNeg)], q8) rfl rfl g20 rfl ?_
          refine rf_b wf1 rc_X10_most_ok 47 1 (89, [some (.ref 0), some (.int l1), some (.int s30.1), some (.int s30.2.1), some (.int s30.2.2.1), some (.int q14)], [.int s30.2.1, .int (q8.1 13 (24 : Int32).toNatClampNeg)], q8) rfl ?_
          by_cases c21 : s30.2.1 ≤ (q8.1 13 (24 : Int32).toNatClampNeg)
          · rw [if_pos c21] at h
            refine rf_t wf1 rc_X10_most_ok 48 (102, [some (.ref 0), some (.int l1), some (.int s30.1), some (.int s30.2.1), some (.int s30.2.2.1), some (.int q14)], [], q8) rfl rfl c21 rfl ?_
            exact ok_X10_most_j102 d l1 s30.1 s30.2.1 s30.2.2.1 q14 q8 o h kl kx
          · rw [if_neg c21] at h
            refine rf_f wf1 rc_X10_most_ok 48 (92, [some (.ref 0), some (.int l1), some (.int s30.1), some (.int s30.2.1), some (.int s30.2.2.1), some (.int q14)], [], q8) rfl rfl c21 rfl ?_
            refine rf_fg [true, true, true, false, true, true] [some (.ref 0), some (.int l1), some (.int s30.1), none, some (.int s30.2.2.1), some (.int q14)] rfl ?_
            exact ok_X10_most_j92 d l1 s30.1 s30.2.2.1 q14 q8 o h kl kx
def f_X10_most (p0 : Int32) (σ : rf_S) : Option (Int32 × rf_S) := (f_X10_in p0 0 18 σ).bind (fun q1 => if q1 ≠ 0 then (if (σ.1 0 17) ≠ 0 then ((rf_lp (f_X10_most_b30 p0) 5000 ((-1), 99, 0, σ)).bind (fun e22 => (f_X10_tells e22.2.1 e22.2.2).bind (fun q24 => some (e22.1, q24.2)))) else (some ((-4), σ))) else (some ((-1), σ)))
set_option maxHeartbeats 2000000 in
theorem ok_X10_most (d : Nat) (p0 : Int32) (σ : rf_S) (q : (Int32 × rf_S)) (h : f_X10_most p0 σ = some q) : rf_Ex ly1 (d + 7) mX10_most [.ref 0, .int p0] σ (some (.int q.1) : Option Value) q.2 := by
  unfold f_X10_most at h
  refine rf_ex mw_X10_most [some (.ref 0), some (.int p0), none, none, none, none] (Nat.le_of_ble_eq_true rfl) rfl ?_
  refine rf_b wf1 rc_X10_most_ok 0 3 (4, [some (.ref 0), some (.int p0), none, none, none, none], [.int 18, .int 0, .int p0], σ) rfl ?_
  obtain ⟨q1, h2, h⟩ := Option.bind_eq_some_iff.mp h
  refine rf_cs1 (Mt := mX10_in) rc_X10_most_ok 3 false rfl (List.mem_of_getElem? (i := 143) rfl) mw_X10_in rfl [.int p0, .int 0, .int 18] [] rfl rfl (Nat.le_of_ble_eq_true rfl) (ok_X10_in (d + 5) p0 0 18 σ q1 h2) ?_
  show rf_G _ _ _ (7, [some (.ref 0), some (.int p0), none, none, none, none], [.int q1], σ) _ _
  by_cases c3 : q1 ≠ 0
  · rw [if_pos c3] at h
    refine rf_t wf1 rc_X10_most_ok 4 (12, [some (.ref 0), some (.int p0), none, none, none, none], [], σ) rfl rfl c3 rfl ?_
    refine rf_b wf1 rc_X10_most_ok 7 2 (16, [some (.ref 0), some (.int p0), none, none, none, none], [.int (σ.1 0 17)], σ) rfl ?_
    by_cases c4 : (σ.1 0 17) ≠ 0
    · rw [if_pos c4] at h
      refine rf_t wf1 rc_X10_most_ok 9 (22, [some (.ref 0), some (.int p0), none, none, none, none], [], σ) rfl rfl c4 rfl ?_
      refine rf_b wf1 rc_X10_most_ok 12 6 (30, [some (.ref 0), some (.int p0), some (.int (-1)), some (.int 99), some (.int 0), none], [], σ) rfl ?_
      obtain ⟨e22, h23, h⟩ := Option.bind_eq_some_iff.mp h
      refine rf_lpG (b := f_X10_most_b30 p0) (G := fun (s30 : Int32 × Int32 × Int32 × rf_S) => rf_G ly1 (d + 6) mX10_most (30, [some (.ref 0), some (.int p0), some (.int s30.1), some (.int s30.2.1), some (.int s30.2.2.1), none], [], s30.2.2.2) (some (.int q.1) : Option Value) q.2) (K := fun (e : (Int32 × Int32 × rf_S)) => rf_G ly1 (d + 6) mX10_most (123, [some (.ref 0), none, some (.int e.1), some (.int e.2.1), none, none], [], e.2.2) (some (.int q.1) : Option Value) q.2) (fun (s30 : Int32 × Int32 × Int32 × rf_S) (o : (Int32 × Int32 × Int32 × rf_S) ⊕ (Int32 × Int32 × rf_S)) hb kl kx => ok_X10_most_b30 d p0 s30 o hb kl kx) 5000 ((-1), 99, 0, σ) e22 h23 ?_
      show rf_G _ _ _ (123, [some (.ref 0), none, some (.int e22.1), some (.int e22.2.1), none, none], [], e22.2.2) _ _
      refine rf_b wf1 rc_X10_most_ok 65 2 (125, [some (.ref 0), none, some (.int e22.1), some (.int e22.2.1), none, none], [.int e22.2.1, .ref 0], e22.2.2) rfl ?_
      obtain ⟨q24, h25, h⟩ := Option.bind_eq_some_iff.mp h
      refine rf_cv1 (Mt := mX10_tells) wf1 rc_X10_most_ok 67 false rfl (List.mem_of_getElem? (i := 146) rfl) mw_X10_tells rfl 0 [.int e22.2.1] [] rfl rfl rfl (Nat.le_of_ble_eq_true rfl) (ok_X10_tells (d + 5) e22.2.1 e22.2.2 q24 h25) ?_
      show rf_G _ _ _ (128, [some (.ref 0), none, some (.int e22.1), some (.int e22.2.1), none, none], [.int q24.1], q24.2) _ _
      refine rf_b wf1 rc_X10_most_ok 68 2 (130, [some (.ref 0), none, some (.int e22.1), some (.int e22.2.1), none, none], [.int e22.1], q24.2) rfl ?_
      obtain rfl := Option.some.inj h
      exact rf_ri rc_X10_most_ok 70 rfl rfl
    · rw [if_neg c4] at h
      refine rf_f wf1 rc_X10_most_ok 9 (19, [some (.ref 0), some (.int p0), none, none, none, none], [], σ) rfl rfl c4 rfl ?_
      refine rf_b wf1 rc_X10_most_ok 10 1 (21, [some (.ref 0), some (.int p0), none, none, none, none], [.int (-4)], σ) rfl ?_
      obtain rfl := Option.some.inj h
      exact rf_ri rc_X10_most_ok 11 rfl rfl
  · rw [if_neg c3] at h
    refine rf_f wf1 rc_X10_most_ok 4 (10, [some (.ref 0), some (.int p0), none, none, none, none], [], σ) rfl rfl c3 rfl ?_
    refine rf_b wf1 rc_X10_most_ok 5 1 (11, [some (.ref 0), some (.int p0), none, none, none, none], [.int (-1)], σ) rfl ?_
    obtain rfl := Option.some.inj h
    exact rf_ri rc_X10_most_ok 6 rfl rfl
def rc_X10_doingAt : List rf_E := [(0, .iconst 0, 1, 0), (1, .istore_n 3, 1, 3), (2, .iconst 0, 1, 0), (3, .istore 4, 2, 4), (5, .iload 4, 2, 4), (7, .aload_n 0, 1, 0), (8, .getfield 75, 3, 1017), (11, .if_icmp .ge 43, 3, 54), (14, .iload_n 3, 1, 3), (15, .iload_n 1, 1, 1), (16, .iload 4, 2, 4), (18, .invokestatic 206, 3, 0), (21, .ifCond .eq 24, 3, 45), (24, .aload_n 0, 1, 0), (25, .aload_n 0, 1, 0), (26, .getfield 47, 3, 1022), (29, .iload 4, 2, 4), (31, .iload_n 2, 1, 2), (32, .invokevirtual 162, 3, 0), (35, .ifCond .eq 10, 3, 45), (38, .iconst 1, 1, 0), (39, .iload 4, 2, 4), (41, .ishl, 1, 0), (42, .goto 4, 3, 46), (45, .iconst 0, 1, 0), (46, .ior, 1, 0), (47, .istore_n 3, 1, 3), (48, .iinc 4 1, 3, 4), (51, .goto (-46), 3, 5), (54, .iload_n 3, 1, 3), (55, .ireturn, 1, 0)]
theorem rc_X10_doingAt_ok : rf_rc mX10_doingAt rc_X10_doingAt = true := by decide +kernel
theorem mw_X10_doingAt : rf_mw mX10_doingAt := ⟨rf_mt_ok _ (List.mem_of_getElem? (i := 215) rfl), fun h => absurd h (by decide), fun _ => ⟨rf_mi_ok _ (List.mem_of_getElem? (i := 193) rfl), rf_mv_ok _ (List.mem_of_getElem? (i := 193) rfl)⟩, rf_mq_8 _ (List.mem_of_getElem? (i := 15) rfl)⟩
def f_X10_doingAt_j46 (l1 : Int32) (l2 : Int32) (l4 : Int32) (t0 : Int32) (t1 : Int32) (σ : rf_S) : Option ((Int32 × Int32) ⊕ (Int32)) := some (.inl ((t1 ||| t0), (l4 + 1)))
set_option maxHeartbeats 2000000 in
theorem ok_X10_doingAt_j46 (d : Nat) (l1 : Int32) (l2 : Int32) (l4 : Int32) (t0 : Int32) (t1 : Int32) (σ : rf_S) (o : ((Int32 × Int32) ⊕ (Int32))) (h : f_X10_doingAt_j46 l1 l2 l4 t0 t1 σ = some o) {r : Option Value} {σr : rf_S} (kl : ∀ s', o = .inl s' → rf_G ly1 (d + 4) mX10_doingAt (5, [some (.ref 0), some (.int l1), some (.int l2), some (.int s'.1), some (.int s'.2)], [], σ) r σr) (kx : ∀ e, o = .inr e → rf_G ly1 (d + 4) mX10_doingAt (54, [none, none, none, some (.int e), none], [], σ) r σr) : rf_G ly1 (d + 4) mX10_doingAt (46, [some (.ref 0), some (.int l1), some (.int l2), none, some (.int l4)], [.int t0, .int t1], σ) r σr := by
  unfold f_X10_doingAt_j46 at h
  refine rf_b wf1 rc_X10_doingAt_ok 25 4 (5, [some (.ref 0), some (.int l1), some (.int l2), some (.int (t1 ||| t0)), some (.int (l4 + 1))], [], σ) rfl ?_
  exact kl ((t1 ||| t0), (l4 + 1)) (Option.some.inj h).symm
def f_X10_doingAt_j45 (l1 : Int32) (l2 : Int32) (l4 : Int32) (t0 : Int32) (σ : rf_S) : Option ((Int32 × Int32) ⊕ (Int32)) := f_X10_doingAt_j46 l1 l2 l4 0 t0 σ
set_option maxHeartbeats 2000000 in
theorem ok_X10_doingAt_j45 (d : Nat) (l1 : Int32) (l2 : Int32) (l4 : Int32) (t0 : Int32) (σ : rf_S) (o : ((Int32 × Int32) ⊕ (Int32))) (h : f_X10_doingAt_j45 l1 l2 l4 t0 σ = some o) {r : Option Value} {σr : rf_S} (kl : ∀ s', o = .inl s' → rf_G ly1 (d + 4) mX10_doingAt (5, [some (.ref 0), some (.int l1), some (.int l2), some (.int s'.1), some (.int s'.2)], [], σ) r σr) (kx : ∀ e, o = .inr e → rf_G ly1 (d + 4) mX10_doingAt (54, [none, none, none, some (.int e), none], [], σ) r σr) : rf_G ly1 (d + 4) mX10_doingAt (45, [some (.ref 0), some (.int l1), some (.int l2), none, some (.int l4)], [.int t0], σ) r σr := by
  unfold f_X10_doingAt_j45 at h
  refine rf_b wf1 rc_X10_doingAt_ok 24 1 (46, [some (.ref 0), some (.int l1), some (.int l2), none, some (.int l4)], [.int 0, .int t0], σ) rfl ?_
  exact ok_X10_doingAt_j46 d l1 l2 l4 0 t0 σ o h kl kx
def f_X10_doingAt_b5 (l1 : Int32) (l2 : Int32) (σ : rf_S) (s5 : Int32 × Int32) : Option ((Int32 × Int32) ⊕ (Int32)) := if (σ.1 0 17) ≤ s5.2 then (some (.inr s5.1)) else ((f_X10_has l1 s5.2 σ).bind (fun q2 => if q2 = 0 then (f_X10_doingAt_j45 l1 l2 s5.2 s5.1 σ) else ((f_X10_doesAt 12 s5.2 l2 σ).bind (fun q5 => if q5 = 0 then (f_X10_doingAt_j45 l1 l2 s5.2 s5.1 σ) else (f_X10_doingAt_j46 l1 l2 s5.2 (1 <<< (s5.2 &&& 31)) s5.1 σ)))))
set_option maxHeartbeats 2000000 in
theorem ok_X10_doingAt_b5 (d : Nat) (l1 : Int32) (l2 : Int32) (σ : rf_S) (s5 : Int32 × Int32) (o : ((Int32 × Int32) ⊕ (Int32))) (h : f_X10_doingAt_b5 l1 l2 σ s5 = some o) {r : Option Value} {σr : rf_S} (kl : ∀ s', o = .inl s' → rf_G ly1 (d + 4) mX10_doingAt (5, [some (.ref 0), some (.int l1), some (.int l2), some (.int s'.1), some (.int s'.2)], [], σ) r σr) (kx : ∀ e, o = .inr e → rf_G ly1 (d + 4) mX10_doingAt (54, [none, none, none, some (.int e), none], [], σ) r σr) : rf_G ly1 (d + 4) mX10_doingAt (5, [some (.ref 0), some (.int l1), some (.int l2), some (.int s5.1), some (.int s5.2)], [], σ) r σr := by
  unfold f_X10_doingAt_b5 at h
  refine rf_b wf1 rc_X10_doingAt_ok 4 3 (11, [some (.ref 0), some (.int l1), some (.int l2), some (.int s5.1), some (.int s5.2)], [.int (σ.1 0 17), .int s5.2], σ) rfl ?_
  by_cases c1 : (σ.1 0 17) ≤ s5.2
  · rw [if_pos c1] at h
    refine rf_t wf1 rc_X10_doingAt_ok 7 (54, [some (.ref 0), some (.int l1), some (.int l2), some (.int s5.1), some (.int s5.2)], [], σ) rfl rfl c1 rfl ?_
    refine rf_fg [false, false, false, true, false] [none, none, none, some (.int s5.1), none] rfl ?_
    exact kx s5.1 (Option.some.inj h).symm
  · rw [if_neg c1] at h
    refine rf_f wf1 rc_X10_doingAt_ok 7 (14, [some (.ref 0), some (.int l1), some (.int l2), some (.int s5.1), some (.int s5.2)], [], σ) rfl rfl c1 rfl ?_
    refine rf_b wf1 rc_X10_doingAt_ok 8 3 (18, [some (.ref 0), some (.int l1), some (.int l2), some (.int s5.1), some (.int s5.2)], [.int s5.2, .int l1, .int s5.1], σ) rfl ?_
    obtain ⟨q2, h3, h⟩ := Option.bind_eq_some_iff.mp h
    refine rf_cs1 (Mt := mX10_has) rc_X10_doingAt_ok 11 false rfl (List.mem_of_getElem? (i := 174) rfl) mw_X10_has rfl [.int l1, .int s5.2] [.int s5.1] rfl rfl (Nat.le_of_ble_eq_true rfl) (ok_X10_has (d + 3) l1 s5.2 σ q2 h3) ?_
    show rf_G _ _ _ (21, [some (.ref 0), some (.int l1), some (.int l2), some (.int s5.1), some (.int s5.2)], [.int q2, .int s5.1], σ) _ _
    by_cases c4 : q2 = 0
    · rw [if_pos c4] at h
      refine rf_t wf1 rc_X10_doingAt_ok 12 (45, [some (.ref 0), some (.int l1), some (.int l2), some (.int s5.1), some (.int s5.2)], [.int s5.1], σ) rfl rfl c4 rfl ?_
      refine rf_fg [true, true, true, false, true] [some (.ref 0), some (.int l1), some (.int l2), none, some (.int s5.2)] rfl ?_
      exact ok_X10_doingAt_j45 d l1 l2 s5.2 s5.1 σ o h kl kx
    · rw [if_neg c4] at h
      refine rf_f wf1 rc_X10_doingAt_ok 12 (24, [some (.ref 0), some (.int l1), some (.int l2), some (.int s5.1), some (.int s5.2)], [.int s5.1], σ) rfl rfl c4 rfl ?_
      refine rf_b wf1 rc_X10_doingAt_ok 13 5 (32, [some (.ref 0), some (.int l1), some (.int l2), some (.int s5.1), some (.int s5.2)], [.int l2, .int s5.2, .ref 12, .ref 0, .int s5.1], σ) rfl ?_
      obtain ⟨q5, h6, h⟩ := Option.bind_eq_some_iff.mp h
      refine rf_cv1 (Mt := mX10_doesAt) wf1 rc_X10_doingAt_ok 18 false rfl (List.mem_of_getElem? (i := 161) rfl) mw_X10_doesAt rfl 0 [.ref 12, .int s5.2, .int l2] [.int s5.1] rfl rfl rfl (Nat.le_of_ble_eq_true rfl) (ok_X10_doesAt d 12 s5.2 l2 σ q5 h6) ?_
      show rf_G _ _ _ (35, [some (.ref 0), some (.int l1), some (.int l2), some (.int s5.1), some (.int s5.2)], [.int q5, .int s5.1], σ) _ _
      by_cases c7 : q5 = 0
      · rw [if_pos c7] at h
        refine rf_t wf1 rc_X10_doingAt_ok 19 (45, [some (.ref 0), some (.int l1), some (.int l2), some (.int s5.1), some (.int s5.2)], [.int s5.1], σ) rfl rfl c7 rfl ?_
        refine rf_fg [true, true, true, false, true] [some (.ref 0), some (.int l1), some (.int l2), none, some (.int s5.2)] rfl ?_
        exact ok_X10_doingAt_j45 d l1 l2 s5.2 s5.1 σ o h kl kx
      · rw [if_neg c7] at h
        refine rf_f wf1 rc_X10_doingAt_ok 19 (38, [some (.ref 0), some (.int l1), some (.int l2), some (.int s5.1), some (.int s5.2)], [.int s5.1], σ) rfl rfl c7 rfl ?_
        refine rf_b wf1 rc_X10_doingAt_ok 20 4 (46, [some (.ref 0), some (.int l1), some (.int l2), some (.int s5.1), some (.int s5.2)], [.int (1 <<< (s5.2 &&& 31)), .int s5.1], σ) rfl ?_
        refine rf_fg [true, true, true, false, true] [some (.ref 0), some (.int l1), some (.int l2), none, some (.int s5.2)] rfl ?_
        exact ok_X10_doingAt_j46 d l1 l2 s5.2 (1 <<< (s5.2 &&& 31)) s5.1 σ o h kl kx
def f_X10_doingAt (p0 : Int32) (p1 : Int32) (σ : rf_S) : Option Int32 := (rf_lp (f_X10_doingAt_b5 p0 p1 σ) 5000 (0, 0)).bind (fun e8 => some e8)
set_option maxHeartbeats 2000000 in
theorem ok_X10_doingAt (d : Nat) (p0 : Int32) (p1 : Int32) (σ : rf_S) (q : Int32) (h : f_X10_doingAt p0 p1 σ = some q) : rf_Ex ly1 (d + 5) mX10_doingAt [.ref 0, .int p0, .int p1] σ (some (.int q) : Option Value) σ := by
  unfold f_X10_doingAt at h
  refine rf_ex mw_X10_doingAt [some (.ref 0), some (.int p0), some (.int p1), none, none] (Nat.le_of_ble_eq_true rfl) rfl ?_
  refine rf_b wf1 rc_X10_doingAt_ok 0 4 (5, [some (.ref 0), some (.int p0), some (.int p1), some (.int 0), some (.int 0)], [], σ) rfl ?_
  obtain ⟨e8, h9, h⟩ := Option.bind_eq_some_iff.mp h
  refine rf_lpG (b := f_X10_doingAt_b5 p0 p1 σ) (G := fun (s5 : Int32 × Int32) => rf_G ly1 (d + 4) mX10_doingAt (5, [some (.ref 0), some (.int p0), some (.int p1), some (.int s5.1), some (.int s5.2)], [], σ) (some (.int q) : Option Value) σ) (K := fun (e : (Int32)) => rf_G ly1 (d + 4) mX10_doingAt (54, [none, none, none, some (.int e), none], [], σ) (some (.int q) : Option Value) σ) (fun (s5 : Int32 × Int32) (o : (Int32 × Int32) ⊕ (Int32)) hb kl kx => ok_X10_doingAt_b5 d p0 p1 σ s5 o hb kl kx) 5000 (0, 0) e8 h9 ?_
  show rf_G _ _ _ (54, [none, none, none, some (.int e8), none], [], σ) _ _
  refine rf_b wf1 rc_X10_doingAt_ok 29 1 (55, [none, none, none, some (.int e8), none], [.int e8], σ) rfl ?_
  obtain rfl := Option.some.inj h
  exact rf_ri rc_X10_doingAt_ok 30 rfl rfl
