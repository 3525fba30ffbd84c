def rc_X10_alikeBy : List rf_E := [(0, .iconst 0, 1, 0), (1, .istore_n 3, 1, 3), (2, .iconst 0, 1, 0), (3, .istore 4, 2, 4), (5, .iload 4, 2, 4), (7, .bipush 31, 2, 0), (9, .if_icmp .ge 36, 3, 45), (12, .iload_n 3, 1, 3), (13, .aload_n 0, 1, 0), (14, .iload_n 1, 1, 1), (15, .iload 4, 2, 4), (17, .invokevirtual 238, 3, 0), (20, .aload_n 0, 1, 0), (21, .iload_n 1, 1, 1), (22, .iload_n 2, 1, 2), (23, .invokevirtual 238, 3, 0), (26, .if_icmp .ne 10, 3, 36), (29, .iconst 1, 1, 0), (30, .iload 4, 2, 4), (32, .ishl, 1, 0), (33, .goto 4, 3, 37), (36, .iconst 0, 1, 0), (37, .ior, 1, 0), (38, .istore_n 3, 1, 3), (39, .iinc 4 1, 3, 4), (42, .goto (-37), 3, 5), (45, .iload_n 3, 1, 3), (46, .ireturn, 1, 0)]
theorem rc_X10_alikeBy_ok : rf_rc mX10_alikeBy rc_X10_alikeBy = true := by decide +kernel
theorem mw_X10_alikeBy : rf_mw mX10_alikeBy := ⟨rf_mt_ok _ (List.mem_of_getElem? (i := 216) rfl), fun h => absurd h (by decide), fun _ => ⟨rf_mi_ok _ (List.mem_of_getElem? (i := 194) rfl), rf_mv_ok _ (List.mem_of_getElem? (i := 194) rfl)⟩, rf_mq_8 _ (List.mem_of_getElem? (i := 16) rfl)⟩
def f_X10_alikeBy_j37 (l1 : Int32) (l2 : Int32) (l4 : Int32) (t0 : Int32) (t1 : Int32) (σ : rf_S) : Option ((Int32 × Int32) ⊕ (Int32)) := some (.inl ((t1 ||| t0), (l4 + 1)))
set_option maxHeartbeats 2000000 in
theorem ok_X10_alikeBy_j37 (d : Nat) (l1 : Int32) (l2 : Int32) (l4 : Int32) (t0 : Int32) (t1 : Int32) (σ : rf_S) (o : ((Int32 × Int32) ⊕ (Int32))) (h : f_X10_alikeBy_j37 l1 l2 l4 t0 t1 σ = some o) {r : Option Value} {σr : rf_S} (kl : ∀ s', o = .inl s' → rf_G ly1 (d + 5) mX10_alikeBy (5, [some (.ref 0), some (.int l1), some (.int l2), some (.int s'.1), some (.int s'.2)], [], σ) r σr) (kx : ∀ e, o = .inr e → rf_G ly1 (d + 5) mX10_alikeBy (45, [none, none, none, some (.int e), none], [], σ) r σr) : rf_G ly1 (d + 5) mX10_alikeBy (37, [some (.ref 0), some (.int l1), some (.int l2), none, some (.int l4)], [.int t0, .int t1], σ) r σr := by
  unfold f_X10_alikeBy_j37 at h
  refine rf_b wf1 rc_X10_alikeBy_ok 22 4 (5, [some (.ref 0), some (.int l1), some (.int l2), some (.int (t1 ||| t0)), some (.int (l4 + 1))], [], σ) rfl ?_
  exact kl ((t1 ||| t0), (l4 + 1)) (Option.some.inj h).symm
def f_X10_alikeBy_b5 (l1 : Int32) (l2 : Int32) (σ : rf_S) (s5 : Int32 × Int32) : Option ((Int32 × Int32) ⊕ (Int32)) := if 31 ≤ s5.2 then (some (.inr s5.1)) else ((f_X10_doingAt l1 s5.2 σ).bind (fun q2 => (f_X10_doingAt l1 l2 σ).bind (fun q4 => if q2 ≠ q4 then (f_X10_alikeBy_j37 l1 l2 s5.2 0 s5.1 σ) else (f_X10_alikeBy_j37 l1 l2 s5.2 (1 <<< (s5.2 &&& 31)) s5.1 σ))))
set_option maxHeartbeats 2000000 in
theorem ok_X10_alikeBy_b5 (d : Nat) (l1 : Int32) (l2 : Int32) (σ : rf_S) (s5 : Int32 × Int32) (o : ((Int32 × Int32) ⊕ (Int32))) (h : f_X10_alikeBy_b5 l1 l2 σ s5 = some o) {r : Option Value} {σr : rf_S} (kl : ∀ s', o = .inl s' → rf_G ly1 (d + 5) mX10_alikeBy (5, [some (.ref 0), some (.int l1), some (.int l2), some (.int s'.1), some (.int s'.2)], [], σ) r σr) (kx : ∀ e, o = .inr e → rf_G ly1 (d + 5) mX10_alikeBy (45, [none, none, none, some (.int e), none], [], σ) r σr) : rf_G ly1 (d + 5) mX10_alikeBy (5, [some (.ref 0), some (.int l1), some (.int l2), some (.int s5.1), some (.int s5.2)], [], σ) r σr := by
  unfold f_X10_alikeBy_b5 at h
  refine rf_b wf1 rc_X10_alikeBy_ok 4 2 (9, [some (.ref 0), some (.int l1), some (.int l2), some (.int s5.1), some (.int s5.2)], [.int 31, .int s5.2], σ) rfl ?_
  by_cases c1 : 31 ≤ s5.2
  · rw [if_pos c1] at h
    refine rf_t wf1 rc_X10_alikeBy_ok 6 (45, [some (.ref 0), some (.int l1), some (.int l2), some (.int s5.1), some (.int s5.2)], [], σ) rfl rfl c1 rfl ?_
    refine rf_fg [false, false, false, true, false] [none, none, none, some (.int s5.1), none] rfl ?_
    exact kx s5.1 (Option.some.inj h).symm
  · rw [if_neg c1] at h
    refine rf_f wf1 rc_X10_alikeBy_ok 6 (12, [some (.ref 0), some (.int l1), some (.int l2), some (.int s5.1), some (.int s5.2)], [], σ) rfl rfl c1 rfl ?_
    refine rf_b wf1 rc_X10_alikeBy_ok 7 4 (17, [some (.ref 0), some (.int l1), some (.int l2), some (.int s5.1), some (.int s5.2)], [.int s5.2, .int l1, .ref 0, .int s5.1], σ) rfl ?_
    obtain ⟨q2, h3, h⟩ := Option.bind_eq_some_iff.mp h
    refine rf_cv1 (Mt := mX10_doingAt) wf1 rc_X10_alikeBy_ok 11 false rfl (List.mem_of_getElem? (i := 184) rfl) mw_X10_doingAt rfl 0 [.int l1, .int s5.2] [.int s5.1] rfl rfl rfl (Nat.le_of_ble_eq_true rfl) (ok_X10_doingAt d l1 s5.2 σ q2 h3) ?_
    show rf_G _ _ _ (20, [some (.ref 0), some (.int l1), some (.int l2), some (.int s5.1), some (.int s5.2)], [.int q2, .int s5.1], σ) _ _
    refine rf_b wf1 rc_X10_alikeBy_ok 12 3 (23, [some (.ref 0), some (.int l1), some (.int l2), some (.int s5.1), some (.int s5.2)], [.int l2, .int l1, .ref 0, .int q2, .int s5.1], σ) rfl ?_
    obtain ⟨q4, h5, h⟩ := Option.bind_eq_some_iff.mp h
    refine rf_cv1 (Mt := mX10_doingAt) wf1 rc_X10_alikeBy_ok 15 false rfl (List.mem_of_getElem? (i := 184) rfl) mw_X10_doingAt rfl 0 [.int l1, .int l2] [.int q2, .int s5.1] rfl rfl rfl (Nat.le_of_ble_eq_true rfl) (ok_X10_doingAt d l1 l2 σ q4 h5) ?_
    show rf_G _ _ _ (26, [some (.ref 0), some (.int l1), some (.int l2), some (.int s5.1), some (.int s5.2)], [.int q4, .int q2, .int s5.1], σ) _ _
    by_cases c6 : q2 ≠ q4
    · rw [if_pos c6] at h
      refine rf_t wf1 rc_X10_alikeBy_ok 16 (36, [some (.ref 0), some (.int l1), some (.int l2), some (.int s5.1), some (.int s5.2)], [.int s5.1], σ) rfl rfl c6 rfl ?_
      refine rf_b wf1 rc_X10_alikeBy_ok 21 1 (37, [some (.ref 0), some (.int l1), some (.int l2), some (.int s5.1), some (.int s5.2)], [.int 0, .int s5.1], σ) rfl ?_
      refine rf_fg [true, true, true, false, true] [some (.ref 0), some (.int l1), some (.int l2), none, some (.int s5.2)] rfl ?_
      exact ok_X10_alikeBy_j37 d l1 l2 s5.2 0 s5.1 σ o h kl kx
    · rw [if_neg c6] at h
      refine rf_f wf1 rc_X10_alikeBy_ok 16 (29, [some (.ref 0), some (.int l1), some (.int l2), some (.int s5.1), some (.int s5.2)], [.int s5.1], σ) rfl rfl c6 rfl ?_
      refine rf_b wf1 rc_X10_alikeBy_ok 17 4 (37, [some (.ref 0), some (.int l1), some (.int l2), some (.int s5.1), some (.int s5.2)], [.int (1 <<< (s5.2 &&& 31)), .int s5.1], σ) rfl ?_
      refine rf_fg [true, true, true, false, true] [some (.ref 0), some (.int l1), some (.int l2), none, some (.int s5.2)] rfl ?_
      exact ok_X10_alikeBy_j37 d l1 l2 s5.2 (1 <<< (s5.2 &&& 31)) s5.1 σ o h kl kx
def f_X10_alikeBy (p0 : Int32) (p1 : Int32) (σ : rf_S) : Option Int32 := (rf_lp (f_X10_alikeBy_b5 p0 p1 σ) 5000 (0, 0)).bind (fun e7 => some e7)
set_option maxHeartbeats 2000000 in
theorem ok_X10_alikeBy (d : Nat) (p0 : Int32) (p1 : Int32) (σ : rf_S) (q : Int32) (h : f_X10_alikeBy p0 p1 σ = some q) : rf_Ex ly1 (d + 6) mX10_alikeBy [.ref 0, .int p0, .int p1] σ (some (.int q) : Option Value) σ := by
  unfold f_X10_alikeBy at h
  refine rf_ex mw_X10_alikeBy [some (.ref 0), some (.int p0), some (.int p1), none, none] (Nat.le_of_ble_eq_true rfl) rfl ?_
  refine rf_b wf1 rc_X10_alikeBy_ok 0 4 (5, [some (.ref 0), some (.int p0), some (.int p1), some (.int 0), some (.int 0)], [], σ) rfl ?_
  obtain ⟨e7, h8, h⟩ := Option.bind_eq_some_iff.mp h
  refine rf_lpG (b := f_X10_alikeBy_b5 p0 p1 σ) (G := fun (s5 : Int32 × Int32) => rf_G ly1 (d + 5) mX10_alikeBy (5, [some (.ref 0), some (.int p0), some (.int p1), some (.int s5.1), some (.int s5.2)], [], σ) (some (.int q) : Option Value) σ) (K := fun (e : (Int32)) => rf_G ly1 (d + 5) mX10_alikeBy (45, [none, none, none, some (.int e), none], [], σ) (some (.int q) : Option Value) σ) (fun (s5 : Int32 × Int32) (o : (Int32 × Int32) ⊕ (Int32)) hb kl kx => ok_X10_alikeBy_b5 d p0 p1 σ s5 o hb kl kx) 5000 (0, 0) e7 h8 ?_
  show rf_G _ _ _ (45, [none, none, none, some (.int e7), none], [], σ) _ _
  refine rf_b wf1 rc_X10_alikeBy_ok 26 1 (46, [none, none, none, some (.int e7), none], [.int e7], σ) rfl ?_
  obtain rfl := Option.some.inj h
  exact rf_ri rc_X10_alikeBy_ok 27 rfl rfl
def rc_X10_partsBy : List rf_E := [(0, .iconst 0, 1, 0), (1, .istore_n 2, 1, 2), (2, .iconst 0, 1, 0), (3, .istore_n 3, 1, 3), (4, .iconst 0, 1, 0), (5, .istore 4, 2, 4), (7, .iload 4, 2, 4), (9, .bipush 31, 2, 0), (11, .if_icmp .ge 57, 3, 68), (14, .aload_n 0, 1, 0), (15, .iload_n 1, 1, 1), (16, .iload 4, 2, 4), (18, .invokevirtual 241, 3, 0), (21, .istore 5, 2, 5), (23, .iload_n 2, 1, 2), (24, .iload 5, 2, 5), (26, .iconst 1, 1, 0), (27, .iload 4, 2, 4), (29, .ishl, 1, 0), (30, .iconst 1, 1, 0), (31, .isub, 1, 0), (32, .iand, 1, 0), (33, .ifCond .ne 7, 3, 40), (36, .iconst 1, 1, 0), (37, .goto 4, 3, 41), (40, .iconst 0, 1, 0), (41, .iadd, 1, 0), (42, .istore_n 2, 1, 2), (43, .iload 5, 2, 5), (45, .invokestatic 192, 3, 0), (48, .iload_n 3, 1, 3), (49, .if_icmp .le 11, 3, 60), (52, .iload 5, 2, 5), (54, .invokestatic 192, 3, 0), (57, .goto 4, 3, 61), (60, .iload_n 3, 1, 3), (61, .istore_n 3, 1, 3), (62, .iinc 4 1, 3, 4), (65, .goto (-58), 3, 7), (68, .bipush 100, 2, 0), (70, .iload_n 3, 1, 3), (71, .imul, 1, 0), (72, .iload_n 2, 1, 2), (73, .iadd, 1, 0), (74, .ireturn, 1, 0)]
theorem rc_X10_partsBy_ok : rf_rc mX10_partsBy rc_X10_partsBy = true := by decide +kernel
theorem mw_X10_partsBy : rf_mw mX10_partsBy := ⟨rf_mt_ok _ (List.mem_of_getElem? (i := 217) rfl), fun h => absurd h (by decide), fun _ => ⟨rf_mi_ok _ (List.mem_of_getElem? (i := 195) rfl), rf_mv_ok _ (List.mem_of_getElem? (i := 195) rfl)⟩, rf_mq_8 _ (List.mem_of_getElem? (i := 17) rfl)⟩
def f_X10_partsBy_j61 (l1 : Int32) (l2 : Int32) (l4 : Int32) (t0 : Int32) (σ : rf_S) : Option ((Int32 × Int32 × Int32) ⊕ (Int32 × Int32)) := some (.inl (l2, t0, (l4 + 1)))
set_option maxHeartbeats 2000000 in
theorem ok_X10_partsBy_j61 (d : Nat) (l1 : Int32) (l2 : Int32) (l4 : Int32) (t0 : Int32) (σ : rf_S) (o : ((Int32 × Int32 × Int32) ⊕ (Int32 × Int32))) (h : f_X10_partsBy_j61 l1 l2 l4 t0 σ = some o) {r : Option Value} {σr : rf_S} (kl : ∀ s', o = .inl s' → rf_G ly1 (d + 6) mX10_partsBy (7, [some (.ref 0), some (.int l1), some (.int s'.1), some (.int s'.2.1), some (.int s'.2.2), none], [], σ) r σr) (kx : ∀ e, o = .inr e → rf_G ly1 (d + 6) mX10_partsBy (68, [none, none, some (.int e.1), some (.int e.2), none, none], [], σ) r σr) : rf_G ly1 (d + 6) mX10_partsBy (61, [some (.ref 0), some (.int l1), some (.int l2), none, some (.int l4), none], [.int t0], σ) r σr := by
  unfold f_X10_partsBy_j61 at h
  refine rf_b wf1 rc_X10_partsBy_ok 36 3 (7, [some (.ref 0), some (.int l1), some (.int l2), some (.int t0), some (.int (l4 + 1)), none], [], σ) rfl ?_
  exact kl (l2, t0, (l4 + 1)) (Option.some.inj h).symm
def f_X10_partsBy_j41 (l1 : Int32) (l3 : Int32) (l4 : Int32) (l5 : Int32) (t0 : Int32) (t1 : Int32) (σ : rf_S) : Option ((Int32 × Int32 × Int32) ⊕ (Int32 × Int32)) := (f_X10_bits l5 σ).bind (fun q5 => if q5 ≤ l3 then (f_X10_partsBy_j61 l1 (t1 + t0) l4 l3 σ) else ((f_X10_bits l5 σ).bind (fun q8 => f_X10_partsBy_j61 l1 (t1 + t0) l4 q8 σ)))
set_option maxHeartbeats 2000000 in
theorem ok_X10_partsBy_j41 (d : Nat) (l1 : Int32) (l3 : Int32) (l4 : Int32) (l5 : Int32) (t0 : Int32) (t1 : Int32) (σ : rf_S) (o : ((Int32 × Int32 × Int32) ⊕ (Int32 × Int32))) (h : f_X10_partsBy_j41 l1 l3 l4 l5 t0 t1 σ = some o) {r : Option Value} {σr : rf_S} (kl : ∀ s', o = .inl s' → rf_G ly1 (d + 6) mX10_partsBy (7, [some (.ref 0), some (.int l1), some (.int s'.1), some (.int s'.2.1), some (.int s'.2.2), none], [], σ) r σr) (kx : ∀ e, o = .inr e → rf_G ly1 (d + 6) mX10_partsBy (68, [none, none, some (.int e.1), some (.int e.2), none, none], [], σ) r σr) : rf_G ly1 (d + 6) mX10_partsBy (41, [some (.ref 0), some (.int l1), none, some (.int l3), some (.int l4), some (.int l5)], [.int t0, .int t1], σ) r σr := by
  unfold f_X10_partsBy_j41 at h
  refine rf_b wf1 rc_X10_partsBy_ok 26 3 (45, [some (.ref 0), some (.int l1), some (.int (t1 + t0)), some (.int l3), some (.int l4), some (.int l5)], [.int l5], σ) rfl ?_
  obtain ⟨q5, h6, h⟩ := Option.bind_eq_some_iff.mp h
  refine rf_cs1 (Mt := mX10_bits) rc_X10_partsBy_ok 29 false rfl (List.mem_of_getElem? (i := 170) rfl) mw_X10_bits rfl [.int l5] [] rfl rfl (Nat.le_of_ble_eq_true rfl) (ok_X10_bits (d + 5) l5 σ q5 h6) ?_
  show rf_G _ _ _ (48, [some (.ref 0), some (.int l1), some (.int (t1 + t0)), some (.int l3), some (.int l4), some (.int l5)], [.int q5], σ) _ _
  refine rf_b wf1 rc_X10_partsBy_ok 30 1 (49, [some (.ref 0), some (.int l1), some (.int (t1 + t0)), some (.int l3), some (.int l4), some (.int l5)], [.int l3, .int q5], σ) rfl ?_
  by_cases c7 : q5 ≤ l3
  · rw [if_pos c7] at h
    refine rf_t wf1 rc_X10_partsBy_ok 31 (60, [some (.ref 0), some (.int l1), some (.int (t1 + t0)), some (.int l3), some (.int l4), some (.int l5)], [], σ) rfl rfl c7 rfl ?_
    refine rf_b wf1 rc_X10_partsBy_ok 35 1 (61, [some (.ref 0), some (.int l1), some (.int (t1 + t0)), some (.int l3), some (.int l4), some (.int l5)], [.int l3], σ) rfl ?_
    refine rf_fg [true, true, true, false, true, false] [some (.ref 0), some (.int l1), some (.int (t1 + t0)), none, some (.int l4), none] rfl ?_
    exact ok_X10_partsBy_j61 d l1 (t1 + t0) l4 l3 σ o h kl kx
  · rw [if_neg c7] at h
    refine rf_f wf1 rc_X10_partsBy_ok 31 (52, [some (.ref 0), some (.int l1), some (.int (t1 + t0)), some (.int l3), some (.int l4), some (.int l5)], [], σ) rfl rfl c7 rfl ?_
    refine rf_b wf1 rc_X10_partsBy_ok 32 1 (54, [some (.ref 0), some (.int l1), some (.int (t1 + t0)), some (.int l3), some (.int l4), some (.int l5)], [.int l5], σ) rfl ?_
    obtain ⟨q8, h9, h⟩ := Option.bind_eq_some_iff.mp h
    refine rf_cs1 (Mt := mX10_bits) rc_X10_partsBy_ok 33 false rfl (List.mem_of_getElem? (i := 170) rfl) mw_X10_bits rfl [.int l5] [] rfl rfl (Nat.le_of_ble_eq_true rfl) (ok_X10_bits (d + 5) l5 σ q8 h9) ?_
    show rf_G _ _ _ (57, [some (.ref 0), some (.int l1), some (.int (t1 + t0)), some (.int l3), some (.int l4), some (.int l5)], [.int q8], σ) _ _
    refine rf_b wf1 rc_X10_partsBy_ok 34 1 (61, [some (.ref 0), some (.int l1), some (.int (t1 + t0)), some (.int l3), some (.int l4), some (.int l5)], [.int q8], σ) rfl ?_
    refine rf_fg [true, true, true, false, true, false] [some (.ref 0), some (.int l1), some (.int (t1 + t0)), none, some (.int l4), none] rfl ?_
    exact ok_X10_partsBy_j61 d l1 (t1 + t0) l4 q8 σ o h kl kx
def f_X10_partsBy_b7 (l1 : Int32) (σ : rf_S) (s7 : Int32 × Int32 × Int32) : Option ((Int32 × Int32 × Int32) ⊕ (Int32 × Int32)) := if 31 ≤ s7.2.2 then (some (.inr (s7.1, s7.2.1))) else ((f_X10_alikeBy l1 s7.2.2 σ).bind (fun q2 => if (q2 &&& ((1 <<< (s7.2.2 &&& 31)) - 1)) ≠ 0 then (f_X10_partsBy_j41 l1 s7.2.1 s7.2.2 q2 0 s7.1 σ) else (f_X10_partsBy_j41 l1 s7.2.1 s7.2.2 q2 1 s7.1 σ)))
set_option maxHeartbeats 2000000 in
theorem ok_X10_partsBy_b7 (d : Nat) (l1 : Int32) (σ : rf_S) (s7 : Int32 × Int32 × Int32) (o : ((Int32 × Int32 × Int32) ⊕ (Int32 × Int32))) (h : f_X10_partsBy_b7 l1 σ s7 = some o) {r : Option Value} {σr : rf_S} (kl : ∀ s', o = .inl s' → rf_G ly1 (d + 6) mX10_partsBy (7, [some (.ref 0), some (.int l1), some (.int s'.1), some (.int s'.2.1), some (.int s'.2.2), none], [], σ) r σr) (kx : ∀ e, o = .inr e → rf_G ly1 (d + 6) mX10_partsBy (68, [none, none, some (.int e.1), some (.int e.2), none, none], [], σ) r σr) : rf_G ly1 (d + 6) mX10_partsBy (7, [some (.ref 0), some (.int l1), some (.int s7.1), some (.int s7.2.1), some (.int s7.2.2), none], [], σ) r σr := by
  unfold f_X10_partsBy_b7 at h
  refine rf_b wf1 rc_X10_partsBy_ok 6 2 (11, [some (.ref 0), some (.int l1), some (.int s7.1), some (.int s7.2.1), some (.int s7.2.2), none], [.int 31, .int s7.2.2], σ) rfl ?_
  by_cases c1 : 31 ≤ s7.2.2
  · rw [if_pos c1] at h
    refine rf_t wf1 rc_X10_partsBy_ok 8 (68, [some (.ref 0), some (.int l1), some (.int s7.1), some (.int s7.2.1), some (.int s7.2.2), none], [], σ) rfl rfl c1 rfl ?_
    refine rf_fg [false, false, true, true, false, true] [none, none, some (.int s7.1), some (.int s7.2.1), none, none] rfl ?_
    exact kx (s7.1, s7.2.1) (Option.some.inj h).symm
  · rw [if_neg c1] at h
    refine rf_f wf1 rc_X10_partsBy_ok 8 (14, [some (.ref 0), some (.int l1), some (.int s7.1), some (.int s7.2.1), some (.int s7.2.2), none], [], σ) rfl rfl c1 rfl ?_
    refine rf_b wf1 rc_X10_partsBy_ok 9 3 (18, [some (.ref 0), some (.int l1), some (.int s7.1), some (.int s7.2.1), some (.int s7.2.2), none], [.int s7.2.2, .int l1, .ref 0], σ) rfl ?_
    obtain ⟨q2, h3, h⟩ := Option.bind_eq_some_iff.mp h
    refine rf_cv1 (Mt := mX10_alikeBy) wf1 rc_X10_partsBy_ok 12 false rfl (List.mem_of_getElem? (i := 185) rfl) mw_X10_alikeBy rfl 0 [.int l1, .int s7.2.2] [] rfl rfl rfl (Nat.le_of_ble_eq_true rfl) (ok_X10_alikeBy d l1 s7.2.2 σ q2 h3) ?_
    show rf_G _ _ _ (21, [some (.ref 0), some (.int l1), some (.int s7.1), some (.int s7.2.1), some (.int s7.2.2), none], [.int q2], σ) _ _
    refine rf_b wf1 rc_X10_partsBy_ok 13 9 (33, [some (.ref 0), some (.int l1), some (.int s7.1), some (.int s7.2.1), some (.int s7.2.2), some (.int q2)], [.int (q2 &&& ((1 <<< (s7.2.2 &&& 31)) - 1)), .int s7.1], σ) rfl ?_
    by_cases c4 : (q2 &&& ((1 <<< (s7.2.2 &&& 31)) - 1)) ≠ 0
    · rw [if_pos c4] at h
      refine rf_t wf1 rc_X10_partsBy_ok 22 (40, [some (.ref 0), some (.int l1), some (.int s7.1), some (.int s7.2.1), some (.int s7.2.2), some (.int q2)], [.int s7.1], σ) rfl rfl c4 rfl ?_
      refine rf_b wf1 rc_X10_partsBy_ok 25 1 (41, [some (.ref 0), some (.int l1), some (.int s7.1), some (.int s7.2.1), some (.int s7.2.2), some (.int q2)], [.int 0, .int s7.1], σ) rfl ?_
      refine rf_fg [true, true, false, true, true, true] [some (.ref 0), some (.int l1), none, some (.int s7.2.1), some (.int s7.2.2), some (.int q2)] rfl ?_
      exact ok_X10_partsBy_j41 d l1 s7.2.1 s7.2.2 q2 0 s7.1 σ o h kl kx
    · rw [if_neg c4] at h
      refine rf_f wf1 rc_X10_partsBy_ok 22 (36, [some (.ref 0), some (.int l1), some (.int s7.1), some (.int s7.2.1), some (.int s7.2.2), some (.int q2)], [.int s7.1], σ) rfl rfl c4 rfl ?_
      refine rf_b wf1 rc_X10_partsBy_ok 23 2 (41, [some (.ref 0), some (.int l1), some (.int s7.1), some (.int s7.2.1), some (.int s7.2.2), some (.int q2)], [.int 1, .int s7.1], σ) rfl ?_
      refine rf_fg [true, true, false, true, true, true] [some (.ref 0), some (.int l1), none, some (.int s7.2.1), some (.int s7.2.2), some (.int q2)] rfl ?_
      exact ok_X10_partsBy_j41 d l1 s7.2.1 s7.2.2 q2 1 s7.1 σ o h kl kx
def f_X10_partsBy (p0 : Int32) (σ : rf_S) : Option Int32 := (rf_lp (f_X10_partsBy_b7 p0 σ) 5000 (0, 0, 0)).bind (fun e10 => some ((100 * e10.2) + e10.1))
set_option maxHeartbeats 2000000 in
theorem ok_X10_partsBy (d : Nat) (p0 : Int32) (σ : rf_S) (q : Int32) (h : f_X10_partsBy p0 σ = some q) : rf_Ex ly1 (d + 7) mX10_partsBy [.ref 0, .int p0] σ (some (.int q) : Option Value) σ := by
  unfold f_X10_partsBy at h
  refine rf_ex mw_X10_partsBy [some (.ref 0), some (.int p0), none, none, none, none] (Nat.le_of_ble_eq_true rfl) rfl ?_
  refine rf_b wf1 rc_X10_partsBy_ok 0 6 (7, [some (.ref 0), some (.int p0), some (.int 0), some (.int 0), some (.int 0), none], [], σ) rfl ?_
  obtain ⟨e10, h11, h⟩ := Option.bind_eq_some_iff.mp h
  refine rf_lpG (b := f_X10_partsBy_b7 p0 σ) (G := fun (s7 : Int32 × Int32 × Int32) => rf_G ly1 (d + 6) mX10_partsBy (7, [some (.ref 0), some (.int p0), some (.int s7.1), some (.int s7.2.1), some (.int s7.2.2), none], [], σ) (some (.int q) : Option Value) σ) (K := fun (e : (Int32 × Int32)) => rf_G ly1 (d + 6) mX10_partsBy (68, [none, none, some (.int e.1), some (.int e.2), none, none], [], σ) (some (.int q) : Option Value) σ) (fun (s7 : Int32 × Int32 × Int32) (o : (Int32 × Int32 × Int32) ⊕ (Int32 × Int32)) hb kl kx => ok_X10_partsBy_b7 d p0 σ s7 o hb kl kx) 5000 (0, 0, 0) e10 h11 ?_
  show rf_G _ _ _ (68, [none, none, some (.int e10.1), some (.int e10.2), none, none], [], σ) _ _
  refine rf_b wf1 rc_X10_partsBy_ok 39 5 (74, [none, none, some (.int e10.1), some (.int e10.2), none, none], [.int ((100 * e10.2) + e10.1)], σ) rfl ?_
  obtain rfl := Option.some.inj h
  exact rf_ri rc_X10_partsBy_ok 44 rfl rfl
def rc_X10_parts : List rf_E := [(0, .aload_n 0, 1, 0), (1, .getfield 75, 3, 1017), (4, .ifCond .ne 6, 3, 10), (7, .bipush (-4), 2, 0), (9, .ireturn, 1, 0), (10, .aload_n 0, 1, 0), (11, .iload_n 1, 1, 1), (12, .invokevirtual 222, 3, 0), (15, .ifCond .ne 5, 3, 20), (18, .iconst (-1), 1, 0), (19, .ireturn, 1, 0), (20, .aload_n 0, 1, 0), (21, .iload_n 1, 1, 1), (22, .invokevirtual 244, 3, 0), (25, .istore_n 2, 1, 2), (26, .aload_n 0, 1, 0), (27, .iload_n 2, 1, 2), (28, .bipush 100, 2, 0), (30, .idiv, 1, 0), (31, .invokevirtual 93, 3, 0), (34, .pop, 1, 0), (35, .iload_n 2, 1, 2), (36, .bipush 100, 2, 0), (38, .irem, 1, 0), (39, .ireturn, 1, 0)]
theorem rc_X10_parts_ok : rf_rc mX10_parts rc_X10_parts = true := by decide +kernel
theorem mw_X10_parts : rf_mw mX10_parts := ⟨rf_mt_ok _ (List.mem_of_getElem? (i := 218) rfl), fun h => absurd h (by decide), fun _ => ⟨rf_mi_ok _ (List.mem_of_getElem? (i := 196) rfl), rf_mv_ok _ (List.mem_of_getElem? (i := 196) rfl)⟩, rf_mq_8 _ (List.mem_of_getElem? (i := 18) rfl)⟩
def f_X10_parts (p0 : Int32) (σ : rf_S) : Option (Int32 × rf_S) := if (σ.1 0 17) ≠ 0 then ((f_X10_isSet p0 σ).bind (fun q2 => if q2 ≠ 0 then ((f_X10_partsBy p0 σ).bind (fun q5 => (f_X10_tells (q5 / 100) σ).bind (fun q8 => some ((q5 - q5 / 100 * 100), q8.2)))) else (some ((-1), σ)))) else (some ((-4), σ))
set_option maxHeartbeats 2000000 in
theorem ok_X10_parts (d : Nat) (p0 : Int32) (σ : rf_S) (q : (Int32 × rf_S)) (h : f_X10_parts p0 σ = some q) : rf_Ex ly1 (d + 8) mX10_parts [.ref 0, .int p0] σ (some (.int q.1) : Option Value) q.2 := by
  unfold f_X10_parts at h
  refine rf_ex mw_X10_parts [some (.ref 0), some (.int p0), none] (Nat.le_of_ble_eq_true rfl) rfl ?_
  refine rf_b wf1 rc_X10_parts_ok 0 2 (4, [some (.ref 0), some (.int p0), none], [.int (σ.1 0 17)], σ) rfl ?_
  by_cases c1 : (σ.1 0 17) ≠ 0
  · rw [if_pos c1] at h
    refine rf_t wf1 rc_X10_parts_ok 2 (10, [some (.ref 0), some (.int p0), none], [], σ) rfl rfl c1 rfl ?_
    refine rf_b wf1 rc_X10_parts_ok 5 2 (12, [some (.ref 0), some (.int p0), none], [.int p0, .ref 0], σ) rfl ?_
    obtain ⟨q2, h3, h⟩ := Option.bind_eq_some_iff.mp h
    refine rf_cv1 (Mt := mX10_isSet) wf1 rc_X10_parts_ok 7 false rfl (List.mem_of_getElem? (i := 179) rfl) mw_X10_isSet rfl 0 [.int p0] [] rfl rfl rfl (Nat.le_of_ble_eq_true rfl) (ok_X10_isSet (d + 5) p0 σ q2 h3) ?_
    show rf_G _ _ _ (15, [some (.ref 0), some (.int p0), none], [.int q2], σ) _ _
    by_cases c4 : q2 ≠ 0
    · rw [if_pos c4] at h
      refine rf_t wf1 rc_X10_parts_ok 8 (20, [some (.ref 0), some (.int p0), none], [], σ) rfl rfl c4 rfl ?_
      refine rf_b wf1 rc_X10_parts_ok 11 2 (22, [some (.ref 0), some (.int p0), none], [.int p0, .ref 0], σ) rfl ?_
      obtain ⟨q5, h6, h⟩ := Option.bind_eq_some_iff.mp h
      refine rf_cv1 (Mt := mX10_partsBy) wf1 rc_X10_parts_ok 13 false rfl (List.mem_of_getElem? (i := 186) rfl) mw_X10_partsBy rfl 0 [.int p0] [] rfl rfl rfl (Nat.le_of_ble_eq_true rfl) (ok_X10_partsBy d p0 σ q5 h6) ?_
      show rf_G _ _ _ (25, [some (.ref 0), some (.int p0), none], [.int q5], σ) _ _
      refine rf_b wf1 rc_X10_parts_ok 14 4 (30, [some (.ref 0), some (.int p0), some (.int q5)], [.int 100, .int q5, .ref 0], σ) rfl ?_
      refine rf_nz wf1 rc_X10_parts_ok 18 (31, [some (.ref 0), some (.int p0), some (.int q5)], [.int (q5 / 100), .ref 0], σ) rfl rfl (c := (100 : Int32) = 0) (by decide) rfl ?_
      obtain ⟨q8, h9, h⟩ := Option.bind_eq_some_iff.mp h
      refine rf_cv1 (Mt := mX10_tells) wf1 rc_X10_parts_ok 19 false rfl (List.mem_of_getElem? (i := 146) rfl) mw_X10_tells rfl 0 [.int (q5 / 100)] [] rfl rfl rfl (Nat.le_of_ble_eq_true rfl) (ok_X10_tells (d + 6) (q5 / 100) σ q8 h9) ?_
      show rf_G _ _ _ (34, [some (.ref 0), some (.int p0), some (.int q5)], [.int q8.1], q8.2) _ _
      refine rf_b wf1 rc_X10_parts_ok 20 3 (38, [some (.ref 0), some (.int p0), some (.int q5)], [.int 100, .int q5], q8.2) rfl ?_
      refine rf_nz wf1 rc_X10_parts_ok 23 (39, [some (.ref 0), some (.int p0), some (.int q5)], [.int (q5 - q5 / 100 * 100)], q8.2) rfl rfl (c := (100 : Int32) = 0) (by decide) rfl ?_
      obtain rfl := Option.some.inj h
      exact rf_ri rc_X10_parts_ok 24 rfl rfl
    · rw [if_neg c4] at h
      refine rf_f wf1 rc_X10_parts_ok 8 (18, [some (.ref 0), some (.int p0), none], [], σ) rfl rfl c4 rfl ?_
      refine rf_b wf1 rc_X10_parts_ok 9 1 (19, [some (.ref 0), some (.int p0), none], [.int (-1)], σ) rfl ?_
      obtain rfl := Option.some.inj h
      exact rf_ri rc_X10_parts_ok 10 rfl rfl
  · rw [if_neg c1] at h
    refine rf_f wf1 rc_X10_parts_ok 2 (7, [some (.ref 0), some (.int p0), none], [], σ) rfl rfl c1 rfl ?_
    refine rf_b wf1 rc_X10_parts_ok 3 1 (9, [some (.ref 0), some (.int p0), none], [.int (-4)], σ) rfl ?_
    obtain rfl := Option.some.inj h
    exact rf_ri rc_X10_parts_ok 4 rfl rfl
def rc_X10_fewest : List rf_E := [(0, .aload_n 0, 1, 0), (1, .getfield 75, 3, 1017), (4, .ifCond .ne 6, 3, 10), (7, .bipush (-4), 2, 0), (9, .ireturn, 1, 0), (10, .aload_n 0, 1, 0), (11, .iconst 1, 1, 0), (12, .aload_n 0, 1, 0), (13, .getfield 75, 3, 1017), (16, .ishl, 1, 0), (17, .iconst 1, 1, 0), (18, .isub, 1, 0), (19, .invokevirtual 244, 3, 0), (22, .bipush 100, 2, 0), (24, .irem, 1, 0), (25, .istore_n 1, 1, 1), (26, .iconst 1, 1, 0), (27, .aload_n 0, 1, 0), (28, .getfield 75, 3, 1017), (31, .ishl, 1, 0), (32, .iconst 1, 1, 0), (33, .isub, 1, 0), (34, .istore_n 2, 1, 2), (35, .iload_n 2, 1, 2), (36, .istore_n 3, 1, 3), (37, .iload_n 3, 1, 3), (38, .ifCond .lt 38, 3, 76), (41, .iload_n 3, 1, 3), (42, .invokestatic 192, 3, 0), (45, .iload_n 2, 1, 2), (46, .invokestatic 192, 3, 0), (49, .if_icmp .gt 19, 3, 68), (52, .aload_n 0, 1, 0), (53, .iload_n 3, 1, 3), (54, .invokevirtual 244, 3, 0), (57, .bipush 100, 2, 0), (59, .irem, 1, 0), (60, .iload_n 1, 1, 1), (61, .if_icmp .ne 7, 3, 68), (64, .iload_n 3, 1, 3), (65, .goto 4, 3, 69), (68, .iload_n 2, 1, 2), (69, .istore_n 2, 1, 2), (70, .iinc 3 (-1), 3, 3), (73, .goto (-36), 3, 37), (76, .aload_n 0, 1, 0), (77, .iload_n 2, 1, 2), (78, .invokevirtual 93, 3, 0), (81, .pop, 1, 0), (82, .iload_n 2, 1, 2), (83, .invokestatic 192, 3, 0), (86, .ireturn, 1, 0)]
theorem rc_X10_fewest_ok : rf_rc mX10_fewest rc_X10_fewest = true := by decide +kernel
theorem mw_X10_fewest : rf_mw mX10_fewest := ⟨rf_mt_ok _ (List.mem_of_getElem? (i := 219) rfl), fun h => absurd h (by decide), fun _ => ⟨rf_mi_ok _ (List.mem_of_getElem? (i := 197) rfl), rf_mv_ok _ (List.mem_of_getElem? (i := 197) rfl)⟩, rf_mq_8 _ (List.mem_of_getElem? (i := 19) rfl)⟩
def f_X10_fewest_j69 (l1 : Int32) (l3 : Int32) (t0 : Int32) (σ : rf_S) : Option ((Int32 × Int32) ⊕ (Int32)) := some (.inl (t0, (l3 + (-1))))
set_option maxHeartbeats 2000000 in
theorem ok_X10_fewest_j69 (d : Nat) (l1 : Int32) (l3 : Int32) (t0 : Int32) (σ : rf_S) (o : ((Int32 × Int32) ⊕ (Int32))) (h : f_X10_fewest_j69 l1 l3 t0 σ = some o) {r : Option Value} {σr : rf_S} (kl : ∀ s', o = .inl s' → rf_G ly1 (d + 7) mX10_fewest (37, [some (.ref 0), some (.int l1), some (.int s'.1), some (.int s'.2)], [], σ) r σr) (kx : ∀ e, o = .inr e → rf_G ly1 (d + 7) mX10_fewest (76, [some (.ref 0), none, some (.int e), none], [], σ) r σr) : rf_G ly1 (d + 7) mX10_fewest (69, [some (.ref 0), some (.int l1), none, some (.int l3)], [.int t0], σ) r σr := by
  unfold f_X10_fewest_j69 at h
  refine rf_b wf1 rc_X10_fewest_ok 42 3 (37, [some (.ref 0), some (.int l1), some (.int t0), some (.int (l3 + (-1)))], [], σ) rfl ?_
  exact kl (t0, (l3 + (-1))) (Option.some.inj h).symm
def f_X10_fewest_j68 (l1 : Int32) (l2 : Int32) (l3 : Int32) (σ : rf_S) : Option ((Int32 × Int32) ⊕ (Int32)) := f_X10_fewest_j69 l1 l3 l2 σ
set_option maxHeartbeats 2000000 in
theorem ok_X10_fewest_j68 (d : Nat) (l1 : Int32) (l2 : Int32) (l3 : Int32) (σ : rf_S) (o : ((Int32 × Int32) ⊕ (Int32))) (h : f_X10_fewest_j68 l1 l2 l3 σ = some o) {r : Option Value} {σr : rf_S} (kl : ∀ s', o = .inl s' → rf_G ly1 (d + 7) mX10_fewest (37, [some (.ref 0), some (.int l1), some (.int s'.1), some (.int s'.2)], [], σ) r σr) (kx : ∀ e, o = .inr e → rf_G ly1 (d + 7) mX10_fewest (76, [some (.ref 0), none, some (.int e), none], [], σ) r σr) : rf_G ly1 (d + 7) mX10_fewest (68, [some (.ref 0), some (.int l1), some (.int l2), some (.int l3)], [], σ) r σr := by
  unfold f_X10_fewest_j68 at h
  refine rf_b wf1 rc_X10_fewest_ok 41 1 (69, [some (.ref 0), some (.int l1), some (.int l2), some (.int l3)], [.int l2], σ) rfl ?_
  refine rf_fg [true, true, false, true] [some (.ref 0), some (.int l1), none, some (.int l3)] rfl ?_
  exact ok_X10_fewest_j69 d l1 l3 l2 σ o h kl kx
def f_X10_fewest_b37 (l1 : Int32) (σ : rf_S) (s37 : Int32 × Int32) : Option ((Int32 × Int32) ⊕ (Int32)) := if s37.2 < 0 then (some (.inr s37.1)) else ((f_X10_bits s37.2 σ).bind (fun q6 => (f_X10_bits s37.1 σ).bind (fun q8 => if q8 < q6 then (f_X10_fewest_j68 l1 s37.1 s37.2 σ) else ((f_X10_partsBy s37.2 σ).bind (fun q11 => if (q11 - q11 / 100 * 100) ≠ l1 then (f_X10_fewest_j68 l1 s37.1 s37.2 σ) else (f_X10_fewest_j69 l1 s37.2 s37.2 σ))))))
set_option maxHeartbeats 2000000 in
theorem ok_X10_fewest_b37 (d : Nat) (l1 : Int32) (σ : rf_S) (s37 : Int32 × Int32) (o : ((Int32 × Int32) ⊕ (Int32))) (h : f_X10_fewest_b37 l1 σ s37 = some o) {r : Option Value} {σr : rf_S} (kl : ∀ s', o = .inl s' → rf_G ly1 (d + 7) mX10_fewest (37, [some (.ref 0), some (.int l1), some (.int s'.1), some (.int s'.2)], [], σ) r σr) (kx : ∀ e, o = .inr e → rf_G ly1 (d + 7) mX10_fewest (76, [some (.ref 0), none, some (.int e), none], [], σ) r σr) : rf_G ly1 (d + 7) mX10_fewest (37, [some (.ref 0), some (.int l1), some (.int s37.1), some (.int s37.2)], [], σ) r σr := by
  unfold f_X10_fewest_b37 at h
  refine rf_b wf1 rc_X10_fewest_ok 25 1 (38, [some (.ref 0), some (.int l1), some (.int s37.1), some (.int s37.2)], [.int s37.2], σ) rfl ?_
  by_cases c5 : s37.2 < 0
  · rw [if_pos c5] at h
    refine rf_t wf1 rc_X10_fewest_ok 26 (76, [some (.ref 0), some (.int l1), some (.int s37.1), some (.int s37.2)], [], σ) rfl rfl c5 rfl ?_
    refine rf_fg [true, false, true, false] [some (.ref 0), none, some (.int s37.1), none] rfl ?_
    exact kx s37.1 (Option.some.inj h).symm
  · rw [if_neg c5] at h
    refine rf_f wf1 rc_X10_fewest_ok 26 (41, [some (.ref 0), some (.int l1), some (.int s37.1), some (.int s37.2)], [], σ) rfl rfl c5 rfl ?_
    refine rf_b wf1 rc_X10_fewest_ok 27 1 (42, [some (.ref 0), some (.int l1), some (.int s37.1), some (.int s37.2)], [.int s37.2], σ) rfl ?_
    obtain ⟨q6, h7, h⟩ := Option.bind_eq_some_iff.mp h
    refine rf_cs1 (Mt := mX10_bits) rc_X10_fewest_ok 28 false rfl (List.mem_of_getElem? (i := 170) rfl) mw_X10_bits rfl [.int s37.2] [] rfl rfl (Nat.le_of_ble_eq_true rfl) (ok_X10_bits (d + 6) s37.2 σ q6 h7) ?_
    show rf_G _ _ _ (45, [some (.ref 0), some (.int l1), some (.int s37.1), some (.int s37.2)], [.int q6], σ) _ _
    refine rf_b wf1 rc_X10_fewest_ok 29 1 (46, [some (.ref 0), some (.int l1), some (.int s37.1), some (.int s37.2)], [.int s37.1, .int q6], σ) rfl ?_
    obtain ⟨q8, h9, h⟩ := Option.bind_eq_some_iff.mp h
    refine rf_cs1 (Mt := mX10_bits) rc_X10_fewest_ok 30 false rfl (List.mem_of_getElem? (i := 170) rfl) mw_X10_bits rfl [.int s37.1] [.int q6] rfl rfl (Nat.le_of_ble_eq_true rfl) (ok_X10_bits (d + 6) s37.1 σ q8 h9) ?_
    show rf_G _ _ _ (49, [some (.ref 0), some (.int l1), some (.int s37.1), some (.int s37.2)], [.int q8, .int q6], σ) _ _
    by_cases c10 : q8 < q6
    · rw [if_pos c10] at h
      refine rf_t wf1 rc_X10_fewest_ok 31 (68, [some (.ref 0), some (.int l1), some (.int s37.1), some (.int s37.2)], [], σ) rfl rfl c10 rfl ?_
      exact ok_X10_fewest_j68 d l1 s37.1 s37.2 σ o h kl kx
    · rw [if_neg c10] at h
      refine rf_f wf1 rc_X10_fewest_ok 31 (52, [some (.ref 0), some (.int l1), some (.int s37.1), some (.int s37.2)], [], σ) rfl rfl c10 rfl ?_
      refine rf_b wf1 rc_X10_fewest_ok 32 2 (54, [some (.ref 0), some (.int l1), some (.int s37.1), some (.int s37.2)], [.int s37.2, .ref 0], σ) rfl ?_
      obtain ⟨q11, h12, h⟩ := Option.bind_eq_some_iff.mp h
      refine rf_cv1 (Mt := mX10_partsBy) wf1 rc_X10_fewest_ok 34 false rfl (List.mem_of_getElem? (i := 186) rfl) mw_X10_partsBy rfl 0 [.int s37.2] [] rfl rfl rfl (Nat.le_of_ble_eq_true rfl) (ok_X10_partsBy d s37.2 σ q11 h12) ?_
      show rf_G _ _ _ (57, [some (.ref 0), some (.int l1), some (.int s37.1), some (.int s37.2)], [.int q11], σ) _ _
      refine rf_b wf1 rc_X10_fewest_ok 35 1 (59, [some (.ref 0), some (.int l1), some (.int s37.1), some (.int s37.2)], [.int 100, .int q11], σ) rfl ?_
      refine rf_nz wf1 rc_X10_fewest_ok 36 (60, [some (.ref 0), some (.int l1), some (.int s37.1), some (.int s37.2)], [.int (q11 - q11 / 100 * 100)], σ) rfl rfl (c := (100 : Int32) = 0) (by decide) rfl ?_
      refine rf_b wf1 rc_X10_fewest_ok 37 1 (61, [some (.ref 0), some (.int l1), some (.int s37.1), some (.int s37.2)], [.int l1, .int (q11 - q11 / 100 * 100)], σ) rfl ?_
      by_cases c14 : (q11 - q11 / 100 * 100) ≠ l1
      · rw [if_pos c14] at h
        refine rf_t wf1 rc_X10_fewest_ok 38 (68, [some (.ref 0), some (.int l1), some (.int s37.1), some (.int s37.2)], [], σ) rfl rfl c14 rfl ?_
        exact ok_X10_fewest_j68 d l1 s37.1 s37.2 σ o h kl kx
      · rw [if_neg c14] at h
        refine rf_f wf1 rc_X10_fewest_ok 38 (64, [some (.ref 0), some (.int l1), some (.int s37.1), some (.int s37.2)], [], σ) rfl rfl c14 rfl ?_
        refine rf_b wf1 rc_X10_fewest_ok 39 2 (69, [some (.ref 0), some (.int l1), some (.int s37.1), some (.int s37.2)], [.int s37.2], σ) rfl ?_
        refine rf_fg [true, true, false, true] [some (.ref 0), some (.int l1), none, some (.int s37.2)] rfl ?_
        exact ok_X10_fewest_j69 d l1 s37.2 s37.2 σ o h kl kx
def f_X10_fewest (σ : rf_S) : Option (Int32 × rf_S) := if (σ.1 0 17) ≠ 0 then ((f_X10_partsBy ((1 <<< ((σ.1 0 17) &&& 31)) - 1) σ).bind (fun q2 => (rf_lp (f_X10_fewest_b37 (q2 - q2 / 100 * 100) σ) 5000 (((1 <<< ((σ.1 0 17) &&& 31)) - 1), ((1 <<< ((σ.1 0 17) &&& 31)) - 1))).bind (fun e15 => (f_X10_tells e15 σ).bind (fun q17 => (f_X10_bits e15 q17.2).bind (fun q19 => some (q19, q17.2)))))) else (some ((-4), σ))
set_option maxHeartbeats 2000000 in
theorem ok_X10_fewest (d : Nat) (σ : rf_S) (q : (Int32 × rf_S)) (h : f_X10_fewest σ = some q) : rf_Ex ly1 (d + 8) mX10_fewest [.ref 0] σ (some (.int q.1) : Option Value) q.2 := by
  unfold f_X10_fewest at h
  refine rf_ex mw_X10_fewest [some (.ref 0), none, none, none] (Nat.le_of_ble_eq_true rfl) rfl ?_
  refine rf_b wf1 rc_X10_fewest_ok 0 2 (4, [some (.ref 0), none, none, none], [.int (σ.1 0 17)], σ) rfl ?_
  by_cases c1 : (σ.1 0 17) ≠ 0
  · rw [if_pos c1] at h
    refine rf_t wf1 rc_X10_fewest_ok 2 (10, [some (.ref 0), none, none, none], [], σ) rfl rfl c1 rfl ?_
    refine rf_b wf1 rc_X10_fewest_ok 5 7 (19, [some (.ref 0), none, none, none], [.int ((1 <<< ((σ.1 0 17) &&& 31)) - 1), .ref 0], σ) rfl ?_
    obtain ⟨q2, h3, h⟩ := Option.bind_eq_some_iff.mp h
    refine rf_cv1 (Mt := mX10_partsBy) wf1 rc_X10_fewest_ok 12 false rfl (List.mem_of_getElem? (i := 186) rfl) mw_X10_partsBy rfl 0 [.int ((1 <<< ((σ.1 0 17) &&& 31)) - 1)] [] rfl rfl rfl (Nat.le_of_ble_eq_true rfl) (ok_X10_partsBy d ((1 <<< ((σ.1 0 17) &&& 31)) - 1) σ q2 h3) ?_
    show rf_G _ _ _ (22, [some (.ref 0), none, none, none], [.int q2], σ) _ _
    refine rf_b wf1 rc_X10_fewest_ok 13 1 (24, [some (.ref 0), none, none, none], [.int 100, .int q2], σ) rfl ?_
    refine rf_nz wf1 rc_X10_fewest_ok 14 (25, [some (.ref 0), none, none, none], [.int (q2 - q2 / 100 * 100)], σ) rfl rfl (c := (100 : Int32) = 0) (by decide) rfl ?_
    refine rf_b wf1 rc_X10_fewest_ok 15 10 (37, [some (.ref 0), some (.int (q2 - q2 / 100 * 100)), some (.int ((1 <<< ((σ.1 0 17) &&& 31)) - 1)), some (.int ((1 <<< ((σ.1 0 17) &&& 31)) - 1))], [], σ) rfl ?_
    obtain ⟨e15, h16, h⟩ := Option.bind_eq_some_iff.mp h
    refine rf_lpG (b := f_X10_fewest_b37 (q2 - q2 / 100 * 100) σ) (G := fun (s37 : Int32 × Int32) => rf_G ly1 (d + 7) mX10_fewest (37, [some (.ref 0), some (.int (q2 - q2 / 100 * 100)), some (.int s37.1), some (.int s37.2)], [], σ) (some (.int q.1) : Option Value) q.2) (K := fun (e : (Int32)) => rf_G ly1 (d + 7) mX10_fewest (76, [some (.ref 0), none, some (.int e), none], [], σ) (some (.int q.1) : Option Value) q.2) (fun (s37 : Int32 × Int32) (o : (Int32 × Int32) ⊕ (Int32)) hb kl kx => ok_X10_fewest_b37 d (q2 - q2 / 100 * 100) σ s37 o hb kl kx) 5000 (((1 <<< ((σ.1 0 17) &&& 31)) - 1), ((1 <<< ((σ.1 0 17) &&& 31)) - 1)) e15 h16 ?_
    show rf_G _ _ _ (76, [some (.ref 0), none, some (.int e15), none], [], σ) _ _
    refine rf_b wf1 rc_X10_fewest_ok 45 2 (78, [some (.ref 0), none, some (.int e15), none], [.int e15, .ref 0], σ) rfl ?_
    obtain ⟨q17, h18, h⟩ := Option.bind_eq_some_iff.mp h
    refine rf_cv1 (Mt := mX10_tells) wf1 rc_X10_fewest_ok 47 false rfl (List.mem_of_getElem? (i := 146) rfl) mw_X10_tells rfl 0 [.int e15] [] rfl rfl rfl (Nat.le_of_ble_eq_true rfl) (ok_X10_tells (d + 6) e15 σ q17 h18) ?_
    show rf_G _ _ _ (81, [some (.ref 0), none, some (.int e15), none], [.int q17.1], q17.2) _ _
    refine rf_b wf1 rc_X10_fewest_ok 48 2 (83, [some (.ref 0), none, some (.int e15), none], [.int e15], q17.2) rfl ?_
    obtain ⟨q19, h20, h⟩ := Option.bind_eq_some_iff.mp h
    refine rf_cs1 (Mt := mX10_bits) rc_X10_fewest_ok 50 false rfl (List.mem_of_getElem? (i := 170) rfl) mw_X10_bits rfl [.int e15] [] rfl rfl (Nat.le_of_ble_eq_true rfl) (ok_X10_bits (d + 6) e15 q17.2 q19 h20) ?_
    show rf_G _ _ _ (86, [some (.ref 0), none, some (.int e15), none], [.int q19], q17.2) _ _
    obtain rfl := Option.some.inj h
    exact rf_ri rc_X10_fewest_ok 51 rfl rfl
  · rw [if_neg c1] at h
    refine rf_f wf1 rc_X10_fewest_ok 2 (7, [some (.ref 0), none, none, none], [], σ) rfl rfl c1 rfl ?_
    refine rf_b wf1 rc_X10_fewest_ok 3 1 (9, [some (.ref 0), none, none, none], [.int (-4)], σ) rfl ?_
    obtain rfl := Option.some.inj h
    exact rf_ri rc_X10_fewest_ok 4 rfl rfl
def rc_X10_alike : List rf_E := [(0, .iload_n 1, 1, 1), (1, .iconst 0, 1, 0), (2, .bipush 30, 2, 0), (4, .invokestatic 78, 3, 0), (7, .ifCond .ne 5, 3, 12), (10, .iconst (-1), 1, 0), (11, .ireturn, 1, 0), (12, .aload_n 0, 1, 0), (13, .getfield 75, 3, 1017), (16, .ifCond .ne 8, 3, 24), (19, .bipush (-4), 2, 0), (21, .goto 16, 3, 37), (24, .aload_n 0, 1, 0), (25, .iconst 1, 1, 0), (26, .aload_n 0, 1, 0), (27, .getfield 75, 3, 1017), (30, .ishl, 1, 0), (31, .iconst 1, 1, 0), (32, .isub, 1, 0), (33, .iload_n 1, 1, 1), (34, .invokevirtual 241, 3, 0), (37, .ireturn, 1, 0)]
theorem rc_X10_alike_ok : rf_rc mX10_alike rc_X10_alike = true := by decide +kernel
theorem mw_X10_alike : rf_mw mX10_alike := ⟨rf_mt_ok _ (List.mem_of_getElem? (i := 220) rfl), fun h => absurd h (by decide), fun _ => ⟨rf_mi_ok _ (List.mem_of_getElem? (i := 198) rfl), rf_mv_ok _ (List.mem_of_getElem? (i := 198) rfl)⟩, rf_mq_8 _ (List.mem_of_getElem? (i := 20) rfl)⟩
def f_X10_alike (p0 : Int32) (σ : rf_S) : Option Int32 := (f_X10_in p0 0 30 σ).bind (fun q1 => if q1 ≠ 0 then (if (σ.1 0 17) ≠ 0 then ((f_X10_alikeBy ((1 <<< ((σ.1 0 17) &&& 31)) - 1) p0 σ).bind (fun q5 => some q5)) else (some (-4))) else (some (-1)))
set_option maxHeartbeats 2000000 in
theorem ok_X10_alike (d : Nat) (p0 : Int32) (σ : rf_S) (q : Int32) (h : f_X10_alike p0 σ = some q) : rf_Ex ly1 (d + 7) mX10_alike [.ref 0, .int p0] σ (some (.int q) : Option Value) σ := by
  unfold f_X10_alike at h
  refine rf_ex mw_X10_alike [some (.ref 0), some (.int p0)] (Nat.le_of_ble_eq_true rfl) rfl ?_
  refine rf_b wf1 rc_X10_alike_ok 0 3 (4, [some (.ref 0), some (.int p0)], [.int 30, .int 0, .int p0], σ) rfl ?_
  obtain ⟨q1, h2, h⟩ := Option.bind_eq_some_iff.mp h
  refine rf_cs1 (Mt := mX10_in) rc_X10_alike_ok 3 false rfl (List.mem_of_getElem? (i := 143) rfl) mw_X10_in rfl [.int p0, .int 0, .int 30] [] rfl rfl (Nat.le_of_ble_eq_true rfl) (ok_X10_in (d + 5) p0 0 30 σ q1 h2) ?_
  show rf_G _ _ _ (7, [some (.ref 0), some (.int p0)], [.int q1], σ) _ _
  by_cases c3 : q1 ≠ 0
  · rw [if_pos c3] at h
    refine rf_t wf1 rc_X10_alike_ok 4 (12, [some (.ref 0), some (.int p0)], [], σ) rfl rfl c3 rfl ?_
    refine rf_b wf1 rc_X10_alike_ok 7 2 (16, [some (.ref 0), some (.int p0)], [.int (σ.1 0 17)], σ) rfl ?_
    by_cases c4 : (σ.1 0 17) ≠ 0
    · rw [if_pos c4] at h
      refine rf_t wf1 rc_X10_alike_ok 9 (24, [some (.ref 0), some (.int p0)], [], σ) rfl rfl c4 rfl ?_
      refine rf_b wf1 rc_X10_alike_ok 12 8 (34, [some (.ref 0), some (.int p0)], [.int p0, .int ((1 <<< ((σ.1 0 17) &&& 31)) - 1), .ref 0], σ) rfl ?_
      obtain ⟨q5, h6, h⟩ := Option.bind_eq_some_iff.mp h
      refine rf_cv1 (Mt := mX10_alikeBy) wf1 rc_X10_alike_ok 20 false rfl (List.mem_of_getElem? (i := 185) rfl) mw_X10_alikeBy rfl 0 [.int ((1 <<< ((σ.1 0 17) &&& 31)) - 1), .int p0] [] rfl rfl rfl (Nat.le_of_ble_eq_true rfl) (ok_X10_alikeBy d ((1 <<< ((σ.1 0 17) &&& 31)) - 1) p0 σ q5 h6) ?_
      show rf_G _ _ _ (37, [some (.ref 0), some (.int p0)], [.int q5], σ) _ _
      obtain rfl := Option.some.inj h
      exact rf_ri rc_X10_alike_ok 21 rfl rfl
    · rw [if_neg c4] at h
      refine rf_f wf1 rc_X10_alike_ok 9 (19, [some (.ref 0), some (.int p0)], [], σ) rfl rfl c4 rfl ?_
      refine rf_b wf1 rc_X10_alike_ok 10 2 (37, [some (.ref 0), some (.int p0)], [.int (-4)], σ) rfl ?_
      obtain rfl := Option.some.inj h
      exact rf_ri rc_X10_alike_ok 21 rfl rfl
  · rw [if_neg c3] at h
    refine rf_f wf1 rc_X10_alike_ok 4 (10, [some (.ref 0), some (.int p0)], [], σ) rfl rfl c3 rfl ?_
    refine rf_b wf1 rc_X10_alike_ok 5 1 (11, [some (.ref 0), some (.int p0)], [.int (-1)], σ) rfl ?_
    obtain rfl := Option.some.inj h
    exact rf_ri rc_X10_alike_ok 6 rfl rfl
def rc_X10_wrongPairs : List rf_E := [(0, .aload_n 0, 1, 0), (1, .getfield 7, 3, 1000), (4, .iload_n 1, 1, 1), (5, .iaload, 1, 0), (6, .ifCond .ge 9, 3, 15), (9, .aload_n 0, 1, 0), (10, .iconst 1, 1, 0), (11, .invokevirtual 85, 3, 0), (14, .ireturn, 1, 0), (15, .aload_n 0, 1, 0), (16, .getfield 7, 3, 1000), (19, .iload_n 1, 1, 1), (20, .iaload, 1, 0), (21, .iconst 2, 1, 0), (22, .irem, 1, 0), (23, .iconst 1, 1, 0), (24, .if_icmp .ne 9, 3, 33), (27, .aload_n 0, 1, 0), (28, .iconst 5, 1, 0), (29, .invokevirtual 85, 3, 0), (32, .ireturn, 1, 0), (33, .iconst 1, 1, 0), (34, .istore_n 3, 1, 3), (35, .iconst 0, 1, 0), (36, .istore 4, 2, 4), (38, .iload 4, 2, 4), (40, .aload_n 0, 1, 0), (41, .getfield 7, 3, 1000), (44, .iload_n 1, 1, 1), (45, .iaload, 1, 0), (46, .if_icmp .ge 50, 3, 96), (49, .iload_n 3, 1, 3), (50, .ifCond .eq 38, 3, 88), (53, .aload_n 0, 1, 0), (54, .getfield 13, 3, 1001), (57, .bipush 40, 2, 0), (59, .iload_n 1, 1, 1), (60, .imul, 1, 0), (61, .iload 4, 2, 4), (63, .iadd, 1, 0), (64, .iaload, 1, 0), (65, .iconst 0, 1, 0), (66, .iload 4, 2, 4), (68, .iconst 2, 1, 0), (69, .irem, 1, 0), (70, .ifCond .ne 7, 3, 77), (73, .iload_n 2, 1, 2), (74, .goto 4, 3, 78), (77, .iconst 1, 1, 0), (78, .invokestatic 78, 3, 0), (81, .ifCond .eq 7, 3, 88), (84, .iconst 1, 1, 0), (85, .goto 4, 3, 89), (88, .iconst 0, 1, 0), (89, .istore_n 3, 1, 3), (90, .iinc 4 1, 3, 4), (93, .goto (-55), 3, 38), (96, .iload_n 3, 1, 3), (97, .ifCond .eq 7, 3, 104), (100, .iconst 0, 1, 0), (101, .goto 8, 3, 109), (104, .aload_n 0, 1, 0), (105, .iconst 3, 1, 0), (106, .invokevirtual 85, 3, 0), (109, .ireturn, 1, 0)]
theorem rc_X10_wrongPairs_ok : rf_rc mX10_wrongPairs rc_X10_wrongPairs = true := by decide +kernel
theorem mw_X10_wrongPairs : rf_mw mX10_wrongPairs := ⟨rf_mt_ok _ (List.mem_of_getElem? (i := 221) rfl), fun h => absurd h (by decide), fun _ => ⟨rf_mi_ok _ (List.mem_of_getElem? (i := 199) rfl), rf_mv_ok _ (List.mem_of_getElem? (i := 199) rfl)⟩, rf_mq_8 _ (List.mem_of_getElem? (i := 21) rfl)⟩
def f_X10_wrongPairs_j89 (l1 : Int32) (l2 : Int32) (l4 : Int32) (t0 : Int32) (σ : rf_S) : Option ((Int32 × Int32) ⊕ (Int32)) := some (.inl (t0, (l4 + 1)))
set_option maxHeartbeats 2000000 in
theorem ok_X10_wrongPairs_j89 (d : Nat) (l1 : Int32) (l2 : Int32) (l4 : Int32) (t0 : Int32) (σ : rf_S) (o : ((Int32 × Int32) ⊕ (Int32))) (h : f_X10_wrongPairs_j89 l1 l2 l4 t0 σ = some o) {r : Option Value} {σr : rf_S} (kl : ∀ s', o = .inl s' → rf_G ly1 (d + 1) mX10_wrongPairs (38, [some (.ref 0), some (.int l1), some (.int l2), some (.int s'.1), some (.int s'.2)], [], σ) r σr) (kx : ∀ e, o = .inr e → rf_G ly1 (d + 1) mX10_wrongPairs (96, [some (.ref 0), none, none, some (.int e), none], [], σ) r σr) : rf_G ly1 (d + 1) mX10_wrongPairs (89, [some (.ref 0), some (.int l1), some (.int l2), none, some (.int l4)], [.int t0], σ) r σr := by
  unfold f_X10_wrongPairs_j89 at h
  refine rf_b wf1 rc_X10_wrongPairs_ok 54 3 (38, [some (.ref 0), some (.int l1), some (.int l2), some (.int t0), some (.int (l4 + 1))], [], σ) rfl ?_
  exact kl (t0, (l4 + 1)) (Option.some.inj h).symm
def f_X10_wrongPairs_j88 (l1 : Int32) (l2 : Int32) (l4 : Int32) (σ : rf_S) : Option ((Int32 × Int32) ⊕ (Int32)) := f_X10_wrongPairs_j89 l1 l2 l4 0 σ
set_option maxHeartbeats 2000000 in
theorem ok_X10_wrongPairs_j88 (d : Nat) (l1 : Int32) (l2 : Int32) (l4 : Int32) (σ : rf_S) (o : ((Int32 × Int32) ⊕ (Int32))) (h : f_X10_wrongPairs_j88 l1 l2 l4 σ = some o) {r : Option Value} {σr : rf_S} (kl : ∀ s', o = .inl s' → rf_G ly1 (d + 1) mX10_wrongPairs (38, [some (.ref 0), some (.int l1), some (.int l2), some (.int s'.1), some (.int s'.2)], [], σ) r σr) (kx : ∀ e, o = .inr e → rf_G ly1 (d + 1) mX10_wrongPairs (96, [some (.ref 0), none, none, some (.int e), none], [], σ) r σr) : rf_G ly1 (d + 1) mX10_wrongPairs (88, [some (.ref 0), some (.int l1), some (.int l2), none, some (.int l4)], [], σ) r σr := by
  unfold f_X10_wrongPairs_j88 at h
  refine rf_b wf1 rc_X10_wrongPairs_ok 53 1 (89, [some (.ref 0), some (.int l1), some (.int l2), none, some (.int l4)], [.int 0], σ) rfl ?_
  exact ok_X10_wrongPairs_j89 d l1 l2 l4 0 σ o h kl kx
def f_X10_wrongPairs_j78 (l1 : Int32) (l2 : Int32) (l4 : Int32) (t0 : Int32) (t1 : Int32) (t2 : Int32) (σ : rf_S) : Option ((Int32 × Int32) ⊕ (Int32)) := (f_X10_in t2 t1 t0 σ).bind (fun q12 => if q12 = 0 then (f_X10_wrongPairs_j88 l1 l2 l4 σ) else (f_X10_wrongPairs_j89 l1 l2 l4 1 σ))
set_option maxHeartbeats 2000000 in
theorem ok_X10_wrongPairs_j78 (d : Nat) (l1 : Int32) (l2 : Int32) (l4 : Int32) (t0 : Int32) (t1 : Int32) (t2 : Int32) (σ : rf_S) (o : ((Int32 × Int32) ⊕ (Int32))) (h : f_X10_wrongPairs_j78 l1 l2 l4 t0 t1 t2 σ = some o) {r : Option Value} {σr : rf_S} (kl : ∀ s', o = .inl s' → rf_G ly1 (d + 1) mX10_wrongPairs (38, [some (.ref 0), some (.int l1), some (.int l2), some (.int s'.1), some (.int s'.2)], [], σ) r σr) (kx : ∀ e, o = .inr e → rf_G ly1 (d + 1) mX10_wrongPairs (96, [some (.ref 0), none, none, some (.int e), none], [], σ) r σr) : rf_G ly1 (d + 1) mX10_wrongPairs (78, [some (.ref 0), some (.int l1), some (.int l2), none, some (.int l4)], [.int t0, .int t1, .int t2], σ) r σr := by
  unfold f_X10_wrongPairs_j78 at h
  obtain ⟨q12, h13, h⟩ := Option.bind_eq_some_iff.mp h
  refine rf_cs1 (Mt := mX10_in) rc_X10_wrongPairs_ok 49 false rfl (List.mem_of_getElem? (i := 143) rfl) mw_X10_in rfl [.int t2, .int t1, .int t0] [] rfl rfl (Nat.le_of_ble_eq_true rfl) (ok_X10_in d t2 t1 t0 σ q12 h13) ?_
  show rf_G _ _ _ (81, [some (.ref 0), some (.int l1), some (.int l2), none, some (.int l4)], [.int q12], σ) _ _
  by_cases c14 : q12 = 0
  · rw [if_pos c14] at h
    refine rf_t wf1 rc_X10_wrongPairs_ok 50 (88, [some (.ref 0), some (.int l1), some (.int l2), none, some (.int l4)], [], σ) rfl rfl c14 rfl ?_
    exact ok_X10_wrongPairs_j88 d l1 l2 l4 σ o h kl kx
  · rw [if_neg c14] at h
    refine rf_f wf1 rc_X10_wrongPairs_ok 50 (84, [some (.ref 0), some (.int l1), some (.int l2), none, some (.int l4)], [], σ) rfl rfl c14 rfl ?_
    refine rf_b wf1 rc_X10_wrongPairs_ok 51 2 (89, [some (.ref 0), some (.int l1), some (.int l2), none, some (.int l4)], [.int 1], σ) rfl ?_
    exact ok_X10_wrongPairs_j89 d l1 l2 l4 1 σ o h kl kx
def f_X10_wrongPairs_b38 (l1 : Int32) (l2 : Int32) (σ : rf_S) (s38 : Int32 × Int32) : Option ((Int32 × Int32) ⊕ (Int32)) := if rf_ck ly1 0 1 l1 = true then (if (σ.1 1 l1.toNatClampNeg) ≤ s38.2 then (some (.inr s38.1)) else (if s38.1 = 0 then (f_X10_wrongPairs_j88 l1 l2 s38.2 σ) else (if rf_ck ly1 0 2 ((40 * l1) + s38.2) = true then (if (s38.2 - s38.2 / 2 * 2) ≠ 0 then (f_X10_wrongPairs_j78 l1 l2 s38.2 1 0 (σ.1 2 ((40 * l1) + s38.2).toNatClampNeg) σ) else (f_X10_wrongPairs_j78 l1 l2 s38.2 l2 0 (σ.1 2 ((40 * l1) + s38.2).toNatClampNeg) σ)) else none))) else none
set_option maxHeartbeats 2000000 in
theorem ok_X10_wrongPairs_b38 (d : Nat) (l1 : Int32) (l2 : Int32) (σ : rf_S) (s38 : Int32 × Int32) (o : ((Int32 × Int32) ⊕ (Int32))) (h : f_X10_wrongPairs_b38 l1 l2 σ s38 = some o) {r : Option Value} {σr : rf_S} (kl : ∀ s', o = .inl s' → rf_G ly1 (d + 1) mX10_wrongPairs (38, [some (.ref 0), some (.int l1), some (.int l2), some (.int s'.1), some (.int s'.2)], [], σ) r σr) (kx : ∀ e, o = .inr e → rf_G ly1 (d + 1) mX10_wrongPairs (96, [some (.ref 0), none, none, some (.int e), none], [], σ) r σr) : rf_G ly1 (d + 1) mX10_wrongPairs (38, [some (.ref 0), some (.int l1), some (.int l2), some (.int s38.1), some (.int s38.2)], [], σ) r σr := by
  unfold f_X10_wrongPairs_b38 at h
  refine rf_b wf1 rc_X10_wrongPairs_ok 25 4 (45, [some (.ref 0), some (.int l1), some (.int l2), some (.int s38.1), some (.int s38.2)], [.int l1, .ref 1, .int s38.2], σ) rfl ?_
  obtain ⟨g6, h⟩ := rf_ifn h
  refine rf_gd wf1 rc_X10_wrongPairs_ok 29 (46, [some (.ref 0), some (.int l1), some (.int l2), some (.int s38.1), some (.int s38.2)], [.int (σ.1 1 l1.toNatClampNeg), .int s38.2], σ) rfl rfl g6 rfl ?_
  by_cases c7 : (σ.1 1 l1.toNatClampNeg) ≤ s38.2
  · rw [if_pos c7] at h
    refine rf_t wf1 rc_X10_wrongPairs_ok 30 (96, [some (.ref 0), some (.int l1), some (.int l2), some (.int s38.1), some (.int s38.2)], [], σ) rfl rfl c7 rfl ?_
    refine rf_fg [true, false, false, true, false] [some (.ref 0), none, none, some (.int s38.1), none] rfl ?_
    exact kx s38.1 (Option.some.inj h).symm
  · rw [if_neg c7] at h
    refine rf_f wf1 rc_X10_wrongPairs_ok 30 (49, [some (.ref 0), some (.int l1), some (.int l2), some (.int s38.1), some (.int s38.2)], [], σ) rfl rfl c7 rfl ?_
    refine rf_b wf1 rc_X10_wrongPairs_ok 31 1 (50, [some (.ref 0), some (.int l1), some (.int l2), some (.int s38.1), some (.int s38.2)], [.int s38.1], σ) rfl ?_
    by_cases c8 : s38.1 = 0
    · rw [if_pos c8] at h
      refine rf_t wf1 rc_X10_wrongPairs_ok 32 (88, [some (.ref 0), some (.int l1), some (.int l2), some (.int s38.1), some (.int s38.2)], [], σ) rfl rfl c8 rfl ?_
      refine rf_fg [true, true, true, false, true] [some (.ref 0), some (.int l1), some (.int l2), none, some (.int s38.2)] rfl ?_
      exact ok_X10_wrongPairs_j88 d l1 l2 s38.2 σ o h kl kx
    · rw [if_neg c8] at h
      refine rf_f wf1 rc_X10_wrongPairs_ok 32 (53, [some (.ref 0), some (.int l1), some (.int l2), some (.int s38.1), some (.int s38.2)], [], σ) rfl rfl c8 rfl ?_
      refine rf_b wf1 rc_X10_wrongPairs_ok 33 7 (64, [some (.ref 0), some (.int l1), some (.int l2), some (.int s38.1), some (.int s38.2)], [.int ((40 * l1) + s38.2), .ref 2], σ) rfl ?_
      obtain ⟨g9, h⟩ := rf_ifn h
      refine rf_gd wf1 rc_X10_wrongPairs_ok 40 (65, [some (.ref 0), some (.int l1), some (.int l2), some (.int s38.1), some (.int s38.2)], [.int (σ.1 2 ((40 * l1) + s38.2).toNatClampNeg)], σ) rfl rfl g9 rfl ?_
      refine rf_b wf1 rc_X10_wrongPairs_ok 41 3 (69, [some (.ref 0), some (.int l1), some (.int l2), some (.int s38.1), some (.int s38.2)], [.int 2, .int s38.2, .int 0, .int (σ.1 2 ((40 * l1) + s38.2).toNatClampNeg)], σ) rfl ?_
      refine rf_nz wf1 rc_X10_wrongPairs_ok 44 (70, [some (.ref 0), some (.int l1), some (.int l2), some (.int s38.1), some (.int s38.2)], [.int (s38.2 - s38.2 / 2 * 2), .int 0, .int (σ.1 2 ((40 * l1) + s38.2).toNatClampNeg)], σ) rfl rfl (c := (2 : Int32) = 0) (by decide) rfl ?_
      by_cases c11 : (s38.2 - s38.2 / 2 * 2) ≠ 0
      · rw [if_pos c11] at h
        refine rf_t wf1 rc_X10_wrongPairs_ok 45 (77, [some (.ref 0), some (.int l1), some (.int l2), some (.int s38.1), some (.int s38.2)], [.int 0, .int (σ.1 2 ((40 * l1) + s38.2).toNatClampNeg)], σ) rfl rfl c11 rfl ?_
        refine rf_b wf1 rc_X10_wrongPairs_ok 48 1 (78, [some (.ref 0), some (.int l1), some (.int l2), some (.int s38.1), some (.int s38.2)], [.int 1, .int 0, .int (σ.1 2 ((40 * l1) + s38.2).toNatClampNeg)], σ) rfl ?_
        refine rf_fg [true, true, true, false, true] [some (.ref 0), some (.int l1), some (.int l2), none, some (.int s38.2)] rfl ?_
        exact ok_X10_wrongPairs_j78 d l1 l2 s38.2 1 0 (σ.1 2 ((40 * l1) + s38.2).toNatClampNeg) σ o h kl kx
      · rw [if_neg c11] at h
        refine rf_f wf1 rc_X10_wrongPairs_ok 45 (73, [some (.ref 0), some (.int l1), some (.int l2), some (.int s38.1), some (.int s38.2)], [.int 0, .int (σ.1 2 ((40 * l1) + s38.2).toNatClampNeg)], σ) rfl rfl c11 rfl ?_
        refine rf_b wf1 rc_X10_wrongPairs_ok 46 2 (78, [some (.ref 0), some (.int l1), some (.int l2), some (.int s38.1), some (.int s38.2)], [.int l2, .int 0, .int (σ.1 2 ((40 * l1) + s38.2).toNatClampNeg)], σ) rfl ?_
        refine rf_fg [true, true, true, false, true] [some (.ref 0), some (.int l1), some (.int l2), none, some (.int s38.2)] rfl ?_
        exact ok_X10_wrongPairs_j78 d l1 l2 s38.2 l2 0 (σ.1 2 ((40 * l1) + s38.2).toNatClampNeg) σ o h kl kx
def f_X10_wrongPairs (p0 : Int32) (p1 : Int32) (σ : rf_S) : Option (Int32 × rf_S) := if rf_ck ly1 0 1 p0 = true then (if 0 ≤ (σ.1 1 p0.toNatClampNeg) then (if rf_ck ly1 0 1 p0 = true then (if ((σ.1 1 p0.toNatClampNeg) - (σ.1 1 p0.toNatClampNeg) / 2 * 2) ≠ 1 then ((rf_lp (f_X10_wrongPairs_b38 p0 p1 σ) 5000 (1, 0)).bind (fun e15 => if e15 = 0 then ((f_X10_finds 3 σ).bind (fun q18 => some (q18.1, q18.2))) else (some (0, σ)))) else ((f_X10_finds 5 σ).bind (fun q20 => some (q20.1, q20.2)))) else none) else ((f_X10_finds 1 σ).bind (fun q22 => some (q22.1, q22.2)))) else none
set_option maxHeartbeats 2000000 in
theorem ok_X10_wrongPairs (d : Nat) (p0 : Int32) (p1 : Int32) (σ : rf_S) (q : (Int32 × rf_S)) (h : f_X10_wrongPairs p0 p1 σ = some q) : rf_Ex ly1 (d + 2) mX10_wrongPairs [.ref 0, .int p0, .int p1] σ (some (.int q.1) : Option Value) q.2 := by
  unfold f_X10_wrongPairs at h
  refine rf_ex mw_X10_wrongPairs [some (.ref 0), some (.int p0), some (.int p1), none, none] (Nat.le_of_ble_eq_true rfl) rfl ?_
  refine rf_b wf1 rc_X10_wrongPairs_ok 0 3 (5, [some (.ref 0), some (.int p0), some (.int p1), none, none], [.int p0, .ref 1], σ) rfl ?_
  obtain ⟨g1, h⟩ := rf_ifn h
  refine rf_gd wf1 rc_X10_wrongPairs_ok 3 (6, [some (.ref 0), some (.int p0), some (.int p1), none, none], [.int (σ.1 1 p0.toNatClampNeg)], σ) rfl rfl g1 rfl ?_
  by_cases c2 : 0 ≤ (σ.1 1 p0.toNatClampNeg)
  · rw [if_pos c2] at h
    refine rf_t wf1 rc_X10_wrongPairs_ok 4 (15, [some (.ref 0), some (.int p0), some (.int p1), none, none], [], σ) rfl rfl c2 rfl ?_
    refine rf_b wf1 rc_X10_wrongPairs_ok 9 3 (20, [some (.ref 0), some (.int p0), some (.int p1), none, none], [.int p0, .ref 1], σ) rfl ?_
    obtain ⟨g3, h⟩ := rf_ifn h
    refine rf_gd wf1 rc_X10_wrongPairs_ok 12 (21, [some (.ref 0), some (.int p0), some (.int p1), none, none], [.int (σ.1 1 p0.toNatClampNeg)], σ) rfl rfl g3 rfl ?_
    refine rf_b wf1 rc_X10_wrongPairs_ok 13 1 (22, [some (.ref 0), some (.int p0), some (.int p1), none, none], [.int 2, .int (σ.1 1 p0.toNatClampNeg)], σ) rfl ?_
    refine rf_nz wf1 rc_X10_wrongPairs_ok 14 (23, [some (.ref 0), some (.int p0), some (.int p1), none, none], [.int ((σ.1 1 p0.toNatClampNeg) - (σ.1 1 p0.toNatClampNeg) / 2 * 2)], σ) rfl rfl (c := (2 : Int32) = 0) (by decide) rfl ?_
    refine rf_b wf1 rc_X10_wrongPairs_ok 15 1 (24, [some (.ref 0), some (.int p0), some (.int p1), none, none], [.int 1, .int ((σ.1 1 p0.toNatClampNeg) - (σ.1 1 p0.toNatClampNeg) / 2 * 2)], σ) rfl ?_
    by_cases c5 : ((σ.1 1 p0.toNatClampNeg) - (σ.1 1 p0.toNatClampNeg) / 2 * 2) ≠ 1
    · rw [if_pos c5] at h
      refine rf_t wf1 rc_X10_wrongPairs_ok 16 (33, [some (.ref 0), some (.int p0), some (.int p1), none, none], [], σ) rfl rfl c5 rfl ?_
      refine rf_b wf1 rc_X10_wrongPairs_ok 21 4 (38, [some (.ref 0), some (.int p0), some (.int p1), some (.int 1), some (.int 0)], [], σ) rfl ?_
      obtain ⟨e15, h16, h⟩ := Option.bind_eq_some_iff.mp h
      refine rf_lpG (b := f_X10_wrongPairs_b38 p0 p1 σ) (G := fun (s38 : Int32 × Int32) => rf_G ly1 (d + 1) mX10_wrongPairs (38, [some (.ref 0), some (.int p0), some (.int p1), some (.int s38.1), some (.int s38.2)], [], σ) (some (.int q.1) : Option Value) q.2) (K := fun (e : (Int32)) => rf_G ly1 (d + 1) mX10_wrongPairs (96, [some (.ref 0), none, none, some (.int e), none], [], σ) (some (.int q.1) : Option Value) q.2) (fun (s38 : Int32 × Int32) (o : (Int32 × Int32) ⊕ (Int32)) hb kl kx => ok_X10_wrongPairs_b38 d p0 p1 σ s38 o hb kl kx) 5000 (1, 0) e15 h16 ?_
      show rf_G _ _ _ (96, [some (.ref 0), none, none, some (.int e15), none], [], σ) _ _
      refine rf_b wf1 rc_X10_wrongPairs_ok 57 1 (97, [some (.ref 0), none, none, some (.int e15), none], [.int e15], σ) rfl ?_
      by_cases c17 : e15 = 0
      · rw [if_pos c17] at h
        refine rf_t wf1 rc_X10_wrongPairs_ok 58 (104, [some (.ref 0), none, none, some (.int e15), none], [], σ) rfl rfl c17 rfl ?_
        refine rf_b wf1 rc_X10_wrongPairs_ok 61 2 (106, [some (.ref 0), none, none, some (.int e15), none], [.int 3, .ref 0], σ) rfl ?_
        obtain ⟨q18, h19, h⟩ := Option.bind_eq_some_iff.mp h
        refine rf_cv1 (Mt := mX10_finds) wf1 rc_X10_wrongPairs_ok 63 false rfl (List.mem_of_getElem? (i := 144) rfl) mw_X10_finds rfl 0 [.int 3] [] rfl rfl rfl (Nat.le_of_ble_eq_true rfl) (ok_X10_finds d 3 σ q18 h19) ?_
        show rf_G _ _ _ (109, [some (.ref 0), none, none, some (.int e15), none], [.int q18.1], q18.2) _ _
        obtain rfl := Option.some.inj h
        exact rf_ri rc_X10_wrongPairs_ok 64 rfl rfl
      · rw [if_neg c17] at h
        refine rf_f wf1 rc_X10_wrongPairs_ok 58 (100, [some (.ref 0), none, none, some (.int e15), none], [], σ) rfl rfl c17 rfl ?_
        refine rf_b wf1 rc_X10_wrongPairs_ok 59 2 (109, [some (.ref 0), none, none, some (.int e15), none], [.int 0], σ) rfl ?_
        obtain rfl := Option.some.inj h
        exact rf_ri rc_X10_wrongPairs_ok 64 rfl rfl
    · rw [if_neg c5] at h
      refine rf_f wf1 rc_X10_wrongPairs_ok 16 (27, [some (.ref 0), some (.int p0), some (.int p1), none, none], [], σ) rfl rfl c5 rfl ?_
      refine rf_b wf1 rc_X10_wrongPairs_ok 17 2 (29, [some (.ref 0), some (.int p0), some (.int p1), none, none], [.int 5, .ref 0], σ) rfl ?_
      obtain ⟨q20, h21, h⟩ := Option.bind_eq_some_iff.mp h
      refine rf_cv1 (Mt := mX10_finds) wf1 rc_X10_wrongPairs_ok 19 false rfl (List.mem_of_getElem? (i := 144) rfl) mw_X10_finds rfl 0 [.int 5] [] rfl rfl rfl (Nat.le_of_ble_eq_true rfl) (ok_X10_finds d 5 σ q20 h21) ?_
      show rf_G _ _ _ (32, [some (.ref 0), some (.int p0), some (.int p1), none, none], [.int q20.1], q20.2) _ _
      obtain rfl := Option.some.inj h
      exact rf_ri rc_X10_wrongPairs_ok 20 rfl rfl
  · rw [if_neg c2] at h
    refine rf_f wf1 rc_X10_wrongPairs_ok 4 (9, [some (.ref 0), some (.int p0), some (.int p1), none, none], [], σ) rfl rfl c2 rfl ?_
    refine rf_b wf1 rc_X10_wrongPairs_ok 5 2 (11, [some (.ref 0), some (.int p0), some (.int p1), none, none], [.int 1, .ref 0], σ) rfl ?_
    obtain ⟨q22, h23, h⟩ := Option.bind_eq_some_iff.mp h
    refine rf_cv1 (Mt := mX10_finds) wf1 rc_X10_wrongPairs_ok 7 false rfl (List.mem_of_getElem? (i := 144) rfl) mw_X10_finds rfl 0 [.int 1] [] rfl rfl rfl (Nat.le_of_ble_eq_true rfl) (ok_X10_finds d 1 σ q22 h23) ?_
    show rf_G _ _ _ (14, [some (.ref 0), some (.int p0), some (.int p1), none, none], [.int q22.1], q22.2) _ _
    obtain rfl := Option.some.inj h
    exact rf_ri rc_X10_wrongPairs_ok 8 rfl rfl
def rc_X10_fitsBy : List rf_E := [(0, .iconst 0, 1, 0), (1, .istore_n 3, 1, 3), (2, .iconst 0, 1, 0), (3, .istore 4, 2, 4), (5, .iload 4, 2, 4), (7, .bipush 31, 2, 0), (9, .if_icmp .ge 130, 3, 139), (12, .iconst 1, 1, 0), (13, .istore 5, 2, 5), (15, .iconst 0, 1, 0), (16, .istore 6, 2, 6), (18, .iconst 2, 1, 0), (19, .iload 6, 2, 6), (21, .imul, 1, 0), (22, .aload_n 0, 1, 0), (23, .getfield 7, 3, 1000), (26, .iload_n 1, 1, 1), (27, .iaload, 1, 0), (28, .if_icmp .ge 89, 3, 117), (31, .aload_n 0, 1, 0), (32, .getfield 13, 3, 1001), (35, .bipush 40, 2, 0), (37, .iload_n 1, 1, 1), (38, .imul, 1, 0), (39, .iconst 2, 1, 0), (40, .iload 6, 2, 6), (42, .imul, 1, 0), (43, .iadd, 1, 0), (44, .iconst 1, 1, 0), (45, .iadd, 1, 0), (46, .iaload, 1, 0), (47, .iload 6, 2, 6), (49, .iload_n 2, 1, 2), (50, .if_icmp .ne 7, 3, 57), (53, .iconst 1, 1, 0), (54, .goto 4, 3, 58), (57, .iconst 0, 1, 0), (58, .ixor, 1, 0), (59, .istore 7, 2, 7), (61, .iload 5, 2, 5), (63, .ifCond .eq 45, 3, 108), (66, .aload_n 0, 1, 0), (67, .aload_n 0, 1, 0), (68, .getfield 47, 3, 1022), (71, .aload_n 0, 1, 0), (72, .getfield 13, 3, 1001), (75, .bipush 40, 2, 0), (77, .iload_n 1, 1, 1), (78, .imul, 1, 0), (79, .iconst 2, 1, 0), (80, .iload 6, 2, 6), (82, .imul, 1, 0), (83, .iadd, 1, 0), (84, .iaload, 1, 0), (85, .iload 4, 2, 4), (87, .invokevirtual 158, 3, 0), (90, .iload 7, 2, 7), (92, .iconst 1, 1, 0), (93, .if_icmp .ne 7, 3, 100), (96, .iconst 1, 1, 0), (97, .goto 4, 3, 101), (100, .iconst 0, 1, 0), (101, .if_icmp .ne 7, 3, 108), (104, .iconst 1, 1, 0), (105, .goto 4, 3, 109), (108, .iconst 0, 1, 0), (109, .istore 5, 2, 5), (111, .iinc 6 1, 3, 6), (114, .goto (-96), 3, 18), (117, .iload_n 3, 1, 3), (118, .iload 5, 2, 5), (120, .ifCond .eq 10, 3, 130), (123, .iconst 1, 1, 0), (124, .iload 4, 2, 4), (126, .ishl, 1, 0), (127, .goto 4, 3, 131), (130, .iconst 0, 1, 0), (131, .ior, 1, 0), (132, .istore_n 3, 1, 3), (133, .iinc 4 1, 3, 4), (136, .goto (-131), 3, 5), (139, .iload_n 3, 1, 3), (140, .ireturn, 1, 0)]
theorem rc_X10_fitsBy_ok : rf_rc mX10_fitsBy rc_X10_fitsBy = true := by decide +kernel
theorem mw_X10_fitsBy : rf_mw mX10_fitsBy := ⟨rf_mt_ok _ (List.mem_of_getElem? (i := 222) rfl), fun h => absurd h (by decide), fun _ => ⟨rf_mi_ok _ (List.mem_of_getElem? (i := 200) rfl), rf_mv_ok _ (List.mem_of_getElem? (i := 200) rfl)⟩, rf_mq_8 _ (List.mem_of_getElem? (i := 22) rfl)⟩
def f_X10_fitsBy_j109 (l1 : Int32) (l2 : Int32) (l3 : Int32) (l4 : Int32) (l6 : Int32) (t0 : Int32) (σ : rf_S) : Option ((Int32 × Int32) ⊕ (Int32)) := some (.inl (t0, (l6 + 1)))
set_option maxHeartbeats 2000000 in
theorem ok_X10_fitsBy_j109 (d : Nat) (l1 : Int32) (l2 : Int32) (l3 : Int32) (l4 : Int32) (l6 : Int32) (t0 : Int32) (σ : rf_S) (o : ((Int32 × Int32) ⊕ (Int32))) (h : f_X10_fitsBy_j109 l1 l2 l3 l4 l6 t0 σ = some o) {r : Option Value} {σr : rf_S} (kl : ∀ s', o = .inl s' → rf_G ly1 (d + 3) mX10_fitsBy (18, [some (.ref 0), some (.int l1), some (.int l2), some (.int l3), some (.int l4), some (.int s'.1), some (.int s'.2), none], [], σ) r σr) (kx : ∀ e, o = .inr e → rf_G ly1 (d + 3) mX10_fitsBy (117, [some (.ref 0), some (.int l1), some (.int l2), some (.int l3), some (.int l4), some (.int e), none, none], [], σ) r σr) : rf_G ly1 (d + 3) mX10_fitsBy (109, [some (.ref 0), some (.int l1), some (.int l2), some (.int l3), some (.int l4), none, some (.int l6), none], [.int t0], σ) r σr := by
  unfold f_X10_fitsBy_j109 at h
  refine rf_b wf1 rc_X10_fitsBy_ok 66 3 (18, [some (.ref 0), some (.int l1), some (.int l2), some (.int l3), some (.int l4), some (.int t0), some (.int (l6 + 1)), none], [], σ) rfl ?_
  exact kl (t0, (l6 + 1)) (Option.some.inj h).symm
def f_X10_fitsBy_j108 (l1 : Int32) (l2 : Int32) (l3 : Int32) (l4 : Int32) (l6 : Int32) (σ : rf_S) : Option ((Int32 × Int32) ⊕ (Int32)) := f_X10_fitsBy_j109 l1 l2 l3 l4 l6 0 σ
set_option maxHeartbeats 2000000 in
theorem ok_X10_fitsBy_j108 (d : Nat) (l1 : Int32) (l2 : Int32) (l3 : Int32) (l4 : Int32) (l6 : Int32) (σ : rf_S) (o : ((Int32 × Int32) ⊕ (Int32))) (h : f_X10_fitsBy_j108 l1 l2 l3 l4 l6 σ = some o) {r : Option Value} {σr : rf_S} (kl : ∀ s', o = .inl s' → rf_G ly1 (d + 3) mX10_fitsBy (18, [some (.ref 0), some (.int l1), some (.int l2), some (.int l3), some (.int l4), some (.int s'.1), some (.int s'.2), none], [], σ) r σr) (kx : ∀ e, o = .inr e → rf_G ly1 (d + 3) mX10_fitsBy (117, [some (.ref 0), some (.int l1), some (.int l2), some (.int l3), some (.int l4), some (.int e), none, none], [], σ) r σr) : rf_G ly1 (d + 3) mX10_fitsBy (108, [some (.ref 0), some (.int l1), some (.int l2), some (.int l3), some (.int l4), none, some (.int l6), none], [], σ) r σr := by
  unfold f_X10_fitsBy_j108 at h
  refine rf_b wf1 rc_X10_fitsBy_ok 65 1 (109, [some (.ref 0), some (.int l1), some (.int l2), some (.int l3), some (.int l4), none, some (.int l6), none], [.int 0], σ) rfl ?_
  exact ok_X10_fitsBy_j109 d l1 l2 l3 l4 l6 0 σ o h kl kx
def f_X10_fitsBy_j101 (l1 : Int32) (l2 : Int32) (l3 : Int32) (l4 : Int32) (l6 : Int32) (t0 : Int32) (t1 : Int32) (σ : rf_S) : Option ((Int32 × Int32) ⊕ (Int32)) := if t1 ≠ t0 then (f_X10_fitsBy_j108 l1 l2 l3 l4 l6 σ) else (f_X10_fitsBy_j109 l1 l2 l3 l4 l6 1 σ)
set_option maxHeartbeats 2000000 in
theorem ok_X10_fitsBy_j101 (d : Nat) (l1 : Int32) (l2 : Int32) (l3 : Int32) (l4 : Int32) (l6 : Int32) (t0 : Int32) (t1 : Int32) (σ : rf_S) (o : ((Int32 × Int32) ⊕ (Int32))) (h : f_X10_fitsBy_j101 l1 l2 l3 l4 l6 t0 t1 σ = some o) {r : Option Value} {σr : rf_S} (kl : ∀ s', o = .inl s' → rf_G ly1 (d + 3) mX10_fitsBy (18, [some (.ref 0), some (.int l1), some (.int l2), some (.int l3), some (.int l4), some (.int s'.1), some (.int s'.2), none], [], σ) r σr) (kx : ∀ e, o = .inr e → rf_G ly1 (d + 3) mX10_fitsBy (117, [some (.ref 0), some (.int l1), some (.int l2), some (.int l3), some (.int l4), some (.int e), none, none], [], σ) r σr) : rf_G ly1 (d + 3) mX10_fitsBy (101, [some (.ref 0), some (.int l1), some (.int l2), some (.int l3), some (.int l4), none, some (.int l6), none], [.int t0, .int t1], σ) r σr := by
  unfold f_X10_fitsBy_j101 at h
  by_cases c11 : t1 ≠ t0
  · rw [if_pos c11] at h
    refine rf_t wf1 rc_X10_fitsBy_ok 62 (108, [some (.ref 0), some (.int l1), some (.int l2), some (.int l3), some (.int l4), none, some (.int l6), none], [], σ) rfl rfl c11 rfl ?_
    exact ok_X10_fitsBy_j108 d l1 l2 l3 l4 l6 σ o h kl kx
  · rw [if_neg c11] at h
    refine rf_f wf1 rc_X10_fitsBy_ok 62 (104, [some (.ref 0), some (.int l1), some (.int l2), some (.int l3), some (.int l4), none, some (.int l6), none], [], σ) rfl rfl c11 rfl ?_
    refine rf_b wf1 rc_X10_fitsBy_ok 63 2 (109, [some (.ref 0), some (.int l1), some (.int l2), some (.int l3), some (.int l4), none, some (.int l6), none], [.int 1], σ) rfl ?_
    exact ok_X10_fitsBy_j109 d l1 l2 l3 l4 l6 1 σ o h kl kx
def f_X10_fitsBy_j58 (l1 : Int32) (l2 : Int32) (l3 : Int32) (l4 : Int32) (l5 : Int32) (l6 : Int32) (t0 : Int32) (t1 : Int32) (σ : rf_S) : Option ((Int32 × Int32) ⊕ (Int32)) := if l5 = 0 then (f_X10_fitsBy_j108 l1 l2 l3 l4 l6 σ) else (if rf_ck ly1 0 2 ((40 * l1) + (2 * l6)) = true then ((f_X10_wouldAt 12 (σ.1 2 ((40 * l1) + (2 * l6)).toNatClampNeg) l4 σ).bind (fun q8 => if (t1 ^^^ t0) ≠ 1 then (f_X10_fitsBy_j101 l1 l2 l3 l4 l6 0 q8 σ) else (f_X10_fitsBy_j101 l1 l2 l3 l4 l6 1 q8 σ))) else none)
set_option maxHeartbeats 2000000 in
theorem ok_X10_fitsBy_j58 (d : Nat) (l1 : Int32) (l2 : Int32) (l3 : Int32) (l4 : Int32) (l5 : Int32) (l6 : Int32) (t0 : Int32) (t1 : Int32) (σ : rf_S) (o : ((Int32 × Int32) ⊕ (Int32))) (h : f_X10_fitsBy_j58 l1 l2 l3 l4 l5 l6 t0 t1 σ = some o) {r : Option Value} {σr : rf_S} (kl : ∀ s', o = .inl s' → rf_G ly1 (d + 3) mX10_fitsBy (18, [some (.ref 0), some (.int l1), some (.int l2), some (.int l3), some (.int l4), some (.int s'.1), some (.int s'.2), none], [], σ) r σr) (kx : ∀ e, o = .inr e → rf_G ly1 (d + 3) mX10_fitsBy (117, [some (.ref 0), some (.int l1), some (.int l2), some (.int l3), some (.int l4), some (.int e), none, none], [], σ) r σr) : rf_G ly1 (d + 3) mX10_fitsBy (58, [some (.ref 0), some (.int l1), some (.int l2), some (.int l3), some (.int l4), some (.int l5), some (.int l6), none], [.int t0, .int t1], σ) r σr := by
  unfold f_X10_fitsBy_j58 at h
  refine rf_b wf1 rc_X10_fitsBy_ok 37 3 (63, [some (.ref 0), some (.int l1), some (.int l2), some (.int l3), some (.int l4), some (.int l5), some (.int l6), some (.int (t1 ^^^ t0))], [.int l5], σ) rfl ?_
  by_cases c6 : l5 = 0
  · rw [if_pos c6] at h
    refine rf_t wf1 rc_X10_fitsBy_ok 40 (108, [some (.ref 0), some (.int l1), some (.int l2), some (.int l3), some (.int l4), some (.int l5), some (.int l6), some (.int (t1 ^^^ t0))], [], σ) rfl rfl c6 rfl ?_
    refine rf_fg [true, true, true, true, true, false, true, false] [some (.ref 0), some (.int l1), some (.int l2), some (.int l3), some (.int l4), none, some (.int l6), none] rfl ?_
    exact ok_X10_fitsBy_j108 d l1 l2 l3 l4 l6 σ o h kl kx
  · rw [if_neg c6] at h
    refine rf_f wf1 rc_X10_fitsBy_ok 40 (66, [some (.ref 0), some (.int l1), some (.int l2), some (.int l3), some (.int l4), some (.int l5), some (.int l6), some (.int (t1 ^^^ t0))], [], σ) rfl rfl c6 rfl ?_
    refine rf_b wf1 rc_X10_fitsBy_ok 41 12 (84, [some (.ref 0), some (.int l1), some (.int l2), some (.int l3), some (.int l4), some (.int l5), some (.int l6), some (.int (t1 ^^^ t0))], [.int ((40 * l1) + (2 * l6)), .ref 2, .ref 12, .ref 0], σ) rfl ?_
    obtain ⟨g7, h⟩ := rf_ifn h
    refine rf_gd wf1 rc_X10_fitsBy_ok 53 (85, [some (.ref 0), some (.int l1), some (.int l2), some (.int l3), some (.int l4), some (.int l5), some (.int l6), some (.int (t1 ^^^ t0))], [.int (σ.1 2 ((40 * l1) + (2 * l6)).toNatClampNeg), .ref 12, .ref 0], σ) rfl rfl g7 rfl ?_
    refine rf_b wf1 rc_X10_fitsBy_ok 54 1 (87, [some (.ref 0), some (.int l1), some (.int l2), some (.int l3), some (.int l4), some (.int l5), some (.int l6), some (.int (t1 ^^^ t0))], [.int l4, .int (σ.1 2 ((40 * l1) + (2 * l6)).toNatClampNeg), .ref 12, .ref 0], σ) rfl ?_
    obtain ⟨q8, h9, h⟩ := Option.bind_eq_some_iff.mp h
    refine rf_cv1 (Mt := mX10_wouldAt) wf1 rc_X10_fitsBy_ok 55 false rfl (List.mem_of_getElem? (i := 160) rfl) mw_X10_wouldAt rfl 0 [.ref 12, .int (σ.1 2 ((40 * l1) + (2 * l6)).toNatClampNeg), .int l4] [] rfl rfl rfl (Nat.le_of_ble_eq_true rfl) (ok_X10_wouldAt d 12 (σ.1 2 ((40 * l1) + (2 * l6)).toNatClampNeg) l4 σ q8 h9) ?_
    show rf_G _ _ _ (90, [some (.ref 0), some (.int l1), some (.int l2), some (.int l3), some (.int l4), some (.int l5), some (.int l6), some (.int (t1 ^^^ t0))], [.int q8], σ) _ _
    refine rf_b wf1 rc_X10_fitsBy_ok 56 2 (93, [some (.ref 0), some (.int l1), some (.int l2), some (.int l3), some (.int l4), some (.int l5), some (.int l6), some (.int (t1 ^^^ t0))], [.int 1, .int (t1 ^^^ t0), .int q8], σ) rfl ?_
    by_cases c10 : (t1 ^^^ t0) ≠ 1
    · rw [if_pos c10] at h
      refine rf_t wf1 rc_X10_fitsBy_ok 58 (100, [some (.ref 0), some (.int l1), some (.int l2), some (.int l3), some (.int l4), some (.int l5), some (.int l6), some (.int (t1 ^^^ t0))], [.int q8], σ) rfl rfl c10 rfl ?_
      refine rf_b wf1 rc_X10_fitsBy_ok 61 1 (101, [some (.ref 0), some (.int l1), some (.int l2), some (.int l3), some (.int l4), some (.int l5), some (.int l6), some (.int (t1 ^^^ t0))], [.int 0, .int q8], σ) rfl ?_
      refine rf_fg [true, true, true, true, true, false, true, false] [some (.ref 0), some (.int l1), some (.int l2), some (.int l3), some (.int l4), none, some (.int l6), none] rfl ?_
      exact ok_X10_fitsBy_j101 d l1 l2 l3 l4 l6 0 q8 σ o h kl kx
    · rw [if_neg c10] at h
      refine rf_f wf1 rc_X10_fitsBy_ok 58 (96, [some (.ref 0), some (.int l1), some (.int l2), some (.int l3), some (.int l4), some (.int l5), some (.int l6), some (.int (t1 ^^^ t0))], [.int q8], σ) rfl rfl c10 rfl ?_
      refine rf_b wf1 rc_X10_fitsBy_ok 59 2 (101, [some (.ref 0), some (.int l1), some (.int l2), some (.int l3), some (.int l4), some (.int l5), some (.int l6), some (.int (t1 ^^^ t0))], [.int 1, .int q8], σ) rfl ?_
      refine rf_fg [true, true, true, true, true, false, true, false] [some (.ref 0), some (.int l1), some (.int l2), some (.int l3), some (.int l4), none, some (.int l6), none] rfl ?_
      exact ok_X10_fitsBy_j101 d l1 l2 l3 l4 l6 1 q8 σ o h kl kx
def f_X10_fitsBy_b18 (l1 : Int32) (l2 : Int32) (l3 : Int32) (l4 : Int32) (σ : rf_S) (s18 : Int32 × Int32) : Option ((Int32 × Int32) ⊕ (Int32)) := if rf_ck ly1 0 1 l1 = true then (if (σ.1 1 l1.toNatClampNeg) ≤ (2 * s18.2) then (some (.inr s18.1)) else (if rf_ck ly1 0 2 (((40 * l1) + (2 * s18.2)) + 1) = true then (if s18.2 ≠ l2 then (f_X10_fitsBy_j58 l1 l2 l3 l4 s18.1 s18.2 0 (σ.1 2 (((40 * l1) + (2 * s18.2)) + 1).toNatClampNeg) σ) else (f_X10_fitsBy_j58 l1 l2 l3 l4 s18.1 s18.2 1 (σ.1 2 (((40 * l1) + (2 * s18.2)) + 1).toNatClampNeg) σ)) else none)) else none
set_option maxHeartbeats 2000000 in
theorem ok_X10_fitsBy_b18 (d : Nat) (l1 : Int32) (l2 : Int32) (l3 : Int32) (l4 : Int32) (σ : rf_S) (s18 : Int32 × Int32) (o : ((Int32 × Int32) ⊕ (Int32))) (h : f_X10_fitsBy_b18 l1 l2 l3 l4 σ s18 = some o) {r : Option Value} {σr : rf_S} (kl : ∀ s', o = .inl s' → rf_G ly1 (d + 3) mX10_fitsBy (18, [some (.ref 0), some (.int l1), some (.int l2), some (.int l3), some (.int l4), some (.int s'.1), some (.int s'.2), none], [], σ) r σr) (kx : ∀ e, o = .inr e → rf_G ly1 (d + 3) mX10_fitsBy (117, [some (.ref 0), some (.int l1), some (.int l2), some (.int l3), some (.int l4), some (.int e), none, none], [], σ) r σr) : rf_G ly1 (d + 3) mX10_fitsBy (18, [some (.ref 0), some (.int l1), some (.int l2), some (.int l3), some (.int l4), some (.int s18.1), some (.int s18.2), none], [], σ) r σr := by
  unfold f_X10_fitsBy_b18 at h
  refine rf_b wf1 rc_X10_fitsBy_ok 11 6 (27, [some (.ref 0), some (.int l1), some (.int l2), some (.int l3), some (.int l4), some (.int s18.1), some (.int s18.2), none], [.int l1, .ref 1, .int (2 * s18.2)], σ) rfl ?_
  obtain ⟨g2, h⟩ := rf_ifn h
  refine rf_gd wf1 rc_X10_fitsBy_ok 17 (28, [some (.ref 0), some (.int l1), some (.int l2), some (.int l3), some (.int l4), some (.int s18.1), some (.int s18.2), none], [.int (σ.1 1 l1.toNatClampNeg), .int (2 * s18.2)], σ) rfl rfl g2 rfl ?_
  by_cases c3 : (σ.1 1 l1.toNatClampNeg) ≤ (2 * s18.2)
  · rw [if_pos c3] at h
    refine rf_t wf1 rc_X10_fitsBy_ok 18 (117, [some (.ref 0), some (.int l1), some (.int l2), some (.int l3), some (.int l4), some (.int s18.1), some (.int s18.2), none], [], σ) rfl rfl c3 rfl ?_
    refine rf_fg [true, true, true, true, true, true, false, true] [some (.ref 0), some (.int l1), some (.int l2), some (.int l3), some (.int l4), some (.int s18.1), none, none] rfl ?_
    exact kx s18.1 (Option.some.inj h).symm
  · rw [if_neg c3] at h
    refine rf_f wf1 rc_X10_fitsBy_ok 18 (31, [some (.ref 0), some (.int l1), some (.int l2), some (.int l3), some (.int l4), some (.int s18.1), some (.int s18.2), none], [], σ) rfl rfl c3 rfl ?_
    refine rf_b wf1 rc_X10_fitsBy_ok 19 11 (46, [some (.ref 0), some (.int l1), some (.int l2), some (.int l3), some (.int l4), some (.int s18.1), some (.int s18.2), none], [.int (((40 * l1) + (2 * s18.2)) + 1), .ref 2], σ) rfl ?_
    obtain ⟨g4, h⟩ := rf_ifn h
    refine rf_gd wf1 rc_X10_fitsBy_ok 30 (47, [some (.ref 0), some (.int l1), some (.int l2), some (.int l3), some (.int l4), some (.int s18.1), some (.int s18.2), none], [.int (σ.1 2 (((40 * l1) + (2 * s18.2)) + 1).toNatClampNeg)], σ) rfl rfl g4 rfl ?_
    refine rf_b wf1 rc_X10_fitsBy_ok 31 2 (50, [some (.ref 0), some (.int l1), some (.int l2), some (.int l3), some (.int l4), some (.int s18.1), some (.int s18.2), none], [.int l2, .int s18.2, .int (σ.1 2 (((40 * l1) + (2 * s18.2)) + 1).toNatClampNeg)], σ) rfl ?_
    by_cases c5 : s18.2 ≠ l2
    · rw [if_pos c5] at h
      refine rf_t wf1 rc_X10_fitsBy_ok 33 (57, [some (.ref 0), some (.int l1), some (.int l2), some (.int l3), some (.int l4), some (.int s18.1), some (.int s18.2), none], [.int (σ.1 2 (((40 * l1) + (2 * s18.2)) + 1).toNatClampNeg)], σ) rfl rfl c5 rfl ?_
      refine rf_b wf1 rc_X10_fitsBy_ok 36 1 (58, [some (.ref 0), some (.int l1), some (.int l2), some (.int l3), some (.int l4), some (.int s18.1), some (.int s18.2), none], [.int 0, .int (σ.1 2 (((40 * l1) + (2 * s18.2)) + 1).toNatClampNeg)], σ) rfl ?_
      exact ok_X10_fitsBy_j58 d l1 l2 l3 l4 s18.1 s18.2 0 (σ.1 2 (((40 * l1) + (2 * s18.2)) + 1).toNatClampNeg) σ o h kl kx
    · rw [if_neg c5] at h
      refine rf_f wf1 rc_X10_fitsBy_ok 33 (53, [some (.ref 0), some (.int l1), some (.int l2), some (.int l3), some (.int l4), some (.int s18.1), some (.int s18.2), none], [.int (σ.1 2 (((40 * l1) + (2 * s18.2)) + 1).toNatClampNeg)], σ) rfl rfl c5 rfl ?_
      refine rf_b wf1 rc_X10_fitsBy_ok 34 2 (58, [some (.ref 0), some (.int l1), some (.int l2), some (.int l3), some (.int l4), some (.int s18.1), some (.int s18.2), none], [.int 1, .int (σ.1 2 (((40 * l1) + (2 * s18.2)) + 1).toNatClampNeg)], σ) rfl ?_
      exact ok_X10_fitsBy_j58 d l1 l2 l3 l4 s18.1 s18.2 1 (σ.1 2 (((40 * l1) + (2 * s18.2)) + 1).toNatClampNeg) σ o h kl kx
def f_X10_fitsBy_j131 (l1 : Int32) (l2 : Int32) (l4 : Int32) (t0 : Int32) (t1 : Int32) (σ : rf_S) : Option ((Int32 × Int32) ⊕ (Int32)) := some (.inl ((t1 ||| t0), (l4 + 1)))
set_option maxHeartbeats 2000000 in
theorem ok_X10_fitsBy_j131 (d : Nat) (l1 : Int32) (l2 : Int32) (l4 : Int32) (t0 : Int32) (t1 : Int32) (σ : rf_S) (o : ((Int32 × Int32) ⊕ (Int32))) (h : f_X10_fitsBy_j131 l1 l2 l4 t0 t1 σ = some o) {r : Option Value} {σr : rf_S} (kl : ∀ s', o = .inl s' → rf_G ly1 (d + 3) mX10_fitsBy (5, [some (.ref 0), some (.int l1), some (.int l2), some (.int s'.1), some (.int s'.2), none, none, none], [], σ) r σr) (kx : ∀ e, o = .inr e → rf_G ly1 (d + 3) mX10_fitsBy (139, [none, none, none, some (.int e), none, none, none, none], [], σ) r σr) : rf_G ly1 (d + 3) mX10_fitsBy (131, [some (.ref 0), some (.int l1), some (.int l2), none, some (.int l4), none, none, none], [.int t0, .int t1], σ) r σr := by
  unfold f_X10_fitsBy_j131 at h
  refine rf_b wf1 rc_X10_fitsBy_ok 77 4 (5, [some (.ref 0), some (.int l1), some (.int l2), some (.int (t1 ||| t0)), some (.int (l4 + 1)), none, none, none], [], σ) rfl ?_
  exact kl ((t1 ||| t0), (l4 + 1)) (Option.some.inj h).symm
def f_X10_fitsBy_b5 (l1 : Int32) (l2 : Int32) (σ : rf_S) (s5 : Int32 × Int32) : Option ((Int32 × Int32) ⊕ (Int32)) := if 31 ≤ s5.2 then (some (.inr s5.1)) else ((rf_lp (f_X10_fitsBy_b18 l1 l2 s5.1 s5.2 σ) 5000 (1, 0)).bind (fun e12 => if e12 = 0 then (f_X10_fitsBy_j131 l1 l2 s5.2 0 s5.1 σ) else (f_X10_fitsBy_j131 l1 l2 s5.2 (1 <<< (s5.2 &&& 31)) s5.1 σ)))
set_option maxHeartbeats 2000000 in
theorem ok_X10_fitsBy_b5 (d : Nat) (l1 : Int32) (l2 : Int32) (σ : rf_S) (s5 : Int32 × Int32) (o : ((Int32 × Int32) ⊕ (Int32))) (h : f_X10_fitsBy_b5 l1 l2 σ s5 = some o) {r : Option Value} {σr : rf_S} (kl : ∀ s', o = .inl s' → rf_G ly1 (d + 3) mX10_fitsBy (5, [some (.ref 0), some (.int l1), some (.int l2), some (.int s'.1), some (.int s'.2), none, none, none], [], σ) r σr) (kx : ∀ e, o = .inr e → rf_G ly1 (d + 3) mX10_fitsBy (139, [none, none, none, some (.int e), none, none, none, none], [], σ) r σr) : rf_G ly1 (d + 3) mX10_fitsBy (5, [some (.ref 0), some (.int l1), some (.int l2), some (.int s5.1), some (.int s5.2), none, none, none], [], σ) r σr := by
  unfold f_X10_fitsBy_b5 at h
  refine rf_b wf1 rc_X10_fitsBy_ok 4 2 (9, [some (.ref 0), some (.int l1), some (.int l2), some (.int s5.1), some (.int s5.2), none, none, none], [.int 31, .int s5.2], σ) rfl ?_
  by_cases c1 : 31 ≤ s5.2
  · rw [if_pos c1] at h
    refine rf_t wf1 rc_X10_fitsBy_ok 6 (139, [some (.ref 0), some (.int l1), some (.int l2), some (.int s5.1), some (.int s5.2), none, none, none], [], σ) rfl rfl c1 rfl ?_
    refine rf_fg [false, false, false, true, false, true, true, true] [none, none, none, some (.int s5.1), none, none, none, none] rfl ?_
    exact kx s5.1 (Option.some.inj h).symm
  · rw [if_neg c1] at h
    refine rf_f wf1 rc_X10_fitsBy_ok 6 (12, [some (.ref 0), some (.int l1), some (.int l2), some (.int s5.1), some (.int s5.2), none, none, none], [], σ) rfl rfl c1 rfl ?_
    refine rf_b wf1 rc_X10_fitsBy_ok 7 4 (18, [some (.ref 0), some (.int l1), some (.int l2), some (.int s5.1), some (.int s5.2), some (.int 1), some (.int 0), none], [], σ) rfl ?_
    obtain ⟨e12, h13, h⟩ := Option.bind_eq_some_iff.mp h
    refine rf_lpG (b := f_X10_fitsBy_b18 l1 l2 s5.1 s5.2 σ) (G := fun (s18 : Int32 × Int32) => rf_G ly1 (d + 3) mX10_fitsBy (18, [some (.ref 0), some (.int l1), some (.int l2), some (.int s5.1), some (.int s5.2), some (.int s18.1), some (.int s18.2), none], [], σ) r σr) (K := fun (e : (Int32)) => rf_G ly1 (d + 3) mX10_fitsBy (117, [some (.ref 0), some (.int l1), some (.int l2), some (.int s5.1), some (.int s5.2), some (.int e), none, none], [], σ) r σr) (fun (s18 : Int32 × Int32) (o : (Int32 × Int32) ⊕ (Int32)) hb kl kx => ok_X10_fitsBy_b18 d l1 l2 s5.1 s5.2 σ s18 o hb kl kx) 5000 (1, 0) e12 h13 ?_
    show rf_G _ _ _ (117, [some (.ref 0), some (.int l1), some (.int l2), some (.int s5.1), some (.int s5.2), some (.int e12), none, none], [], σ) _ _
    refine rf_b wf1 rc_X10_fitsBy_ok 69 2 (120, [some (.ref 0), some (.int l1), some (.int l2), some (.int s5.1), some (.int s5.2), some (.int e12), none, none], [.int e12, .int s5.1], σ) rfl ?_
    by_cases c14 : e12 = 0
    · rw [if_pos c14] at h
      refine rf_t wf1 rc_X10_fitsBy_ok 71 (130, [some (.ref 0), some (.int l1), some (.int l2), some (.int s5.1), some (.int s5.2), some (.int e12), none, none], [.int s5.1], σ) rfl rfl c14 rfl ?_
      refine rf_b wf1 rc_X10_fitsBy_ok 76 1 (131, [some (.ref 0), some (.int l1), some (.int l2), some (.int s5.1), some (.int s5.2), some (.int e12), none, none], [.int 0, .int s5.1], σ) rfl ?_
      refine rf_fg [true, true, true, false, true, false, true, true] [some (.ref 0), some (.int l1), some (.int l2), none, some (.int s5.2), none, none, none] rfl ?_
      exact ok_X10_fitsBy_j131 d l1 l2 s5.2 0 s5.1 σ o h kl kx
    · rw [if_neg c14] at h
      refine rf_f wf1 rc_X10_fitsBy_ok 71 (123, [some (.ref 0), some (.int l1), some (.int l2), some (.int s5.1), some (.int s5.2), some (.int e12), none, none], [.int s5.1], σ) rfl rfl c14 rfl ?_
      refine rf_b wf1 rc_X10_fitsBy_ok 72 4 (131, [some (.ref 0), some (.int l1), some (.int l2), some (.int s5.1), some (.int s5.2), some (.int e12), none, none], [.int (1 <<< (s5.2 &&& 31)), .int s5.1], σ) rfl ?_
      refine rf_fg [true, true, true, false, true, false, true, true] [some (.ref 0), some (.int l1), some (.int l2), none, some (.int s5.2), none, none, none] rfl ?_
      exact ok_X10_fitsBy_j131 d l1 l2 s5.2 (1 <<< (s5.2 &&& 31)) s5.1 σ o h kl kx
def f_X10_fitsBy (p0 : Int32) (p1 : Int32) (σ : rf_S) : Option Int32 := (rf_lp (f_X10_fitsBy_b5 p0 p1 σ) 5000 (0, 0)).bind (fun e15 => some e15)
set_option maxHeartbeats 2000000 in
theorem ok_X10_fitsBy (d : Nat) (p0 : Int32) (p1 : Int32) (σ : rf_S) (q : Int32) (h : f_X10_fitsBy p0 p1 σ = some q) : rf_Ex ly1 (d + 4) mX10_fitsBy [.ref 0, .int p0, .int p1] σ (some (.int q) : Option Value) σ := by
  unfold f_X10_fitsBy at h
  refine rf_ex mw_X10_fitsBy [some (.ref 0), some (.int p0), some (.int p1), none, none, none, none, none] (Nat.le_of_ble_eq_true rfl) rfl ?_
  refine rf_b wf1 rc_X10_fitsBy_ok 0 4 (5, [some (.ref 0), some (.int p0), some (.int p1), some (.int 0), some (.int 0), none, none, none], [], σ) rfl ?_
  obtain ⟨e15, h16, h⟩ := Option.bind_eq_some_iff.mp h
  refine rf_lpG (b := f_X10_fitsBy_b5 p0 p1 σ) (G := fun (s5 : Int32 × Int32) => rf_G ly1 (d + 3) mX10_fitsBy (5, [some (.ref 0), some (.int p0), some (.int p1), some (.int s5.1), some (.int s5.2), none, none, none], [], σ) (some (.int q) : Option Value) σ) (K := fun (e : (Int32)) => rf_G ly1 (d + 3) mX10_fitsBy (139, [none, none, none, some (.int e), none, none, none, none], [], σ) (some (.int q) : Option Value) σ) (fun (s5 : Int32 × Int32) (o : (Int32 × Int32) ⊕ (Int32)) hb kl kx => ok_X10_fitsBy_b5 d p0 p1 σ s5 o hb kl kx) 5000 (0, 0) e15 h16 ?_
  show rf_G _ _ _ (139, [none, none, none, some (.int e15), none, none, none, none], [], σ) _ _
  refine rf_b wf1 rc_X10_fitsBy_ok 81 1 (140, [none, none, none, some (.int e15), none, none, none, none], [.int e15], σ) rfl ?_
  obtain rfl := Option.some.inj h
  exact rf_ri rc_X10_fitsBy_ok 82 rfl rfl
def rc_X10_fits : List rf_E := [(0, .iload_n 1, 1, 1), (1, .iconst 0, 1, 0), (2, .iconst 5, 1, 0), (3, .invokestatic 78, 3, 0), (6, .ifCond .ne 5, 3, 11), (9, .iconst (-1), 1, 0), (10, .ireturn, 1, 0), (11, .aload_n 0, 1, 0), (12, .getfield 75, 3, 1017), (15, .ifCond .ne 6, 3, 21), (18, .bipush (-4), 2, 0), (20, .ireturn, 1, 0), (21, .aload_n 0, 1, 0), (22, .iload_n 1, 1, 1), (23, .aload_n 0, 1, 0), (24, .getfield 75, 3, 1017), (27, .iconst 1, 1, 0), (28, .isub, 1, 0), (29, .invokevirtual 247, 3, 0), (32, .istore_n 2, 1, 2), (33, .iload_n 2, 1, 2), (34, .ifCond .eq 5, 3, 39), (37, .iload_n 2, 1, 2), (38, .ireturn, 1, 0), (39, .aload_n 0, 1, 0), (40, .iload_n 1, 1, 1), (41, .iconst (-1), 1, 0), (42, .invokevirtual 250, 3, 0), (45, .istore_n 3, 1, 3), (46, .aload_n 0, 1, 0), (47, .iload_n 3, 1, 3), (48, .invokestatic 192, 3, 0), (51, .invokevirtual 93, 3, 0), (54, .pop, 1, 0), (55, .iload_n 3, 1, 3), (56, .ireturn, 1, 0)]
theorem rc_X10_fits_ok : rf_rc mX10_fits rc_X10_fits = true := by decide +kernel
theorem mw_X10_fits : rf_mw mX10_fits := ⟨rf_mt_ok _ (List.mem_of_getElem? (i := 223) rfl), fun h => absurd h (by decide), fun _ => ⟨rf_mi_ok _ (List.mem_of_getElem? (i := 201) rfl), rf_mv_ok _ (List.mem_of_getElem? (i := 201) rfl)⟩, rf_mq_8 _ (List.mem_of_getElem? (i := 23) rfl)⟩
def f_X10_fits (p0 : Int32) (σ : rf_S) : Option (Int32 × rf_S) := (f_X10_in p0 0 5 σ).bind (fun q1 => if q1 ≠ 0 then (if (σ.1 0 17) ≠ 0 then ((f_X10_wrongPairs p0 ((σ.1 0 17) - 1) σ).bind (fun q5 => if q5.1 = 0 then ((f_X10_fitsBy p0 (-1) q5.2).bind (fun q8 => (f_X10_bits q8 q5.2).bind (fun q10 => (f_X10_tells q10 q5.2).bind (fun q12 => some (q8, q12.2))))) else (some (q5.1, q5.2)))) else (some ((-4), σ))) else (some ((-1), σ)))
set_option maxHeartbeats 2000000 in
theorem ok_X10_fits (d : Nat) (p0 : Int32) (σ : rf_S) (q : (Int32 × rf_S)) (h : f_X10_fits p0 σ = some q) : rf_Ex ly1 (d + 5) mX10_fits [.ref 0, .int p0] σ (some (.int q.1) : Option Value) q.2 := by
  unfold f_X10_fits at h
  refine rf_ex mw_X10_fits [some (.ref 0), some (.int p0), none, none] (Nat.le_of_ble_eq_true rfl) rfl ?_
  refine rf_b wf1 rc_X10_fits_ok 0 3 (3, [some (.ref 0), some (.int p0), none, none], [.int 5, .int 0, .int p0], σ) rfl ?_
  obtain ⟨q1, h2, h⟩ := Option.bind_eq_some_iff.mp h
  refine rf_cs1 (Mt := mX10_in) rc_X10_fits_ok 3 false rfl (List.mem_of_getElem? (i := 143) rfl) mw_X10_in rfl [.int p0, .int 0, .int 5] [] rfl rfl (Nat.le_of_ble_eq_true rfl) (ok_X10_in (d + 3) p0 0 5 σ q1 h2) ?_
  show rf_G _ _ _ (6, [some (.ref 0), some (.int p0), none, none], [.int q1], σ) _ _
  by_cases c3 : q1 ≠ 0
  · rw [if_pos c3] at h
    refine rf_t wf1 rc_X10_fits_ok 4 (11, [some (.ref 0), some (.int p0), none, none], [], σ) rfl rfl c3 rfl ?_
    refine rf_b wf1 rc_X10_fits_ok 7 2 (15, [some (.ref 0), some (.int p0), none, none], [.int (σ.1 0 17)], σ) rfl ?_
    by_cases c4 : (σ.1 0 17) ≠ 0
    · rw [if_pos c4] at h
      refine rf_t wf1 rc_X10_fits_ok 9 (21, [some (.ref 0), some (.int p0), none, none], [], σ) rfl rfl c4 rfl ?_
      refine rf_b wf1 rc_X10_fits_ok 12 6 (29, [some (.ref 0), some (.int p0), none, none], [.int ((σ.1 0 17) - 1), .int p0, .ref 0], σ) rfl ?_
      obtain ⟨q5, h6, h⟩ := Option.bind_eq_some_iff.mp h
      refine rf_cv1 (Mt := mX10_wrongPairs) wf1 rc_X10_fits_ok 18 false rfl (List.mem_of_getElem? (i := 187) rfl) mw_X10_wrongPairs rfl 0 [.int p0, .int ((σ.1 0 17) - 1)] [] rfl rfl rfl (Nat.le_of_ble_eq_true rfl) (ok_X10_wrongPairs (d + 2) p0 ((σ.1 0 17) - 1) σ q5 h6) ?_
      show rf_G _ _ _ (32, [some (.ref 0), some (.int p0), none, none], [.int q5.1], q5.2) _ _
      refine rf_b wf1 rc_X10_fits_ok 19 2 (34, [some (.ref 0), some (.int p0), some (.int q5.1), none], [.int q5.1], q5.2) rfl ?_
      by_cases c7 : q5.1 = 0
      · rw [if_pos c7] at h
        refine rf_t wf1 rc_X10_fits_ok 21 (39, [some (.ref 0), some (.int p0), some (.int q5.1), none], [], q5.2) rfl rfl c7 rfl ?_
        refine rf_b wf1 rc_X10_fits_ok 24 3 (42, [some (.ref 0), some (.int p0), some (.int q5.1), none], [.int (-1), .int p0, .ref 0], q5.2) rfl ?_
        obtain ⟨q8, h9, h⟩ := Option.bind_eq_some_iff.mp h
        refine rf_cv1 (Mt := mX10_fitsBy) wf1 rc_X10_fits_ok 27 false rfl (List.mem_of_getElem? (i := 188) rfl) mw_X10_fitsBy rfl 0 [.int p0, .int (-1)] [] rfl rfl rfl (Nat.le_of_ble_eq_true rfl) (ok_X10_fitsBy d p0 (-1) q5.2 q8 h9) ?_
        show rf_G _ _ _ (45, [some (.ref 0), some (.int p0), some (.int q5.1), none], [.int q8], q5.2) _ _
        refine rf_b wf1 rc_X10_fits_ok 28 3 (48, [some (.ref 0), some (.int p0), some (.int q5.1), some (.int q8)], [.int q8, .ref 0], q5.2) rfl ?_
        obtain ⟨q10, h11, h⟩ := Option.bind_eq_some_iff.mp h
        refine rf_cs1 (Mt := mX10_bits) rc_X10_fits_ok 31 false rfl (List.mem_of_getElem? (i := 170) rfl) mw_X10_bits rfl [.int q8] [.ref 0] rfl rfl (Nat.le_of_ble_eq_true rfl) (ok_X10_bits (d + 3) q8 q5.2 q10 h11) ?_
        show rf_G _ _ _ (51, [some (.ref 0), some (.int p0), some (.int q5.1), some (.int q8)], [.int q10, .ref 0], q5.2) _ _
        obtain ⟨q12, h13, h⟩ := Option.bind_eq_some_iff.mp h
        refine rf_cv1 (Mt := mX10_tells) wf1 rc_X10_fits_ok 32 false rfl (List.mem_of_getElem? (i := 146) rfl) mw_X10_tells rfl 0 [.int q10] [] rfl rfl rfl (Nat.le_of_ble_eq_true rfl) (ok_X10_tells (d + 3) q10 q5.2 q12 h13) ?_
        show rf_G _ _ _ (54, [some (.ref 0), some (.int p0), some (.int q5.1), some (.int q8)], [.int q12.1], q12.2) _ _
        refine rf_b wf1 rc_X10_fits_ok 33 2 (56, [some (.ref 0), some (.int p0), some (.int q5.1), some (.int q8)], [.int q8], q12.2) rfl ?_
        obtain rfl := Option.some.inj h
        exact rf_ri rc_X10_fits_ok 35 rfl rfl
      · rw [if_neg c7] at h
        refine rf_f wf1 rc_X10_fits_ok 21 (37, [some (.ref 0), some (.int p0), some (.int q5.1), none], [], q5.2) rfl rfl c7 rfl ?_
        refine rf_b wf1 rc_X10_fits_ok 22 1 (38, [some (.ref 0), some (.int p0), some (.int q5.1), none], [.int q5.1], q5.2) rfl ?_
        obtain rfl := Option.some.inj h
        exact rf_ri rc_X10_fits_ok 23 rfl rfl
    · rw [if_neg c4] at h
      refine rf_f wf1 rc_X10_fits_ok 9 (18, [some (.ref 0), some (.int p0), none, none], [], σ) rfl rfl c4 rfl ?_
      refine rf_b wf1 rc_X10_fits_ok 10 1 (20, [some (.ref 0), some (.int p0), none, none], [.int (-4)], σ) rfl ?_
      obtain rfl := Option.some.inj h
      exact rf_ri rc_X10_fits_ok 11 rfl rfl
  · rw [if_neg c3] at h
    refine rf_f wf1 rc_X10_fits_ok 4 (9, [some (.ref 0), some (.int p0), none, none], [], σ) rfl rfl c3 rfl ?_
    refine rf_b wf1 rc_X10_fits_ok 5 1 (10, [some (.ref 0), some (.int p0), none, none], [.int (-1)], σ) rfl ?_
    obtain rfl := Option.some.inj h
    exact rf_ri rc_X10_fits_ok 6 rfl rfl
def rc_X10_tickled : List rf_E := [(0, .iload_n 1, 1, 1), (1, .iconst 0, 1, 0), (2, .iconst 5, 1, 0), (3, .invokestatic 78, 3, 0), (6, .ifCond .ne 5, 3, 11), (9, .iconst (-1), 1, 0), (10, .ireturn, 1, 0), (11, .aload_n 0, 1, 0), (12, .getfield 75, 3, 1017), (15, .ifCond .ne 6, 3, 21), (18, .bipush (-4), 2, 0), (20, .ireturn, 1, 0), (21, .aload_n 0, 1, 0), (22, .iload_n 1, 1, 1), (23, .aload_n 0, 1, 0), (24, .getfield 75, 3, 1017), (27, .iconst 1, 1, 0), (28, .isub, 1, 0), (29, .invokevirtual 247, 3, 0), (32, .istore_n 2, 1, 2), (33, .iload_n 2, 1, 2), (34, .ifCond .eq 5, 3, 39), (37, .iload_n 2, 1, 2), (38, .ireturn, 1, 0), (39, .iconst 0, 1, 0), (40, .istore_n 3, 1, 3), (41, .iconst 0, 1, 0), (42, .istore 4, 2, 4), (44, .iconst 2, 1, 0), (45, .iload 4, 2, 4), (47, .imul, 1, 0), (48, .aload_n 0, 1, 0), (49, .getfield 7, 3, 1000), (52, .iload_n 1, 1, 1), (53, .iaload, 1, 0), (54, .if_icmp .ge 42, 3, 96), (57, .iload_n 3, 1, 3), (58, .aload_n 0, 1, 0), (59, .iload_n 1, 1, 1), (60, .iload 4, 2, 4), (62, .invokevirtual 250, 3, 0), (65, .ifCond .eq 22, 3, 87), (68, .iconst 1, 1, 0), (69, .aload_n 0, 1, 0), (70, .getfield 13, 3, 1001), (73, .bipush 40, 2, 0), (75, .iload_n 1, 1, 1), (76, .imul, 1, 0), (77, .iconst 2, 1, 0), (78, .iload 4, 2, 4), (80, .imul, 1, 0), (81, .iadd, 1, 0), (82, .iaload, 1, 0), (83, .ishl, 1, 0), (84, .goto 4, 3, 88), (87, .iconst 0, 1, 0), (88, .ior, 1, 0), (89, .istore_n 3, 1, 3), (90, .iinc 4 1, 3, 4), (93, .goto (-49), 3, 44), (96, .iload_n 3, 1, 3), (97, .ireturn, 1, 0)]
theorem rc_X10_tickled_ok : rf_rc mX10_tickled rc_X10_tickled = true := by decide +kernel
theorem mw_X10_tickled : rf_mw mX10_tickled := ⟨rf_mt_ok _ (List.mem_of_getElem? (i := 224) rfl), fun h => absurd h (by decide), fun _ => ⟨rf_mi_ok _ (List.mem_of_getElem? (i := 202) rfl), rf_mv_ok _ (List.mem_of_getElem? (i := 202) rfl)⟩, rf_mq_8 _ (List.mem_of_getElem? (i := 24) rfl)⟩
def f_X10_tickled_j88 (l1 : Int32) (l4 : Int32) (t0 : Int32) (t1 : Int32) (σ : rf_S) : Option ((Int32 × Int32) ⊕ (Int32)) := some (.inl ((t1 ||| t0), (l4 + 1)))
set_option maxHeartbeats 2000000 in
theorem ok_X10_tickled_j88 (d : Nat) (l1 : Int32) (l4 : Int32) (t0 : Int32) (t1 : Int32) (σ : rf_S) (o : ((Int32 × Int32) ⊕ (Int32))) (h : f_X10_tickled_j88 l1 l4 t0 t1 σ = some o) {r : Option Value} {σr : rf_S} (kl : ∀ s', o = .inl s' → rf_G ly1 (d + 4) mX10_tickled (44, [some (.ref 0), some (.int l1), none, some (.int s'.1), some (.int s'.2)], [], σ) r σr) (kx : ∀ e, o = .inr e → rf_G ly1 (d + 4) mX10_tickled (96, [none, none, none, some (.int e), none], [], σ) r σr) : rf_G ly1 (d + 4) mX10_tickled (88, [some (.ref 0), some (.int l1), none, none, some (.int l4)], [.int t0, .int t1], σ) r σr := by
  unfold f_X10_tickled_j88 at h
  refine rf_b wf1 rc_X10_tickled_ok 56 4 (44, [some (.ref 0), some (.int l1), none, some (.int (t1 ||| t0)), some (.int (l4 + 1))], [], σ) rfl ?_
  exact kl ((t1 ||| t0), (l4 + 1)) (Option.some.inj h).symm
def f_X10_tickled_b44 (l1 : Int32) (σ : rf_S) (s44 : Int32 × Int32) : Option ((Int32 × Int32) ⊕ (Int32)) := if rf_ck ly1 0 1 l1 = true then (if (σ.1 1 l1.toNatClampNeg) ≤ (2 * s44.2) then (some (.inr s44.1)) else ((f_X10_fitsBy l1 s44.2 σ).bind (fun q10 => if q10 = 0 then (f_X10_tickled_j88 l1 s44.2 0 s44.1 σ) else (if rf_ck ly1 0 2 ((40 * l1) + (2 * s44.2)) = true then (f_X10_tickled_j88 l1 s44.2 (1 <<< ((σ.1 2 ((40 * l1) + (2 * s44.2)).toNatClampNeg) &&& 31)) s44.1 σ) else none)))) else none
set_option maxHeartbeats 2000000 in
theorem ok_X10_tickled_b44 (d : Nat) (l1 : Int32) (σ : rf_S) (s44 : Int32 × Int32) (o : ((Int32 × Int32) ⊕ (Int32))) (h : f_X10_tickled_b44 l1 σ s44 = some o) {r : Option Value} {σr : rf_S} (kl : ∀ s', o = .inl s' → rf_G ly1 (d + 4) mX10_tickled (44, [some (.ref 0), some (.int l1), none, some (.int s'.1), some (.int s'.2)], [], σ) r σr) (kx : ∀ e, o = .inr e → rf_G ly1 (d + 4) mX10_tickled (96, [none, none, none, some (.int e), none], [], σ) r σr) : rf_G ly1 (d + 4) mX10_tickled (44, [some (.ref 0), some (.int l1), none, some (.int s44.1), some (.int s44.2)], [], σ) r σr := by
  unfold f_X10_tickled_b44 at h
  refine rf_b wf1 rc_X10_tickled_ok 28 6 (53, [some (.ref 0), some (.int l1), none, some (.int s44.1), some (.int s44.2)], [.int l1, .ref 1, .int (2 * s44.2)], σ) rfl ?_
  obtain ⟨g8, h⟩ := rf_ifn h
  refine rf_gd wf1 rc_X10_tickled_ok 34 (54, [some (.ref 0), some (.int l1), none, some (.int s44.1), some (.int s44.2)], [.int (σ.1 1 l1.toNatClampNeg), .int (2 * s44.2)], σ) rfl rfl g8 rfl ?_
  by_cases c9 : (σ.1 1 l1.toNatClampNeg) ≤ (2 * s44.2)
  · rw [if_pos c9] at h
    refine rf_t wf1 rc_X10_tickled_ok 35 (96, [some (.ref 0), some (.int l1), none, some (.int s44.1), some (.int s44.2)], [], σ) rfl rfl c9 rfl ?_
    refine rf_fg [false, false, true, true, false] [none, none, none, some (.int s44.1), none] rfl ?_
    exact kx s44.1 (Option.some.inj h).symm
  · rw [if_neg c9] at h
    refine rf_f wf1 rc_X10_tickled_ok 35 (57, [some (.ref 0), some (.int l1), none, some (.int s44.1), some (.int s44.2)], [], σ) rfl rfl c9 rfl ?_
    refine rf_b wf1 rc_X10_tickled_ok 36 4 (62, [some (.ref 0), some (.int l1), none, some (.int s44.1), some (.int s44.2)], [.int s44.2, .int l1, .ref 0, .int s44.1], σ) rfl ?_
    obtain ⟨q10, h11, h⟩ := Option.bind_eq_some_iff.mp h
    refine rf_cv1 (Mt := mX10_fitsBy) wf1 rc_X10_tickled_ok 40 false rfl (List.mem_of_getElem? (i := 188) rfl) mw_X10_fitsBy rfl 0 [.int l1, .int s44.2] [.int s44.1] rfl rfl rfl (Nat.le_of_ble_eq_true rfl) (ok_X10_fitsBy d l1 s44.2 σ q10 h11) ?_
    show rf_G _ _ _ (65, [some (.ref 0), some (.int l1), none, some (.int s44.1), some (.int s44.2)], [.int q10, .int s44.1], σ) _ _
    by_cases c12 : q10 = 0
    · rw [if_pos c12] at h
      refine rf_t wf1 rc_X10_tickled_ok 41 (87, [some (.ref 0), some (.int l1), none, some (.int s44.1), some (.int s44.2)], [.int s44.1], σ) rfl rfl c12 rfl ?_
      refine rf_b wf1 rc_X10_tickled_ok 55 1 (88, [some (.ref 0), some (.int l1), none, some (.int s44.1), some (.int s44.2)], [.int 0, .int s44.1], σ) rfl ?_
      refine rf_fg [true, true, true, false, true] [some (.ref 0), some (.int l1), none, none, some (.int s44.2)] rfl ?_
      exact ok_X10_tickled_j88 d l1 s44.2 0 s44.1 σ o h kl kx
    · rw [if_neg c12] at h
      refine rf_f wf1 rc_X10_tickled_ok 41 (68, [some (.ref 0), some (.int l1), none, some (.int s44.1), some (.int s44.2)], [.int s44.1], σ) rfl rfl c12 rfl ?_
      refine rf_b wf1 rc_X10_tickled_ok 42 10 (82, [some (.ref 0), some (.int l1), none, some (.int s44.1), some (.int s44.2)], [.int ((40 * l1) + (2 * s44.2)), .ref 2, .int 1, .int s44.1], σ) rfl ?_
      obtain ⟨g13, h⟩ := rf_ifn h
      refine rf_gd wf1 rc_X10_tickled_ok 52 (83, [some (.ref 0), some (.int l1), none, some (.int s44.1), some (.int s44.2)], [.int (σ.1 2 ((40 * l1) + (2 * s44.2)).toNatClampNeg), .int 1, .int s44.1], σ) rfl rfl g13 rfl ?_
      refine rf_b wf1 rc_X10_tickled_ok 53 2 (88, [some (.ref 0), some (.int l1), none, some (.int s44.1), some (.int s44.2)], [.int (1 <<< ((σ.1 2 ((40 * l1) + (2 * s44.2)).toNatClampNeg) &&& 31)), .int s44.1], σ) rfl ?_
      refine rf_fg [true, true, true, false, true] [some (.ref 0), some (.int l1), none, none, some (.int s44.2)] rfl ?_
      exact ok_X10_tickled_j88 d l1 s44.2 (1 <<< ((σ.1 2 ((40 * l1) + (2 * s44.2)).toNatClampNeg) &&& 31)) s44.1 σ o h kl kx
def f_X10_tickled (p0 : Int32) (σ : rf_S) : Option (Int32 × rf_S) := (f_X10_in p0 0 5 σ).bind (fun q1 => if q1 ≠ 0 then (if (σ.1 0 17) ≠ 0 then ((f_X10_wrongPairs p0 ((σ.1 0 17) - 1) σ).bind (fun q5 => if q5.1 = 0 then ((rf_lp (f_X10_tickled_b44 p0 q5.2) 5000 (0, 0)).bind (fun e14 => some (e14, q5.2))) else (some (q5.1, q5.2)))) else (some ((-4), σ))) else (some ((-1), σ)))
set_option maxHeartbeats 2000000 in
theorem ok_X10_tickled (d : Nat) (p0 : Int32) (σ : rf_S) (q : (Int32 × rf_S)) (h : f_X10_tickled p0 σ = some q) : rf_Ex ly1 (d + 5) mX10_tickled [.ref 0, .int p0] σ (some (.int q.1) : Option Value) q.2 := by
  unfold f_X10_tickled at h
  refine rf_ex mw_X10_tickled [some (.ref 0), some (.int p0), none, none, none] (Nat.le_of_ble_eq_true rfl) rfl ?_
  refine rf_b wf1 rc_X10_tickled_ok 0 3 (3, [some (.ref 0), some (.int p0), none, none, none], [.int 5, .int 0, .int p0], σ) rfl ?_
  obtain ⟨q1, h2, h⟩ := Option.bind_eq_some_iff.mp h
  refine rf_cs1 (Mt := mX10_in) rc_X10_tickled_ok 3 false rfl (List.mem_of_getElem? (i := 143) rfl) mw_X10_in rfl [.int p0, .int 0, .int 5] [] rfl rfl (Nat.le_of_ble_eq_true rfl) (ok_X10_in (d + 3) p0 0 5 σ q1 h2) ?_
  show rf_G _ _ _ (6, [some (.ref 0), some (.int p0), none, none, none], [.int q1], σ) _ _
  by_cases c3 : q1 ≠ 0
  · rw [if_pos c3] at h
    refine rf_t wf1 rc_X10_tickled_ok 4 (11, [some (.ref 0), some (.int p0), none, none, none], [], σ) rfl rfl c3 rfl ?_
    refine rf_b wf1 rc_X10_tickled_ok 7 2 (15, [some (.ref 0), some (.int p0), none, none, none], [.int (σ.1 0 17)], σ) rfl ?_
    by_cases c4 : (σ.1 0 17) ≠ 0
    · rw [if_pos c4] at h
      refine rf_t wf1 rc_X10_tickled_ok 9 (21, [some (.ref 0), some (.int p0), none, none, none], [], σ) rfl rfl c4 rfl ?_
      refine rf_b wf1 rc_X10_tickled_ok 12 6 (29, [some (.ref 0), some (.int p0), none, none, none], [.int ((σ.1 0 17) - 1), .int p0, .ref 0], σ) rfl ?_
      obtain ⟨q5, h6, h⟩ := Option.bind_eq_some_iff.mp h
      refine rf_cv1 (Mt := mX10_wrongPairs) wf1 rc_X10_tickled_ok 18 false rfl (List.mem_of_getElem? (i := 187) rfl) mw_X10_wrongPairs rfl 0 [.int p0, .int ((σ.1 0 17) - 1)] [] rfl rfl rfl (Nat.le_of_ble_eq_true rfl) (ok_X10_wrongPairs (d + 2) p0 ((σ.1 0 17) - 1) σ q5 h6) ?_
      show rf_G _ _ _ (32, [some (.ref 0), some (.int p0), none, none, none], [.int q5.1], q5.2) _ _
      refine rf_b wf1 rc_X10_tickled_ok 19 2 (34, [some (.ref 0), some (.int p0), some (.int q5.1), none, none], [.int q5.1], q5.2) rfl ?_
      by_cases c7 : q5.1 = 0
      · rw [if_pos c7] at h
        refine rf_t wf1 rc_X10_tickled_ok 21 (39, [some (.ref 0), some (.int p0), some (.int q5.1), none, none], [], q5.2) rfl rfl c7 rfl ?_
        refine rf_b wf1 rc_X10_tickled_ok 24 4 (44, [some (.ref 0), some (.int p0), some (.int q5.1), some (.int 0), some (.int 0)], [], q5.2) rfl ?_
        refine rf_fg [true, true, false, true, true] [some (.ref 0), some (.int p0), none, some (.int 0), some (.int 0)] rfl ?_
        obtain ⟨e14, h15, h⟩ := Option.bind_eq_some_iff.mp h
        refine rf_lpG (b := f_X10_tickled_b44 p0 q5.2) (G := fun (s44 : Int32 × Int32) => rf_G ly1 (d + 4) mX10_tickled (44, [some (.ref 0), some (.int p0), none, some (.int s44.1), some (.int s44.2)], [], q5.2) (some (.int q.1) : Option Value) q.2) (K := fun (e : (Int32)) => rf_G ly1 (d + 4) mX10_tickled (96, [none, none, none, some (.int e), none], [], q5.2) (some (.int q.1) : Option Value) q.2) (fun (s44 : Int32 × Int32) (o : (Int32 × Int32) ⊕ (Int32)) hb kl kx => ok_X10_tickled_b44 d p0 q5.2 s44 o hb kl kx) 5000 (0, 0) e14 h15 ?_
        show rf_G _ _ _ (96, [none, none, none, some (.int e14), none], [], q5.2) _ _
        refine rf_b wf1 rc_X10_tickled_ok 60 1 (97, [none, none, none, some (.int e14), none], [.int e14], q5.2) rfl ?_
        obtain rfl := Option.some.inj h
        exact rf_ri rc_X10_tickled_ok 61 rfl rfl
      · rw [if_neg c7] at h
        refine rf_f wf1 rc_X10_tickled_ok 21 (37, [some (.ref 0), some (.int p0), some (.int q5.1), none, none], [], q5.2) rfl rfl c7 rfl ?_
        refine rf_b wf1 rc_X10_tickled_ok 22 1 (38, [some (.ref 0), some (.int p0), some (.int q5.1), none, none], [.int q5.1], q5.2) rfl ?_
        obtain rfl := Option.some.inj h
        exact rf_ri rc_X10_tickled_ok 23 rfl rfl
    · rw [if_neg c4] at h
      refine rf_f wf1 rc_X10_tickled_ok 9 (18, [some (.ref 0), some (.int p0), none, none, none], [], σ) rfl rfl c4 rfl ?_
      refine rf_b wf1 rc_X10_tickled_ok 10 1 (20, [some (.ref 0), some (.int p0), none, none, none], [.int (-4)], σ) rfl ?_
      obtain rfl := Option.some.inj h
      exact rf_ri rc_X10_tickled_ok 11 rfl rfl
  · rw [if_neg c3] at h
    refine rf_f wf1 rc_X10_tickled_ok 4 (9, [some (.ref 0), some (.int p0), none, none, none], [], σ) rfl rfl c3 rfl ?_
    refine rf_b wf1 rc_X10_tickled_ok 5 1 (10, [some (.ref 0), some (.int p0), none, none, none], [.int (-1)], σ) rfl ?_
    obtain rfl := Option.some.inj h
    exact rf_ri rc_X10_tickled_ok 6 rfl rfl
def rc_X10_isBy : List rf_E := [(0, .iconst 1, 1, 0), (1, .istore 5, 2, 5), (3, .iconst 0, 1, 0), (4, .istore 6, 2, 6), (6, .iload 6, 2, 6), (8, .aload_n 0, 1, 0), (9, .getfield 7, 3, 1000), (12, .iload_n 1, 1, 1), (13, .iaload, 1, 0), (14, .if_icmp .ge 74, 3, 88), (17, .iload 5, 2, 5), (19, .ifCond .eq 60, 3, 79), (22, .iload_n 2, 1, 2), (23, .aload_n 0, 1, 0), (24, .getfield 47, 3, 1022), (27, .iload_n 2, 1, 2), (28, .iload_n 3, 1, 3), (29, .invokestatic 146, 3, 0), (32, .iload 4, 2, 4), (34, .aload_n 0, 1, 0), (35, .getfield 13, 3, 1001), (38, .bipush 40, 2, 0), (40, .iload_n 1, 1, 1), (41, .imul, 1, 0), (42, .iload 6, 2, 6), (44, .iadd, 1, 0), (45, .iaload, 1, 0), (46, .invokestatic 154, 3, 0), (49, .aload_n 0, 1, 0), (50, .getfield 13, 3, 1001), (53, .bipush 40, 2, 0), (55, .iload_n 1, 1, 1), (56, .imul, 1, 0), (57, .iload 6, 2, 6), (59, .iadd, 1, 0), (60, .iconst 1, 1, 0), (61, .iadd, 1, 0), (62, .iaload, 1, 0), (63, .iconst 1, 1, 0), (64, .if_icmp .ne 7, 3, 71), (67, .iconst 1, 1, 0), (68, .goto 4, 3, 72), (71, .iconst 0, 1, 0), (72, .if_icmp .ne 7, 3, 79), (75, .iconst 1, 1, 0), (76, .goto 4, 3, 80), (79, .iconst 0, 1, 0), (80, .istore 5, 2, 5), (82, .iinc 6 2, 3, 6), (85, .goto (-79), 3, 6), (88, .iload 5, 2, 5), (90, .ireturn, 1, 0)]
theorem rc_X10_isBy_ok : rf_rc mX10_isBy rc_X10_isBy = true := by decide +kernel
theorem mw_X10_isBy : rf_mw mX10_isBy := ⟨rf_mt_ok _ (List.mem_of_getElem? (i := 225) rfl), fun h => absurd h (by decide), fun _ => ⟨rf_mi_ok _ (List.mem_of_getElem? (i := 203) rfl), rf_mv_ok _ (List.mem_of_getElem? (i := 203) rfl)⟩, rf_mq_9 _ (List.mem_of_getElem? (i := 0) rfl)⟩
def f_X10_isBy_j80 (l1 : Int32) (l2 : Int32) (l3 : Int32) (l4 : Int32) (l6 : Int32) (t0 : Int32) (σ : rf_S) : Option ((Int32 × Int32) ⊕ (Int32)) := some (.inl (t0, (l6 + 2)))
set_option maxHeartbeats 2000000 in
theorem ok_X10_isBy_j80 (d : Nat) (l1 : Int32) (l2 : Int32) (l3 : Int32) (l4 : Int32) (l6 : Int32) (t0 : Int32) (σ : rf_S) (o : ((Int32 × Int32) ⊕ (Int32))) (h : f_X10_isBy_j80 l1 l2 l3 l4 l6 t0 σ = some o) {r : Option Value} {σr : rf_S} (kl : ∀ s', o = .inl s' → rf_G ly1 (d + 1) mX10_isBy (6, [some (.ref 0), some (.int l1), some (.int l2), some (.int l3), some (.int l4), some (.int s'.1), some (.int s'.2)], [], σ) r σr) (kx : ∀ e, o = .inr e → rf_G ly1 (d + 1) mX10_isBy (88, [none, none, none, none, none, some (.int e), none], [], σ) r σr) : rf_G ly1 (d + 1) mX10_isBy (80, [some (.ref 0), some (.int l1), some (.int l2), some (.int l3), some (.int l4), none, some (.int l6)], [.int t0], σ) r σr := by
  unfold f_X10_isBy_j80 at h
  refine rf_b wf1 rc_X10_isBy_ok 47 3 (6, [some (.ref 0), some (.int l1), some (.int l2), some (.int l3), some (.int l4), some (.int t0), some (.int (l6 + 2))], [], σ) rfl ?_
  exact kl (t0, (l6 + 2)) (Option.some.inj h).symm
def f_X10_isBy_j79 (l1 : Int32) (l2 : Int32) (l3 : Int32) (l4 : Int32) (l6 : Int32) (σ : rf_S) : Option ((Int32 × Int32) ⊕ (Int32)) := f_X10_isBy_j80 l1 l2 l3 l4 l6 0 σ
set_option maxHeartbeats 2000000 in
theorem ok_X10_isBy_j79 (d : Nat) (l1 : Int32) (l2 : Int32) (l3 : Int32) (l4 : Int32) (l6 : Int32) (σ : rf_S) (o : ((Int32 × Int32) ⊕ (Int32))) (h : f_X10_isBy_j79 l1 l2 l3 l4 l6 σ = some o) {r : Option Value} {σr : rf_S} (kl : ∀ s', o = .inl s' → rf_G ly1 (d + 1) mX10_isBy (6, [some (.ref 0), some (.int l1), some (.int l2), some (.int l3), some (.int l4), some (.int s'.1), some (.int s'.2)], [], σ) r σr) (kx : ∀ e, o = .inr e → rf_G ly1 (d + 1) mX10_isBy (88, [none, none, none, none, none, some (.int e), none], [], σ) r σr) : rf_G ly1 (d + 1) mX10_isBy (79, [some (.ref 0), some (.int l1), some (.int l2), some (.int l3), some (.int l4), none, some (.int l6)], [], σ) r σr := by
  unfold f_X10_isBy_j79 at h
  refine rf_b wf1 rc_X10_isBy_ok 46 1 (80, [some (.ref 0), some (.int l1), some (.int l2), some (.int l3), some (.int l4), none, some (.int l6)], [.int 0], σ) rfl ?_
  exact ok_X10_isBy_j80 d l1 l2 l3 l4 l6 0 σ o h kl kx
def f_X10_isBy_j72 (l1 : Int32) (l2 : Int32) (l3 : Int32) (l4 : Int32) (l6 : Int32) (t0 : Int32) (t1 : Int32) (σ : rf_S) : Option ((Int32 × Int32) ⊕ (Int32)) := if t1 ≠ t0 then (f_X10_isBy_j79 l1 l2 l3 l4 l6 σ) else (f_X10_isBy_j80 l1 l2 l3 l4 l6 1 σ)
set_option maxHeartbeats 2000000 in
theorem ok_X10_isBy_j72 (d : Nat) (l1 : Int32) (l2 : Int32) (l3 : Int32) (l4 : Int32) (l6 : Int32) (t0 : Int32) (t1 : Int32) (σ : rf_S) (o : ((Int32 × Int32) ⊕ (Int32))) (h : f_X10_isBy_j72 l1 l2 l3 l4 l6 t0 t1 σ = some o) {r : Option Value} {σr : rf_S} (kl : ∀ s', o = .inl s' → rf_G ly1 (d + 1) mX10_isBy (6, [some (.ref 0), some (.int l1), some (.int l2), some (.int l3), some (.int l4), some (.int s'.1), some (.int s'.2)], [], σ) r σr) (kx : ∀ e, o = .inr e → rf_G ly1 (d + 1) mX10_isBy (88, [none, none, none, none, none, some (.int e), none], [], σ) r σr) : rf_G ly1 (d + 1) mX10_isBy (72, [some (.ref 0), some (.int l1), some (.int l2), some (.int l3), some (.int l4), none, some (.int l6)], [.int t0, .int t1], σ) r σr := by
  unfold f_X10_isBy_j72 at h
  by_cases c11 : t1 ≠ t0
  · rw [if_pos c11] at h
    refine rf_t wf1 rc_X10_isBy_ok 43 (79, [some (.ref 0), some (.int l1), some (.int l2), some (.int l3), some (.int l4), none, some (.int l6)], [], σ) rfl rfl c11 rfl ?_
    exact ok_X10_isBy_j79 d l1 l2 l3 l4 l6 σ o h kl kx
  · rw [if_neg c11] at h
    refine rf_f wf1 rc_X10_isBy_ok 43 (75, [some (.ref 0), some (.int l1), some (.int l2), some (.int l3), some (.int l4), none, some (.int l6)], [], σ) rfl rfl c11 rfl ?_
    refine rf_b wf1 rc_X10_isBy_ok 44 2 (80, [some (.ref 0), some (.int l1), some (.int l2), some (.int l3), some (.int l4), none, some (.int l6)], [.int 1], σ) rfl ?_
    exact ok_X10_isBy_j80 d l1 l2 l3 l4 l6 1 σ o h kl kx
def f_X10_isBy_b6 (l1 : Int32) (l2 : Int32) (l3 : Int32) (l4 : Int32) (σ : rf_S) (s6 : Int32 × Int32) : Option ((Int32 × Int32) ⊕ (Int32)) := if rf_ck ly1 0 1 l1 = true then (if (σ.1 1 l1.toNatClampNeg) ≤ s6.2 then (some (.inr s6.1)) else (if s6.1 = 0 then (f_X10_isBy_j79 l1 l2 l3 l4 s6.2 σ) else ((f_X10_feelsBy 12 l2 l3 σ).bind (fun q4 => if rf_ck ly1 0 2 ((40 * l1) + s6.2) = true then ((f_X10_doesBy l2 q4 l4 (σ.1 2 ((40 * l1) + s6.2).toNatClampNeg) σ).bind (fun q7 => if rf_ck ly1 0 2 (((40 * l1) + s6.2) + 1) = true then (if (σ.1 2 (((40 * l1) + s6.2) + 1).toNatClampNeg) ≠ 1 then (f_X10_isBy_j72 l1 l2 l3 l4 s6.2 0 q7 σ) else (f_X10_isBy_j72 l1 l2 l3 l4 s6.2 1 q7 σ)) else none)) else none)))) else none
set_option maxHeartbeats 2000000 in
theorem ok_X10_isBy_b6 (d : Nat) (l1 : Int32) (l2 : Int32) (l3 : Int32) (l4 : Int32) (σ : rf_S) (s6 : Int32 × Int32) (o : ((Int32 × Int32) ⊕ (Int32))) (h : f_X10_isBy_b6 l1 l2 l3 l4 σ s6 = some o) {r : Option Value} {σr : rf_S} (kl : ∀ s', o = .inl s' → rf_G ly1 (d + 1) mX10_isBy (6, [some (.ref 0), some (.int l1), some (.int l2), some (.int l3), some (.int l4), some (.int s'.1), some (.int s'.2)], [], σ) r σr) (kx : ∀ e, o = .inr e → rf_G ly1 (d + 1) mX10_isBy (88, [none, none, none, none, none, some (.int e), none], [], σ) r σr) : rf_G ly1 (d + 1) mX10_isBy (6, [some (.ref 0), some (.int l1), some (.int l2), some (.int l3), some (.int l4), some (.int s6.1), some (.int s6.2)], [], σ) r σr := by
  unfold f_X10_isBy_b6 at h
  refine rf_b wf1 rc_X10_isBy_ok 4 4 (13, [some (.ref 0), some (.int l1), some (.int l2), some (.int l3), some (.int l4), some (.int s6.1), some (.int s6.2)], [.int l1, .ref 1, .int s6.2], σ) rfl ?_
  obtain ⟨g1, h⟩ := rf_ifn h
  refine rf_gd wf1 rc_X10_isBy_ok 8 (14, [some (.ref 0), some (.int l1), some (.int l2), some (.int l3), some (.int l4), some (.int s6.1), some (.int s6.2)], [.int (σ.1 1 l1.toNatClampNeg), .int s6.2], σ) rfl rfl g1 rfl ?_
  by_cases c2 : (σ.1 1 l1.toNatClampNeg) ≤ s6.2
  · rw [if_pos c2] at h
    refine rf_t wf1 rc_X10_isBy_ok 9 (88, [some (.ref 0), some (.int l1), some (.int l2), some (.int l3), some (.int l4), some (.int s6.1), some (.int s6.2)], [], σ) rfl rfl c2 rfl ?_
    refine rf_fg [false, false, false, false, false, true, false] [none, none, none, none, none, some (.int s6.1), none] rfl ?_
    exact kx s6.1 (Option.some.inj h).symm
  · rw [if_neg c2] at h
    refine rf_f wf1 rc_X10_isBy_ok 9 (17, [some (.ref 0), some (.int l1), some (.int l2), some (.int l3), some (.int l4), some (.int s6.1), some (.int s6.2)], [], σ) rfl rfl c2 rfl ?_
    refine rf_b wf1 rc_X10_isBy_ok 10 1 (19, [some (.ref 0), some (.int l1), some (.int l2), some (.int l3), some (.int l4), some (.int s6.1), some (.int s6.2)], [.int s6.1], σ) rfl ?_
    by_cases c3 : s6.1 = 0
    · rw [if_pos c3] at h
      refine rf_t wf1 rc_X10_isBy_ok 11 (79, [some (.ref 0), some (.int l1), some (.int l2), some (.int l3), some (.int l4), some (.int s6.1), some (.int s6.2)], [], σ) rfl rfl c3 rfl ?_
      refine rf_fg [true, true, true, true, true, false, true] [some (.ref 0), some (.int l1), some (.int l2), some (.int l3), some (.int l4), none, some (.int s6.2)] rfl ?_
      exact ok_X10_isBy_j79 d l1 l2 l3 l4 s6.2 σ o h kl kx
    · rw [if_neg c3] at h
      refine rf_f wf1 rc_X10_isBy_ok 11 (22, [some (.ref 0), some (.int l1), some (.int l2), some (.int l3), some (.int l4), some (.int s6.1), some (.int s6.2)], [], σ) rfl rfl c3 rfl ?_
      refine rf_b wf1 rc_X10_isBy_ok 12 5 (29, [some (.ref 0), some (.int l1), some (.int l2), some (.int l3), some (.int l4), some (.int s6.1), some (.int s6.2)], [.int l3, .int l2, .ref 12, .int l2], σ) rfl ?_
      obtain ⟨q4, h5, h⟩ := Option.bind_eq_some_iff.mp h
      refine rf_cs1 (Mt := mX10_feelsBy) rc_X10_isBy_ok 17 false rfl (List.mem_of_getElem? (i := 157) rfl) mw_X10_feelsBy rfl [.ref 12, .int l2, .int l3] [.int l2] rfl rfl (Nat.le_of_ble_eq_true rfl) (ok_X10_feelsBy d 12 l2 l3 σ q4 h5) ?_
      show rf_G _ _ _ (32, [some (.ref 0), some (.int l1), some (.int l2), some (.int l3), some (.int l4), some (.int s6.1), some (.int s6.2)], [.int q4, .int l2], σ) _ _
      refine rf_b wf1 rc_X10_isBy_ok 18 8 (45, [some (.ref 0), some (.int l1), some (.int l2), some (.int l3), some (.int l4), some (.int s6.1), some (.int s6.2)], [.int ((40 * l1) + s6.2), .ref 2, .int l4, .int q4, .int l2], σ) rfl ?_
      obtain ⟨g6, h⟩ := rf_ifn h
      refine rf_gd wf1 rc_X10_isBy_ok 26 (46, [some (.ref 0), some (.int l1), some (.int l2), some (.int l3), some (.int l4), some (.int s6.1), some (.int s6.2)], [.int (σ.1 2 ((40 * l1) + s6.2).toNatClampNeg), .int l4, .int q4, .int l2], σ) rfl rfl g6 rfl ?_
      obtain ⟨q7, h8, h⟩ := Option.bind_eq_some_iff.mp h
      refine rf_cs1 (Mt := mX10_doesBy) rc_X10_isBy_ok 27 false rfl (List.mem_of_getElem? (i := 159) rfl) mw_X10_doesBy rfl [.int l2, .int q4, .int l4, .int (σ.1 2 ((40 * l1) + s6.2).toNatClampNeg)] [] rfl rfl (Nat.le_of_ble_eq_true rfl) (ok_X10_doesBy d l2 q4 l4 (σ.1 2 ((40 * l1) + s6.2).toNatClampNeg) σ q7 h8) ?_
      show rf_G _ _ _ (49, [some (.ref 0), some (.int l1), some (.int l2), some (.int l3), some (.int l4), some (.int s6.1), some (.int s6.2)], [.int q7], σ) _ _
      refine rf_b wf1 rc_X10_isBy_ok 28 9 (62, [some (.ref 0), some (.int l1), some (.int l2), some (.int l3), some (.int l4), some (.int s6.1), some (.int s6.2)], [.int (((40 * l1) + s6.2) + 1), .ref 2, .int q7], σ) rfl ?_
      obtain ⟨g9, h⟩ := rf_ifn h
      refine rf_gd wf1 rc_X10_isBy_ok 37 (63, [some (.ref 0), some (.int l1), some (.int l2), some (.int l3), some (.int l4), some (.int s6.1), some (.int s6.2)], [.int (σ.1 2 (((40 * l1) + s6.2) + 1).toNatClampNeg), .int q7], σ) rfl rfl g9 rfl ?_
      refine rf_b wf1 rc_X10_isBy_ok 38 1 (64, [some (.ref 0), some (.int l1), some (.int l2), some (.int l3), some (.int l4), some (.int s6.1), some (.int s6.2)], [.int 1, .int (σ.1 2 (((40 * l1) + s6.2) + 1).toNatClampNeg), .int q7], σ) rfl ?_
      by_cases c10 : (σ.1 2 (((40 * l1) + s6.2) + 1).toNatClampNeg) ≠ 1
      · rw [if_pos c10] at h
        refine rf_t wf1 rc_X10_isBy_ok 39 (71, [some (.ref 0), some (.int l1), some (.int l2), some (.int l3), some (.int l4), some (.int s6.1), some (.int s6.2)], [.int q7], σ) rfl rfl c10 rfl ?_
        refine rf_b wf1 rc_X10_isBy_ok 42 1 (72, [some (.ref 0), some (.int l1), some (.int l2), some (.int l3), some (.int l4), some (.int s6.1), some (.int s6.2)], [.int 0, .int q7], σ) rfl ?_
        refine rf_fg [true, true, true, true, true, false, true] [some (.ref 0), some (.int l1), some (.int l2), some (.int l3), some (.int l4), none, some (.int s6.2)] rfl ?_
        exact ok_X10_isBy_j72 d l1 l2 l3 l4 s6.2 0 q7 σ o h kl kx
      · rw [if_neg c10] at h
        refine rf_f wf1 rc_X10_isBy_ok 39 (67, [some (.ref 0), some (.int l1), some (.int l2), some (.int l3), some (.int l4), some (.int s6.1), some (.int s6.2)], [.int q7], σ) rfl rfl c10 rfl ?_
        refine rf_b wf1 rc_X10_isBy_ok 40 2 (72, [some (.ref 0), some (.int l1), some (.int l2), some (.int l3), some (.int l4), some (.int s6.1), some (.int s6.2)], [.int 1, .int q7], σ) rfl ?_
        refine rf_fg [true, true, true, true, true, false, true] [some (.ref 0), some (.int l1), some (.int l2), some (.int l3), some (.int l4), none, some (.int s6.2)] rfl ?_
        exact ok_X10_isBy_j72 d l1 l2 l3 l4 s6.2 1 q7 σ o h kl kx
def f_X10_isBy (p0 : Int32) (p1 : Int32) (p2 : Int32) (p3 : Int32) (σ : rf_S) : Option Int32 := (rf_lp (f_X10_isBy_b6 p0 p1 p2 p3 σ) 5000 (1, 0)).bind (fun e12 => if e12 = 0 ∨ e12 = 1 then some e12 else none)
set_option maxHeartbeats 2000000 in
theorem ok_X10_isBy (d : Nat) (p0 : Int32) (p1 : Int32) (p2 : Int32) (p3 : Int32) (σ : rf_S) (q : Int32) (h : f_X10_isBy p0 p1 p2 p3 σ = some q) : rf_Ex ly1 (d + 2) mX10_isBy [.ref 0, .int p0, .int p1, .int p2, .int p3] σ (some (.int q) : Option Value) σ := by
  unfold f_X10_isBy at h
  refine rf_ex mw_X10_isBy [some (.ref 0), some (.int p0), some (.int p1), some (.int p2), some (.int p3), none, none] (Nat.le_of_ble_eq_true rfl) rfl ?_
  refine rf_b wf1 rc_X10_isBy_ok 0 4 (6, [some (.ref 0), some (.int p0), some (.int p1), some (.int p2), some (.int p3), some (.int 1), some (.int 0)], [], σ) rfl ?_
  obtain ⟨e12, h13, h⟩ := Option.bind_eq_some_iff.mp h
  refine rf_lpG (b := f_X10_isBy_b6 p0 p1 p2 p3 σ) (G := fun (s6 : Int32 × Int32) => rf_G ly1 (d + 1) mX10_isBy (6, [some (.ref 0), some (.int p0), some (.int p1), some (.int p2), some (.int p3), some (.int s6.1), some (.int s6.2)], [], σ) (some (.int q) : Option Value) σ) (K := fun (e : (Int32)) => rf_G ly1 (d + 1) mX10_isBy (88, [none, none, none, none, none, some (.int e), none], [], σ) (some (.int q) : Option Value) σ) (fun (s6 : Int32 × Int32) (o : (Int32 × Int32) ⊕ (Int32)) hb kl kx => ok_X10_isBy_b6 d p0 p1 p2 p3 σ s6 o hb kl kx) 5000 (1, 0) e12 h13 ?_
  show rf_G _ _ _ (88, [none, none, none, none, none, some (.int e12), none], [], σ) _ _
  refine rf_b wf1 rc_X10_isBy_ok 50 1 (90, [none, none, none, none, none, some (.int e12), none], [.int e12], σ) rfl ?_
  obtain ⟨g14, h⟩ := rf_ifn h
  obtain rfl := Option.some.inj h
  exact rf_rz rc_X10_isBy_ok 51 rfl rfl g14
def rc_X10_shifts : List rf_E := [(0, .aload_n 0, 1, 0), (1, .iload_n 1, 1, 1), (2, .invokevirtual 169, 3, 0), (5, .ifCond .eq 12, 3, 17), (8, .iload_n 2, 1, 2), (9, .iconst 0, 1, 0), (10, .iconst 5, 1, 0), (11, .invokestatic 78, 3, 0), (14, .ifCond .ne 5, 3, 19), (17, .iconst (-1), 1, 0), (18, .ireturn, 1, 0), (19, .aload_n 0, 1, 0), (20, .iload_n 2, 1, 2), (21, .bipush 30, 2, 0), (23, .invokevirtual 247, 3, 0), (26, .istore_n 3, 1, 3), (27, .iload_n 3, 1, 3), (28, .ifCond .eq 5, 3, 33), (31, .iload_n 3, 1, 3), (32, .ireturn, 1, 0), (33, .iconst 0, 1, 0), (34, .istore 4, 2, 4), (36, .iconst 0, 1, 0), (37, .istore 5, 2, 5), (39, .iload 5, 2, 5), (41, .bipush 11, 2, 0), (43, .if_icmp .ge 53, 3, 96), (46, .iload 4, 2, 4), (48, .aload_n 0, 1, 0), (49, .iload_n 2, 1, 2), (50, .aload_n 0, 1, 0), (51, .getfield 38, 3, 1019), (54, .iload_n 1, 1, 1), (55, .iaload, 1, 0), (56, .aload_n 0, 1, 0), (57, .getfield 41, 3, 1020), (60, .iload_n 1, 1, 1), (61, .iaload, 1, 0), (62, .iload 5, 2, 5), (64, .iadd, 1, 0), (65, .iconst 5, 1, 0), (66, .isub, 1, 0), (67, .aload_n 0, 1, 0), (68, .getfield 44, 3, 1021), (71, .iload_n 1, 1, 1), (72, .iaload, 1, 0), (73, .invokevirtual 253, 3, 0), (76, .ifCond .eq 10, 3, 86), (79, .iconst 1, 1, 0), (80, .iload 5, 2, 5), (82, .ishl, 1, 0), (83, .goto 4, 3, 87), (86, .iconst 0, 1, 0), (87, .ior, 1, 0), (88, .istore 4, 2, 4), (90, .iinc 5 1, 3, 5), (93, .goto (-54), 3, 39), (96, .iload 4, 2, 4), (98, .ireturn, 1, 0)]
theorem rc_X10_shifts_ok : rf_rc mX10_shifts rc_X10_shifts = true := by decide +kernel
theorem mw_X10_shifts : rf_mw mX10_shifts := ⟨rf_mt_ok _ (List.mem_of_getElem? (i := 226) rfl), fun h => absurd h (by decide), fun _ => ⟨rf_mi_ok _ (List.mem_of_getElem? (i := 204) rfl), rf_mv_ok _ (List.mem_of_getElem? (i := 204) rfl)⟩, rf_mq_9 _ (List.mem_of_getElem? (i := 1) rfl)⟩
def f_X10_shifts_j87 (l1 : Int32) (l2 : Int32) (l5 : Int32) (t0 : Int32) (t1 : Int32) (σ : rf_S) : Option ((Int32 × Int32) ⊕ (Int32)) := some (.inl ((t1 ||| t0), (l5 + 1)))
set_option maxHeartbeats 2000000 in
theorem ok_X10_shifts_j87 (d : Nat) (l1 : Int32) (l2 : Int32) (l5 : Int32) (t0 : Int32) (t1 : Int32) (σ : rf_S) (o : ((Int32 × Int32) ⊕ (Int32))) (h : f_X10_shifts_j87 l1 l2 l5 t0 t1 σ = some o) {r : Option Value} {σr : rf_S} (kl : ∀ s', o = .inl s' → rf_G ly1 (d + 2) mX10_shifts (39, [some (.ref 0), some (.int l1), some (.int l2), none, some (.int s'.1), some (.int s'.2)], [], σ) r σr) (kx : ∀ e, o = .inr e → rf_G ly1 (d + 2) mX10_shifts (96, [none, none, none, none, some (.int e), none], [], σ) r σr) : rf_G ly1 (d + 2) mX10_shifts (87, [some (.ref 0), some (.int l1), some (.int l2), none, none, some (.int l5)], [.int t0, .int t1], σ) r σr := by
  unfold f_X10_shifts_j87 at h
  refine rf_b wf1 rc_X10_shifts_ok 53 4 (39, [some (.ref 0), some (.int l1), some (.int l2), none, some (.int (t1 ||| t0)), some (.int (l5 + 1))], [], σ) rfl ?_
  exact kl ((t1 ||| t0), (l5 + 1)) (Option.some.inj h).symm
def f_X10_shifts_b39 (l1 : Int32) (l2 : Int32) (σ : rf_S) (s39 : Int32 × Int32) : Option ((Int32 × Int32) ⊕ (Int32)) := if 11 ≤ s39.2 then (some (.inr s39.1)) else (if rf_ck ly1 0 9 l1 = true then (if rf_ck ly1 0 10 l1 = true then (if rf_ck ly1 0 11 l1 = true then ((f_X10_isBy l2 (σ.1 9 l1.toNatClampNeg) (((σ.1 10 l1.toNatClampNeg) + s39.2) - 5) (σ.1 11 l1.toNatClampNeg) σ).bind (fun q14 => if q14 = 0 then (f_X10_shifts_j87 l1 l2 s39.2 0 s39.1 σ) else (f_X10_shifts_j87 l1 l2 s39.2 (1 <<< (s39.2 &&& 31)) s39.1 σ))) else none) else none) else none)
set_option maxHeartbeats 2000000 in
theorem ok_X10_shifts_b39 (d : Nat) (l1 : Int32) (l2 : Int32) (σ : rf_S) (s39 : Int32 × Int32) (o : ((Int32 × Int32) ⊕ (Int32))) (h : f_X10_shifts_b39 l1 l2 σ s39 = some o) {r : Option Value} {σr : rf_S} (kl : ∀ s', o = .inl s' → rf_G ly1 (d + 2) mX10_shifts (39, [some (.ref 0), some (.int l1), some (.int l2), none, some (.int s'.1), some (.int s'.2)], [], σ) r σr) (kx : ∀ e, o = .inr e → rf_G ly1 (d + 2) mX10_shifts (96, [none, none, none, none, some (.int e), none], [], σ) r σr) : rf_G ly1 (d + 2) mX10_shifts (39, [some (.ref 0), some (.int l1), some (.int l2), none, some (.int s39.1), some (.int s39.2)], [], σ) r σr := by
  unfold f_X10_shifts_b39 at h
  refine rf_b wf1 rc_X10_shifts_ok 24 2 (43, [some (.ref 0), some (.int l1), some (.int l2), none, some (.int s39.1), some (.int s39.2)], [.int 11, .int s39.2], σ) rfl ?_
  by_cases c10 : 11 ≤ s39.2
  · rw [if_pos c10] at h
    refine rf_t wf1 rc_X10_shifts_ok 26 (96, [some (.ref 0), some (.int l1), some (.int l2), none, some (.int s39.1), some (.int s39.2)], [], σ) rfl rfl c10 rfl ?_
    refine rf_fg [false, false, false, true, true, false] [none, none, none, none, some (.int s39.1), none] rfl ?_
    exact kx s39.1 (Option.some.inj h).symm
  · rw [if_neg c10] at h
    refine rf_f wf1 rc_X10_shifts_ok 26 (46, [some (.ref 0), some (.int l1), some (.int l2), none, some (.int s39.1), some (.int s39.2)], [], σ) rfl rfl c10 rfl ?_
    refine rf_b wf1 rc_X10_shifts_ok 27 6 (55, [some (.ref 0), some (.int l1), some (.int l2), none, some (.int s39.1), some (.int s39.2)], [.int l1, .ref 9, .int l2, .ref 0, .int s39.1], σ) rfl ?_
    obtain ⟨g11, h⟩ := rf_ifn h
    refine rf_gd wf1 rc_X10_shifts_ok 33 (56, [some (.ref 0), some (.int l1), some (.int l2), none, some (.int s39.1), some (.int s39.2)], [.int (σ.1 9 l1.toNatClampNeg), .int l2, .ref 0, .int s39.1], σ) rfl rfl g11 rfl ?_
    refine rf_b wf1 rc_X10_shifts_ok 34 3 (61, [some (.ref 0), some (.int l1), some (.int l2), none, some (.int s39.1), some (.int s39.2)], [.int l1, .ref 10, .int (σ.1 9 l1.toNatClampNeg), .int l2, .ref 0, .int s39.1], σ) rfl ?_
    obtain ⟨g12, h⟩ := rf_ifn h
    refine rf_gd wf1 rc_X10_shifts_ok 37 (62, [some (.ref 0), some (.int l1), some (.int l2), none, some (.int s39.1), some (.int s39.2)], [.int (σ.1 10 l1.toNatClampNeg), .int (σ.1 9 l1.toNatClampNeg), .int l2, .ref 0, .int s39.1], σ) rfl rfl g12 rfl ?_
    refine rf_b wf1 rc_X10_shifts_ok 38 7 (72, [some (.ref 0), some (.int l1), some (.int l2), none, some (.int s39.1), some (.int s39.2)], [.int l1, .ref 11, .int (((σ.1 10 l1.toNatClampNeg) + s39.2) - 5), .int (σ.1 9 l1.toNatClampNeg), .int l2, .ref 0, .int s39.1], σ) rfl ?_
    obtain ⟨g13, h⟩ := rf_ifn h
    refine rf_gd wf1 rc_X10_shifts_ok 45 (73, [some (.ref 0), some (.int l1), some (.int l2), none, some (.int s39.1), some (.int s39.2)], [.int (σ.1 11 l1.toNatClampNeg), .int (((σ.1 10 l1.toNatClampNeg) + s39.2) - 5), .int (σ.1 9 l1.toNatClampNeg), .int l2, .ref 0, .int s39.1], σ) rfl rfl g13 rfl ?_
    obtain ⟨q14, h15, h⟩ := Option.bind_eq_some_iff.mp h
    refine rf_cv1 (Mt := mX10_isBy) wf1 rc_X10_shifts_ok 46 false rfl (List.mem_of_getElem? (i := 189) rfl) mw_X10_isBy rfl 0 [.int l2, .int (σ.1 9 l1.toNatClampNeg), .int (((σ.1 10 l1.toNatClampNeg) + s39.2) - 5), .int (σ.1 11 l1.toNatClampNeg)] [.int s39.1] rfl rfl rfl (Nat.le_of_ble_eq_true rfl) (ok_X10_isBy d l2 (σ.1 9 l1.toNatClampNeg) (((σ.1 10 l1.toNatClampNeg) + s39.2) - 5) (σ.1 11 l1.toNatClampNeg) σ q14 h15) ?_
    show rf_G _ _ _ (76, [some (.ref 0), some (.int l1), some (.int l2), none, some (.int s39.1), some (.int s39.2)], [.int q14, .int s39.1], σ) _ _
    by_cases c16 : q14 = 0
    · rw [if_pos c16] at h
      refine rf_t wf1 rc_X10_shifts_ok 47 (86, [some (.ref 0), some (.int l1), some (.int l2), none, some (.int s39.1), some (.int s39.2)], [.int s39.1], σ) rfl rfl c16 rfl ?_
      refine rf_b wf1 rc_X10_shifts_ok 52 1 (87, [some (.ref 0), some (.int l1), some (.int l2), none, some (.int s39.1), some (.int s39.2)], [.int 0, .int s39.1], σ) rfl ?_
      refine rf_fg [true, true, true, true, false, true] [some (.ref 0), some (.int l1), some (.int l2), none, none, some (.int s39.2)] rfl ?_
      exact ok_X10_shifts_j87 d l1 l2 s39.2 0 s39.1 σ o h kl kx
    · rw [if_neg c16] at h
      refine rf_f wf1 rc_X10_shifts_ok 47 (79, [some (.ref 0), some (.int l1), some (.int l2), none, some (.int s39.1), some (.int s39.2)], [.int s39.1], σ) rfl rfl c16 rfl ?_
      refine rf_b wf1 rc_X10_shifts_ok 48 4 (87, [some (.ref 0), some (.int l1), some (.int l2), none, some (.int s39.1), some (.int s39.2)], [.int (1 <<< (s39.2 &&& 31)), .int s39.1], σ) rfl ?_
      refine rf_fg [true, true, true, true, false, true] [some (.ref 0), some (.int l1), some (.int l2), none, none, some (.int s39.2)] rfl ?_
      exact ok_X10_shifts_j87 d l1 l2 s39.2 (1 <<< (s39.2 &&& 31)) s39.1 σ o h kl kx
def f_X10_shifts (p0 : Int32) (p1 : Int32) (σ : rf_S) : Option (Int32 × rf_S) := (f_X10_isOne p0 σ).bind (fun q1 => if q1 = 0 then (some ((-1), σ)) else ((f_X10_in p1 0 5 σ).bind (fun q4 => if q4 ≠ 0 then ((f_X10_wrongPairs p1 30 σ).bind (fun q7 => if q7.1 = 0 then ((rf_lp (f_X10_shifts_b39 p0 p1 q7.2) 5000 (0, 0)).bind (fun e17 => some (e17, q7.2))) else (some (q7.1, q7.2)))) else (some ((-1), σ)))))
set_option maxHeartbeats 2000000 in
theorem ok_X10_shifts (d : Nat) (p0 : Int32) (p1 : Int32) (σ : rf_S) (q : (Int32 × rf_S)) (h : f_X10_shifts p0 p1 σ = some q) : rf_Ex ly1 (d + 3) mX10_shifts [.ref 0, .int p0, .int p1] σ (some (.int q.1) : Option Value) q.2 := by
  unfold f_X10_shifts at h
  refine rf_ex mw_X10_shifts [some (.ref 0), some (.int p0), some (.int p1), none, none, none] (Nat.le_of_ble_eq_true rfl) rfl ?_
  refine rf_b wf1 rc_X10_shifts_ok 0 2 (2, [some (.ref 0), some (.int p0), some (.int p1), none, none, none], [.int p0, .ref 0], σ) rfl ?_
  obtain ⟨q1, h2, h⟩ := Option.bind_eq_some_iff.mp h
  refine rf_cv1 (Mt := mX10_isOne) wf1 rc_X10_shifts_ok 2 false rfl (List.mem_of_getElem? (i := 163) rfl) mw_X10_isOne rfl 0 [.int p0] [] rfl rfl rfl (Nat.le_of_ble_eq_true rfl) (ok_X10_isOne d p0 σ q1 h2) ?_
  show rf_G _ _ _ (5, [some (.ref 0), some (.int p0), some (.int p1), none, none, none], [.int q1], σ) _ _
  by_cases c3 : q1 = 0
  · rw [if_pos c3] at h
    refine rf_t wf1 rc_X10_shifts_ok 3 (17, [some (.ref 0), some (.int p0), some (.int p1), none, none, none], [], σ) rfl rfl c3 rfl ?_
    refine rf_b wf1 rc_X10_shifts_ok 9 1 (18, [some (.ref 0), some (.int p0), some (.int p1), none, none, none], [.int (-1)], σ) rfl ?_
    obtain rfl := Option.some.inj h
    exact rf_ri rc_X10_shifts_ok 10 rfl rfl
  · rw [if_neg c3] at h
    refine rf_f wf1 rc_X10_shifts_ok 3 (8, [some (.ref 0), some (.int p0), some (.int p1), none, none, none], [], σ) rfl rfl c3 rfl ?_
    refine rf_b wf1 rc_X10_shifts_ok 4 3 (11, [some (.ref 0), some (.int p0), some (.int p1), none, none, none], [.int 5, .int 0, .int p1], σ) rfl ?_
    obtain ⟨q4, h5, h⟩ := Option.bind_eq_some_iff.mp h
    refine rf_cs1 (Mt := mX10_in) rc_X10_shifts_ok 7 false rfl (List.mem_of_getElem? (i := 143) rfl) mw_X10_in rfl [.int p1, .int 0, .int 5] [] rfl rfl (Nat.le_of_ble_eq_true rfl) (ok_X10_in (d + 1) p1 0 5 σ q4 h5) ?_
    show rf_G _ _ _ (14, [some (.ref 0), some (.int p0), some (.int p1), none, none, none], [.int q4], σ) _ _
    by_cases c6 : q4 ≠ 0
    · rw [if_pos c6] at h
      refine rf_t wf1 rc_X10_shifts_ok 8 (19, [some (.ref 0), some (.int p0), some (.int p1), none, none, none], [], σ) rfl rfl c6 rfl ?_
      refine rf_b wf1 rc_X10_shifts_ok 11 3 (23, [some (.ref 0), some (.int p0), some (.int p1), none, none, none], [.int 30, .int p1, .ref 0], σ) rfl ?_
      obtain ⟨q7, h8, h⟩ := Option.bind_eq_some_iff.mp h
      refine rf_cv1 (Mt := mX10_wrongPairs) wf1 rc_X10_shifts_ok 14 false rfl (List.mem_of_getElem? (i := 187) rfl) mw_X10_wrongPairs rfl 0 [.int p1, .int 30] [] rfl rfl rfl (Nat.le_of_ble_eq_true rfl) (ok_X10_wrongPairs d p1 30 σ q7 h8) ?_
      show rf_G _ _ _ (26, [some (.ref 0), some (.int p0), some (.int p1), none, none, none], [.int q7.1], q7.2) _ _
      refine rf_b wf1 rc_X10_shifts_ok 15 2 (28, [some (.ref 0), some (.int p0), some (.int p1), some (.int q7.1), none, none], [.int q7.1], q7.2) rfl ?_
      by_cases c9 : q7.1 = 0
      · rw [if_pos c9] at h
        refine rf_t wf1 rc_X10_shifts_ok 17 (33, [some (.ref 0), some (.int p0), some (.int p1), some (.int q7.1), none, none], [], q7.2) rfl rfl c9 rfl ?_
        refine rf_b wf1 rc_X10_shifts_ok 20 4 (39, [some (.ref 0), some (.int p0), some (.int p1), some (.int q7.1), some (.int 0), some (.int 0)], [], q7.2) rfl ?_
        refine rf_fg [true, true, true, false, true, true] [some (.ref 0), some (.int p0), some (.int p1), none, some (.int 0), some (.int 0)] rfl ?_
        obtain ⟨e17, h18, h⟩ := Option.bind_eq_some_iff.mp h
        refine rf_lpG (b := f_X10_shifts_b39 p0 p1 q7.2) (G := fun (s39 : Int32 × Int32) => rf_G ly1 (d + 2) mX10_shifts (39, [some (.ref 0), some (.int p0), some (.int p1), none, some (.int s39.1), some (.int s39.2)], [], q7.2) (some (.int q.1) : Option Value) q.2) (K := fun (e : (Int32)) => rf_G ly1 (d + 2) mX10_shifts (96, [none, none, none, none, some (.int e), none], [], q7.2) (some (.int q.1) : Option Value) q.2) (fun (s39 : Int32 × Int32) (o : (Int32 × Int32) ⊕ (Int32)) hb kl kx => ok_X10_shifts_b39 d p0 p1 q7.2 s39 o hb kl kx) 5000 (0, 0) e17 h18 ?_
        show rf_G _ _ _ (96, [none, none, none, none, some (.int e17), none], [], q7.2) _ _
        refine rf_b wf1 rc_X10_shifts_ok 57 1 (98, [none, none, none, none, some (.int e17), none], [.int e17], q7.2) rfl ?_
        obtain rfl := Option.some.inj h
        exact rf_ri rc_X10_shifts_ok 58 rfl rfl
      · rw [if_neg c9] at h
        refine rf_f wf1 rc_X10_shifts_ok 17 (31, [some (.ref 0), some (.int p0), some (.int p1), some (.int q7.1), none, none], [], q7.2) rfl rfl c9 rfl ?_
        refine rf_b wf1 rc_X10_shifts_ok 18 1 (32, [some (.ref 0), some (.int p0), some (.int p1), some (.int q7.1), none, none], [.int q7.1], q7.2) rfl ?_
        obtain rfl := Option.some.inj h
        exact rf_ri rc_X10_shifts_ok 19 rfl rfl
    · rw [if_neg c6] at h
      refine rf_f wf1 rc_X10_shifts_ok 8 (17, [some (.ref 0), some (.int p0), some (.int p1), none, none, none], [], σ) rfl rfl c6 rfl ?_
      refine rf_b wf1 rc_X10_shifts_ok 9 1 (18, [some (.ref 0), some (.int p0), some (.int p1), none, none, none], [.int (-1)], σ) rfl ?_
      obtain rfl := Option.some.inj h
      exact rf_ri rc_X10_shifts_ok 10 rfl rfl
def rc_X10_kinds : List rf_E := [(0, .aload_n 0, 1, 0), (1, .iload_n 1, 1, 1), (2, .invokevirtual 169, 3, 0), (5, .ifCond .eq 12, 3, 17), (8, .iload_n 2, 1, 2), (9, .iconst 0, 1, 0), (10, .iconst 5, 1, 0), (11, .invokestatic 78, 3, 0), (14, .ifCond .ne 5, 3, 19), (17, .iconst (-1), 1, 0), (18, .ireturn, 1, 0), (19, .aload_n 0, 1, 0), (20, .iload_n 2, 1, 2), (21, .bipush 30, 2, 0), (23, .invokevirtual 247, 3, 0), (26, .istore_n 3, 1, 3), (27, .iload_n 3, 1, 3), (28, .ifCond .eq 5, 3, 33), (31, .iload_n 3, 1, 3), (32, .ireturn, 1, 0), (33, .iconst 0, 1, 0), (34, .istore 4, 2, 4), (36, .iconst 0, 1, 0), (37, .istore 5, 2, 5), (39, .iload 5, 2, 5), (41, .bipush 6, 2, 0), (43, .if_icmp .ge 54, 3, 97), (46, .iload 4, 2, 4), (48, .aload_n 0, 1, 0), (49, .iload_n 2, 1, 2), (50, .iload 5, 2, 5), (52, .aload_n 0, 1, 0), (53, .getfield 41, 3, 1020), (56, .iload_n 1, 1, 1), (57, .iaload, 1, 0), (58, .aload_n 0, 1, 0), (59, .getfield 47, 3, 1022), (62, .bipush 16, 2, 0), (64, .iload_n 1, 1, 1), (65, .iadd, 1, 0), (66, .iaload, 1, 0), (67, .iadd, 1, 0), (68, .aload_n 0, 1, 0), (69, .getfield 44, 3, 1021), (72, .iload_n 1, 1, 1), (73, .iaload, 1, 0), (74, .invokevirtual 253, 3, 0), (77, .ifCond .eq 10, 3, 87), (80, .iconst 1, 1, 0), (81, .iload 5, 2, 5), (83, .ishl, 1, 0), (84, .goto 4, 3, 88), (87, .iconst 0, 1, 0), (88, .ior, 1, 0), (89, .istore 4, 2, 4), (91, .iinc 5 1, 3, 5), (94, .goto (-55), 3, 39), (97, .iload 4, 2, 4), (99, .ireturn, 1, 0)]
theorem rc_X10_kinds_ok : rf_rc mX10_kinds rc_X10_kinds = true := by decide +kernel
theorem mw_X10_kinds : rf_mw mX10_kinds := ⟨rf_mt_ok _ (List.mem_of_getElem? (i := 227) rfl), fun h => absurd h (by decide), fun _ => ⟨rf_mi_ok _ (List.mem_of_getElem? (i := 205) rfl), rf_mv_ok _ (List.mem_of_getElem? (i := 205) rfl)⟩, rf_mq_9 _ (List.mem_of_getElem? (i := 2) rfl)⟩
def f_X10_kinds_j88 (l1 : Int32) (l2 : Int32) (l5 : Int32) (t0 : Int32) (t1 : Int32) (σ : rf_S) : Option ((Int32 × Int32) ⊕ (Int32)) := some (.inl ((t1 ||| t0), (l5 + 1)))
set_option maxHeartbeats 2000000 in
theorem ok_X10_kinds_j88 (d : Nat) (l1 : Int32) (l2 : Int32) (l5 : Int32) (t0 : Int32) (t1 : Int32) (σ : rf_S) (o : ((Int32 × Int32) ⊕ (Int32))) (h : f_X10_kinds_j88 l1 l2 l5 t0 t1 σ = some o) {r : Option Value} {σr : rf_S} (kl : ∀ s', o = .inl s' → rf_G ly1 (d + 2) mX10_kinds (39, [some (.ref 0), some (.int l1), some (.int l2), none, some (.int s'.1), some (.int s'.2)], [], σ) r σr) (kx : ∀ e, o = .inr e → rf_G ly1 (d + 2) mX10_kinds (97, [none, none, none, none, some (.int e), none], [], σ) r σr) : rf_G ly1 (d + 2) mX10_kinds (88, [some (.ref 0), some (.int l1), some (.int l2), none, none, some (.int l5)], [.int t0, .int t1], σ) r σr := by
  unfold f_X10_kinds_j88 at h
  refine rf_b wf1 rc_X10_kinds_ok 53 4 (39, [some (.ref 0), some (.int l1), some (.int l2), none, some (.int (t1 ||| t0)), some (.int (l5 + 1))], [], σ) rfl ?_
  exact kl ((t1 ||| t0), (l5 + 1)) (Option.some.inj h).symm
def f_X10_kinds_b39 (l1 : Int32) (l2 : Int32) (σ : rf_S) (s39 : Int32 × Int32) : Option ((Int32 × Int32) ⊕ (Int32)) := if 6 ≤ s39.2 then (some (.inr s39.1)) else (if rf_ck ly1 0 10 l1 = true then (if rf_ck ly1 0 12 (16 + l1) = true then (if rf_ck ly1 0 11 l1 = true then ((f_X10_isBy l2 s39.2 ((σ.1 10 l1.toNatClampNeg) + (σ.1 12 (16 + l1).toNatClampNeg)) (σ.1 11 l1.toNatClampNeg) σ).bind (fun q14 => if q14 = 0 then (f_X10_kinds_j88 l1 l2 s39.2 0 s39.1 σ) else (f_X10_kinds_j88 l1 l2 s39.2 (1 <<< (s39.2 &&& 31)) s39.1 σ))) else none) else none) else none)
set_option maxHeartbeats 2000000 in
theorem ok_X10_kinds_b39 (d : Nat) (l1 : Int32) (l2 : Int32) (σ : rf_S) (s39 : Int32 × Int32) (o : ((Int32 × Int32) ⊕ (Int32))) (h : f_X10_kinds_b39 l1 l2 σ s39 = some o) {r : Option Value} {σr : rf_S} (kl : ∀ s', o = .inl s' → rf_G ly1 (d + 2) mX10_kinds (39, [some (.ref 0), some (.int l1), some (.int l2), none, some (.int s'.1), some (.int s'.2)], [], σ) r σr) (kx : ∀ e, o = .inr e → rf_G ly1 (d + 2) mX10_kinds (97, [none, none, none, none, some (.int e), none], [], σ) r σr) : rf_G ly1 (d + 2) mX10_kinds (39, [some (.ref 0), some (.int l1), some (.int l2), none, some (.int s39.1), some (.int s39.2)], [], σ) r σr := by
  unfold f_X10_kinds_b39 at h
  refine rf_b wf1 rc_X10_kinds_ok 24 2 (43, [some (.ref 0), some (.int l1), some (.int l2), none, some (.int s39.1), some (.int s39.2)], [.int 6, .int s39.2], σ) rfl ?_
  by_cases c10 : 6 ≤ s39.2
  · rw [if_pos c10] at h
    refine rf_t wf1 rc_X10_kinds_ok 26 (97, [some (.ref 0), some (.int l1), some (.int l2), none, some (.int s39.1), some (.int s39.2)], [], σ) rfl rfl c10 rfl ?_
    refine rf_fg [false, false, false, true, true, false] [none, none, none, none, some (.int s39.1), none] rfl ?_
    exact kx s39.1 (Option.some.inj h).symm
  · rw [if_neg c10] at h
    refine rf_f wf1 rc_X10_kinds_ok 26 (46, [some (.ref 0), some (.int l1), some (.int l2), none, some (.int s39.1), some (.int s39.2)], [], σ) rfl rfl c10 rfl ?_
    refine rf_b wf1 rc_X10_kinds_ok 27 7 (57, [some (.ref 0), some (.int l1), some (.int l2), none, some (.int s39.1), some (.int s39.2)], [.int l1, .ref 10, .int s39.2, .int l2, .ref 0, .int s39.1], σ) rfl ?_
    obtain ⟨g11, h⟩ := rf_ifn h
    refine rf_gd wf1 rc_X10_kinds_ok 34 (58, [some (.ref 0), some (.int l1), some (.int l2), none, some (.int s39.1), some (.int s39.2)], [.int (σ.1 10 l1.toNatClampNeg), .int s39.2, .int l2, .ref 0, .int s39.1], σ) rfl rfl g11 rfl ?_
    refine rf_b wf1 rc_X10_kinds_ok 35 5 (66, [some (.ref 0), some (.int l1), some (.int l2), none, some (.int s39.1), some (.int s39.2)], [.int (16 + l1), .ref 12, .int (σ.1 10 l1.toNatClampNeg), .int s39.2, .int l2, .ref 0, .int s39.1], σ) rfl ?_
    obtain ⟨g12, h⟩ := rf_ifn h
    refine rf_gd wf1 rc_X10_kinds_ok 40 (67, [some (.ref 0), some (.int l1), some (.int l2), none, some (.int s39.1), some (.int s39.2)], [.int (σ.1 12 (16 + l1).toNatClampNeg), .int (σ.1 10 l1.toNatClampNeg), .int s39.2, .int l2, .ref 0, .int s39.1], σ) rfl rfl g12 rfl ?_
    refine rf_b wf1 rc_X10_kinds_ok 41 4 (73, [some (.ref 0), some (.int l1), some (.int l2), none, some (.int s39.1), some (.int s39.2)], [.int l1, .ref 11, .int ((σ.1 10 l1.toNatClampNeg) + (σ.1 12 (16 + l1).toNatClampNeg)), .int s39.2, .int l2, .ref 0, .int s39.1], σ) rfl ?_
    obtain ⟨g13, h⟩ := rf_ifn h
    refine rf_gd wf1 rc_X10_kinds_ok 45 (74, [some (.ref 0), some (.int l1), some (.int l2), none, some (.int s39.1), some (.int s39.2)], [.int (σ.1 11 l1.toNatClampNeg), .int ((σ.1 10 l1.toNatClampNeg) + (σ.1 12 (16 + l1).toNatClampNeg)), .int s39.2, .int l2, .ref 0, .int s39.1], σ) rfl rfl g13 rfl ?_
    obtain ⟨q14, h15, h⟩ := Option.bind_eq_some_iff.mp h
    refine rf_cv1 (Mt := mX10_isBy) wf1 rc_X10_kinds_ok 46 false rfl (List.mem_of_getElem? (i := 189) rfl) mw_X10_isBy rfl 0 [.int l2, .int s39.2, .int ((σ.1 10 l1.toNatClampNeg) + (σ.1 12 (16 + l1).toNatClampNeg)), .int (σ.1 11 l1.toNatClampNeg)] [.int s39.1] rfl rfl rfl (Nat.le_of_ble_eq_true rfl) (ok_X10_isBy d l2 s39.2 ((σ.1 10 l1.toNatClampNeg) + (σ.1 12 (16 + l1).toNatClampNeg)) (σ.1 11 l1.toNatClampNeg) σ q14 h15) ?_
    show rf_G _ _ _ (77, [some (.ref 0), some (.int l1), some (.int l2), none, some (.int s39.1), some (.int s39.2)], [.int q14, .int s39.1], σ) _ _
    by_cases c16 : q14 = 0
    · rw [if_pos c16] at h
      refine rf_t wf1 rc_X10_kinds_ok 47 (87, [some (.ref 0), some (.int l1), some (.int l2), none, some (.int s39.1), some (.int s39.2)], [.int s39.1], σ) rfl rfl c16 rfl ?_
      refine rf_b wf1 rc_X10_kinds_ok 52 1 (88, [some (.ref 0), some (.int l1), some (.int l2), none, some (.int s39.1), some (.int s39.2)], [.int 0, .int s39.1], σ) rfl ?_
      refine rf_fg [true, true, true, true, false, true] [some (.ref 0), some (.int l1), some (.int l2), none, none, some (.int s39.2)] rfl ?_
      exact ok_X10_kinds_j88 d l1 l2 s39.2 0 s39.1 σ o h kl kx
    · rw [if_neg c16] at h
      refine rf_f wf1 rc_X10_kinds_ok 47 (80, [some (.ref 0), some (.int l1), some (.int l2), none, some (.int s39.1), some (.int s39.2)], [.int s39.1], σ) rfl rfl c16 rfl ?_
      refine rf_b wf1 rc_X10_kinds_ok 48 4 (88, [some (.ref 0), some (.int l1), some (.int l2), none, some (.int s39.1), some (.int s39.2)], [.int (1 <<< (s39.2 &&& 31)), .int s39.1], σ) rfl ?_
      refine rf_fg [true, true, true, true, false, true] [some (.ref 0), some (.int l1), some (.int l2), none, none, some (.int s39.2)] rfl ?_
      exact ok_X10_kinds_j88 d l1 l2 s39.2 (1 <<< (s39.2 &&& 31)) s39.1 σ o h kl kx
def f_X10_kinds (p0 : Int32) (p1 : Int32) (σ : rf_S) : Option (Int32 × rf_S) := (f_X10_isOne p0 σ).bind (fun q1 => if q1 = 0 then (some ((-1), σ)) else ((f_X10_in p1 0 5 σ).bind (fun q4 => if q4 ≠ 0 then ((f_X10_wrongPairs p1 30 σ).bind (fun q7 => if q7.1 = 0 then ((rf_lp (f_X10_kinds_b39 p0 p1 q7.2) 5000 (0, 0)).bind (fun e17 => some (e17, q7.2))) else (some (q7.1, q7.2)))) else (some ((-1), σ)))))
set_option maxHeartbeats 2000000 in
theorem ok_X10_kinds (d : Nat) (p0 : Int32) (p1 : Int32) (σ : rf_S) (q : (Int32 × rf_S)) (h : f_X10_kinds p0 p1 σ = some q) : rf_Ex ly1 (d + 3) mX10_kinds [.ref 0, .int p0, .int p1] σ (some (.int q.1) : Option Value) q.2 := by
  unfold f_X10_kinds at h
  refine rf_ex mw_X10_kinds [some (.ref 0), some (.int p0), some (.int p1), none, none, none] (Nat.le_of_ble_eq_true rfl) rfl ?_
  refine rf_b wf1 rc_X10_kinds_ok 0 2 (2, [some (.ref 0), some (.int p0), some (.int p1), none, none, none], [.int p0, .ref 0], σ) rfl ?_
  obtain ⟨q1, h2, h⟩ := Option.bind_eq_some_iff.mp h
  refine rf_cv1 (Mt := mX10_isOne) wf1 rc_X10_kinds_ok 2 false rfl (List.mem_of_getElem? (i := 163) rfl) mw_X10_isOne rfl 0 [.int p0] [] rfl rfl rfl (Nat.le_of_ble_eq_true rfl) (ok_X10_isOne d p0 σ q1 h2) ?_
  show rf_G _ _ _ (5, [some (.ref 0), some (.int p0), some (.int p1), none, none, none], [.int q1], σ) _ _
  by_cases c3 : q1 = 0
  · rw [if_pos c3] at h
    refine rf_t wf1 rc_X10_kinds_ok 3 (17, [some (.ref 0), some (.int p0), some (.int p1), none, none, none], [], σ) rfl rfl c3 rfl ?_
    refine rf_b wf1 rc_X10_kinds_ok 9 1 (18, [some (.ref 0), some (.int p0), some (.int p1), none, none, none], [.int (-1)], σ) rfl ?_
    obtain rfl := Option.some.inj h
    exact rf_ri rc_X10_kinds_ok 10 rfl rfl
  · rw [if_neg c3] at h
    refine rf_f wf1 rc_X10_kinds_ok 3 (8, [some (.ref 0), some (.int p0), some (.int p1), none, none, none], [], σ) rfl rfl c3 rfl ?_
    refine rf_b wf1 rc_X10_kinds_ok 4 3 (11, [some (.ref 0), some (.int p0), some (.int p1), none, none, none], [.int 5, .int 0, .int p1], σ) rfl ?_
    obtain ⟨q4, h5, h⟩ := Option.bind_eq_some_iff.mp h
    refine rf_cs1 (Mt := mX10_in) rc_X10_kinds_ok 7 false rfl (List.mem_of_getElem? (i := 143) rfl) mw_X10_in rfl [.int p1, .int 0, .int 5] [] rfl rfl (Nat.le_of_ble_eq_true rfl) (ok_X10_in (d + 1) p1 0 5 σ q4 h5) ?_
    show rf_G _ _ _ (14, [some (.ref 0), some (.int p0), some (.int p1), none, none, none], [.int q4], σ) _ _
    by_cases c6 : q4 ≠ 0
    · rw [if_pos c6] at h
      refine rf_t wf1 rc_X10_kinds_ok 8 (19, [some (.ref 0), some (.int p0), some (.int p1), none, none, none], [], σ) rfl rfl c6 rfl ?_
      refine rf_b wf1 rc_X10_kinds_ok 11 3 (23, [some (.ref 0), some (.int p0), some (.int p1), none, none, none], [.int 30, .int p1, .ref 0], σ) rfl ?_
      obtain ⟨q7, h8, h⟩ := Option.bind_eq_some_iff.mp h
      refine rf_cv1 (Mt := mX10_wrongPairs) wf1 rc_X10_kinds_ok 14 false rfl (List.mem_of_getElem? (i := 187) rfl) mw_X10_wrongPairs rfl 0 [.int p1, .int 30] [] rfl rfl rfl (Nat.le_of_ble_eq_true rfl) (ok_X10_wrongPairs d p1 30 σ q7 h8) ?_
      show rf_G _ _ _ (26, [some (.ref 0), some (.int p0), some (.int p1), none, none, none], [.int q7.1], q7.2) _ _
      refine rf_b wf1 rc_X10_kinds_ok 15 2 (28, [some (.ref 0), some (.int p0), some (.int p1), some (.int q7.1), none, none], [.int q7.1], q7.2) rfl ?_
      by_cases c9 : q7.1 = 0
      · rw [if_pos c9] at h
        refine rf_t wf1 rc_X10_kinds_ok 17 (33, [some (.ref 0), some (.int p0), some (.int p1), some (.int q7.1), none, none], [], q7.2) rfl rfl c9 rfl ?_
        refine rf_b wf1 rc_X10_kinds_ok 20 4 (39, [some (.ref 0), some (.int p0), some (.int p1), some (.int q7.1), some (.int 0), some (.int 0)], [], q7.2) rfl ?_
        refine rf_fg [true, true, true, false, true, true] [some (.ref 0), some (.int p0), some (.int p1), none, some (.int 0), some (.int 0)] rfl ?_
        obtain ⟨e17, h18, h⟩ := Option.bind_eq_some_iff.mp h
        refine rf_lpG (b := f_X10_kinds_b39 p0 p1 q7.2) (G := fun (s39 : Int32 × Int32) => rf_G ly1 (d + 2) mX10_kinds (39, [some (.ref 0), some (.int p0), some (.int p1), none, some (.int s39.1), some (.int s39.2)], [], q7.2) (some (.int q.1) : Option Value) q.2) (K := fun (e : (Int32)) => rf_G ly1 (d + 2) mX10_kinds (97, [none, none, none, none, some (.int e), none], [], q7.2) (some (.int q.1) : Option Value) q.2) (fun (s39 : Int32 × Int32) (o : (Int32 × Int32) ⊕ (Int32)) hb kl kx => ok_X10_kinds_b39 d p0 p1 q7.2 s39 o hb kl kx) 5000 (0, 0) e17 h18 ?_
        show rf_G _ _ _ (97, [none, none, none, none, some (.int e17), none], [], q7.2) _ _
        refine rf_b wf1 rc_X10_kinds_ok 57 1 (99, [none, none, none, none, some (.int e17), none], [.int e17], q7.2) rfl ?_
        obtain rfl := Option.some.inj h
        exact rf_ri rc_X10_kinds_ok 58 rfl rfl
      · rw [if_neg c9] at h
        refine rf_f wf1 rc_X10_kinds_ok 17 (31, [some (.ref 0), some (.int p0), some (.int p1), some (.int q7.1), none, none], [], q7.2) rfl rfl c9 rfl ?_
        refine rf_b wf1 rc_X10_kinds_ok 18 1 (32, [some (.ref 0), some (.int p0), some (.int p1), some (.int q7.1), none, none], [.int q7.1], q7.2) rfl ?_
        obtain rfl := Option.some.inj h
        exact rf_ri rc_X10_kinds_ok 19 rfl rfl
    · rw [if_neg c6] at h
      refine rf_f wf1 rc_X10_kinds_ok 8 (17, [some (.ref 0), some (.int p0), some (.int p1), none, none, none], [], σ) rfl rfl c6 rfl ?_
      refine rf_b wf1 rc_X10_kinds_ok 9 1 (18, [some (.ref 0), some (.int p0), some (.int p1), none, none, none], [.int (-1)], σ) rfl ?_
      obtain rfl := Option.some.inj h
      exact rf_ri rc_X10_kinds_ok 10 rfl rfl
def rc_X10_spreads : List rf_E := [(0, .iload_n 1, 1, 1), (1, .iconst 0, 1, 0), (2, .bipush 12, 2, 0), (4, .invokestatic 78, 3, 0), (7, .ifCond .ne 5, 3, 12), (10, .iconst (-1), 1, 0), (11, .ireturn, 1, 0), (12, .aload_n 0, 1, 0), (13, .getfield 75, 3, 1017), (16, .ifCond .ne 6, 3, 22), (19, .bipush (-4), 2, 0), (21, .ireturn, 1, 0), (22, .aload_n 0, 1, 0), (23, .getfield 47, 3, 1022), (26, .iconst 0, 1, 0), (27, .aload_n 0, 1, 0), (28, .getfield 50, 3, 1023), (31, .iconst 0, 1, 0), (32, .bipush 25, 2, 0), (34, .invokestatic 195, 3, 0), (37, .aload_n 0, 1, 0), (38, .aload_n 0, 1, 0), (39, .getfield 50, 3, 1023), (42, .invokevirtual 216, 3, 0), (45, .istore_n 2, 1, 2), (46, .iconst 0, 1, 0), (47, .istore_n 3, 1, 3), (48, .iload_n 3, 1, 3), (49, .iload_n 1, 1, 1), (50, .if_icmp .ge 29, 3, 79), (53, .aload_n 0, 1, 0), (54, .aload_n 0, 1, 0), (55, .getfield 50, 3, 1023), (58, .invokevirtual 213, 3, 0), (61, .pop, 1, 0), (62, .iload_n 2, 1, 2), (63, .aload_n 0, 1, 0), (64, .aload_n 0, 1, 0), (65, .getfield 50, 3, 1023), (68, .invokevirtual 216, 3, 0), (71, .ior, 1, 0), (72, .istore_n 2, 1, 2), (73, .iinc 3 1, 3, 3), (76, .goto (-28), 3, 48), (79, .aload_n 0, 1, 0), (80, .iload_n 2, 1, 2), (81, .invokevirtual 93, 3, 0), (84, .pop, 1, 0), (85, .aload_n 0, 1, 0), (86, .aload_n 0, 1, 0), (87, .getfield 50, 3, 1023), (90, .invokevirtual 216, 3, 0), (93, .ireturn, 1, 0)]
theorem rc_X10_spreads_ok : rf_rc mX10_spreads rc_X10_spreads = true := by decide +kernel
theorem mw_X10_spreads : rf_mw mX10_spreads := ⟨rf_mt_ok _ (List.mem_of_getElem? (i := 228) rfl), fun h => absurd h (by decide), fun _ => ⟨rf_mi_ok _ (List.mem_of_getElem? (i := 206) rfl), rf_mv_ok _ (List.mem_of_getElem? (i := 206) rfl)⟩, rf_mq_9 _ (List.mem_of_getElem? (i := 3) rfl)⟩
def f_X10_spreads_b48 (l1 : Int32) (s48 : Int32 × Int32 × rf_S) : Option ((Int32 × Int32 × rf_S) ⊕ (Int32 × rf_S)) := if l1 ≤ s48.2.1 then (some (.inr (s48.1, s48.2.2))) else ((f_X10_pass 13 s48.2.2).bind (fun q10 => (f_X10_coldOnes 13 q10.2).bind (fun q12 => some (.inl ((s48.1 ||| q12), (s48.2.1 + 1), q10.2)))))
set_option maxHeartbeats 2000000 in
theorem ok_X10_spreads_b48 (d : Nat) (l1 : Int32) (s48 : Int32 × Int32 × rf_S) (o : ((Int32 × Int32 × rf_S) ⊕ (Int32 × rf_S))) (h : f_X10_spreads_b48 l1 s48 = some o) {r : Option Value} {σr : rf_S} (kl : ∀ s', o = .inl s' → rf_G ly1 (d + 2) mX10_spreads (48, [some (.ref 0), some (.int l1), some (.int s'.1), some (.int s'.2.1)], [], s'.2.2) r σr) (kx : ∀ e, o = .inr e → rf_G ly1 (d + 2) mX10_spreads (79, [some (.ref 0), none, some (.int e.1), none], [], e.2) r σr) : rf_G ly1 (d + 2) mX10_spreads (48, [some (.ref 0), some (.int l1), some (.int s48.1), some (.int s48.2.1)], [], s48.2.2) r σr := by
  unfold f_X10_spreads_b48 at h
  refine rf_b wf1 rc_X10_spreads_ok 27 2 (50, [some (.ref 0), some (.int l1), some (.int s48.1), some (.int s48.2.1)], [.int l1, .int s48.2.1], s48.2.2) rfl ?_
  by_cases c9 : l1 ≤ s48.2.1
  · rw [if_pos c9] at h
    refine rf_t wf1 rc_X10_spreads_ok 29 (79, [some (.ref 0), some (.int l1), some (.int s48.1), some (.int s48.2.1)], [], s48.2.2) rfl rfl c9 rfl ?_
    refine rf_fg [true, false, true, false] [some (.ref 0), none, some (.int s48.1), none] rfl ?_
    exact kx (s48.1, s48.2.2) (Option.some.inj h).symm
  · rw [if_neg c9] at h
    refine rf_f wf1 rc_X10_spreads_ok 29 (53, [some (.ref 0), some (.int l1), some (.int s48.1), some (.int s48.2.1)], [], s48.2.2) rfl rfl c9 rfl ?_
    refine rf_b wf1 rc_X10_spreads_ok 30 3 (58, [some (.ref 0), some (.int l1), some (.int s48.1), some (.int s48.2.1)], [.ref 13, .ref 0], s48.2.2) rfl ?_
    obtain ⟨q10, h11, h⟩ := Option.bind_eq_some_iff.mp h
    refine rf_cv1 (Mt := mX10_pass) wf1 rc_X10_spreads_ok 33 false rfl (List.mem_of_getElem? (i := 176) rfl) mw_X10_pass rfl 0 [.ref 13] [] rfl rfl rfl (Nat.le_of_ble_eq_true rfl) (ok_X10_pass d 13 s48.2.2 q10 h11) ?_
    show rf_G _ _ _ (61, [some (.ref 0), some (.int l1), some (.int s48.1), some (.int s48.2.1)], [.int q10.1], q10.2) _ _
    refine rf_b wf1 rc_X10_spreads_ok 34 5 (68, [some (.ref 0), some (.int l1), some (.int s48.1), some (.int s48.2.1)], [.ref 13, .ref 0, .int s48.1], q10.2) rfl ?_
    obtain ⟨q12, h13, h⟩ := Option.bind_eq_some_iff.mp h
    refine rf_cv1 (Mt := mX10_coldOnes) wf1 rc_X10_spreads_ok 39 false rfl (List.mem_of_getElem? (i := 177) rfl) mw_X10_coldOnes rfl 0 [.ref 13] [.int s48.1] rfl rfl rfl (Nat.le_of_ble_eq_true rfl) (ok_X10_coldOnes (d + 1) 13 q10.2 q12 h13) ?_
    show rf_G _ _ _ (71, [some (.ref 0), some (.int l1), some (.int s48.1), some (.int s48.2.1)], [.int q12, .int s48.1], q10.2) _ _
    refine rf_b wf1 rc_X10_spreads_ok 40 4 (48, [some (.ref 0), some (.int l1), some (.int (s48.1 ||| q12)), some (.int (s48.2.1 + 1))], [], q10.2) rfl ?_
    exact kl ((s48.1 ||| q12), (s48.2.1 + 1), q10.2) (Option.some.inj h).symm
def f_X10_spreads (p0 : Int32) (σ : rf_S) : Option (Int32 × rf_S) := (f_X10_in p0 0 12 σ).bind (fun q1 => if q1 ≠ 0 then (if (σ.1 0 17) ≠ 0 then ((f_X10_bring 12 0 13 0 25 σ).bind (fun q5 => (f_X10_coldOnes 13 q5).bind (fun q7 => (rf_lp (f_X10_spreads_b48 p0) 5000 (q7, 0, q5)).bind (fun e14 => (f_X10_tells e14.1 e14.2).bind (fun q16 => (f_X10_coldOnes 13 q16.2).bind (fun q18 => some (q18, q16.2))))))) else (some ((-4), σ))) else (some ((-1), σ)))
set_option maxHeartbeats 2000000 in
theorem ok_X10_spreads (d : Nat) (p0 : Int32) (σ : rf_S) (q : (Int32 × rf_S)) (h : f_X10_spreads p0 σ = some q) : rf_Ex ly1 (d + 3) mX10_spreads [.ref 0, .int p0] σ (some (.int q.1) : Option Value) q.2 := by
  unfold f_X10_spreads at h
  refine rf_ex mw_X10_spreads [some (.ref 0), some (.int p0), none, none] (Nat.le_of_ble_eq_true rfl) rfl ?_
  refine rf_b wf1 rc_X10_spreads_ok 0 3 (4, [some (.ref 0), some (.int p0), none, none], [.int 12, .int 0, .int p0], σ) rfl ?_
  obtain ⟨q1, h2, h⟩ := Option.bind_eq_some_iff.mp h
  refine rf_cs1 (Mt := mX10_in) rc_X10_spreads_ok 3 false rfl (List.mem_of_getElem? (i := 143) rfl) mw_X10_in rfl [.int p0, .int 0, .int 12] [] rfl rfl (Nat.le_of_ble_eq_true rfl) (ok_X10_in (d + 1) p0 0 12 σ q1 h2) ?_
  show rf_G _ _ _ (7, [some (.ref 0), some (.int p0), none, none], [.int q1], σ) _ _
  by_cases c3 : q1 ≠ 0
  · rw [if_pos c3] at h
    refine rf_t wf1 rc_X10_spreads_ok 4 (12, [some (.ref 0), some (.int p0), none, none], [], σ) rfl rfl c3 rfl ?_
    refine rf_b wf1 rc_X10_spreads_ok 7 2 (16, [some (.ref 0), some (.int p0), none, none], [.int (σ.1 0 17)], σ) rfl ?_
    by_cases c4 : (σ.1 0 17) ≠ 0
    · rw [if_pos c4] at h
      refine rf_t wf1 rc_X10_spreads_ok 9 (22, [some (.ref 0), some (.int p0), none, none], [], σ) rfl rfl c4 rfl ?_
      refine rf_b wf1 rc_X10_spreads_ok 12 7 (34, [some (.ref 0), some (.int p0), none, none], [.int 25, .int 0, .ref 13, .int 0, .ref 12], σ) rfl ?_
      obtain ⟨q5, h6, h⟩ := Option.bind_eq_some_iff.mp h
      refine rf_cs1 (Mt := mX10_bring) rc_X10_spreads_ok 19 false rfl (List.mem_of_getElem? (i := 171) rfl) mw_X10_bring rfl [.ref 12, .int 0, .ref 13, .int 0, .int 25] [] rfl rfl (Nat.le_of_ble_eq_true rfl) (ok_X10_bring (d + 1) 12 0 13 0 25 σ q5 h6) ?_
      show rf_G _ _ _ (37, [some (.ref 0), some (.int p0), none, none], [], q5) _ _
      refine rf_b wf1 rc_X10_spreads_ok 20 3 (42, [some (.ref 0), some (.int p0), none, none], [.ref 13, .ref 0], q5) rfl ?_
      obtain ⟨q7, h8, h⟩ := Option.bind_eq_some_iff.mp h
      refine rf_cv1 (Mt := mX10_coldOnes) wf1 rc_X10_spreads_ok 23 false rfl (List.mem_of_getElem? (i := 177) rfl) mw_X10_coldOnes rfl 0 [.ref 13] [] rfl rfl rfl (Nat.le_of_ble_eq_true rfl) (ok_X10_coldOnes (d + 1) 13 q5 q7 h8) ?_
      show rf_G _ _ _ (45, [some (.ref 0), some (.int p0), none, none], [.int q7], q5) _ _
      refine rf_b wf1 rc_X10_spreads_ok 24 3 (48, [some (.ref 0), some (.int p0), some (.int q7), some (.int 0)], [], q5) rfl ?_
      obtain ⟨e14, h15, h⟩ := Option.bind_eq_some_iff.mp h
      refine rf_lpG (b := f_X10_spreads_b48 p0) (G := fun (s48 : Int32 × Int32 × rf_S) => rf_G ly1 (d + 2) mX10_spreads (48, [some (.ref 0), some (.int p0), some (.int s48.1), some (.int s48.2.1)], [], s48.2.2) (some (.int q.1) : Option Value) q.2) (K := fun (e : (Int32 × rf_S)) => rf_G ly1 (d + 2) mX10_spreads (79, [some (.ref 0), none, some (.int e.1), none], [], e.2) (some (.int q.1) : Option Value) q.2) (fun (s48 : Int32 × Int32 × rf_S) (o : (Int32 × Int32 × rf_S) ⊕ (Int32 × rf_S)) hb kl kx => ok_X10_spreads_b48 d p0 s48 o hb kl kx) 5000 (q7, 0, q5) e14 h15 ?_
      show rf_G _ _ _ (79, [some (.ref 0), none, some (.int e14.1), none], [], e14.2) _ _
      refine rf_b wf1 rc_X10_spreads_ok 44 2 (81, [some (.ref 0), none, some (.int e14.1), none], [.int e14.1, .ref 0], e14.2) rfl ?_
      obtain ⟨q16, h17, h⟩ := Option.bind_eq_some_iff.mp h
      refine rf_cv1 (Mt := mX10_tells) wf1 rc_X10_spreads_ok 46 false rfl (List.mem_of_getElem? (i := 146) rfl) mw_X10_tells rfl 0 [.int e14.1] [] rfl rfl rfl (Nat.le_of_ble_eq_true rfl) (ok_X10_tells (d + 1) e14.1 e14.2 q16 h17) ?_
      show rf_G _ _ _ (84, [some (.ref 0), none, some (.int e14.1), none], [.int q16.1], q16.2) _ _
      refine rf_b wf1 rc_X10_spreads_ok 47 4 (90, [some (.ref 0), none, some (.int e14.1), none], [.ref 13, .ref 0], q16.2) rfl ?_
      obtain ⟨q18, h19, h⟩ := Option.bind_eq_some_iff.mp h
      refine rf_cv1 (Mt := mX10_coldOnes) wf1 rc_X10_spreads_ok 51 false rfl (List.mem_of_getElem? (i := 177) rfl) mw_X10_coldOnes rfl 0 [.ref 13] [] rfl rfl rfl (Nat.le_of_ble_eq_true rfl) (ok_X10_coldOnes (d + 1) 13 q16.2 q18 h19) ?_
      show rf_G _ _ _ (93, [some (.ref 0), none, some (.int e14.1), none], [.int q18], q16.2) _ _
      obtain rfl := Option.some.inj h
      exact rf_ri rc_X10_spreads_ok 52 rfl rfl
    · rw [if_neg c4] at h
      refine rf_f wf1 rc_X10_spreads_ok 9 (19, [some (.ref 0), some (.int p0), none, none], [], σ) rfl rfl c4 rfl ?_
      refine rf_b wf1 rc_X10_spreads_ok 10 1 (21, [some (.ref 0), some (.int p0), none, none], [.int (-4)], σ) rfl ?_
      obtain rfl := Option.some.inj h
      exact rf_ri rc_X10_spreads_ok 11 rfl rfl
  · rw [if_neg c3] at h
    refine rf_f wf1 rc_X10_spreads_ok 4 (10, [some (.ref 0), some (.int p0), none, none], [], σ) rfl rfl c3 rfl ?_
    refine rf_b wf1 rc_X10_spreads_ok 5 1 (11, [some (.ref 0), some (.int p0), none, none], [.int (-1)], σ) rfl ?_
    obtain rfl := Option.some.inj h
    exact rf_ri rc_X10_spreads_ok 6 rfl rfl
def rc_X10_isServed : List rf_E := [(0, .aload_n 0, 1, 0), (1, .getfield 47, 3, 1022), (4, .iconst 0, 1, 0), (5, .aload_n 0, 1, 0), (6, .getfield 50, 3, 1023), (9, .iconst 0, 1, 0), (10, .bipush 25, 2, 0), (12, .invokestatic 195, 3, 0), (15, .iconst 1, 1, 0), (16, .istore 5, 2, 5), (18, .iconst 0, 1, 0), (19, .istore 6, 2, 6), (21, .iload 6, 2, 6), (23, .iload_n 2, 1, 2), (24, .if_icmp .ge 84, 3, 108), (27, .aload_n 0, 1, 0), (28, .getfield 50, 3, 1023), (31, .bipush 23, 2, 0), (33, .iload_n 3, 1, 3), (34, .iload 6, 2, 6), (36, .invokestatic 206, 3, 0), (39, .ifCond .eq 7, 3, 46), (42, .iconst 3, 1, 0), (43, .goto 10, 3, 53), (46, .aload_n 0, 1, 0), (47, .getfield 50, 3, 1023), (50, .bipush 23, 2, 0), (52, .iaload, 1, 0), (53, .iastore, 1, 0), (54, .iload 5, 2, 5), (56, .ifCond .eq 34, 3, 90), (59, .aload_n 0, 1, 0), (60, .aload_n 0, 1, 0), (61, .getfield 50, 3, 1023), (64, .iload_n 1, 1, 1), (65, .aload_n 0, 1, 0), (66, .getfield 50, 3, 1023), (69, .aload_n 0, 1, 0), (70, .getfield 50, 3, 1023), (73, .iconst 4, 1, 0), (74, .iload_n 1, 1, 1), (75, .iadd, 1, 0), (76, .iaload, 1, 0), (77, .iaload, 1, 0), (78, .invokevirtual 158, 3, 0), (81, .iload 4, 2, 4), (83, .if_icmp .ne 7, 3, 90), (86, .iconst 1, 1, 0), (87, .goto 4, 3, 91), (90, .iconst 0, 1, 0), (91, .istore 5, 2, 5), (93, .aload_n 0, 1, 0), (94, .aload_n 0, 1, 0), (95, .getfield 50, 3, 1023), (98, .invokevirtual 213, 3, 0), (101, .pop, 1, 0), (102, .iinc 6 1, 3, 6), (105, .goto (-84), 3, 21), (108, .iload 5, 2, 5), (110, .ireturn, 1, 0)]
theorem rc_X10_isServed_ok : rf_rc mX10_isServed rc_X10_isServed = true := by decide +kernel
theorem mw_X10_isServed : rf_mw mX10_isServed := ⟨rf_mt_ok _ (List.mem_of_getElem? (i := 229) rfl), fun h => absurd h (by decide), fun _ => ⟨rf_mi_ok _ (List.mem_of_getElem? (i := 207) rfl), rf_mv_ok _ (List.mem_of_getElem? (i := 207) rfl)⟩, rf_mq_9 _ (List.mem_of_getElem? (i := 4) rfl)⟩
def f_X10_isServed_j91 (l1 : Int32) (l2 : Int32) (l3 : Int32) (l4 : Int32) (l6 : Int32) (t0 : Int32) (σ : rf_S) : Option ((Int32 × Int32 × rf_S) ⊕ (Int32 × rf_S)) := (f_X10_pass 13 σ).bind (fun q10 => some (.inl (t0, (l6 + 1), q10.2)))
set_option maxHeartbeats 2000000 in
theorem ok_X10_isServed_j91 (d : Nat) (l1 : Int32) (l2 : Int32) (l3 : Int32) (l4 : Int32) (l6 : Int32) (t0 : Int32) (σ : rf_S) (o : ((Int32 × Int32 × rf_S) ⊕ (Int32 × rf_S))) (h : f_X10_isServed_j91 l1 l2 l3 l4 l6 t0 σ = some o) {r : Option Value} {σr : rf_S} (kl : ∀ s', o = .inl s' → rf_G ly1 (d + 3) mX10_isServed (21, [some (.ref 0), some (.int l1), some (.int l2), some (.int l3), some (.int l4), some (.int s'.1), some (.int s'.2.1)], [], s'.2.2) r σr) (kx : ∀ e, o = .inr e → rf_G ly1 (d + 3) mX10_isServed (108, [none, none, none, none, none, some (.int e.1), none], [], e.2) r σr) : rf_G ly1 (d + 3) mX10_isServed (91, [some (.ref 0), some (.int l1), some (.int l2), some (.int l3), some (.int l4), none, some (.int l6)], [.int t0], σ) r σr := by
  unfold f_X10_isServed_j91 at h
  refine rf_b wf1 rc_X10_isServed_ok 50 4 (98, [some (.ref 0), some (.int l1), some (.int l2), some (.int l3), some (.int l4), some (.int t0), some (.int l6)], [.ref 13, .ref 0], σ) rfl ?_
  obtain ⟨q10, h11, h⟩ := Option.bind_eq_some_iff.mp h
  refine rf_cv1 (Mt := mX10_pass) wf1 rc_X10_isServed_ok 54 false rfl (List.mem_of_getElem? (i := 176) rfl) mw_X10_pass rfl 0 [.ref 13] [] rfl rfl rfl (Nat.le_of_ble_eq_true rfl) (ok_X10_pass (d + 1) 13 σ q10 h11) ?_
  show rf_G _ _ _ (101, [some (.ref 0), some (.int l1), some (.int l2), some (.int l3), some (.int l4), some (.int t0), some (.int l6)], [.int q10.1], q10.2) _ _
  refine rf_b wf1 rc_X10_isServed_ok 55 3 (21, [some (.ref 0), some (.int l1), some (.int l2), some (.int l3), some (.int l4), some (.int t0), some (.int (l6 + 1))], [], q10.2) rfl ?_
  exact kl (t0, (l6 + 1), q10.2) (Option.some.inj h).symm
def f_X10_isServed_j90 (l1 : Int32) (l2 : Int32) (l3 : Int32) (l4 : Int32) (l6 : Int32) (σ : rf_S) : Option ((Int32 × Int32 × rf_S) ⊕ (Int32 × rf_S)) := f_X10_isServed_j91 l1 l2 l3 l4 l6 0 σ
set_option maxHeartbeats 2000000 in
theorem ok_X10_isServed_j90 (d : Nat) (l1 : Int32) (l2 : Int32) (l3 : Int32) (l4 : Int32) (l6 : Int32) (σ : rf_S) (o : ((Int32 × Int32 × rf_S) ⊕ (Int32 × rf_S))) (h : f_X10_isServed_j90 l1 l2 l3 l4 l6 σ = some o) {r : Option Value} {σr : rf_S} (kl : ∀ s', o = .inl s' → rf_G ly1 (d + 3) mX10_isServed (21, [some (.ref 0), some (.int l1), some (.int l2), some (.int l3), some (.int l4), some (.int s'.1), some (.int s'.2.1)], [], s'.2.2) r σr) (kx : ∀ e, o = .inr e → rf_G ly1 (d + 3) mX10_isServed (108, [none, none, none, none, none, some (.int e.1), none], [], e.2) r σr) : rf_G ly1 (d + 3) mX10_isServed (90, [some (.ref 0), some (.int l1), some (.int l2), some (.int l3), some (.int l4), none, some (.int l6)], [], σ) r σr := by
  unfold f_X10_isServed_j90 at h
  refine rf_b wf1 rc_X10_isServed_ok 49 1 (91, [some (.ref 0), some (.int l1), some (.int l2), some (.int l3), some (.int l4), none, some (.int l6)], [.int 0], σ) rfl ?_
  exact ok_X10_isServed_j91 d l1 l2 l3 l4 l6 0 σ o h kl kx
def f_X10_isServed_j53 (l1 : Int32) (l2 : Int32) (l3 : Int32) (l4 : Int32) (l5 : Int32) (l6 : Int32) (t0 : Int32) (t1 : Int32) (σ : rf_S) : Option ((Int32 × Int32 × rf_S) ⊕ (Int32 × rf_S)) := if rf_ck ly1 0 13 t1 = true then (if l5 = 0 then (f_X10_isServed_j90 l1 l2 l3 l4 l6 (rf_sI σ 13 t1.toNatClampNeg t0)) else (if rf_ck ly1 0 13 (4 + l1) = true then (if rf_ck ly1 0 13 ((rf_sI σ 13 t1.toNatClampNeg t0).1 13 (4 + l1).toNatClampNeg) = true then ((f_X10_wouldAt 13 l1 ((rf_sI σ 13 t1.toNatClampNeg t0).1 13 ((rf_sI σ 13 t1.toNatClampNeg t0).1 13 (4 + l1).toNatClampNeg).toNatClampNeg) (rf_sI σ 13 t1.toNatClampNeg t0)).bind (fun q14 => if q14 ≠ l4 then (f_X10_isServed_j90 l1 l2 l3 l4 l6 (rf_sI σ 13 t1.toNatClampNeg t0)) else (f_X10_isServed_j91 l1 l2 l3 l4 l6 1 (rf_sI σ 13 t1.toNatClampNeg t0)))) else none) else none)) else none
set_option maxHeartbeats 2000000 in
theorem ok_X10_isServed_j53 (d : Nat) (l1 : Int32) (l2 : Int32) (l3 : Int32) (l4 : Int32) (l5 : Int32) (l6 : Int32) (t0 : Int32) (t1 : Int32) (σ : rf_S) (o : ((Int32 × Int32 × rf_S) ⊕ (Int32 × rf_S))) (h : f_X10_isServed_j53 l1 l2 l3 l4 l5 l6 t0 t1 σ = some o) {r : Option Value} {σr : rf_S} (kl : ∀ s', o = .inl s' → rf_G ly1 (d + 3) mX10_isServed (21, [some (.ref 0), some (.int l1), some (.int l2), some (.int l3), some (.int l4), some (.int s'.1), some (.int s'.2.1)], [], s'.2.2) r σr) (kx : ∀ e, o = .inr e → rf_G ly1 (d + 3) mX10_isServed (108, [none, none, none, none, none, some (.int e.1), none], [], e.2) r σr) : rf_G ly1 (d + 3) mX10_isServed (53, [some (.ref 0), some (.int l1), some (.int l2), some (.int l3), some (.int l4), some (.int l5), some (.int l6)], [.int t0, .int t1, .ref 13], σ) r σr := by
  unfold f_X10_isServed_j53 at h
  obtain ⟨g8, h⟩ := rf_ifn h
  refine rf_gd wf1 rc_X10_isServed_ok 28 (54, [some (.ref 0), some (.int l1), some (.int l2), some (.int l3), some (.int l4), some (.int l5), some (.int l6)], [], (rf_sI σ 13 t1.toNatClampNeg t0)) rfl rfl g8 rfl ?_
  refine rf_b wf1 rc_X10_isServed_ok 29 1 (56, [some (.ref 0), some (.int l1), some (.int l2), some (.int l3), some (.int l4), some (.int l5), some (.int l6)], [.int l5], (rf_sI σ 13 t1.toNatClampNeg t0)) rfl ?_
  by_cases c9 : l5 = 0
  · rw [if_pos c9] at h
    refine rf_t wf1 rc_X10_isServed_ok 30 (90, [some (.ref 0), some (.int l1), some (.int l2), some (.int l3), some (.int l4), some (.int l5), some (.int l6)], [], (rf_sI σ 13 t1.toNatClampNeg t0)) rfl rfl c9 rfl ?_
    refine rf_fg [true, true, true, true, true, false, true] [some (.ref 0), some (.int l1), some (.int l2), some (.int l3), some (.int l4), none, some (.int l6)] rfl ?_
    exact ok_X10_isServed_j90 d l1 l2 l3 l4 l6 (rf_sI σ 13 t1.toNatClampNeg t0) o h kl kx
  · rw [if_neg c9] at h
    refine rf_f wf1 rc_X10_isServed_ok 30 (59, [some (.ref 0), some (.int l1), some (.int l2), some (.int l3), some (.int l4), some (.int l5), some (.int l6)], [], (rf_sI σ 13 t1.toNatClampNeg t0)) rfl rfl c9 rfl ?_
    refine rf_b wf1 rc_X10_isServed_ok 31 11 (76, [some (.ref 0), some (.int l1), some (.int l2), some (.int l3), some (.int l4), some (.int l5), some (.int l6)], [.int (4 + l1), .ref 13, .ref 13, .int l1, .ref 13, .ref 0], (rf_sI σ 13 t1.toNatClampNeg t0)) rfl ?_
    obtain ⟨g12, h⟩ := rf_ifn h
    refine rf_gd wf1 rc_X10_isServed_ok 42 (77, [some (.ref 0), some (.int l1), some (.int l2), some (.int l3), some (.int l4), some (.int l5), some (.int l6)], [.int ((rf_sI σ 13 t1.toNatClampNeg t0).1 13 (4 + l1).toNatClampNeg), .ref 13, .int l1, .ref 13, .ref 0], (rf_sI σ 13 t1.toNatClampNeg t0)) rfl rfl g12 rfl ?_
    obtain ⟨g13, h⟩ := rf_ifn h
    refine rf_gd wf1 rc_X10_isServed_ok 43 (78, [some (.ref 0), some (.int l1), some (.int l2), some (.int l3), some (.int l4), some (.int l5), some (.int l6)], [.int ((rf_sI σ 13 t1.toNatClampNeg t0).1 13 ((rf_sI σ 13 t1.toNatClampNeg t0).1 13 (4 + l1).toNatClampNeg).toNatClampNeg), .int l1, .ref 13, .ref 0], (rf_sI σ 13 t1.toNatClampNeg t0)) rfl rfl g13 rfl ?_
    obtain ⟨q14, h15, h⟩ := Option.bind_eq_some_iff.mp h
    refine rf_cv1 (Mt := mX10_wouldAt) wf1 rc_X10_isServed_ok 44 false rfl (List.mem_of_getElem? (i := 160) rfl) mw_X10_wouldAt rfl 0 [.ref 13, .int l1, .int ((rf_sI σ 13 t1.toNatClampNeg t0).1 13 ((rf_sI σ 13 t1.toNatClampNeg t0).1 13 (4 + l1).toNatClampNeg).toNatClampNeg)] [] rfl rfl rfl (Nat.le_of_ble_eq_true rfl) (ok_X10_wouldAt d 13 l1 ((rf_sI σ 13 t1.toNatClampNeg t0).1 13 ((rf_sI σ 13 t1.toNatClampNeg t0).1 13 (4 + l1).toNatClampNeg).toNatClampNeg) (rf_sI σ 13 t1.toNatClampNeg t0) q14 h15) ?_
    show rf_G _ _ _ (81, [some (.ref 0), some (.int l1), some (.int l2), some (.int l3), some (.int l4), some (.int l5), some (.int l6)], [.int q14], (rf_sI σ 13 t1.toNatClampNeg t0)) _ _
    refine rf_b wf1 rc_X10_isServed_ok 45 1 (83, [some (.ref 0), some (.int l1), some (.int l2), some (.int l3), some (.int l4), some (.int l5), some (.int l6)], [.int l4, .int q14], (rf_sI σ 13 t1.toNatClampNeg t0)) rfl ?_
    by_cases c16 : q14 ≠ l4
    · rw [if_pos c16] at h
      refine rf_t wf1 rc_X10_isServed_ok 46 (90, [some (.ref 0), some (.int l1), some (.int l2), some (.int l3), some (.int l4), some (.int l5), some (.int l6)], [], (rf_sI σ 13 t1.toNatClampNeg t0)) rfl rfl c16 rfl ?_
      refine rf_fg [true, true, true, true, true, false, true] [some (.ref 0), some (.int l1), some (.int l2), some (.int l3), some (.int l4), none, some (.int l6)] rfl ?_
      exact ok_X10_isServed_j90 d l1 l2 l3 l4 l6 (rf_sI σ 13 t1.toNatClampNeg t0) o h kl kx
    · rw [if_neg c16] at h
      refine rf_f wf1 rc_X10_isServed_ok 46 (86, [some (.ref 0), some (.int l1), some (.int l2), some (.int l3), some (.int l4), some (.int l5), some (.int l6)], [], (rf_sI σ 13 t1.toNatClampNeg t0)) rfl rfl c16 rfl ?_
      refine rf_b wf1 rc_X10_isServed_ok 47 2 (91, [some (.ref 0), some (.int l1), some (.int l2), some (.int l3), some (.int l4), some (.int l5), some (.int l6)], [.int 1], (rf_sI σ 13 t1.toNatClampNeg t0)) rfl ?_
      refine rf_fg [true, true, true, true, true, false, true] [some (.ref 0), some (.int l1), some (.int l2), some (.int l3), some (.int l4), none, some (.int l6)] rfl ?_
      exact ok_X10_isServed_j91 d l1 l2 l3 l4 l6 1 (rf_sI σ 13 t1.toNatClampNeg t0) o h kl kx
def f_X10_isServed_b21 (l1 : Int32) (l2 : Int32) (l3 : Int32) (l4 : Int32) (s21 : Int32 × Int32 × rf_S) : Option ((Int32 × Int32 × rf_S) ⊕ (Int32 × rf_S)) := if l2 ≤ s21.2.1 then (some (.inr (s21.1, s21.2.2))) else ((f_X10_has l3 s21.2.1 s21.2.2).bind (fun q4 => if q4 = 0 then (if rf_ck ly1 0 13 23 = true then (f_X10_isServed_j53 l1 l2 l3 l4 s21.1 s21.2.1 (s21.2.2.1 13 (23 : Int32).toNatClampNeg) 23 s21.2.2) else none) else (f_X10_isServed_j53 l1 l2 l3 l4 s21.1 s21.2.1 3 23 s21.2.2)))
set_option maxHeartbeats 2000000 in
theorem ok_X10_isServed_b21 (d : Nat) (l1 : Int32) (l2 : Int32) (l3 : Int32) (l4 : Int32) (s21 : Int32 × Int32 × rf_S) (o : ((Int32 × Int32 × rf_S) ⊕ (Int32 × rf_S))) (h : f_X10_isServed_b21 l1 l2 l3 l4 s21 = some o) {r : Option Value} {σr : rf_S} (kl : ∀ s', o = .inl s' → rf_G ly1 (d + 3) mX10_isServed (21, [some (.ref 0), some (.int l1), some (.int l2), some (.int l3), some (.int l4), some (.int s'.1), some (.int s'.2.1)], [], s'.2.2) r σr) (kx : ∀ e, o = .inr e → rf_G ly1 (d + 3) mX10_isServed (108, [none, none, none, none, none, some (.int e.1), none], [], e.2) r σr) : rf_G ly1 (d + 3) mX10_isServed (21, [some (.ref 0), some (.int l1), some (.int l2), some (.int l3), some (.int l4), some (.int s21.1), some (.int s21.2.1)], [], s21.2.2) r σr := by
  unfold f_X10_isServed_b21 at h
  refine rf_b wf1 rc_X10_isServed_ok 12 2 (24, [some (.ref 0), some (.int l1), some (.int l2), some (.int l3), some (.int l4), some (.int s21.1), some (.int s21.2.1)], [.int l2, .int s21.2.1], s21.2.2) rfl ?_
  by_cases c3 : l2 ≤ s21.2.1
  · rw [if_pos c3] at h
    refine rf_t wf1 rc_X10_isServed_ok 14 (108, [some (.ref 0), some (.int l1), some (.int l2), some (.int l3), some (.int l4), some (.int s21.1), some (.int s21.2.1)], [], s21.2.2) rfl rfl c3 rfl ?_
    refine rf_fg [false, false, false, false, false, true, false] [none, none, none, none, none, some (.int s21.1), none] rfl ?_
    exact kx (s21.1, s21.2.2) (Option.some.inj h).symm
  · rw [if_neg c3] at h
    refine rf_f wf1 rc_X10_isServed_ok 14 (27, [some (.ref 0), some (.int l1), some (.int l2), some (.int l3), some (.int l4), some (.int s21.1), some (.int s21.2.1)], [], s21.2.2) rfl rfl c3 rfl ?_
    refine rf_b wf1 rc_X10_isServed_ok 15 5 (36, [some (.ref 0), some (.int l1), some (.int l2), some (.int l3), some (.int l4), some (.int s21.1), some (.int s21.2.1)], [.int s21.2.1, .int l3, .int 23, .ref 13], s21.2.2) rfl ?_
    obtain ⟨q4, h5, h⟩ := Option.bind_eq_some_iff.mp h
    refine rf_cs1 (Mt := mX10_has) rc_X10_isServed_ok 20 false rfl (List.mem_of_getElem? (i := 174) rfl) mw_X10_has rfl [.int l3, .int s21.2.1] [.int 23, .ref 13] rfl rfl (Nat.le_of_ble_eq_true rfl) (ok_X10_has (d + 2) l3 s21.2.1 s21.2.2 q4 h5) ?_
    show rf_G _ _ _ (39, [some (.ref 0), some (.int l1), some (.int l2), some (.int l3), some (.int l4), some (.int s21.1), some (.int s21.2.1)], [.int q4, .int 23, .ref 13], s21.2.2) _ _
    by_cases c6 : q4 = 0
    · rw [if_pos c6] at h
      refine rf_t wf1 rc_X10_isServed_ok 21 (46, [some (.ref 0), some (.int l1), some (.int l2), some (.int l3), some (.int l4), some (.int s21.1), some (.int s21.2.1)], [.int 23, .ref 13], s21.2.2) rfl rfl c6 rfl ?_
      refine rf_b wf1 rc_X10_isServed_ok 24 3 (52, [some (.ref 0), some (.int l1), some (.int l2), some (.int l3), some (.int l4), some (.int s21.1), some (.int s21.2.1)], [.int 23, .ref 13, .int 23, .ref 13], s21.2.2) rfl ?_
      obtain ⟨g7, h⟩ := rf_ifn h
      refine rf_gd wf1 rc_X10_isServed_ok 27 (53, [some (.ref 0), some (.int l1), some (.int l2), some (.int l3), some (.int l4), some (.int s21.1), some (.int s21.2.1)], [.int (s21.2.2.1 13 (23 : Int32).toNatClampNeg), .int 23, .ref 13], s21.2.2) rfl rfl g7 rfl ?_
      exact ok_X10_isServed_j53 d l1 l2 l3 l4 s21.1 s21.2.1 (s21.2.2.1 13 (23 : Int32).toNatClampNeg) 23 s21.2.2 o h kl kx
    · rw [if_neg c6] at h
      refine rf_f wf1 rc_X10_isServed_ok 21 (42, [some (.ref 0), some (.int l1), some (.int l2), some (.int l3), some (.int l4), some (.int s21.1), some (.int s21.2.1)], [.int 23, .ref 13], s21.2.2) rfl rfl c6 rfl ?_
      refine rf_b wf1 rc_X10_isServed_ok 22 2 (53, [some (.ref 0), some (.int l1), some (.int l2), some (.int l3), some (.int l4), some (.int s21.1), some (.int s21.2.1)], [.int 3, .int 23, .ref 13], s21.2.2) rfl ?_
      exact ok_X10_isServed_j53 d l1 l2 l3 l4 s21.1 s21.2.1 3 23 s21.2.2 o h kl kx
def f_X10_isServed (p0 : Int32) (p1 : Int32) (p2 : Int32) (p3 : Int32) (σ : rf_S) : Option (Int32 × rf_S) := (f_X10_bring 12 0 13 0 25 σ).bind (fun q1 => (rf_lp (f_X10_isServed_b21 p0 p1 p2 p3) 5000 (1, 0, q1)).bind (fun e17 => if e17.1 = 0 ∨ e17.1 = 1 then some (e17.1, e17.2) else none))
set_option maxHeartbeats 2000000 in
theorem ok_X10_isServed (d : Nat) (p0 : Int32) (p1 : Int32) (p2 : Int32) (p3 : Int32) (σ : rf_S) (q : (Int32 × rf_S)) (h : f_X10_isServed p0 p1 p2 p3 σ = some q) : rf_Ex ly1 (d + 4) mX10_isServed [.ref 0, .int p0, .int p1, .int p2, .int p3] σ (some (.int q.1) : Option Value) q.2 := by
  unfold f_X10_isServed at h
  refine rf_ex mw_X10_isServed [some (.ref 0), some (.int p0), some (.int p1), some (.int p2), some (.int p3), none, none] (Nat.le_of_ble_eq_true rfl) rfl ?_
  refine rf_b wf1 rc_X10_isServed_ok 0 7 (12, [some (.ref 0), some (.int p0), some (.int p1), some (.int p2), some (.int p3), none, none], [.int 25, .int 0, .ref 13, .int 0, .ref 12], σ) rfl ?_
  obtain ⟨q1, h2, h⟩ := Option.bind_eq_some_iff.mp h
  refine rf_cs1 (Mt := mX10_bring) rc_X10_isServed_ok 7 false rfl (List.mem_of_getElem? (i := 171) rfl) mw_X10_bring rfl [.ref 12, .int 0, .ref 13, .int 0, .int 25] [] rfl rfl (Nat.le_of_ble_eq_true rfl) (ok_X10_bring (d + 2) 12 0 13 0 25 σ q1 h2) ?_
  show rf_G _ _ _ (15, [some (.ref 0), some (.int p0), some (.int p1), some (.int p2), some (.int p3), none, none], [], q1) _ _
  refine rf_b wf1 rc_X10_isServed_ok 8 4 (21, [some (.ref 0), some (.int p0), some (.int p1), some (.int p2), some (.int p3), some (.int 1), some (.int 0)], [], q1) rfl ?_
  obtain ⟨e17, h18, h⟩ := Option.bind_eq_some_iff.mp h
  refine rf_lpG (b := f_X10_isServed_b21 p0 p1 p2 p3) (G := fun (s21 : Int32 × Int32 × rf_S) => rf_G ly1 (d + 3) mX10_isServed (21, [some (.ref 0), some (.int p0), some (.int p1), some (.int p2), some (.int p3), some (.int s21.1), some (.int s21.2.1)], [], s21.2.2) (some (.int q.1) : Option Value) q.2) (K := fun (e : (Int32 × rf_S)) => rf_G ly1 (d + 3) mX10_isServed (108, [none, none, none, none, none, some (.int e.1), none], [], e.2) (some (.int q.1) : Option Value) q.2) (fun (s21 : Int32 × Int32 × rf_S) (o : (Int32 × Int32 × rf_S) ⊕ (Int32 × rf_S)) hb kl kx => ok_X10_isServed_b21 d p0 p1 p2 p3 s21 o hb kl kx) 5000 (1, 0, q1) e17 h18 ?_
  show rf_G _ _ _ (108, [none, none, none, none, none, some (.int e17.1), none], [], e17.2) _ _
  refine rf_b wf1 rc_X10_isServed_ok 58 1 (110, [none, none, none, none, none, some (.int e17.1), none], [.int e17.1], e17.2) rfl ?_
  obtain ⟨g19, h⟩ := rf_ifn h
  obtain rfl := Option.some.inj h
  exact rf_rz rc_X10_isServed_ok 59 rfl rfl g19
