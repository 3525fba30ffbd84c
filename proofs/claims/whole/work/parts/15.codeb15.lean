def rc_X10_in : List rf_E := [(0, .iload_n 0, 1, 0), (1, .iload_n 1, 1, 1), (2, .if_icmp .lt 12, 3, 14), (5, .iload_n 0, 1, 0), (6, .iload_n 2, 1, 2), (7, .if_icmp .gt 7, 3, 14), (10, .iconst 1, 1, 0), (11, .goto 4, 3, 15), (14, .iconst 0, 1, 0), (15, .ireturn, 1, 0)]
theorem rc_X10_in_ok : rf_rc mX10_in rc_X10_in = true := by decide +kernel
theorem mw_X10_in : rf_mw mX10_in := ⟨rf_mt_ok _ (List.mem_of_getElem? (i := 147) rfl), fun _ => rf_ms_ok _ (List.mem_of_getElem? (i := 13) rfl), fun h => absurd h (by decide), rf_mq_5 _ (List.mem_of_getElem? (i := 22) rfl)⟩
def f_X10_in (p0 : Int32) (p1 : Int32) (p2 : Int32) (σ : rf_S) : Option Int32 := if p0 < p1 then (some 0) else (if p2 < p0 then (some 0) else (some 1))
set_option maxHeartbeats 2000000 in
theorem ok_X10_in (d : Nat) (p0 : Int32) (p1 : Int32) (p2 : Int32) (σ : rf_S) (q : Int32) (h : f_X10_in p0 p1 p2 σ = some q) : rf_Ex ly1 (d + 1) mX10_in [.int p0, .int p1, .int p2] σ (some (.int q) : Option Value) σ := by
  unfold f_X10_in at h
  refine rf_ex mw_X10_in [some (.int p0), some (.int p1), some (.int p2)] (Nat.le_of_ble_eq_true rfl) rfl ?_
  refine rf_b wf1 rc_X10_in_ok 0 2 (2, [some (.int p0), some (.int p1), some (.int p2)], [.int p1, .int p0], σ) rfl ?_
  by_cases c1 : p0 < p1
  · rw [if_pos c1] at h
    refine rf_t wf1 rc_X10_in_ok 2 (14, [some (.int p0), some (.int p1), some (.int p2)], [], σ) rfl rfl c1 rfl ?_
    refine rf_b wf1 rc_X10_in_ok 8 1 (15, [some (.int p0), some (.int p1), some (.int p2)], [.int 0], σ) rfl ?_
    obtain rfl := Option.some.inj h
    exact rf_rz rc_X10_in_ok 9 rfl rfl (by decide)
  · rw [if_neg c1] at h
    refine rf_f wf1 rc_X10_in_ok 2 (5, [some (.int p0), some (.int p1), some (.int p2)], [], σ) rfl rfl c1 rfl ?_
    refine rf_b wf1 rc_X10_in_ok 3 2 (7, [some (.int p0), some (.int p1), some (.int p2)], [.int p2, .int p0], σ) rfl ?_
    by_cases c2 : p2 < p0
    · rw [if_pos c2] at h
      refine rf_t wf1 rc_X10_in_ok 5 (14, [some (.int p0), some (.int p1), some (.int p2)], [], σ) rfl rfl c2 rfl ?_
      refine rf_b wf1 rc_X10_in_ok 8 1 (15, [some (.int p0), some (.int p1), some (.int p2)], [.int 0], σ) rfl ?_
      obtain rfl := Option.some.inj h
      exact rf_rz rc_X10_in_ok 9 rfl rfl (by decide)
    · rw [if_neg c2] at h
      refine rf_f wf1 rc_X10_in_ok 5 (10, [some (.int p0), some (.int p1), some (.int p2)], [], σ) rfl rfl c2 rfl ?_
      refine rf_b wf1 rc_X10_in_ok 6 2 (15, [some (.int p0), some (.int p1), some (.int p2)], [.int 1], σ) rfl ?_
      obtain rfl := Option.some.inj h
      exact rf_rz rc_X10_in_ok 9 rfl rfl (by decide)
def rc_X10_has : List rf_E := [(0, .iload_n 0, 1, 0), (1, .iload_n 1, 1, 1), (2, .ishr, 1, 0), (3, .iconst 1, 1, 0), (4, .iand, 1, 0), (5, .iconst 1, 1, 0), (6, .if_icmp .ne 7, 3, 13), (9, .iconst 1, 1, 0), (10, .goto 4, 3, 14), (13, .iconst 0, 1, 0), (14, .ireturn, 1, 0)]
theorem rc_X10_has_ok : rf_rc mX10_has rc_X10_has = true := by decide +kernel
theorem mw_X10_has : rf_mw mX10_has := ⟨rf_mt_ok _ (List.mem_of_getElem? (i := 148) rfl), fun _ => rf_ms_ok _ (List.mem_of_getElem? (i := 14) rfl), fun h => absurd h (by decide), rf_mq_5 _ (List.mem_of_getElem? (i := 23) rfl)⟩
def f_X10_has (p0 : Int32) (p1 : Int32) (σ : rf_S) : Option Int32 := if ((p0 >>> (p1 &&& 31)) &&& 1) ≠ 1 then (some 0) else (some 1)
set_option maxHeartbeats 2000000 in
theorem ok_X10_has (d : Nat) (p0 : Int32) (p1 : Int32) (σ : rf_S) (q : Int32) (h : f_X10_has p0 p1 σ = some q) : rf_Ex ly1 (d + 1) mX10_has [.int p0, .int p1] σ (some (.int q) : Option Value) σ := by
  unfold f_X10_has at h
  refine rf_ex mw_X10_has [some (.int p0), some (.int p1)] (Nat.le_of_ble_eq_true rfl) rfl ?_
  refine rf_b wf1 rc_X10_has_ok 0 6 (6, [some (.int p0), some (.int p1)], [.int 1, .int ((p0 >>> (p1 &&& 31)) &&& 1)], σ) rfl ?_
  by_cases c1 : ((p0 >>> (p1 &&& 31)) &&& 1) ≠ 1
  · rw [if_pos c1] at h
    refine rf_t wf1 rc_X10_has_ok 6 (13, [some (.int p0), some (.int p1)], [], σ) rfl rfl c1 rfl ?_
    refine rf_b wf1 rc_X10_has_ok 9 1 (14, [some (.int p0), some (.int p1)], [.int 0], σ) rfl ?_
    obtain rfl := Option.some.inj h
    exact rf_rz rc_X10_has_ok 10 rfl rfl (by decide)
  · rw [if_neg c1] at h
    refine rf_f wf1 rc_X10_has_ok 6 (9, [some (.int p0), some (.int p1)], [], σ) rfl rfl c1 rfl ?_
    refine rf_b wf1 rc_X10_has_ok 7 2 (14, [some (.int p0), some (.int p1)], [.int 1], σ) rfl ?_
    obtain rfl := Option.some.inj h
    exact rf_rz rc_X10_has_ok 10 rfl rfl (by decide)
def rc_X10_bits : List rf_E := [(0, .iconst 0, 1, 0), (1, .istore_n 1, 1, 1), (2, .iconst 0, 1, 0), (3, .istore_n 2, 1, 2), (4, .iload_n 2, 1, 2), (5, .bipush 31, 2, 0), (7, .if_icmp .ge 17, 3, 24), (10, .iload_n 1, 1, 1), (11, .iload_n 0, 1, 0), (12, .iload_n 2, 1, 2), (13, .ishr, 1, 0), (14, .iconst 1, 1, 0), (15, .iand, 1, 0), (16, .iadd, 1, 0), (17, .istore_n 1, 1, 1), (18, .iinc 2 1, 3, 2), (21, .goto (-17), 3, 4), (24, .iload_n 1, 1, 1), (25, .ireturn, 1, 0)]
theorem rc_X10_bits_ok : rf_rc mX10_bits rc_X10_bits = true := by decide +kernel
theorem mw_X10_bits : rf_mw mX10_bits := ⟨rf_mt_ok _ (List.mem_of_getElem? (i := 149) rfl), fun _ => rf_ms_ok _ (List.mem_of_getElem? (i := 15) rfl), fun h => absurd h (by decide), rf_mq_5 _ (List.mem_of_getElem? (i := 24) rfl)⟩
def f_X10_bits_b4 (l0 : Int32) (σ : rf_S) (s4 : Int32 × Int32) : Option ((Int32 × Int32) ⊕ (Int32)) := if 31 ≤ s4.2 then (some (.inr s4.1)) else (some (.inl ((s4.1 + ((l0 >>> (s4.2 &&& 31)) &&& 1)), (s4.2 + 1))))
set_option maxHeartbeats 2000000 in
theorem ok_X10_bits_b4 (d : Nat) (l0 : Int32) (σ : rf_S) (s4 : Int32 × Int32) (o : ((Int32 × Int32) ⊕ (Int32))) (h : f_X10_bits_b4 l0 σ s4 = some o) {r : Option Value} {σr : rf_S} (kl : ∀ s', o = .inl s' → rf_G ly1 (d) mX10_bits (4, [some (.int l0), some (.int s'.1), some (.int s'.2)], [], σ) r σr) (kx : ∀ e, o = .inr e → rf_G ly1 (d) mX10_bits (24, [none, some (.int e), none], [], σ) r σr) : rf_G ly1 (d) mX10_bits (4, [some (.int l0), some (.int s4.1), some (.int s4.2)], [], σ) r σr := by
  unfold f_X10_bits_b4 at h
  refine rf_b wf1 rc_X10_bits_ok 4 2 (7, [some (.int l0), some (.int s4.1), some (.int s4.2)], [.int 31, .int s4.2], σ) rfl ?_
  by_cases c1 : 31 ≤ s4.2
  · rw [if_pos c1] at h
    refine rf_t wf1 rc_X10_bits_ok 6 (24, [some (.int l0), some (.int s4.1), some (.int s4.2)], [], σ) rfl rfl c1 rfl ?_
    refine rf_fg [false, true, false] [none, some (.int s4.1), none] rfl ?_
    exact kx s4.1 (Option.some.inj h).symm
  · rw [if_neg c1] at h
    refine rf_f wf1 rc_X10_bits_ok 6 (10, [some (.int l0), some (.int s4.1), some (.int s4.2)], [], σ) rfl rfl c1 rfl ?_
    refine rf_b wf1 rc_X10_bits_ok 7 10 (4, [some (.int l0), some (.int (s4.1 + ((l0 >>> (s4.2 &&& 31)) &&& 1))), some (.int (s4.2 + 1))], [], σ) rfl ?_
    exact kl ((s4.1 + ((l0 >>> (s4.2 &&& 31)) &&& 1)), (s4.2 + 1)) (Option.some.inj h).symm
def f_X10_bits (p0 : Int32) (σ : rf_S) : Option Int32 := (rf_lp (f_X10_bits_b4 p0 σ) 5000 (0, 0)).bind (fun e2 => some e2)
set_option maxHeartbeats 2000000 in
theorem ok_X10_bits (d : Nat) (p0 : Int32) (σ : rf_S) (q : Int32) (h : f_X10_bits p0 σ = some q) : rf_Ex ly1 (d + 1) mX10_bits [.int p0] σ (some (.int q) : Option Value) σ := by
  unfold f_X10_bits at h
  refine rf_ex mw_X10_bits [some (.int p0), none, none] (Nat.le_of_ble_eq_true rfl) rfl ?_
  refine rf_b wf1 rc_X10_bits_ok 0 4 (4, [some (.int p0), some (.int 0), some (.int 0)], [], σ) rfl ?_
  obtain ⟨e2, h3, h⟩ := Option.bind_eq_some_iff.mp h
  refine rf_lpG (b := f_X10_bits_b4 p0 σ) (G := fun (s4 : Int32 × Int32) => rf_G ly1 (d) mX10_bits (4, [some (.int p0), some (.int s4.1), some (.int s4.2)], [], σ) (some (.int q) : Option Value) σ) (K := fun (e : (Int32)) => rf_G ly1 (d) mX10_bits (24, [none, some (.int e), none], [], σ) (some (.int q) : Option Value) σ) (fun (s4 : Int32 × Int32) (o : (Int32 × Int32) ⊕ (Int32)) hb kl kx => ok_X10_bits_b4 d p0 σ s4 o hb kl kx) 5000 (0, 0) e2 h3 ?_
  show rf_G _ _ _ (24, [none, some (.int e2), none], [], σ) _ _
  refine rf_b wf1 rc_X10_bits_ok 17 1 (25, [none, some (.int e2), none], [.int e2], σ) rfl ?_
  obtain rfl := Option.some.inj h
  exact rf_ri rc_X10_bits_ok 18 rfl rfl
def rc_X10_finds : List rf_E := [(0, .aload_n 0, 1, 0), (1, .iload_n 1, 1, 1), (2, .putfield 68, 3, 1004), (5, .aload_n 0, 1, 0), (6, .getfield 22, 3, 1005), (9, .iload_n 1, 1, 1), (10, .dup2, 1, 0), (11, .iaload, 1, 0), (12, .iconst 1, 1, 0), (13, .iadd, 1, 0), (14, .iastore, 1, 0), (15, .bipush (-3), 2, 0), (17, .ireturn, 1, 0)]
theorem rc_X10_finds_ok : rf_rc mX10_finds rc_X10_finds = true := by decide +kernel
theorem mw_X10_finds : rf_mw mX10_finds := ⟨rf_mt_ok _ (List.mem_of_getElem? (i := 150) rfl), fun h => absurd h (by decide), fun _ => ⟨rf_mi_ok _ (List.mem_of_getElem? (i := 134) rfl), rf_mv_ok _ (List.mem_of_getElem? (i := 134) rfl)⟩, rf_mq_6 _ (List.mem_of_getElem? (i := 0) rfl)⟩
def f_X10_finds (p0 : Int32) (σ : rf_S) : Option (Int32 × rf_S) := if rf_ck ly1 0 5 p0 = true then (if rf_ck ly1 0 5 p0 = true then ((some (rf_sI (rf_sI σ 0 4 p0) 5 p0.toNatClampNeg (((rf_sI σ 0 4 p0).1 5 p0.toNatClampNeg) + 1))).bind (fun σ3 => some ((-3), σ3))) else none) else none
set_option maxHeartbeats 2000000 in
theorem ok_X10_finds (d : Nat) (p0 : Int32) (σ : rf_S) (q : (Int32 × rf_S)) (h : f_X10_finds p0 σ = some q) : rf_Ex ly1 (d + 1) mX10_finds [.ref 0, .int p0] σ (some (.int q.1) : Option Value) q.2 := by
  unfold f_X10_finds at h
  refine rf_ex mw_X10_finds [some (.ref 0), some (.int p0)] (Nat.le_of_ble_eq_true rfl) rfl ?_
  refine rf_b wf1 rc_X10_finds_ok 0 7 (11, [some (.ref 0), some (.int p0)], [.int p0, .ref 5, .int p0, .ref 5], (rf_sI σ 0 4 p0)) rfl ?_
  obtain ⟨g1, h⟩ := rf_ifn h
  refine rf_gd wf1 rc_X10_finds_ok 7 (12, [some (.ref 0), some (.int p0)], [.int ((rf_sI σ 0 4 p0).1 5 p0.toNatClampNeg), .int p0, .ref 5], (rf_sI σ 0 4 p0)) rfl rfl g1 rfl ?_
  refine rf_b wf1 rc_X10_finds_ok 8 2 (14, [some (.ref 0), some (.int p0)], [.int (((rf_sI σ 0 4 p0).1 5 p0.toNatClampNeg) + 1), .int p0, .ref 5], (rf_sI σ 0 4 p0)) rfl ?_
  obtain ⟨g2, h⟩ := rf_ifn h
  refine rf_gd wf1 rc_X10_finds_ok 10 (15, [some (.ref 0), some (.int p0)], [], (rf_sI (rf_sI σ 0 4 p0) 5 p0.toNatClampNeg (((rf_sI σ 0 4 p0).1 5 p0.toNatClampNeg) + 1))) rfl rfl g2 rfl ?_
  obtain ⟨σ3, h4, h⟩ := Option.bind_eq_some_iff.mp h
  refine rf_sgb (Option.some.inj h4) ?_
  refine rf_b wf1 rc_X10_finds_ok 11 1 (17, [some (.ref 0), some (.int p0)], [.int (-3)], σ3) rfl ?_
  obtain rfl := Option.some.inj h
  exact rf_ri rc_X10_finds_ok 12 rfl rfl
def rc_X10_tells : List rf_E := [(0, .aload_n 0, 1, 0), (1, .iload_n 1, 1, 1), (2, .putfield 72, 3, 1006), (5, .iconst 1, 1, 0), (6, .ireturn, 1, 0)]
theorem rc_X10_tells_ok : rf_rc mX10_tells rc_X10_tells = true := by decide +kernel
theorem mw_X10_tells : rf_mw mX10_tells := ⟨rf_mt_ok _ (List.mem_of_getElem? (i := 151) rfl), fun h => absurd h (by decide), fun _ => ⟨rf_mi_ok _ (List.mem_of_getElem? (i := 135) rfl), rf_mv_ok _ (List.mem_of_getElem? (i := 135) rfl)⟩, rf_mq_6 _ (List.mem_of_getElem? (i := 1) rfl)⟩
def f_X10_tells (p0 : Int32) (σ : rf_S) : Option (Int32 × rf_S) := some (1, (rf_sI σ 0 6 p0))
set_option maxHeartbeats 2000000 in
theorem ok_X10_tells (d : Nat) (p0 : Int32) (σ : rf_S) (q : (Int32 × rf_S)) (h : f_X10_tells p0 σ = some q) : rf_Ex ly1 (d + 1) mX10_tells [.ref 0, .int p0] σ (some (.int q.1) : Option Value) q.2 := by
  unfold f_X10_tells at h
  refine rf_ex mw_X10_tells [some (.ref 0), some (.int p0)] (Nat.le_of_ble_eq_true rfl) rfl ?_
  refine rf_b wf1 rc_X10_tells_ok 0 4 (6, [some (.ref 0), some (.int p0)], [.int 1], (rf_sI σ 0 6 p0)) rfl ?_
  obtain rfl := Option.some.inj h
  exact rf_ri rc_X10_tells_ok 4 rfl rfl
def rc_X10_bring : List rf_E := [(0, .iconst 0, 1, 0), (1, .istore 5, 2, 5), (3, .iload 5, 2, 5), (5, .iload 4, 2, 4), (7, .if_icmp .ge 21, 3, 28), (10, .aload_n 2, 1, 2), (11, .iload_n 3, 1, 3), (12, .iload 5, 2, 5), (14, .iadd, 1, 0), (15, .aload_n 0, 1, 0), (16, .iload_n 1, 1, 1), (17, .iload 5, 2, 5), (19, .iadd, 1, 0), (20, .iaload, 1, 0), (21, .iastore, 1, 0), (22, .iinc 5 1, 3, 5), (25, .goto (-22), 3, 3), (28, .return_, 1, 0)]
theorem rc_X10_bring_ok : rf_rc mX10_bring rc_X10_bring = true := by decide +kernel
theorem mw_X10_bring : rf_mw mX10_bring := ⟨rf_mt_ok _ (List.mem_of_getElem? (i := 152) rfl), fun _ => rf_ms_ok _ (List.mem_of_getElem? (i := 16) rfl), fun h => absurd h (by decide), rf_mq_6 _ (List.mem_of_getElem? (i := 2) rfl)⟩
def f_X10_bring_b3 (l0 : Nat) (l1 : Int32) (l2 : Nat) (l3 : Int32) (l4 : Int32) (s3 : Int32 × rf_S) : Option ((Int32 × rf_S) ⊕ (rf_S)) := if l4 ≤ s3.1 then (some (.inr s3.2)) else (if rf_ck ly1 0 l0 (l1 + s3.1) = true then (if rf_ck ly1 0 l2 (l3 + s3.1) = true then ((some (rf_sI s3.2 l2 (l3 + s3.1).toNatClampNeg (s3.2.1 l0 (l1 + s3.1).toNatClampNeg))).bind (fun σ4 => some (.inl ((s3.1 + 1), σ4)))) else none) else none)
set_option maxHeartbeats 2000000 in
theorem ok_X10_bring_b3 (d : Nat) (l0 : Nat) (l1 : Int32) (l2 : Nat) (l3 : Int32) (l4 : Int32) (s3 : Int32 × rf_S) (o : ((Int32 × rf_S) ⊕ (rf_S))) (h : f_X10_bring_b3 l0 l1 l2 l3 l4 s3 = some o) {r : Option Value} {σr : rf_S} (kl : ∀ s', o = .inl s' → rf_G ly1 (d) mX10_bring (3, [some (.ref l0), some (.int l1), some (.ref l2), some (.int l3), some (.int l4), some (.int s'.1)], [], s'.2) r σr) (kx : ∀ e, o = .inr e → rf_G ly1 (d) mX10_bring (28, [none, none, none, none, none, none], [], e) r σr) : rf_G ly1 (d) mX10_bring (3, [some (.ref l0), some (.int l1), some (.ref l2), some (.int l3), some (.int l4), some (.int s3.1)], [], s3.2) r σr := by
  unfold f_X10_bring_b3 at h
  refine rf_b wf1 rc_X10_bring_ok 2 2 (7, [some (.ref l0), some (.int l1), some (.ref l2), some (.int l3), some (.int l4), some (.int s3.1)], [.int l4, .int s3.1], s3.2) rfl ?_
  by_cases c1 : l4 ≤ s3.1
  · rw [if_pos c1] at h
    refine rf_t wf1 rc_X10_bring_ok 4 (28, [some (.ref l0), some (.int l1), some (.ref l2), some (.int l3), some (.int l4), some (.int s3.1)], [], s3.2) rfl rfl c1 rfl ?_
    refine rf_fg [false, false, false, false, false, false] [none, none, none, none, none, none] rfl ?_
    exact kx s3.2 (Option.some.inj h).symm
  · rw [if_neg c1] at h
    refine rf_f wf1 rc_X10_bring_ok 4 (10, [some (.ref l0), some (.int l1), some (.ref l2), some (.int l3), some (.int l4), some (.int s3.1)], [], s3.2) rfl rfl c1 rfl ?_
    refine rf_b wf1 rc_X10_bring_ok 5 8 (20, [some (.ref l0), some (.int l1), some (.ref l2), some (.int l3), some (.int l4), some (.int s3.1)], [.int (l1 + s3.1), .ref l0, .int (l3 + s3.1), .ref l2], s3.2) rfl ?_
    obtain ⟨g2, h⟩ := rf_ifn h
    refine rf_gd wf1 rc_X10_bring_ok 13 (21, [some (.ref l0), some (.int l1), some (.ref l2), some (.int l3), some (.int l4), some (.int s3.1)], [.int (s3.2.1 l0 (l1 + s3.1).toNatClampNeg), .int (l3 + s3.1), .ref l2], s3.2) rfl rfl g2 rfl ?_
    obtain ⟨g3, h⟩ := rf_ifn h
    refine rf_gd wf1 rc_X10_bring_ok 14 (22, [some (.ref l0), some (.int l1), some (.ref l2), some (.int l3), some (.int l4), some (.int s3.1)], [], (rf_sI s3.2 l2 (l3 + s3.1).toNatClampNeg (s3.2.1 l0 (l1 + s3.1).toNatClampNeg))) rfl rfl g3 rfl ?_
    obtain ⟨σ4, h5, h⟩ := Option.bind_eq_some_iff.mp h
    refine rf_sgb (Option.some.inj h5) ?_
    refine rf_b wf1 rc_X10_bring_ok 15 2 (3, [some (.ref l0), some (.int l1), some (.ref l2), some (.int l3), some (.int l4), some (.int (s3.1 + 1))], [], σ4) rfl ?_
    exact kl ((s3.1 + 1), σ4) (Option.some.inj h).symm
def f_X10_bring (p0 : Nat) (p1 : Int32) (p2 : Nat) (p3 : Int32) (p4 : Int32) (σ : rf_S) : Option rf_S := (rf_lp (f_X10_bring_b3 p0 p1 p2 p3 p4) 5000 (0, σ)).bind (fun e6 => some e6)
set_option maxHeartbeats 2000000 in
theorem ok_X10_bring (d : Nat) (p0 : Nat) (p1 : Int32) (p2 : Nat) (p3 : Int32) (p4 : Int32) (σ : rf_S) (q : rf_S) (h : f_X10_bring p0 p1 p2 p3 p4 σ = some q) : rf_Ex ly1 (d + 1) mX10_bring [.ref p0, .int p1, .ref p2, .int p3, .int p4] σ none q := by
  unfold f_X10_bring at h
  refine rf_ex mw_X10_bring [some (.ref p0), some (.int p1), some (.ref p2), some (.int p3), some (.int p4), none] (Nat.le_of_ble_eq_true rfl) rfl ?_
  refine rf_b wf1 rc_X10_bring_ok 0 2 (3, [some (.ref p0), some (.int p1), some (.ref p2), some (.int p3), some (.int p4), some (.int 0)], [], σ) rfl ?_
  obtain ⟨e6, h7, h⟩ := Option.bind_eq_some_iff.mp h
  refine rf_lpG (b := f_X10_bring_b3 p0 p1 p2 p3 p4) (G := fun (s3 : Int32 × rf_S) => rf_G ly1 (d) mX10_bring (3, [some (.ref p0), some (.int p1), some (.ref p2), some (.int p3), some (.int p4), some (.int s3.1)], [], s3.2) none q) (K := fun (e : (rf_S)) => rf_G ly1 (d) mX10_bring (28, [none, none, none, none, none, none], [], e) none q) (fun (s3 : Int32 × rf_S) (o : (Int32 × rf_S) ⊕ (rf_S)) hb kl kx => ok_X10_bring_b3 d p0 p1 p2 p3 p4 s3 o hb kl kx) 5000 (0, σ) e6 h7 ?_
  show rf_G _ _ _ (28, [none, none, none, none, none, none], [], e6) _ _
  obtain rfl := Option.some.inj h
  exact rf_rv rc_X10_bring_ok 17 rfl rfl
def rc_X10_isOne : List rf_E := [(0, .iload_n 1, 1, 1), (1, .iconst 0, 1, 0), (2, .aload_n 0, 1, 0), (3, .getfield 75, 3, 1017), (6, .iconst 1, 1, 0), (7, .isub, 1, 0), (8, .invokestatic 78, 3, 0), (11, .ireturn, 1, 0)]
theorem rc_X10_isOne_ok : rf_rc mX10_isOne rc_X10_isOne = true := by decide +kernel
theorem mw_X10_isOne : rf_mw mX10_isOne := ⟨rf_mt_ok _ (List.mem_of_getElem? (i := 153) rfl), fun h => absurd h (by decide), fun _ => ⟨rf_mi_ok _ (List.mem_of_getElem? (i := 136) rfl), rf_mv_ok _ (List.mem_of_getElem? (i := 136) rfl)⟩, rf_mq_6 _ (List.mem_of_getElem? (i := 3) rfl)⟩
def f_X10_isOne (p0 : Int32) (σ : rf_S) : Option Int32 := (f_X10_in p0 0 ((σ.1 0 17) - 1) σ).bind (fun q1 => if q1 = 0 ∨ q1 = 1 then some q1 else none)
set_option maxHeartbeats 2000000 in
theorem ok_X10_isOne (d : Nat) (p0 : Int32) (σ : rf_S) (q : Int32) (h : f_X10_isOne p0 σ = some q) : rf_Ex ly1 (d + 2) mX10_isOne [.ref 0, .int p0] σ (some (.int q) : Option Value) σ := by
  unfold f_X10_isOne at h
  refine rf_ex mw_X10_isOne [some (.ref 0), some (.int p0)] (Nat.le_of_ble_eq_true rfl) rfl ?_
  refine rf_b wf1 rc_X10_isOne_ok 0 6 (8, [some (.ref 0), some (.int p0)], [.int ((σ.1 0 17) - 1), .int 0, .int p0], σ) rfl ?_
  obtain ⟨q1, h2, h⟩ := Option.bind_eq_some_iff.mp h
  refine rf_cs1 (Mt := mX10_in) rc_X10_isOne_ok 6 false rfl (List.mem_of_getElem? (i := 143) rfl) mw_X10_in rfl [.int p0, .int 0, .int ((σ.1 0 17) - 1)] [] rfl rfl (Nat.le_of_ble_eq_true rfl) (ok_X10_in d p0 0 ((σ.1 0 17) - 1) σ q1 h2) ?_
  show rf_G _ _ _ (11, [some (.ref 0), some (.int p0)], [.int q1], σ) _ _
  obtain ⟨g3, h⟩ := rf_ifn h
  obtain rfl := Option.some.inj h
  exact rf_rz rc_X10_isOne_ok 7 rfl rfl g3
def rc_X10_isRoom : List rf_E := [(0, .iload_n 1, 1, 1), (1, .iconst 0, 1, 0), (2, .aload_n 0, 1, 0), (3, .getfield 82, 3, 1016), (6, .iconst 1, 1, 0), (7, .isub, 1, 0), (8, .invokestatic 78, 3, 0), (11, .ireturn, 1, 0)]
theorem rc_X10_isRoom_ok : rf_rc mX10_isRoom rc_X10_isRoom = true := by decide +kernel
theorem mw_X10_isRoom : rf_mw mX10_isRoom := ⟨rf_mt_ok _ (List.mem_of_getElem? (i := 154) rfl), fun h => absurd h (by decide), fun _ => ⟨rf_mi_ok _ (List.mem_of_getElem? (i := 137) rfl), rf_mv_ok _ (List.mem_of_getElem? (i := 137) rfl)⟩, rf_mq_6 _ (List.mem_of_getElem? (i := 4) rfl)⟩
def f_X10_isRoom (p0 : Int32) (σ : rf_S) : Option Int32 := (f_X10_in p0 0 ((σ.1 0 16) - 1) σ).bind (fun q1 => if q1 = 0 ∨ q1 = 1 then some q1 else none)
set_option maxHeartbeats 2000000 in
theorem ok_X10_isRoom (d : Nat) (p0 : Int32) (σ : rf_S) (q : Int32) (h : f_X10_isRoom p0 σ = some q) : rf_Ex ly1 (d + 2) mX10_isRoom [.ref 0, .int p0] σ (some (.int q) : Option Value) σ := by
  unfold f_X10_isRoom at h
  refine rf_ex mw_X10_isRoom [some (.ref 0), some (.int p0)] (Nat.le_of_ble_eq_true rfl) rfl ?_
  refine rf_b wf1 rc_X10_isRoom_ok 0 6 (8, [some (.ref 0), some (.int p0)], [.int ((σ.1 0 16) - 1), .int 0, .int p0], σ) rfl ?_
  obtain ⟨q1, h2, h⟩ := Option.bind_eq_some_iff.mp h
  refine rf_cs1 (Mt := mX10_in) rc_X10_isRoom_ok 6 false rfl (List.mem_of_getElem? (i := 143) rfl) mw_X10_in rfl [.int p0, .int 0, .int ((σ.1 0 16) - 1)] [] rfl rfl (Nat.le_of_ble_eq_true rfl) (ok_X10_in d p0 0 ((σ.1 0 16) - 1) σ q1 h2) ?_
  show rf_G _ _ _ (11, [some (.ref 0), some (.int p0)], [.int q1], σ) _ _
  obtain ⟨g3, h⟩ := rf_ifn h
  obtain rfl := Option.some.inj h
  exact rf_rz rc_X10_isRoom_ok 7 rfl rfl g3
def rc_X10_isSet : List rf_E := [(0, .iload_n 1, 1, 1), (1, .iconst 0, 1, 0), (2, .iconst 1, 1, 0), (3, .aload_n 0, 1, 0), (4, .getfield 75, 3, 1017), (7, .ishl, 1, 0), (8, .iconst 1, 1, 0), (9, .isub, 1, 0), (10, .invokestatic 78, 3, 0), (13, .ireturn, 1, 0)]
theorem rc_X10_isSet_ok : rf_rc mX10_isSet rc_X10_isSet = true := by decide +kernel
theorem mw_X10_isSet : rf_mw mX10_isSet := ⟨rf_mt_ok _ (List.mem_of_getElem? (i := 155) rfl), fun h => absurd h (by decide), fun _ => ⟨rf_mi_ok _ (List.mem_of_getElem? (i := 138) rfl), rf_mv_ok _ (List.mem_of_getElem? (i := 138) rfl)⟩, rf_mq_6 _ (List.mem_of_getElem? (i := 5) rfl)⟩
def f_X10_isSet (p0 : Int32) (σ : rf_S) : Option Int32 := (f_X10_in p0 0 ((1 <<< ((σ.1 0 17) &&& 31)) - 1) σ).bind (fun q1 => if q1 = 0 ∨ q1 = 1 then some q1 else none)
set_option maxHeartbeats 2000000 in
theorem ok_X10_isSet (d : Nat) (p0 : Int32) (σ : rf_S) (q : Int32) (h : f_X10_isSet p0 σ = some q) : rf_Ex ly1 (d + 2) mX10_isSet [.ref 0, .int p0] σ (some (.int q) : Option Value) σ := by
  unfold f_X10_isSet at h
  refine rf_ex mw_X10_isSet [some (.ref 0), some (.int p0)] (Nat.le_of_ble_eq_true rfl) rfl ?_
  refine rf_b wf1 rc_X10_isSet_ok 0 8 (10, [some (.ref 0), some (.int p0)], [.int ((1 <<< ((σ.1 0 17) &&& 31)) - 1), .int 0, .int p0], σ) rfl ?_
  obtain ⟨q1, h2, h⟩ := Option.bind_eq_some_iff.mp h
  refine rf_cs1 (Mt := mX10_in) rc_X10_isSet_ok 8 false rfl (List.mem_of_getElem? (i := 143) rfl) mw_X10_in rfl [.int p0, .int 0, .int ((1 <<< ((σ.1 0 17) &&& 31)) - 1)] [] rfl rfl (Nat.le_of_ble_eq_true rfl) (ok_X10_in d p0 0 ((1 <<< ((σ.1 0 17) &&& 31)) - 1) σ q1 h2) ?_
  show rf_G _ _ _ (13, [some (.ref 0), some (.int p0)], [.int q1], σ) _ _
  obtain ⟨g3, h⟩ := rf_ifn h
  obtain rfl := Option.some.inj h
  exact rf_rz rc_X10_isSet_ok 9 rfl rfl g3
def rc_X10_row : List rf_E := [(0, .iload_n 1, 1, 1), (1, .iconst 0, 1, 0), (2, .iconst 5, 1, 0), (3, .invokestatic 78, 3, 0), (6, .ifCond .eq 9, 3, 15), (9, .iload_n 2, 1, 2), (10, .bipush 40, 2, 0), (12, .if_icmp .le 5, 3, 17), (15, .iconst (-1), 1, 0), (16, .ireturn, 1, 0), (17, .iload_n 2, 1, 2), (18, .ifCond .ge 9, 3, 27), (21, .aload_n 0, 1, 0), (22, .iconst 5, 1, 0), (23, .invokevirtual 85, 3, 0), (26, .ireturn, 1, 0), (27, .aload_n 0, 1, 0), (28, .getfield 7, 3, 1000), (31, .iload_n 1, 1, 1), (32, .iload_n 2, 1, 2), (33, .iastore, 1, 0), (34, .iconst 0, 1, 0), (35, .istore_n 3, 1, 3), (36, .iload_n 3, 1, 3), (37, .bipush 40, 2, 0), (39, .if_icmp .ge 21, 3, 60), (42, .aload_n 0, 1, 0), (43, .getfield 13, 3, 1001), (46, .bipush 40, 2, 0), (48, .iload_n 1, 1, 1), (49, .imul, 1, 0), (50, .iload_n 3, 1, 3), (51, .iadd, 1, 0), (52, .iconst 0, 1, 0), (53, .iastore, 1, 0), (54, .iinc 3 1, 3, 3), (57, .goto (-21), 3, 36), (60, .iload_n 2, 1, 2), (61, .ireturn, 1, 0)]
theorem rc_X10_row_ok : rf_rc mX10_row rc_X10_row = true := by decide +kernel
theorem mw_X10_row : rf_mw mX10_row := ⟨rf_mt_ok _ (List.mem_of_getElem? (i := 156) rfl), fun h => absurd h (by decide), fun _ => ⟨rf_mi_ok _ (List.mem_of_getElem? (i := 139) rfl), rf_mv_ok _ (List.mem_of_getElem? (i := 139) rfl)⟩, rf_mq_6 _ (List.mem_of_getElem? (i := 6) rfl)⟩
def f_X10_row_b36 (l1 : Int32) (l2 : Int32) (s36 : Int32 × rf_S) : Option ((Int32 × rf_S) ⊕ (rf_S)) := if 40 ≤ s36.1 then (some (.inr s36.2)) else (if rf_ck ly1 0 2 ((40 * l1) + s36.1) = true then (some (.inl ((s36.1 + 1), (rf_sI s36.2 2 ((40 * l1) + s36.1).toNatClampNeg 0)))) else none)
set_option maxHeartbeats 2000000 in
theorem ok_X10_row_b36 (d : Nat) (l1 : Int32) (l2 : Int32) (s36 : Int32 × rf_S) (o : ((Int32 × rf_S) ⊕ (rf_S))) (h : f_X10_row_b36 l1 l2 s36 = some o) {r : Option Value} {σr : rf_S} (kl : ∀ s', o = .inl s' → rf_G ly1 (d + 1) mX10_row (36, [some (.ref 0), some (.int l1), some (.int l2), some (.int s'.1)], [], s'.2) r σr) (kx : ∀ e, o = .inr e → rf_G ly1 (d + 1) mX10_row (60, [none, none, some (.int l2), none], [], e) r σr) : rf_G ly1 (d + 1) mX10_row (36, [some (.ref 0), some (.int l1), some (.int l2), some (.int s36.1)], [], s36.2) r σr := by
  unfold f_X10_row_b36 at h
  refine rf_b wf1 rc_X10_row_ok 23 2 (39, [some (.ref 0), some (.int l1), some (.int l2), some (.int s36.1)], [.int 40, .int s36.1], s36.2) rfl ?_
  by_cases c7 : 40 ≤ s36.1
  · rw [if_pos c7] at h
    refine rf_t wf1 rc_X10_row_ok 25 (60, [some (.ref 0), some (.int l1), some (.int l2), some (.int s36.1)], [], s36.2) rfl rfl c7 rfl ?_
    refine rf_fg [false, false, true, false] [none, none, some (.int l2), none] rfl ?_
    exact kx s36.2 (Option.some.inj h).symm
  · rw [if_neg c7] at h
    refine rf_f wf1 rc_X10_row_ok 25 (42, [some (.ref 0), some (.int l1), some (.int l2), some (.int s36.1)], [], s36.2) rfl rfl c7 rfl ?_
    refine rf_b wf1 rc_X10_row_ok 26 8 (53, [some (.ref 0), some (.int l1), some (.int l2), some (.int s36.1)], [.int 0, .int ((40 * l1) + s36.1), .ref 2], s36.2) rfl ?_
    obtain ⟨g8, h⟩ := rf_ifn h
    refine rf_gd wf1 rc_X10_row_ok 34 (54, [some (.ref 0), some (.int l1), some (.int l2), some (.int s36.1)], [], (rf_sI s36.2 2 ((40 * l1) + s36.1).toNatClampNeg 0)) rfl rfl g8 rfl ?_
    refine rf_b wf1 rc_X10_row_ok 35 2 (36, [some (.ref 0), some (.int l1), some (.int l2), some (.int (s36.1 + 1))], [], (rf_sI s36.2 2 ((40 * l1) + s36.1).toNatClampNeg 0)) rfl ?_
    exact kl ((s36.1 + 1), (rf_sI s36.2 2 ((40 * l1) + s36.1).toNatClampNeg 0)) (Option.some.inj h).symm
def f_X10_row (p0 : Int32) (p1 : Int32) (σ : rf_S) : Option (Int32 × rf_S) := (f_X10_in p0 0 5 σ).bind (fun q1 => if q1 = 0 then (some ((-1), σ)) else (if p1 ≤ 40 then (if 0 ≤ p1 then (if rf_ck ly1 0 1 p0 = true then ((rf_lp (f_X10_row_b36 p0 p1) 5000 (0, (rf_sI σ 1 p0.toNatClampNeg p1))).bind (fun e9 => some (p1, e9))) else none) else ((f_X10_finds 5 σ).bind (fun q11 => some (q11.1, q11.2)))) else (some ((-1), σ))))
set_option maxHeartbeats 2000000 in
theorem ok_X10_row (d : Nat) (p0 : Int32) (p1 : Int32) (σ : rf_S) (q : (Int32 × rf_S)) (h : f_X10_row p0 p1 σ = some q) : rf_Ex ly1 (d + 2) mX10_row [.ref 0, .int p0, .int p1] σ (some (.int q.1) : Option Value) q.2 := by
  unfold f_X10_row at h
  refine rf_ex mw_X10_row [some (.ref 0), some (.int p0), some (.int p1), none] (Nat.le_of_ble_eq_true rfl) rfl ?_
  refine rf_b wf1 rc_X10_row_ok 0 3 (3, [some (.ref 0), some (.int p0), some (.int p1), none], [.int 5, .int 0, .int p0], σ) rfl ?_
  obtain ⟨q1, h2, h⟩ := Option.bind_eq_some_iff.mp h
  refine rf_cs1 (Mt := mX10_in) rc_X10_row_ok 3 false rfl (List.mem_of_getElem? (i := 143) rfl) mw_X10_in rfl [.int p0, .int 0, .int 5] [] rfl rfl (Nat.le_of_ble_eq_true rfl) (ok_X10_in d p0 0 5 σ q1 h2) ?_
  show rf_G _ _ _ (6, [some (.ref 0), some (.int p0), some (.int p1), none], [.int q1], σ) _ _
  by_cases c3 : q1 = 0
  · rw [if_pos c3] at h
    refine rf_t wf1 rc_X10_row_ok 4 (15, [some (.ref 0), some (.int p0), some (.int p1), none], [], σ) rfl rfl c3 rfl ?_
    refine rf_b wf1 rc_X10_row_ok 8 1 (16, [some (.ref 0), some (.int p0), some (.int p1), none], [.int (-1)], σ) rfl ?_
    obtain rfl := Option.some.inj h
    exact rf_ri rc_X10_row_ok 9 rfl rfl
  · rw [if_neg c3] at h
    refine rf_f wf1 rc_X10_row_ok 4 (9, [some (.ref 0), some (.int p0), some (.int p1), none], [], σ) rfl rfl c3 rfl ?_
    refine rf_b wf1 rc_X10_row_ok 5 2 (12, [some (.ref 0), some (.int p0), some (.int p1), none], [.int 40, .int p1], σ) rfl ?_
    by_cases c4 : p1 ≤ 40
    · rw [if_pos c4] at h
      refine rf_t wf1 rc_X10_row_ok 7 (17, [some (.ref 0), some (.int p0), some (.int p1), none], [], σ) rfl rfl c4 rfl ?_
      refine rf_b wf1 rc_X10_row_ok 10 1 (18, [some (.ref 0), some (.int p0), some (.int p1), none], [.int p1], σ) rfl ?_
      by_cases c5 : 0 ≤ p1
      · rw [if_pos c5] at h
        refine rf_t wf1 rc_X10_row_ok 11 (27, [some (.ref 0), some (.int p0), some (.int p1), none], [], σ) rfl rfl c5 rfl ?_
        refine rf_b wf1 rc_X10_row_ok 16 4 (33, [some (.ref 0), some (.int p0), some (.int p1), none], [.int p1, .int p0, .ref 1], σ) rfl ?_
        obtain ⟨g6, h⟩ := rf_ifn h
        refine rf_gd wf1 rc_X10_row_ok 20 (34, [some (.ref 0), some (.int p0), some (.int p1), none], [], (rf_sI σ 1 p0.toNatClampNeg p1)) rfl rfl g6 rfl ?_
        refine rf_b wf1 rc_X10_row_ok 21 2 (36, [some (.ref 0), some (.int p0), some (.int p1), some (.int 0)], [], (rf_sI σ 1 p0.toNatClampNeg p1)) rfl ?_
        obtain ⟨e9, h10, h⟩ := Option.bind_eq_some_iff.mp h
        refine rf_lpG (b := f_X10_row_b36 p0 p1) (G := fun (s36 : Int32 × rf_S) => rf_G ly1 (d + 1) mX10_row (36, [some (.ref 0), some (.int p0), some (.int p1), some (.int s36.1)], [], s36.2) (some (.int q.1) : Option Value) q.2) (K := fun (e : (rf_S)) => rf_G ly1 (d + 1) mX10_row (60, [none, none, some (.int p1), none], [], e) (some (.int q.1) : Option Value) q.2) (fun (s36 : Int32 × rf_S) (o : (Int32 × rf_S) ⊕ (rf_S)) hb kl kx => ok_X10_row_b36 d p0 p1 s36 o hb kl kx) 5000 (0, (rf_sI σ 1 p0.toNatClampNeg p1)) e9 h10 ?_
        show rf_G _ _ _ (60, [none, none, some (.int p1), none], [], e9) _ _
        refine rf_b wf1 rc_X10_row_ok 37 1 (61, [none, none, some (.int p1), none], [.int p1], e9) rfl ?_
        obtain rfl := Option.some.inj h
        exact rf_ri rc_X10_row_ok 38 rfl rfl
      · rw [if_neg c5] at h
        refine rf_f wf1 rc_X10_row_ok 11 (21, [some (.ref 0), some (.int p0), some (.int p1), none], [], σ) rfl rfl c5 rfl ?_
        refine rf_b wf1 rc_X10_row_ok 12 2 (23, [some (.ref 0), some (.int p0), some (.int p1), none], [.int 5, .ref 0], σ) rfl ?_
        obtain ⟨q11, h12, h⟩ := Option.bind_eq_some_iff.mp h
        refine rf_cv1 (Mt := mX10_finds) wf1 rc_X10_row_ok 14 false rfl (List.mem_of_getElem? (i := 144) rfl) mw_X10_finds rfl 0 [.int 5] [] rfl rfl rfl (Nat.le_of_ble_eq_true rfl) (ok_X10_finds d 5 σ q11 h12) ?_
        show rf_G _ _ _ (26, [some (.ref 0), some (.int p0), some (.int p1), none], [.int q11.1], q11.2) _ _
        obtain rfl := Option.some.inj h
        exact rf_ri rc_X10_row_ok 15 rfl rfl
    · rw [if_neg c4] at h
      refine rf_f wf1 rc_X10_row_ok 7 (15, [some (.ref 0), some (.int p0), some (.int p1), none], [], σ) rfl rfl c4 rfl ?_
      refine rf_b wf1 rc_X10_row_ok 8 1 (16, [some (.ref 0), some (.int p0), some (.int p1), none], [.int (-1)], σ) rfl ?_
      obtain rfl := Option.some.inj h
      exact rf_ri rc_X10_row_ok 9 rfl rfl
def rc_X10_wrongAt : List rf_E := [(0, .iload_n 1, 1, 1), (1, .iconst 0, 1, 0), (2, .iconst 5, 1, 0), (3, .invokestatic 78, 3, 0), (6, .ifCond .ne 5, 3, 11), (9, .iconst (-1), 1, 0), (10, .ireturn, 1, 0), (11, .aload_n 0, 1, 0), (12, .getfield 7, 3, 1000), (15, .iload_n 1, 1, 1), (16, .iaload, 1, 0), (17, .ifCond .ge 9, 3, 26), (20, .aload_n 0, 1, 0), (21, .iconst 1, 1, 0), (22, .invokevirtual 85, 3, 0), (25, .ireturn, 1, 0), (26, .iload_n 2, 1, 2), (27, .iconst 0, 1, 0), (28, .aload_n 0, 1, 0), (29, .getfield 7, 3, 1000), (32, .iload_n 1, 1, 1), (33, .iaload, 1, 0), (34, .iconst 1, 1, 0), (35, .isub, 1, 0), (36, .invokestatic 78, 3, 0), (39, .ifCond .eq 7, 3, 46), (42, .iconst 0, 1, 0), (43, .goto 8, 3, 51), (46, .aload_n 0, 1, 0), (47, .iconst 2, 1, 0), (48, .invokevirtual 85, 3, 0), (51, .ireturn, 1, 0)]
theorem rc_X10_wrongAt_ok : rf_rc mX10_wrongAt rc_X10_wrongAt = true := by decide +kernel
theorem mw_X10_wrongAt : rf_mw mX10_wrongAt := ⟨rf_mt_ok _ (List.mem_of_getElem? (i := 157) rfl), fun h => absurd h (by decide), fun _ => ⟨rf_mi_ok _ (List.mem_of_getElem? (i := 140) rfl), rf_mv_ok _ (List.mem_of_getElem? (i := 140) rfl)⟩, rf_mq_6 _ (List.mem_of_getElem? (i := 7) rfl)⟩
def f_X10_wrongAt (p0 : Int32) (p1 : Int32) (σ : rf_S) : Option (Int32 × rf_S) := (f_X10_in p0 0 5 σ).bind (fun q1 => if q1 ≠ 0 then (if rf_ck ly1 0 1 p0 = true then (if 0 ≤ (σ.1 1 p0.toNatClampNeg) then (if rf_ck ly1 0 1 p0 = true then ((f_X10_in p1 0 ((σ.1 1 p0.toNatClampNeg) - 1) σ).bind (fun q7 => if q7 = 0 then ((f_X10_finds 2 σ).bind (fun q10 => some (q10.1, q10.2))) else (some (0, σ)))) else none) else ((f_X10_finds 1 σ).bind (fun q12 => some (q12.1, q12.2)))) else none) else (some ((-1), σ)))
set_option maxHeartbeats 2000000 in
theorem ok_X10_wrongAt (d : Nat) (p0 : Int32) (p1 : Int32) (σ : rf_S) (q : (Int32 × rf_S)) (h : f_X10_wrongAt p0 p1 σ = some q) : rf_Ex ly1 (d + 2) mX10_wrongAt [.ref 0, .int p0, .int p1] σ (some (.int q.1) : Option Value) q.2 := by
  unfold f_X10_wrongAt at h
  refine rf_ex mw_X10_wrongAt [some (.ref 0), some (.int p0), some (.int p1)] (Nat.le_of_ble_eq_true rfl) rfl ?_
  refine rf_b wf1 rc_X10_wrongAt_ok 0 3 (3, [some (.ref 0), some (.int p0), some (.int p1)], [.int 5, .int 0, .int p0], σ) rfl ?_
  obtain ⟨q1, h2, h⟩ := Option.bind_eq_some_iff.mp h
  refine rf_cs1 (Mt := mX10_in) rc_X10_wrongAt_ok 3 false rfl (List.mem_of_getElem? (i := 143) rfl) mw_X10_in rfl [.int p0, .int 0, .int 5] [] rfl rfl (Nat.le_of_ble_eq_true rfl) (ok_X10_in d p0 0 5 σ q1 h2) ?_
  show rf_G _ _ _ (6, [some (.ref 0), some (.int p0), some (.int p1)], [.int q1], σ) _ _
  by_cases c3 : q1 ≠ 0
  · rw [if_pos c3] at h
    refine rf_t wf1 rc_X10_wrongAt_ok 4 (11, [some (.ref 0), some (.int p0), some (.int p1)], [], σ) rfl rfl c3 rfl ?_
    refine rf_b wf1 rc_X10_wrongAt_ok 7 3 (16, [some (.ref 0), some (.int p0), some (.int p1)], [.int p0, .ref 1], σ) rfl ?_
    obtain ⟨g4, h⟩ := rf_ifn h
    refine rf_gd wf1 rc_X10_wrongAt_ok 10 (17, [some (.ref 0), some (.int p0), some (.int p1)], [.int (σ.1 1 p0.toNatClampNeg)], σ) rfl rfl g4 rfl ?_
    by_cases c5 : 0 ≤ (σ.1 1 p0.toNatClampNeg)
    · rw [if_pos c5] at h
      refine rf_t wf1 rc_X10_wrongAt_ok 11 (26, [some (.ref 0), some (.int p0), some (.int p1)], [], σ) rfl rfl c5 rfl ?_
      refine rf_b wf1 rc_X10_wrongAt_ok 16 5 (33, [some (.ref 0), some (.int p0), some (.int p1)], [.int p0, .ref 1, .int 0, .int p1], σ) rfl ?_
      obtain ⟨g6, h⟩ := rf_ifn h
      refine rf_gd wf1 rc_X10_wrongAt_ok 21 (34, [some (.ref 0), some (.int p0), some (.int p1)], [.int (σ.1 1 p0.toNatClampNeg), .int 0, .int p1], σ) rfl rfl g6 rfl ?_
      refine rf_b wf1 rc_X10_wrongAt_ok 22 2 (36, [some (.ref 0), some (.int p0), some (.int p1)], [.int ((σ.1 1 p0.toNatClampNeg) - 1), .int 0, .int p1], σ) rfl ?_
      obtain ⟨q7, h8, h⟩ := Option.bind_eq_some_iff.mp h
      refine rf_cs1 (Mt := mX10_in) rc_X10_wrongAt_ok 24 false rfl (List.mem_of_getElem? (i := 143) rfl) mw_X10_in rfl [.int p1, .int 0, .int ((σ.1 1 p0.toNatClampNeg) - 1)] [] rfl rfl (Nat.le_of_ble_eq_true rfl) (ok_X10_in d p1 0 ((σ.1 1 p0.toNatClampNeg) - 1) σ q7 h8) ?_
      show rf_G _ _ _ (39, [some (.ref 0), some (.int p0), some (.int p1)], [.int q7], σ) _ _
      by_cases c9 : q7 = 0
      · rw [if_pos c9] at h
        refine rf_t wf1 rc_X10_wrongAt_ok 25 (46, [some (.ref 0), some (.int p0), some (.int p1)], [], σ) rfl rfl c9 rfl ?_
        refine rf_b wf1 rc_X10_wrongAt_ok 28 2 (48, [some (.ref 0), some (.int p0), some (.int p1)], [.int 2, .ref 0], σ) rfl ?_
        obtain ⟨q10, h11, h⟩ := Option.bind_eq_some_iff.mp h
        refine rf_cv1 (Mt := mX10_finds) wf1 rc_X10_wrongAt_ok 30 false rfl (List.mem_of_getElem? (i := 144) rfl) mw_X10_finds rfl 0 [.int 2] [] rfl rfl rfl (Nat.le_of_ble_eq_true rfl) (ok_X10_finds d 2 σ q10 h11) ?_
        show rf_G _ _ _ (51, [some (.ref 0), some (.int p0), some (.int p1)], [.int q10.1], q10.2) _ _
        obtain rfl := Option.some.inj h
        exact rf_ri rc_X10_wrongAt_ok 31 rfl rfl
      · rw [if_neg c9] at h
        refine rf_f wf1 rc_X10_wrongAt_ok 25 (42, [some (.ref 0), some (.int p0), some (.int p1)], [], σ) rfl rfl c9 rfl ?_
        refine rf_b wf1 rc_X10_wrongAt_ok 26 2 (51, [some (.ref 0), some (.int p0), some (.int p1)], [.int 0], σ) rfl ?_
        obtain rfl := Option.some.inj h
        exact rf_ri rc_X10_wrongAt_ok 31 rfl rfl
    · rw [if_neg c5] at h
      refine rf_f wf1 rc_X10_wrongAt_ok 11 (20, [some (.ref 0), some (.int p0), some (.int p1)], [], σ) rfl rfl c5 rfl ?_
      refine rf_b wf1 rc_X10_wrongAt_ok 12 2 (22, [some (.ref 0), some (.int p0), some (.int p1)], [.int 1, .ref 0], σ) rfl ?_
      obtain ⟨q12, h13, h⟩ := Option.bind_eq_some_iff.mp h
      refine rf_cv1 (Mt := mX10_finds) wf1 rc_X10_wrongAt_ok 14 false rfl (List.mem_of_getElem? (i := 144) rfl) mw_X10_finds rfl 0 [.int 1] [] rfl rfl rfl (Nat.le_of_ble_eq_true rfl) (ok_X10_finds d 1 σ q12 h13) ?_
      show rf_G _ _ _ (25, [some (.ref 0), some (.int p0), some (.int p1)], [.int q12.1], q12.2) _ _
      obtain rfl := Option.some.inj h
      exact rf_ri rc_X10_wrongAt_ok 15 rfl rfl
  · rw [if_neg c3] at h
    refine rf_f wf1 rc_X10_wrongAt_ok 4 (9, [some (.ref 0), some (.int p0), some (.int p1)], [], σ) rfl rfl c3 rfl ?_
    refine rf_b wf1 rc_X10_wrongAt_ok 5 1 (10, [some (.ref 0), some (.int p0), some (.int p1)], [.int (-1)], σ) rfl ?_
    obtain rfl := Option.some.inj h
    exact rf_ri rc_X10_wrongAt_ok 6 rfl rfl
def rc_X10_lay : List rf_E := [(0, .aload_n 0, 1, 0), (1, .iload_n 1, 1, 1), (2, .iload_n 2, 1, 2), (3, .invokevirtual 89, 3, 0), (6, .istore 4, 2, 4), (8, .iload 4, 2, 4), (10, .ifCond .eq 6, 3, 16), (13, .iload 4, 2, 4), (15, .ireturn, 1, 0), (16, .aload_n 0, 1, 0), (17, .getfield 13, 3, 1001), (20, .bipush 40, 2, 0), (22, .iload_n 1, 1, 1), (23, .imul, 1, 0), (24, .iload_n 2, 1, 2), (25, .iadd, 1, 0), (26, .iaload, 1, 0), (27, .istore 5, 2, 5), (29, .aload_n 0, 1, 0), (30, .getfield 13, 3, 1001), (33, .bipush 40, 2, 0), (35, .iload_n 1, 1, 1), (36, .imul, 1, 0), (37, .iload_n 2, 1, 2), (38, .iadd, 1, 0), (39, .iload_n 3, 1, 3), (40, .iastore, 1, 0), (41, .aload_n 0, 1, 0), (42, .iload 5, 2, 5), (44, .invokevirtual 93, 3, 0), (47, .ireturn, 1, 0)]
theorem rc_X10_lay_ok : rf_rc mX10_lay rc_X10_lay = true := by decide +kernel
theorem mw_X10_lay : rf_mw mX10_lay := ⟨rf_mt_ok _ (List.mem_of_getElem? (i := 158) rfl), fun h => absurd h (by decide), fun _ => ⟨rf_mi_ok _ (List.mem_of_getElem? (i := 141) rfl), rf_mv_ok _ (List.mem_of_getElem? (i := 141) rfl)⟩, rf_mq_6 _ (List.mem_of_getElem? (i := 8) rfl)⟩
def f_X10_lay (p0 : Int32) (p1 : Int32) (p2 : Int32) (σ : rf_S) : Option (Int32 × rf_S) := (f_X10_wrongAt p0 p1 σ).bind (fun q1 => if q1.1 = 0 then (if rf_ck ly1 0 2 ((40 * p0) + p1) = true then (if rf_ck ly1 0 2 ((40 * p0) + p1) = true then ((f_X10_tells (q1.2.1 2 ((40 * p0) + p1).toNatClampNeg) (rf_sI q1.2 2 ((40 * p0) + p1).toNatClampNeg p2)).bind (fun q6 => some (q6.1, q6.2))) else none) else none) else (some (q1.1, q1.2)))
set_option maxHeartbeats 2000000 in
theorem ok_X10_lay (d : Nat) (p0 : Int32) (p1 : Int32) (p2 : Int32) (σ : rf_S) (q : (Int32 × rf_S)) (h : f_X10_lay p0 p1 p2 σ = some q) : rf_Ex ly1 (d + 3) mX10_lay [.ref 0, .int p0, .int p1, .int p2] σ (some (.int q.1) : Option Value) q.2 := by
  unfold f_X10_lay at h
  refine rf_ex mw_X10_lay [some (.ref 0), some (.int p0), some (.int p1), some (.int p2), none, none] (Nat.le_of_ble_eq_true rfl) rfl ?_
  refine rf_b wf1 rc_X10_lay_ok 0 3 (3, [some (.ref 0), some (.int p0), some (.int p1), some (.int p2), none, none], [.int p1, .int p0, .ref 0], σ) rfl ?_
  obtain ⟨q1, h2, h⟩ := Option.bind_eq_some_iff.mp h
  refine rf_cv1 (Mt := mX10_wrongAt) wf1 rc_X10_lay_ok 3 false rfl (List.mem_of_getElem? (i := 145) rfl) mw_X10_wrongAt rfl 0 [.int p0, .int p1] [] rfl rfl rfl (Nat.le_of_ble_eq_true rfl) (ok_X10_wrongAt d p0 p1 σ q1 h2) ?_
  show rf_G _ _ _ (6, [some (.ref 0), some (.int p0), some (.int p1), some (.int p2), none, none], [.int q1.1], q1.2) _ _
  refine rf_b wf1 rc_X10_lay_ok 4 2 (10, [some (.ref 0), some (.int p0), some (.int p1), some (.int p2), some (.int q1.1), none], [.int q1.1], q1.2) rfl ?_
  by_cases c3 : q1.1 = 0
  · rw [if_pos c3] at h
    refine rf_t wf1 rc_X10_lay_ok 6 (16, [some (.ref 0), some (.int p0), some (.int p1), some (.int p2), some (.int q1.1), none], [], q1.2) rfl rfl c3 rfl ?_
    refine rf_b wf1 rc_X10_lay_ok 9 7 (26, [some (.ref 0), some (.int p0), some (.int p1), some (.int p2), some (.int q1.1), none], [.int ((40 * p0) + p1), .ref 2], q1.2) rfl ?_
    obtain ⟨g4, h⟩ := rf_ifn h
    refine rf_gd wf1 rc_X10_lay_ok 16 (27, [some (.ref 0), some (.int p0), some (.int p1), some (.int p2), some (.int q1.1), none], [.int (q1.2.1 2 ((40 * p0) + p1).toNatClampNeg)], q1.2) rfl rfl g4 rfl ?_
    refine rf_b wf1 rc_X10_lay_ok 17 9 (40, [some (.ref 0), some (.int p0), some (.int p1), some (.int p2), some (.int q1.1), some (.int (q1.2.1 2 ((40 * p0) + p1).toNatClampNeg))], [.int p2, .int ((40 * p0) + p1), .ref 2], q1.2) rfl ?_
    obtain ⟨g5, h⟩ := rf_ifn h
    refine rf_gd wf1 rc_X10_lay_ok 26 (41, [some (.ref 0), some (.int p0), some (.int p1), some (.int p2), some (.int q1.1), some (.int (q1.2.1 2 ((40 * p0) + p1).toNatClampNeg))], [], (rf_sI q1.2 2 ((40 * p0) + p1).toNatClampNeg p2)) rfl rfl g5 rfl ?_
    refine rf_b wf1 rc_X10_lay_ok 27 2 (44, [some (.ref 0), some (.int p0), some (.int p1), some (.int p2), some (.int q1.1), some (.int (q1.2.1 2 ((40 * p0) + p1).toNatClampNeg))], [.int (q1.2.1 2 ((40 * p0) + p1).toNatClampNeg), .ref 0], (rf_sI q1.2 2 ((40 * p0) + p1).toNatClampNeg p2)) rfl ?_
    obtain ⟨q6, h7, h⟩ := Option.bind_eq_some_iff.mp h
    refine rf_cv1 (Mt := mX10_tells) wf1 rc_X10_lay_ok 29 false rfl (List.mem_of_getElem? (i := 146) rfl) mw_X10_tells rfl 0 [.int (q1.2.1 2 ((40 * p0) + p1).toNatClampNeg)] [] rfl rfl rfl (Nat.le_of_ble_eq_true rfl) (ok_X10_tells (d + 1) (q1.2.1 2 ((40 * p0) + p1).toNatClampNeg) (rf_sI q1.2 2 ((40 * p0) + p1).toNatClampNeg p2) q6 h7) ?_
    show rf_G _ _ _ (47, [some (.ref 0), some (.int p0), some (.int p1), some (.int p2), some (.int q1.1), some (.int (q1.2.1 2 ((40 * p0) + p1).toNatClampNeg))], [.int q6.1], q6.2) _ _
    obtain rfl := Option.some.inj h
    exact rf_ri rc_X10_lay_ok 30 rfl rfl
  · rw [if_neg c3] at h
    refine rf_f wf1 rc_X10_lay_ok 6 (13, [some (.ref 0), some (.int p0), some (.int p1), some (.int p2), some (.int q1.1), none], [], q1.2) rfl rfl c3 rfl ?_
    refine rf_b wf1 rc_X10_lay_ok 7 1 (15, [some (.ref 0), some (.int p0), some (.int p1), some (.int p2), some (.int q1.1), none], [.int q1.1], q1.2) rfl ?_
    obtain rfl := Option.some.inj h
    exact rf_ri rc_X10_lay_ok 8 rfl rfl
def rc_X10_at : List rf_E := [(0, .aload_n 0, 1, 0), (1, .iload_n 1, 1, 1), (2, .iload_n 2, 1, 2), (3, .invokevirtual 89, 3, 0), (6, .istore_n 3, 1, 3), (7, .iload_n 3, 1, 3), (8, .ifCond .eq 7, 3, 15), (11, .iload_n 3, 1, 3), (12, .goto 18, 3, 30), (15, .aload_n 0, 1, 0), (16, .aload_n 0, 1, 0), (17, .getfield 13, 3, 1001), (20, .bipush 40, 2, 0), (22, .iload_n 1, 1, 1), (23, .imul, 1, 0), (24, .iload_n 2, 1, 2), (25, .iadd, 1, 0), (26, .iaload, 1, 0), (27, .invokevirtual 93, 3, 0), (30, .ireturn, 1, 0)]
theorem rc_X10_at_ok : rf_rc mX10_at rc_X10_at = true := by decide +kernel
theorem mw_X10_at : rf_mw mX10_at := ⟨rf_mt_ok _ (List.mem_of_getElem? (i := 159) rfl), fun h => absurd h (by decide), fun _ => ⟨rf_mi_ok _ (List.mem_of_getElem? (i := 142) rfl), rf_mv_ok _ (List.mem_of_getElem? (i := 142) rfl)⟩, rf_mq_6 _ (List.mem_of_getElem? (i := 9) rfl)⟩
def f_X10_at (p0 : Int32) (p1 : Int32) (σ : rf_S) : Option (Int32 × rf_S) := (f_X10_wrongAt p0 p1 σ).bind (fun q1 => if q1.1 = 0 then (if rf_ck ly1 0 2 ((40 * p0) + p1) = true then ((f_X10_tells (q1.2.1 2 ((40 * p0) + p1).toNatClampNeg) q1.2).bind (fun q5 => some (q5.1, q5.2))) else none) else (some (q1.1, q1.2)))
set_option maxHeartbeats 2000000 in
theorem ok_X10_at (d : Nat) (p0 : Int32) (p1 : Int32) (σ : rf_S) (q : (Int32 × rf_S)) (h : f_X10_at p0 p1 σ = some q) : rf_Ex ly1 (d + 3) mX10_at [.ref 0, .int p0, .int p1] σ (some (.int q.1) : Option Value) q.2 := by
  unfold f_X10_at at h
  refine rf_ex mw_X10_at [some (.ref 0), some (.int p0), some (.int p1), none] (Nat.le_of_ble_eq_true rfl) rfl ?_
  refine rf_b wf1 rc_X10_at_ok 0 3 (3, [some (.ref 0), some (.int p0), some (.int p1), none], [.int p1, .int p0, .ref 0], σ) rfl ?_
  obtain ⟨q1, h2, h⟩ := Option.bind_eq_some_iff.mp h
  refine rf_cv1 (Mt := mX10_wrongAt) wf1 rc_X10_at_ok 3 false rfl (List.mem_of_getElem? (i := 145) rfl) mw_X10_wrongAt rfl 0 [.int p0, .int p1] [] rfl rfl rfl (Nat.le_of_ble_eq_true rfl) (ok_X10_wrongAt d p0 p1 σ q1 h2) ?_
  show rf_G _ _ _ (6, [some (.ref 0), some (.int p0), some (.int p1), none], [.int q1.1], q1.2) _ _
  refine rf_b wf1 rc_X10_at_ok 4 2 (8, [some (.ref 0), some (.int p0), some (.int p1), some (.int q1.1)], [.int q1.1], q1.2) rfl ?_
  by_cases c3 : q1.1 = 0
  · rw [if_pos c3] at h
    refine rf_t wf1 rc_X10_at_ok 6 (15, [some (.ref 0), some (.int p0), some (.int p1), some (.int q1.1)], [], q1.2) rfl rfl c3 rfl ?_
    refine rf_b wf1 rc_X10_at_ok 9 8 (26, [some (.ref 0), some (.int p0), some (.int p1), some (.int q1.1)], [.int ((40 * p0) + p1), .ref 2, .ref 0], q1.2) rfl ?_
    obtain ⟨g4, h⟩ := rf_ifn h
    refine rf_gd wf1 rc_X10_at_ok 17 (27, [some (.ref 0), some (.int p0), some (.int p1), some (.int q1.1)], [.int (q1.2.1 2 ((40 * p0) + p1).toNatClampNeg), .ref 0], q1.2) rfl rfl g4 rfl ?_
    obtain ⟨q5, h6, h⟩ := Option.bind_eq_some_iff.mp h
    refine rf_cv1 (Mt := mX10_tells) wf1 rc_X10_at_ok 18 false rfl (List.mem_of_getElem? (i := 146) rfl) mw_X10_tells rfl 0 [.int (q1.2.1 2 ((40 * p0) + p1).toNatClampNeg)] [] rfl rfl rfl (Nat.le_of_ble_eq_true rfl) (ok_X10_tells (d + 1) (q1.2.1 2 ((40 * p0) + p1).toNatClampNeg) q1.2 q5 h6) ?_
    show rf_G _ _ _ (30, [some (.ref 0), some (.int p0), some (.int p1), some (.int q1.1)], [.int q5.1], q5.2) _ _
    obtain rfl := Option.some.inj h
    exact rf_ri rc_X10_at_ok 19 rfl rfl
  · rw [if_neg c3] at h
    refine rf_f wf1 rc_X10_at_ok 6 (11, [some (.ref 0), some (.int p0), some (.int p1), some (.int q1.1)], [], q1.2) rfl rfl c3 rfl ?_
    refine rf_b wf1 rc_X10_at_ok 7 2 (30, [some (.ref 0), some (.int p0), some (.int p1), some (.int q1.1)], [.int q1.1], q1.2) rfl ?_
    obtain rfl := Option.some.inj h
    exact rf_ri rc_X10_at_ok 19 rfl rfl
def rc_X10_tear : List rf_E := [(0, .iload_n 1, 1, 1), (1, .iconst 0, 1, 0), (2, .iconst 5, 1, 0), (3, .invokestatic 78, 3, 0), (6, .ifCond .ne 5, 3, 11), (9, .iconst (-1), 1, 0), (10, .ireturn, 1, 0), (11, .aload_n 0, 1, 0), (12, .getfield 7, 3, 1000), (15, .iload_n 1, 1, 1), (16, .iaload, 1, 0), (17, .ifCond .ge 9, 3, 26), (20, .aload_n 0, 1, 0), (21, .iconst 1, 1, 0), (22, .invokevirtual 85, 3, 0), (25, .ireturn, 1, 0), (26, .aload_n 0, 1, 0), (27, .getfield 7, 3, 1000), (30, .iload_n 1, 1, 1), (31, .iconst (-1), 1, 0), (32, .iastore, 1, 0), (33, .iconst 1, 1, 0), (34, .ireturn, 1, 0)]
theorem rc_X10_tear_ok : rf_rc mX10_tear rc_X10_tear = true := by decide +kernel
theorem mw_X10_tear : rf_mw mX10_tear := ⟨rf_mt_ok _ (List.mem_of_getElem? (i := 160) rfl), fun h => absurd h (by decide), fun _ => ⟨rf_mi_ok _ (List.mem_of_getElem? (i := 143) rfl), rf_mv_ok _ (List.mem_of_getElem? (i := 143) rfl)⟩, rf_mq_6 _ (List.mem_of_getElem? (i := 10) rfl)⟩
def f_X10_tear (p0 : Int32) (σ : rf_S) : Option (Int32 × rf_S) := (f_X10_in p0 0 5 σ).bind (fun q1 => if q1 ≠ 0 then (if rf_ck ly1 0 1 p0 = true then (if 0 ≤ (σ.1 1 p0.toNatClampNeg) then (if rf_ck ly1 0 1 p0 = true then (some (1, (rf_sI σ 1 p0.toNatClampNeg (-1)))) else none) else ((f_X10_finds 1 σ).bind (fun q7 => some (q7.1, q7.2)))) else none) else (some ((-1), σ)))
set_option maxHeartbeats 2000000 in
theorem ok_X10_tear (d : Nat) (p0 : Int32) (σ : rf_S) (q : (Int32 × rf_S)) (h : f_X10_tear p0 σ = some q) : rf_Ex ly1 (d + 2) mX10_tear [.ref 0, .int p0] σ (some (.int q.1) : Option Value) q.2 := by
  unfold f_X10_tear at h
  refine rf_ex mw_X10_tear [some (.ref 0), some (.int p0)] (Nat.le_of_ble_eq_true rfl) rfl ?_
  refine rf_b wf1 rc_X10_tear_ok 0 3 (3, [some (.ref 0), some (.int p0)], [.int 5, .int 0, .int p0], σ) rfl ?_
  obtain ⟨q1, h2, h⟩ := Option.bind_eq_some_iff.mp h
  refine rf_cs1 (Mt := mX10_in) rc_X10_tear_ok 3 false rfl (List.mem_of_getElem? (i := 143) rfl) mw_X10_in rfl [.int p0, .int 0, .int 5] [] rfl rfl (Nat.le_of_ble_eq_true rfl) (ok_X10_in d p0 0 5 σ q1 h2) ?_
  show rf_G _ _ _ (6, [some (.ref 0), some (.int p0)], [.int q1], σ) _ _
  by_cases c3 : q1 ≠ 0
  · rw [if_pos c3] at h
    refine rf_t wf1 rc_X10_tear_ok 4 (11, [some (.ref 0), some (.int p0)], [], σ) rfl rfl c3 rfl ?_
    refine rf_b wf1 rc_X10_tear_ok 7 3 (16, [some (.ref 0), some (.int p0)], [.int p0, .ref 1], σ) rfl ?_
    obtain ⟨g4, h⟩ := rf_ifn h
    refine rf_gd wf1 rc_X10_tear_ok 10 (17, [some (.ref 0), some (.int p0)], [.int (σ.1 1 p0.toNatClampNeg)], σ) rfl rfl g4 rfl ?_
    by_cases c5 : 0 ≤ (σ.1 1 p0.toNatClampNeg)
    · rw [if_pos c5] at h
      refine rf_t wf1 rc_X10_tear_ok 11 (26, [some (.ref 0), some (.int p0)], [], σ) rfl rfl c5 rfl ?_
      refine rf_b wf1 rc_X10_tear_ok 16 4 (32, [some (.ref 0), some (.int p0)], [.int (-1), .int p0, .ref 1], σ) rfl ?_
      obtain ⟨g6, h⟩ := rf_ifn h
      refine rf_gd wf1 rc_X10_tear_ok 20 (33, [some (.ref 0), some (.int p0)], [], (rf_sI σ 1 p0.toNatClampNeg (-1))) rfl rfl g6 rfl ?_
      refine rf_b wf1 rc_X10_tear_ok 21 1 (34, [some (.ref 0), some (.int p0)], [.int 1], (rf_sI σ 1 p0.toNatClampNeg (-1))) rfl ?_
      obtain rfl := Option.some.inj h
      exact rf_ri rc_X10_tear_ok 22 rfl rfl
    · rw [if_neg c5] at h
      refine rf_f wf1 rc_X10_tear_ok 11 (20, [some (.ref 0), some (.int p0)], [], σ) rfl rfl c5 rfl ?_
      refine rf_b wf1 rc_X10_tear_ok 12 2 (22, [some (.ref 0), some (.int p0)], [.int 1, .ref 0], σ) rfl ?_
      obtain ⟨q7, h8, h⟩ := Option.bind_eq_some_iff.mp h
      refine rf_cv1 (Mt := mX10_finds) wf1 rc_X10_tear_ok 14 false rfl (List.mem_of_getElem? (i := 144) rfl) mw_X10_finds rfl 0 [.int 1] [] rfl rfl rfl (Nat.le_of_ble_eq_true rfl) (ok_X10_finds d 1 σ q7 h8) ?_
      show rf_G _ _ _ (25, [some (.ref 0), some (.int p0)], [.int q7.1], q7.2) _ _
      obtain rfl := Option.some.inj h
      exact rf_ri rc_X10_tear_ok 15 rfl rfl
  · rw [if_neg c3] at h
    refine rf_f wf1 rc_X10_tear_ok 4 (9, [some (.ref 0), some (.int p0)], [], σ) rfl rfl c3 rfl ?_
    refine rf_b wf1 rc_X10_tear_ok 5 1 (10, [some (.ref 0), some (.int p0)], [.int (-1)], σ) rfl ?_
    obtain rfl := Option.some.inj h
    exact rf_ri rc_X10_tear_ok 6 rfl rfl
def rc_X10_isPart : List rf_E := [(0, .iload_n 0, 1, 0), (1, .ifCond .lt 19, 3, 20), (4, .iload_n 1, 1, 1), (5, .iload_n 2, 1, 2), (6, .if_icmp .gt 14, 3, 20), (9, .iload_n 0, 1, 0), (10, .iload_n 2, 1, 2), (11, .iload_n 1, 1, 1), (12, .isub, 1, 0), (13, .if_icmp .gt 7, 3, 20), (16, .iconst 1, 1, 0), (17, .goto 4, 3, 21), (20, .iconst 0, 1, 0), (21, .ireturn, 1, 0)]
theorem rc_X10_isPart_ok : rf_rc mX10_isPart rc_X10_isPart = true := by decide +kernel
theorem mw_X10_isPart : rf_mw mX10_isPart := ⟨rf_mt_ok _ (List.mem_of_getElem? (i := 161) rfl), fun _ => rf_ms_ok _ (List.mem_of_getElem? (i := 17) rfl), fun h => absurd h (by decide), rf_mq_6 _ (List.mem_of_getElem? (i := 11) rfl)⟩
def f_X10_isPart (p0 : Int32) (p1 : Int32) (p2 : Int32) (σ : rf_S) : Option Int32 := if p0 < 0 then (some 0) else (if p2 < p1 then (some 0) else (if (p2 - p1) < p0 then (some 0) else (some 1)))
set_option maxHeartbeats 2000000 in
theorem ok_X10_isPart (d : Nat) (p0 : Int32) (p1 : Int32) (p2 : Int32) (σ : rf_S) (q : Int32) (h : f_X10_isPart p0 p1 p2 σ = some q) : rf_Ex ly1 (d + 1) mX10_isPart [.int p0, .int p1, .int p2] σ (some (.int q) : Option Value) σ := by
  unfold f_X10_isPart at h
  refine rf_ex mw_X10_isPart [some (.int p0), some (.int p1), some (.int p2)] (Nat.le_of_ble_eq_true rfl) rfl ?_
  refine rf_b wf1 rc_X10_isPart_ok 0 1 (1, [some (.int p0), some (.int p1), some (.int p2)], [.int p0], σ) rfl ?_
  by_cases c1 : p0 < 0
  · rw [if_pos c1] at h
    refine rf_t wf1 rc_X10_isPart_ok 1 (20, [some (.int p0), some (.int p1), some (.int p2)], [], σ) rfl rfl c1 rfl ?_
    refine rf_b wf1 rc_X10_isPart_ok 12 1 (21, [some (.int p0), some (.int p1), some (.int p2)], [.int 0], σ) rfl ?_
    obtain rfl := Option.some.inj h
    exact rf_rz rc_X10_isPart_ok 13 rfl rfl (by decide)
  · rw [if_neg c1] at h
    refine rf_f wf1 rc_X10_isPart_ok 1 (4, [some (.int p0), some (.int p1), some (.int p2)], [], σ) rfl rfl c1 rfl ?_
    refine rf_b wf1 rc_X10_isPart_ok 2 2 (6, [some (.int p0), some (.int p1), some (.int p2)], [.int p2, .int p1], σ) rfl ?_
    by_cases c2 : p2 < p1
    · rw [if_pos c2] at h
      refine rf_t wf1 rc_X10_isPart_ok 4 (20, [some (.int p0), some (.int p1), some (.int p2)], [], σ) rfl rfl c2 rfl ?_
      refine rf_b wf1 rc_X10_isPart_ok 12 1 (21, [some (.int p0), some (.int p1), some (.int p2)], [.int 0], σ) rfl ?_
      obtain rfl := Option.some.inj h
      exact rf_rz rc_X10_isPart_ok 13 rfl rfl (by decide)
    · rw [if_neg c2] at h
      refine rf_f wf1 rc_X10_isPart_ok 4 (9, [some (.int p0), some (.int p1), some (.int p2)], [], σ) rfl rfl c2 rfl ?_
      refine rf_b wf1 rc_X10_isPart_ok 5 4 (13, [some (.int p0), some (.int p1), some (.int p2)], [.int (p2 - p1), .int p0], σ) rfl ?_
      by_cases c3 : (p2 - p1) < p0
      · rw [if_pos c3] at h
        refine rf_t wf1 rc_X10_isPart_ok 9 (20, [some (.int p0), some (.int p1), some (.int p2)], [], σ) rfl rfl c3 rfl ?_
        refine rf_b wf1 rc_X10_isPart_ok 12 1 (21, [some (.int p0), some (.int p1), some (.int p2)], [.int 0], σ) rfl ?_
        obtain rfl := Option.some.inj h
        exact rf_rz rc_X10_isPart_ok 13 rfl rfl (by decide)
      · rw [if_neg c3] at h
        refine rf_f wf1 rc_X10_isPart_ok 9 (16, [some (.int p0), some (.int p1), some (.int p2)], [], σ) rfl rfl c3 rfl ?_
        refine rf_b wf1 rc_X10_isPart_ok 10 2 (21, [some (.int p0), some (.int p1), some (.int p2)], [.int 1], σ) rfl ?_
        obtain rfl := Option.some.inj h
        exact rf_rz rc_X10_isPart_ok 13 rfl rfl (by decide)
def rc_X10_copy : List rf_E := [(0, .iload_n 1, 1, 1), (1, .iconst 0, 1, 0), (2, .iconst 5, 1, 0), (3, .invokestatic 78, 3, 0), (6, .ifCond .eq 12, 3, 18), (9, .iload_n 3, 1, 3), (10, .iconst 0, 1, 0), (11, .iconst 5, 1, 0), (12, .invokestatic 78, 3, 0), (15, .ifCond .ne 5, 3, 20), (18, .iconst (-1), 1, 0), (19, .ireturn, 1, 0), (20, .iload 5, 2, 5), (22, .ifCond .ge 9, 3, 31), (25, .aload_n 0, 1, 0), (26, .iconst 5, 1, 0), (27, .invokevirtual 85, 3, 0), (30, .ireturn, 1, 0), (31, .aload_n 0, 1, 0), (32, .getfield 7, 3, 1000), (35, .iload_n 1, 1, 1), (36, .iaload, 1, 0), (37, .ifCond .lt 12, 3, 49), (40, .aload_n 0, 1, 0), (41, .getfield 7, 3, 1000), (44, .iload_n 3, 1, 3), (45, .iaload, 1, 0), (46, .ifCond .ge 9, 3, 55), (49, .aload_n 0, 1, 0), (50, .iconst 1, 1, 0), (51, .invokevirtual 85, 3, 0), (54, .ireturn, 1, 0), (55, .iload_n 2, 1, 2), (56, .iload 5, 2, 5), (58, .aload_n 0, 1, 0), (59, .getfield 7, 3, 1000), (62, .iload_n 1, 1, 1), (63, .iaload, 1, 0), (64, .invokestatic 96, 3, 0), (67, .ifCond .eq 19, 3, 86), (70, .iload 4, 2, 4), (72, .iload 5, 2, 5), (74, .aload_n 0, 1, 0), (75, .getfield 7, 3, 1000), (78, .iload_n 3, 1, 3), (79, .iaload, 1, 0), (80, .invokestatic 96, 3, 0), (83, .ifCond .ne 9, 3, 92), (86, .aload_n 0, 1, 0), (87, .iconst 2, 1, 0), (88, .invokevirtual 85, 3, 0), (91, .ireturn, 1, 0), (92, .iload_n 1, 1, 1), (93, .iload_n 3, 1, 3), (94, .if_icmp .ne 13, 3, 107), (97, .iload 4, 2, 4), (99, .iload_n 2, 1, 2), (100, .if_icmp .le 7, 3, 107), (103, .iconst 1, 1, 0), (104, .goto 4, 3, 108), (107, .iconst 0, 1, 0), (108, .istore 6, 2, 6), (110, .iconst 0, 1, 0), (111, .istore 7, 2, 7), (113, .iload 7, 2, 7), (115, .iload 5, 2, 5), (117, .if_icmp .ge 57, 3, 174), (120, .iload 6, 2, 6), (122, .ifCond .eq 13, 3, 135), (125, .iload 5, 2, 5), (127, .iconst 1, 1, 0), (128, .isub, 1, 0), (129, .iload 7, 2, 7), (131, .isub, 1, 0), (132, .goto 5, 3, 137), (135, .iload 7, 2, 7), (137, .istore 8, 2, 8), (139, .aload_n 0, 1, 0), (140, .getfield 13, 3, 1001), (143, .bipush 40, 2, 0), (145, .iload_n 3, 1, 3), (146, .imul, 1, 0), (147, .iload 4, 2, 4), (149, .iadd, 1, 0), (150, .iload 8, 2, 8), (152, .iadd, 1, 0), (153, .aload_n 0, 1, 0), (154, .getfield 13, 3, 1001), (157, .bipush 40, 2, 0), (159, .iload_n 1, 1, 1), (160, .imul, 1, 0), (161, .iload_n 2, 1, 2), (162, .iadd, 1, 0), (163, .iload 8, 2, 8), (165, .iadd, 1, 0), (166, .iaload, 1, 0), (167, .iastore, 1, 0), (168, .iinc 7 1, 3, 7), (171, .goto (-58), 3, 113), (174, .iconst 1, 1, 0), (175, .ireturn, 1, 0)]
theorem rc_X10_copy_ok : rf_rc mX10_copy rc_X10_copy = true := by decide +kernel
theorem mw_X10_copy : rf_mw mX10_copy := ⟨rf_mt_ok _ (List.mem_of_getElem? (i := 162) rfl), fun h => absurd h (by decide), fun _ => ⟨rf_mi_ok _ (List.mem_of_getElem? (i := 144) rfl), rf_mv_ok _ (List.mem_of_getElem? (i := 144) rfl)⟩, rf_mq_6 _ (List.mem_of_getElem? (i := 12) rfl)⟩
def f_X10_copy_j49 (σ : rf_S) : Option (Int32 × rf_S) := (f_X10_finds 1 σ).bind (fun q10 => some (q10.1, q10.2))
set_option maxHeartbeats 2000000 in
theorem ok_X10_copy_j49 (d : Nat) (σ : rf_S) (q : (Int32 × rf_S)) (h : f_X10_copy_j49 σ = some q) : rf_G ly1 (d + 1) mX10_copy (49, [some (.ref 0), none, none, none, none, none, none, none, none], [], σ) (some (.int q.1) : Option Value) q.2 := by
  unfold f_X10_copy_j49 at h
  refine rf_b wf1 rc_X10_copy_ok 28 2 (51, [some (.ref 0), none, none, none, none, none, none, none, none], [.int 1, .ref 0], σ) rfl ?_
  obtain ⟨q10, h11, h⟩ := Option.bind_eq_some_iff.mp h
  refine rf_cv1 (Mt := mX10_finds) wf1 rc_X10_copy_ok 30 false rfl (List.mem_of_getElem? (i := 144) rfl) mw_X10_finds rfl 0 [.int 1] [] rfl rfl rfl (Nat.le_of_ble_eq_true rfl) (ok_X10_finds d 1 σ q10 h11) ?_
  show rf_G _ _ _ (54, [some (.ref 0), none, none, none, none, none, none, none, none], [.int q10.1], q10.2) _ _
  obtain rfl := Option.some.inj h
  exact rf_ri rc_X10_copy_ok 31 rfl rfl
def f_X10_copy_j86 (σ : rf_S) : Option (Int32 × rf_S) := (f_X10_finds 2 σ).bind (fun q18 => some (q18.1, q18.2))
set_option maxHeartbeats 2000000 in
theorem ok_X10_copy_j86 (d : Nat) (σ : rf_S) (q : (Int32 × rf_S)) (h : f_X10_copy_j86 σ = some q) : rf_G ly1 (d + 1) mX10_copy (86, [some (.ref 0), none, none, none, none, none, none, none, none], [], σ) (some (.int q.1) : Option Value) q.2 := by
  unfold f_X10_copy_j86 at h
  refine rf_b wf1 rc_X10_copy_ok 48 2 (88, [some (.ref 0), none, none, none, none, none, none, none, none], [.int 2, .ref 0], σ) rfl ?_
  obtain ⟨q18, h19, h⟩ := Option.bind_eq_some_iff.mp h
  refine rf_cv1 (Mt := mX10_finds) wf1 rc_X10_copy_ok 50 false rfl (List.mem_of_getElem? (i := 144) rfl) mw_X10_finds rfl 0 [.int 2] [] rfl rfl rfl (Nat.le_of_ble_eq_true rfl) (ok_X10_finds d 2 σ q18 h19) ?_
  show rf_G _ _ _ (91, [some (.ref 0), none, none, none, none, none, none, none, none], [.int q18.1], q18.2) _ _
  obtain rfl := Option.some.inj h
  exact rf_ri rc_X10_copy_ok 51 rfl rfl
def f_X10_copy_j137 (l1 : Int32) (l2 : Int32) (l3 : Int32) (l4 : Int32) (l5 : Int32) (l6 : Int32) (l7 : Int32) (t0 : Int32) (σ : rf_S) : Option ((Int32 × rf_S) ⊕ (rf_S)) := if rf_ck ly1 0 2 (((40 * l1) + l2) + t0) = true then (if rf_ck ly1 0 2 (((40 * l3) + l4) + t0) = true then ((some (rf_sI σ 2 (((40 * l3) + l4) + t0).toNatClampNeg (σ.1 2 (((40 * l1) + l2) + t0).toNatClampNeg))).bind (fun σ29 => some (.inl ((l7 + 1), σ29)))) else none) else none
set_option maxHeartbeats 2000000 in
theorem ok_X10_copy_j137 (d : Nat) (l1 : Int32) (l2 : Int32) (l3 : Int32) (l4 : Int32) (l5 : Int32) (l6 : Int32) (l7 : Int32) (t0 : Int32) (σ : rf_S) (o : ((Int32 × rf_S) ⊕ (rf_S))) (h : f_X10_copy_j137 l1 l2 l3 l4 l5 l6 l7 t0 σ = some o) {r : Option Value} {σr : rf_S} (kl : ∀ s', o = .inl s' → rf_G ly1 (d + 1) mX10_copy (113, [some (.ref 0), some (.int l1), some (.int l2), some (.int l3), some (.int l4), some (.int l5), some (.int l6), some (.int s'.1), none], [], s'.2) r σr) (kx : ∀ e, o = .inr e → rf_G ly1 (d + 1) mX10_copy (174, [none, none, none, none, none, none, none, none, none], [], e) r σr) : rf_G ly1 (d + 1) mX10_copy (137, [some (.ref 0), some (.int l1), some (.int l2), some (.int l3), some (.int l4), some (.int l5), some (.int l6), some (.int l7), none], [.int t0], σ) r σr := by
  unfold f_X10_copy_j137 at h
  refine rf_b wf1 rc_X10_copy_ok 76 19 (166, [some (.ref 0), some (.int l1), some (.int l2), some (.int l3), some (.int l4), some (.int l5), some (.int l6), some (.int l7), some (.int t0)], [.int (((40 * l1) + l2) + t0), .ref 2, .int (((40 * l3) + l4) + t0), .ref 2], σ) rfl ?_
  obtain ⟨g27, h⟩ := rf_ifn h
  refine rf_gd wf1 rc_X10_copy_ok 95 (167, [some (.ref 0), some (.int l1), some (.int l2), some (.int l3), some (.int l4), some (.int l5), some (.int l6), some (.int l7), some (.int t0)], [.int (σ.1 2 (((40 * l1) + l2) + t0).toNatClampNeg), .int (((40 * l3) + l4) + t0), .ref 2], σ) rfl rfl g27 rfl ?_
  obtain ⟨g28, h⟩ := rf_ifn h
  refine rf_gd wf1 rc_X10_copy_ok 96 (168, [some (.ref 0), some (.int l1), some (.int l2), some (.int l3), some (.int l4), some (.int l5), some (.int l6), some (.int l7), some (.int t0)], [], (rf_sI σ 2 (((40 * l3) + l4) + t0).toNatClampNeg (σ.1 2 (((40 * l1) + l2) + t0).toNatClampNeg))) rfl rfl g28 rfl ?_
  obtain ⟨σ29, h30, h⟩ := Option.bind_eq_some_iff.mp h
  refine rf_sgb (Option.some.inj h30) ?_
  refine rf_b wf1 rc_X10_copy_ok 97 2 (113, [some (.ref 0), some (.int l1), some (.int l2), some (.int l3), some (.int l4), some (.int l5), some (.int l6), some (.int (l7 + 1)), some (.int t0)], [], σ29) rfl ?_
  refine rf_fg [true, true, true, true, true, true, true, true, false] [some (.ref 0), some (.int l1), some (.int l2), some (.int l3), some (.int l4), some (.int l5), some (.int l6), some (.int (l7 + 1)), none] rfl ?_
  exact kl ((l7 + 1), σ29) (Option.some.inj h).symm
def f_X10_copy_b113 (l1 : Int32) (l2 : Int32) (l3 : Int32) (l4 : Int32) (l5 : Int32) (l6 : Int32) (s113 : Int32 × rf_S) : Option ((Int32 × rf_S) ⊕ (rf_S)) := if l5 ≤ s113.1 then (some (.inr s113.2)) else (if l6 = 0 then (f_X10_copy_j137 l1 l2 l3 l4 l5 l6 s113.1 s113.1 s113.2) else (f_X10_copy_j137 l1 l2 l3 l4 l5 l6 s113.1 ((l5 - 1) - s113.1) s113.2))
set_option maxHeartbeats 2000000 in
theorem ok_X10_copy_b113 (d : Nat) (l1 : Int32) (l2 : Int32) (l3 : Int32) (l4 : Int32) (l5 : Int32) (l6 : Int32) (s113 : Int32 × rf_S) (o : ((Int32 × rf_S) ⊕ (rf_S))) (h : f_X10_copy_b113 l1 l2 l3 l4 l5 l6 s113 = some o) {r : Option Value} {σr : rf_S} (kl : ∀ s', o = .inl s' → rf_G ly1 (d + 1) mX10_copy (113, [some (.ref 0), some (.int l1), some (.int l2), some (.int l3), some (.int l4), some (.int l5), some (.int l6), some (.int s'.1), none], [], s'.2) r σr) (kx : ∀ e, o = .inr e → rf_G ly1 (d + 1) mX10_copy (174, [none, none, none, none, none, none, none, none, none], [], e) r σr) : rf_G ly1 (d + 1) mX10_copy (113, [some (.ref 0), some (.int l1), some (.int l2), some (.int l3), some (.int l4), some (.int l5), some (.int l6), some (.int s113.1), none], [], s113.2) r σr := by
  unfold f_X10_copy_b113 at h
  refine rf_b wf1 rc_X10_copy_ok 64 2 (117, [some (.ref 0), some (.int l1), some (.int l2), some (.int l3), some (.int l4), some (.int l5), some (.int l6), some (.int s113.1), none], [.int l5, .int s113.1], s113.2) rfl ?_
  by_cases c25 : l5 ≤ s113.1
  · rw [if_pos c25] at h
    refine rf_t wf1 rc_X10_copy_ok 66 (174, [some (.ref 0), some (.int l1), some (.int l2), some (.int l3), some (.int l4), some (.int l5), some (.int l6), some (.int s113.1), none], [], s113.2) rfl rfl c25 rfl ?_
    refine rf_fg [false, false, false, false, false, false, false, false, true] [none, none, none, none, none, none, none, none, none] rfl ?_
    exact kx s113.2 (Option.some.inj h).symm
  · rw [if_neg c25] at h
    refine rf_f wf1 rc_X10_copy_ok 66 (120, [some (.ref 0), some (.int l1), some (.int l2), some (.int l3), some (.int l4), some (.int l5), some (.int l6), some (.int s113.1), none], [], s113.2) rfl rfl c25 rfl ?_
    refine rf_b wf1 rc_X10_copy_ok 67 1 (122, [some (.ref 0), some (.int l1), some (.int l2), some (.int l3), some (.int l4), some (.int l5), some (.int l6), some (.int s113.1), none], [.int l6], s113.2) rfl ?_
    by_cases c26 : l6 = 0
    · rw [if_pos c26] at h
      refine rf_t wf1 rc_X10_copy_ok 68 (135, [some (.ref 0), some (.int l1), some (.int l2), some (.int l3), some (.int l4), some (.int l5), some (.int l6), some (.int s113.1), none], [], s113.2) rfl rfl c26 rfl ?_
      refine rf_b wf1 rc_X10_copy_ok 75 1 (137, [some (.ref 0), some (.int l1), some (.int l2), some (.int l3), some (.int l4), some (.int l5), some (.int l6), some (.int s113.1), none], [.int s113.1], s113.2) rfl ?_
      exact ok_X10_copy_j137 d l1 l2 l3 l4 l5 l6 s113.1 s113.1 s113.2 o h kl kx
    · rw [if_neg c26] at h
      refine rf_f wf1 rc_X10_copy_ok 68 (125, [some (.ref 0), some (.int l1), some (.int l2), some (.int l3), some (.int l4), some (.int l5), some (.int l6), some (.int s113.1), none], [], s113.2) rfl rfl c26 rfl ?_
      refine rf_b wf1 rc_X10_copy_ok 69 6 (137, [some (.ref 0), some (.int l1), some (.int l2), some (.int l3), some (.int l4), some (.int l5), some (.int l6), some (.int s113.1), none], [.int ((l5 - 1) - s113.1)], s113.2) rfl ?_
      exact ok_X10_copy_j137 d l1 l2 l3 l4 l5 l6 s113.1 ((l5 - 1) - s113.1) s113.2 o h kl kx
def f_X10_copy_j108 (l1 : Int32) (l2 : Int32) (l3 : Int32) (l4 : Int32) (l5 : Int32) (t0 : Int32) (σ : rf_S) : Option (Int32 × rf_S) := (rf_lp (f_X10_copy_b113 l1 l2 l3 l4 l5 t0) 5000 (0, σ)).bind (fun e31 => some (1, e31))
set_option maxHeartbeats 2000000 in
theorem ok_X10_copy_j108 (d : Nat) (l1 : Int32) (l2 : Int32) (l3 : Int32) (l4 : Int32) (l5 : Int32) (t0 : Int32) (σ : rf_S) (q : (Int32 × rf_S)) (h : f_X10_copy_j108 l1 l2 l3 l4 l5 t0 σ = some q) : rf_G ly1 (d + 1) mX10_copy (108, [some (.ref 0), some (.int l1), some (.int l2), some (.int l3), some (.int l4), some (.int l5), none, none, none], [.int t0], σ) (some (.int q.1) : Option Value) q.2 := by
  unfold f_X10_copy_j108 at h
  refine rf_b wf1 rc_X10_copy_ok 61 3 (113, [some (.ref 0), some (.int l1), some (.int l2), some (.int l3), some (.int l4), some (.int l5), some (.int t0), some (.int 0), none], [], σ) rfl ?_
  obtain ⟨e31, h32, h⟩ := Option.bind_eq_some_iff.mp h
  refine rf_lpG (b := f_X10_copy_b113 l1 l2 l3 l4 l5 t0) (G := fun (s113 : Int32 × rf_S) => rf_G ly1 (d + 1) mX10_copy (113, [some (.ref 0), some (.int l1), some (.int l2), some (.int l3), some (.int l4), some (.int l5), some (.int t0), some (.int s113.1), none], [], s113.2) (some (.int q.1) : Option Value) q.2) (K := fun (e : (rf_S)) => rf_G ly1 (d + 1) mX10_copy (174, [none, none, none, none, none, none, none, none, none], [], e) (some (.int q.1) : Option Value) q.2) (fun (s113 : Int32 × rf_S) (o : (Int32 × rf_S) ⊕ (rf_S)) hb kl kx => ok_X10_copy_b113 d l1 l2 l3 l4 l5 t0 s113 o hb kl kx) 5000 (0, σ) e31 h32 ?_
  show rf_G _ _ _ (174, [none, none, none, none, none, none, none, none, none], [], e31) _ _
  refine rf_b wf1 rc_X10_copy_ok 99 1 (175, [none, none, none, none, none, none, none, none, none], [.int 1], e31) rfl ?_
  obtain rfl := Option.some.inj h
  exact rf_ri rc_X10_copy_ok 100 rfl rfl
def f_X10_copy_j107 (l1 : Int32) (l2 : Int32) (l3 : Int32) (l4 : Int32) (l5 : Int32) (σ : rf_S) : Option (Int32 × rf_S) := f_X10_copy_j108 l1 l2 l3 l4 l5 0 σ
set_option maxHeartbeats 2000000 in
theorem ok_X10_copy_j107 (d : Nat) (l1 : Int32) (l2 : Int32) (l3 : Int32) (l4 : Int32) (l5 : Int32) (σ : rf_S) (q : (Int32 × rf_S)) (h : f_X10_copy_j107 l1 l2 l3 l4 l5 σ = some q) : rf_G ly1 (d + 1) mX10_copy (107, [some (.ref 0), some (.int l1), some (.int l2), some (.int l3), some (.int l4), some (.int l5), none, none, none], [], σ) (some (.int q.1) : Option Value) q.2 := by
  unfold f_X10_copy_j107 at h
  refine rf_b wf1 rc_X10_copy_ok 60 1 (108, [some (.ref 0), some (.int l1), some (.int l2), some (.int l3), some (.int l4), some (.int l5), none, none, none], [.int 0], σ) rfl ?_
  exact ok_X10_copy_j108 d l1 l2 l3 l4 l5 0 σ q h
def f_X10_copy (p0 : Int32) (p1 : Int32) (p2 : Int32) (p3 : Int32) (p4 : Int32) (σ : rf_S) : Option (Int32 × rf_S) := (f_X10_in p0 0 5 σ).bind (fun q1 => if q1 = 0 then (some ((-1), σ)) else ((f_X10_in p2 0 5 σ).bind (fun q4 => if q4 ≠ 0 then (if 0 ≤ p4 then (if rf_ck ly1 0 1 p0 = true then (if (σ.1 1 p0.toNatClampNeg) < 0 then (f_X10_copy_j49 σ) else (if rf_ck ly1 0 1 p2 = true then (if 0 ≤ (σ.1 1 p2.toNatClampNeg) then (if rf_ck ly1 0 1 p0 = true then ((f_X10_isPart p1 p4 (σ.1 1 p0.toNatClampNeg) σ).bind (fun q15 => if q15 = 0 then (f_X10_copy_j86 σ) else (if rf_ck ly1 0 1 p2 = true then ((f_X10_isPart p3 p4 (σ.1 1 p2.toNatClampNeg) σ).bind (fun q21 => if q21 ≠ 0 then (if p0 ≠ p2 then (f_X10_copy_j107 p0 p1 p2 p3 p4 σ) else (if p3 ≤ p1 then (f_X10_copy_j107 p0 p1 p2 p3 p4 σ) else (f_X10_copy_j108 p0 p1 p2 p3 p4 1 σ))) else (f_X10_copy_j86 σ))) else none))) else none) else (f_X10_copy_j49 σ)) else none)) else none) else ((f_X10_finds 5 σ).bind (fun q34 => some (q34.1, q34.2)))) else (some ((-1), σ)))))
set_option maxHeartbeats 2000000 in
theorem ok_X10_copy (d : Nat) (p0 : Int32) (p1 : Int32) (p2 : Int32) (p3 : Int32) (p4 : Int32) (σ : rf_S) (q : (Int32 × rf_S)) (h : f_X10_copy p0 p1 p2 p3 p4 σ = some q) : rf_Ex ly1 (d + 2) mX10_copy [.ref 0, .int p0, .int p1, .int p2, .int p3, .int p4] σ (some (.int q.1) : Option Value) q.2 := by
  unfold f_X10_copy at h
  refine rf_ex mw_X10_copy [some (.ref 0), some (.int p0), some (.int p1), some (.int p2), some (.int p3), some (.int p4), none, none, none] (Nat.le_of_ble_eq_true rfl) rfl ?_
  refine rf_b wf1 rc_X10_copy_ok 0 3 (3, [some (.ref 0), some (.int p0), some (.int p1), some (.int p2), some (.int p3), some (.int p4), none, none, none], [.int 5, .int 0, .int p0], σ) rfl ?_
  obtain ⟨q1, h2, h⟩ := Option.bind_eq_some_iff.mp h
  refine rf_cs1 (Mt := mX10_in) rc_X10_copy_ok 3 false rfl (List.mem_of_getElem? (i := 143) rfl) mw_X10_in rfl [.int p0, .int 0, .int 5] [] rfl rfl (Nat.le_of_ble_eq_true rfl) (ok_X10_in d p0 0 5 σ q1 h2) ?_
  show rf_G _ _ _ (6, [some (.ref 0), some (.int p0), some (.int p1), some (.int p2), some (.int p3), some (.int p4), none, none, none], [.int q1], σ) _ _
  by_cases c3 : q1 = 0
  · rw [if_pos c3] at h
    refine rf_t wf1 rc_X10_copy_ok 4 (18, [some (.ref 0), some (.int p0), some (.int p1), some (.int p2), some (.int p3), some (.int p4), none, none, none], [], σ) rfl rfl c3 rfl ?_
    refine rf_b wf1 rc_X10_copy_ok 10 1 (19, [some (.ref 0), some (.int p0), some (.int p1), some (.int p2), some (.int p3), some (.int p4), none, none, none], [.int (-1)], σ) rfl ?_
    obtain rfl := Option.some.inj h
    exact rf_ri rc_X10_copy_ok 11 rfl rfl
  · rw [if_neg c3] at h
    refine rf_f wf1 rc_X10_copy_ok 4 (9, [some (.ref 0), some (.int p0), some (.int p1), some (.int p2), some (.int p3), some (.int p4), none, none, none], [], σ) rfl rfl c3 rfl ?_
    refine rf_b wf1 rc_X10_copy_ok 5 3 (12, [some (.ref 0), some (.int p0), some (.int p1), some (.int p2), some (.int p3), some (.int p4), none, none, none], [.int 5, .int 0, .int p2], σ) rfl ?_
    obtain ⟨q4, h5, h⟩ := Option.bind_eq_some_iff.mp h
    refine rf_cs1 (Mt := mX10_in) rc_X10_copy_ok 8 false rfl (List.mem_of_getElem? (i := 143) rfl) mw_X10_in rfl [.int p2, .int 0, .int 5] [] rfl rfl (Nat.le_of_ble_eq_true rfl) (ok_X10_in d p2 0 5 σ q4 h5) ?_
    show rf_G _ _ _ (15, [some (.ref 0), some (.int p0), some (.int p1), some (.int p2), some (.int p3), some (.int p4), none, none, none], [.int q4], σ) _ _
    by_cases c6 : q4 ≠ 0
    · rw [if_pos c6] at h
      refine rf_t wf1 rc_X10_copy_ok 9 (20, [some (.ref 0), some (.int p0), some (.int p1), some (.int p2), some (.int p3), some (.int p4), none, none, none], [], σ) rfl rfl c6 rfl ?_
      refine rf_b wf1 rc_X10_copy_ok 12 1 (22, [some (.ref 0), some (.int p0), some (.int p1), some (.int p2), some (.int p3), some (.int p4), none, none, none], [.int p4], σ) rfl ?_
      by_cases c7 : 0 ≤ p4
      · rw [if_pos c7] at h
        refine rf_t wf1 rc_X10_copy_ok 13 (31, [some (.ref 0), some (.int p0), some (.int p1), some (.int p2), some (.int p3), some (.int p4), none, none, none], [], σ) rfl rfl c7 rfl ?_
        refine rf_b wf1 rc_X10_copy_ok 18 3 (36, [some (.ref 0), some (.int p0), some (.int p1), some (.int p2), some (.int p3), some (.int p4), none, none, none], [.int p0, .ref 1], σ) rfl ?_
        obtain ⟨g8, h⟩ := rf_ifn h
        refine rf_gd wf1 rc_X10_copy_ok 21 (37, [some (.ref 0), some (.int p0), some (.int p1), some (.int p2), some (.int p3), some (.int p4), none, none, none], [.int (σ.1 1 p0.toNatClampNeg)], σ) rfl rfl g8 rfl ?_
        by_cases c9 : (σ.1 1 p0.toNatClampNeg) < 0
        · rw [if_pos c9] at h
          refine rf_t wf1 rc_X10_copy_ok 22 (49, [some (.ref 0), some (.int p0), some (.int p1), some (.int p2), some (.int p3), some (.int p4), none, none, none], [], σ) rfl rfl c9 rfl ?_
          refine rf_fg [true, false, false, false, false, false, true, true, true] [some (.ref 0), none, none, none, none, none, none, none, none] rfl ?_
          exact ok_X10_copy_j49 d σ q h
        · rw [if_neg c9] at h
          refine rf_f wf1 rc_X10_copy_ok 22 (40, [some (.ref 0), some (.int p0), some (.int p1), some (.int p2), some (.int p3), some (.int p4), none, none, none], [], σ) rfl rfl c9 rfl ?_
          refine rf_b wf1 rc_X10_copy_ok 23 3 (45, [some (.ref 0), some (.int p0), some (.int p1), some (.int p2), some (.int p3), some (.int p4), none, none, none], [.int p2, .ref 1], σ) rfl ?_
          obtain ⟨g12, h⟩ := rf_ifn h
          refine rf_gd wf1 rc_X10_copy_ok 26 (46, [some (.ref 0), some (.int p0), some (.int p1), some (.int p2), some (.int p3), some (.int p4), none, none, none], [.int (σ.1 1 p2.toNatClampNeg)], σ) rfl rfl g12 rfl ?_
          by_cases c13 : 0 ≤ (σ.1 1 p2.toNatClampNeg)
          · rw [if_pos c13] at h
            refine rf_t wf1 rc_X10_copy_ok 27 (55, [some (.ref 0), some (.int p0), some (.int p1), some (.int p2), some (.int p3), some (.int p4), none, none, none], [], σ) rfl rfl c13 rfl ?_
            refine rf_b wf1 rc_X10_copy_ok 32 5 (63, [some (.ref 0), some (.int p0), some (.int p1), some (.int p2), some (.int p3), some (.int p4), none, none, none], [.int p0, .ref 1, .int p4, .int p1], σ) rfl ?_
            obtain ⟨g14, h⟩ := rf_ifn h
            refine rf_gd wf1 rc_X10_copy_ok 37 (64, [some (.ref 0), some (.int p0), some (.int p1), some (.int p2), some (.int p3), some (.int p4), none, none, none], [.int (σ.1 1 p0.toNatClampNeg), .int p4, .int p1], σ) rfl rfl g14 rfl ?_
            obtain ⟨q15, h16, h⟩ := Option.bind_eq_some_iff.mp h
            refine rf_cs1 (Mt := mX10_isPart) rc_X10_copy_ok 38 false rfl (List.mem_of_getElem? (i := 147) rfl) mw_X10_isPart rfl [.int p1, .int p4, .int (σ.1 1 p0.toNatClampNeg)] [] rfl rfl (Nat.le_of_ble_eq_true rfl) (ok_X10_isPart d p1 p4 (σ.1 1 p0.toNatClampNeg) σ q15 h16) ?_
            show rf_G _ _ _ (67, [some (.ref 0), some (.int p0), some (.int p1), some (.int p2), some (.int p3), some (.int p4), none, none, none], [.int q15], σ) _ _
            by_cases c17 : q15 = 0
            · rw [if_pos c17] at h
              refine rf_t wf1 rc_X10_copy_ok 39 (86, [some (.ref 0), some (.int p0), some (.int p1), some (.int p2), some (.int p3), some (.int p4), none, none, none], [], σ) rfl rfl c17 rfl ?_
              refine rf_fg [true, false, false, false, false, false, true, true, true] [some (.ref 0), none, none, none, none, none, none, none, none] rfl ?_
              exact ok_X10_copy_j86 d σ q h
            · rw [if_neg c17] at h
              refine rf_f wf1 rc_X10_copy_ok 39 (70, [some (.ref 0), some (.int p0), some (.int p1), some (.int p2), some (.int p3), some (.int p4), none, none, none], [], σ) rfl rfl c17 rfl ?_
              refine rf_b wf1 rc_X10_copy_ok 40 5 (79, [some (.ref 0), some (.int p0), some (.int p1), some (.int p2), some (.int p3), some (.int p4), none, none, none], [.int p2, .ref 1, .int p4, .int p3], σ) rfl ?_
              obtain ⟨g20, h⟩ := rf_ifn h
              refine rf_gd wf1 rc_X10_copy_ok 45 (80, [some (.ref 0), some (.int p0), some (.int p1), some (.int p2), some (.int p3), some (.int p4), none, none, none], [.int (σ.1 1 p2.toNatClampNeg), .int p4, .int p3], σ) rfl rfl g20 rfl ?_
              obtain ⟨q21, h22, h⟩ := Option.bind_eq_some_iff.mp h
              refine rf_cs1 (Mt := mX10_isPart) rc_X10_copy_ok 46 false rfl (List.mem_of_getElem? (i := 147) rfl) mw_X10_isPart rfl [.int p3, .int p4, .int (σ.1 1 p2.toNatClampNeg)] [] rfl rfl (Nat.le_of_ble_eq_true rfl) (ok_X10_isPart d p3 p4 (σ.1 1 p2.toNatClampNeg) σ q21 h22) ?_
              show rf_G _ _ _ (83, [some (.ref 0), some (.int p0), some (.int p1), some (.int p2), some (.int p3), some (.int p4), none, none, none], [.int q21], σ) _ _
              by_cases c23 : q21 ≠ 0
              · rw [if_pos c23] at h
                refine rf_t wf1 rc_X10_copy_ok 47 (92, [some (.ref 0), some (.int p0), some (.int p1), some (.int p2), some (.int p3), some (.int p4), none, none, none], [], σ) rfl rfl c23 rfl ?_
                refine rf_b wf1 rc_X10_copy_ok 52 2 (94, [some (.ref 0), some (.int p0), some (.int p1), some (.int p2), some (.int p3), some (.int p4), none, none, none], [.int p2, .int p0], σ) rfl ?_
                by_cases c24 : p0 ≠ p2
                · rw [if_pos c24] at h
                  refine rf_t wf1 rc_X10_copy_ok 54 (107, [some (.ref 0), some (.int p0), some (.int p1), some (.int p2), some (.int p3), some (.int p4), none, none, none], [], σ) rfl rfl c24 rfl ?_
                  exact ok_X10_copy_j107 d p0 p1 p2 p3 p4 σ q h
                · rw [if_neg c24] at h
                  refine rf_f wf1 rc_X10_copy_ok 54 (97, [some (.ref 0), some (.int p0), some (.int p1), some (.int p2), some (.int p3), some (.int p4), none, none, none], [], σ) rfl rfl c24 rfl ?_
                  refine rf_b wf1 rc_X10_copy_ok 55 2 (100, [some (.ref 0), some (.int p0), some (.int p1), some (.int p2), some (.int p3), some (.int p4), none, none, none], [.int p1, .int p3], σ) rfl ?_
                  by_cases c33 : p3 ≤ p1
                  · rw [if_pos c33] at h
                    refine rf_t wf1 rc_X10_copy_ok 57 (107, [some (.ref 0), some (.int p0), some (.int p1), some (.int p2), some (.int p3), some (.int p4), none, none, none], [], σ) rfl rfl c33 rfl ?_
                    exact ok_X10_copy_j107 d p0 p1 p2 p3 p4 σ q h
                  · rw [if_neg c33] at h
                    refine rf_f wf1 rc_X10_copy_ok 57 (103, [some (.ref 0), some (.int p0), some (.int p1), some (.int p2), some (.int p3), some (.int p4), none, none, none], [], σ) rfl rfl c33 rfl ?_
                    refine rf_b wf1 rc_X10_copy_ok 58 2 (108, [some (.ref 0), some (.int p0), some (.int p1), some (.int p2), some (.int p3), some (.int p4), none, none, none], [.int 1], σ) rfl ?_
                    exact ok_X10_copy_j108 d p0 p1 p2 p3 p4 1 σ q h
              · rw [if_neg c23] at h
                refine rf_f wf1 rc_X10_copy_ok 47 (86, [some (.ref 0), some (.int p0), some (.int p1), some (.int p2), some (.int p3), some (.int p4), none, none, none], [], σ) rfl rfl c23 rfl ?_
                refine rf_fg [true, false, false, false, false, false, true, true, true] [some (.ref 0), none, none, none, none, none, none, none, none] rfl ?_
                exact ok_X10_copy_j86 d σ q h
          · rw [if_neg c13] at h
            refine rf_f wf1 rc_X10_copy_ok 27 (49, [some (.ref 0), some (.int p0), some (.int p1), some (.int p2), some (.int p3), some (.int p4), none, none, none], [], σ) rfl rfl c13 rfl ?_
            refine rf_fg [true, false, false, false, false, false, true, true, true] [some (.ref 0), none, none, none, none, none, none, none, none] rfl ?_
            exact ok_X10_copy_j49 d σ q h
      · rw [if_neg c7] at h
        refine rf_f wf1 rc_X10_copy_ok 13 (25, [some (.ref 0), some (.int p0), some (.int p1), some (.int p2), some (.int p3), some (.int p4), none, none, none], [], σ) rfl rfl c7 rfl ?_
        refine rf_b wf1 rc_X10_copy_ok 14 2 (27, [some (.ref 0), some (.int p0), some (.int p1), some (.int p2), some (.int p3), some (.int p4), none, none, none], [.int 5, .ref 0], σ) rfl ?_
        obtain ⟨q34, h35, h⟩ := Option.bind_eq_some_iff.mp h
        refine rf_cv1 (Mt := mX10_finds) wf1 rc_X10_copy_ok 16 false rfl (List.mem_of_getElem? (i := 144) rfl) mw_X10_finds rfl 0 [.int 5] [] rfl rfl rfl (Nat.le_of_ble_eq_true rfl) (ok_X10_finds d 5 σ q34 h35) ?_
        show rf_G _ _ _ (30, [some (.ref 0), some (.int p0), some (.int p1), some (.int p2), some (.int p3), some (.int p4), none, none, none], [.int q34.1], q34.2) _ _
        obtain rfl := Option.some.inj h
        exact rf_ri rc_X10_copy_ok 17 rfl rfl
    · rw [if_neg c6] at h
      refine rf_f wf1 rc_X10_copy_ok 9 (18, [some (.ref 0), some (.int p0), some (.int p1), some (.int p2), some (.int p3), some (.int p4), none, none, none], [], σ) rfl rfl c6 rfl ?_
      refine rf_b wf1 rc_X10_copy_ok 10 1 (19, [some (.ref 0), some (.int p0), some (.int p1), some (.int p2), some (.int p3), some (.int p4), none, none, none], [.int (-1)], σ) rfl ?_
      obtain rfl := Option.some.inj h
      exact rf_ri rc_X10_copy_ok 11 rfl rfl
def rc_X10_mean : List rf_E := [(0, .iload_n 1, 1, 1), (1, .iconst 0, 1, 0), (2, .iconst 5, 1, 0), (3, .invokestatic 78, 3, 0), (6, .ifCond .ne 5, 3, 11), (9, .iconst (-1), 1, 0), (10, .ireturn, 1, 0), (11, .aload_n 0, 1, 0), (12, .getfield 7, 3, 1000), (15, .iload_n 1, 1, 1), (16, .iaload, 1, 0), (17, .ifCond .ge 9, 3, 26), (20, .aload_n 0, 1, 0), (21, .iconst 1, 1, 0), (22, .invokevirtual 85, 3, 0), (25, .ireturn, 1, 0), (26, .aload_n 0, 1, 0), (27, .getfield 7, 3, 1000), (30, .iload_n 1, 1, 1), (31, .iaload, 1, 0), (32, .ifCond .ne 9, 3, 41), (35, .aload_n 0, 1, 0), (36, .iconst 4, 1, 0), (37, .invokevirtual 85, 3, 0), (40, .ireturn, 1, 0), (41, .lconst 0, 1, 0), (42, .lstore_n 2, 1, 2), (43, .iconst 0, 1, 0), (44, .istore 4, 2, 4), (46, .iload 4, 2, 4), (48, .aload_n 0, 1, 0), (49, .getfield 7, 3, 1000), (52, .iload_n 1, 1, 1), (53, .iaload, 1, 0), (54, .if_icmp .ge 25, 3, 79), (57, .lload_n 2, 1, 2), (58, .aload_n 0, 1, 0), (59, .getfield 13, 3, 1001), (62, .bipush 40, 2, 0), (64, .iload_n 1, 1, 1), (65, .imul, 1, 0), (66, .iload 4, 2, 4), (68, .iadd, 1, 0), (69, .iaload, 1, 0), (70, .i2l, 1, 0), (71, .ladd, 1, 0), (72, .lstore_n 2, 1, 2), (73, .iinc 4 1, 3, 4), (76, .goto (-30), 3, 46), (79, .aload_n 0, 1, 0), (80, .lload_n 2, 1, 2), (81, .aload_n 0, 1, 0), (82, .getfield 7, 3, 1000), (85, .iload_n 1, 1, 1), (86, .iaload, 1, 0), (87, .i2l, 1, 0), (88, .ldiv, 1, 0), (89, .l2i, 1, 0), (90, .invokevirtual 93, 3, 0), (93, .ireturn, 1, 0)]
theorem rc_X10_mean_ok : rf_rc mX10_mean rc_X10_mean = true := by decide +kernel
theorem mw_X10_mean : rf_mw mX10_mean := ⟨rf_mt_ok _ (List.mem_of_getElem? (i := 163) rfl), fun h => absurd h (by decide), fun _ => ⟨rf_mi_ok _ (List.mem_of_getElem? (i := 145) rfl), rf_mv_ok _ (List.mem_of_getElem? (i := 145) rfl)⟩, rf_mq_6 _ (List.mem_of_getElem? (i := 13) rfl)⟩
def f_X10_mean_b46 (l1 : Int32) (σ : rf_S) (s46 : Int64 × Int32) : Option ((Int64 × Int32) ⊕ (Int64)) := if rf_ck ly1 0 1 l1 = true then (if (σ.1 1 l1.toNatClampNeg) ≤ s46.2 then (some (.inr s46.1)) else (if rf_ck ly1 0 2 ((40 * l1) + s46.2) = true then (some (.inl ((s46.1 + ((σ.1 2 ((40 * l1) + s46.2).toNatClampNeg).toInt64)), (s46.2 + 1)))) else none)) else none
set_option maxHeartbeats 2000000 in
theorem ok_X10_mean_b46 (d : Nat) (l1 : Int32) (σ : rf_S) (s46 : Int64 × Int32) (o : ((Int64 × Int32) ⊕ (Int64))) (h : f_X10_mean_b46 l1 σ s46 = some o) {r : Option Value} {σr : rf_S} (kl : ∀ s', o = .inl s' → rf_G ly1 (d + 1) mX10_mean (46, [some (.ref 0), some (.int l1), some (.long s'.1), none, some (.int s'.2)], [], σ) r σr) (kx : ∀ e, o = .inr e → rf_G ly1 (d + 1) mX10_mean (79, [some (.ref 0), some (.int l1), some (.long e), none, none], [], σ) r σr) : rf_G ly1 (d + 1) mX10_mean (46, [some (.ref 0), some (.int l1), some (.long s46.1), none, some (.int s46.2)], [], σ) r σr := by
  unfold f_X10_mean_b46 at h
  refine rf_b wf1 rc_X10_mean_ok 29 4 (53, [some (.ref 0), some (.int l1), some (.long s46.1), none, some (.int s46.2)], [.int l1, .ref 1, .int s46.2], σ) rfl ?_
  obtain ⟨g8, h⟩ := rf_ifn h
  refine rf_gd wf1 rc_X10_mean_ok 33 (54, [some (.ref 0), some (.int l1), some (.long s46.1), none, some (.int s46.2)], [.int (σ.1 1 l1.toNatClampNeg), .int s46.2], σ) rfl rfl g8 rfl ?_
  by_cases c9 : (σ.1 1 l1.toNatClampNeg) ≤ s46.2
  · rw [if_pos c9] at h
    refine rf_t wf1 rc_X10_mean_ok 34 (79, [some (.ref 0), some (.int l1), some (.long s46.1), none, some (.int s46.2)], [], σ) rfl rfl c9 rfl ?_
    refine rf_fg [true, true, true, true, false] [some (.ref 0), some (.int l1), some (.long s46.1), none, none] rfl ?_
    exact kx s46.1 (Option.some.inj h).symm
  · rw [if_neg c9] at h
    refine rf_f wf1 rc_X10_mean_ok 34 (57, [some (.ref 0), some (.int l1), some (.long s46.1), none, some (.int s46.2)], [], σ) rfl rfl c9 rfl ?_
    refine rf_b wf1 rc_X10_mean_ok 35 8 (69, [some (.ref 0), some (.int l1), some (.long s46.1), none, some (.int s46.2)], [.int ((40 * l1) + s46.2), .ref 2, .long s46.1], σ) rfl ?_
    obtain ⟨g10, h⟩ := rf_ifn h
    refine rf_gd wf1 rc_X10_mean_ok 43 (70, [some (.ref 0), some (.int l1), some (.long s46.1), none, some (.int s46.2)], [.int (σ.1 2 ((40 * l1) + s46.2).toNatClampNeg), .long s46.1], σ) rfl rfl g10 rfl ?_
    refine rf_b wf1 rc_X10_mean_ok 44 5 (46, [some (.ref 0), some (.int l1), some (.long (s46.1 + ((σ.1 2 ((40 * l1) + s46.2).toNatClampNeg).toInt64))), none, some (.int (s46.2 + 1))], [], σ) rfl ?_
    exact kl ((s46.1 + ((σ.1 2 ((40 * l1) + s46.2).toNatClampNeg).toInt64)), (s46.2 + 1)) (Option.some.inj h).symm
def f_X10_mean (p0 : Int32) (σ : rf_S) : Option (Int32 × rf_S) := (f_X10_in p0 0 5 σ).bind (fun q1 => if q1 ≠ 0 then (if rf_ck ly1 0 1 p0 = true then (if 0 ≤ (σ.1 1 p0.toNatClampNeg) then (if rf_ck ly1 0 1 p0 = true then (if (σ.1 1 p0.toNatClampNeg) ≠ 0 then ((rf_lp (f_X10_mean_b46 p0 σ) 5000 (0, 0)).bind (fun e11 => if rf_ck ly1 0 1 p0 = true then (if ((σ.1 1 p0.toNatClampNeg).toInt64) = 0 then none else ((f_X10_tells ((e11 / ((σ.1 1 p0.toNatClampNeg).toInt64)).toInt32) σ).bind (fun q15 => some (q15.1, q15.2)))) else none)) else ((f_X10_finds 4 σ).bind (fun q17 => some (q17.1, q17.2)))) else none) else ((f_X10_finds 1 σ).bind (fun q19 => some (q19.1, q19.2)))) else none) else (some ((-1), σ)))
set_option maxHeartbeats 2000000 in
theorem ok_X10_mean (d : Nat) (p0 : Int32) (σ : rf_S) (q : (Int32 × rf_S)) (h : f_X10_mean p0 σ = some q) : rf_Ex ly1 (d + 2) mX10_mean [.ref 0, .int p0] σ (some (.int q.1) : Option Value) q.2 := by
  unfold f_X10_mean at h
  refine rf_ex mw_X10_mean [some (.ref 0), some (.int p0), none, none, none] (Nat.le_of_ble_eq_true rfl) rfl ?_
  refine rf_b wf1 rc_X10_mean_ok 0 3 (3, [some (.ref 0), some (.int p0), none, none, none], [.int 5, .int 0, .int p0], σ) rfl ?_
  obtain ⟨q1, h2, h⟩ := Option.bind_eq_some_iff.mp h
  refine rf_cs1 (Mt := mX10_in) rc_X10_mean_ok 3 false rfl (List.mem_of_getElem? (i := 143) rfl) mw_X10_in rfl [.int p0, .int 0, .int 5] [] rfl rfl (Nat.le_of_ble_eq_true rfl) (ok_X10_in d p0 0 5 σ q1 h2) ?_
  show rf_G _ _ _ (6, [some (.ref 0), some (.int p0), none, none, none], [.int q1], σ) _ _
  by_cases c3 : q1 ≠ 0
  · rw [if_pos c3] at h
    refine rf_t wf1 rc_X10_mean_ok 4 (11, [some (.ref 0), some (.int p0), none, none, none], [], σ) rfl rfl c3 rfl ?_
    refine rf_b wf1 rc_X10_mean_ok 7 3 (16, [some (.ref 0), some (.int p0), none, none, none], [.int p0, .ref 1], σ) rfl ?_
    obtain ⟨g4, h⟩ := rf_ifn h
    refine rf_gd wf1 rc_X10_mean_ok 10 (17, [some (.ref 0), some (.int p0), none, none, none], [.int (σ.1 1 p0.toNatClampNeg)], σ) rfl rfl g4 rfl ?_
    by_cases c5 : 0 ≤ (σ.1 1 p0.toNatClampNeg)
    · rw [if_pos c5] at h
      refine rf_t wf1 rc_X10_mean_ok 11 (26, [some (.ref 0), some (.int p0), none, none, none], [], σ) rfl rfl c5 rfl ?_
      refine rf_b wf1 rc_X10_mean_ok 16 3 (31, [some (.ref 0), some (.int p0), none, none, none], [.int p0, .ref 1], σ) rfl ?_
      obtain ⟨g6, h⟩ := rf_ifn h
      refine rf_gd wf1 rc_X10_mean_ok 19 (32, [some (.ref 0), some (.int p0), none, none, none], [.int (σ.1 1 p0.toNatClampNeg)], σ) rfl rfl g6 rfl ?_
      by_cases c7 : (σ.1 1 p0.toNatClampNeg) ≠ 0
      · rw [if_pos c7] at h
        refine rf_t wf1 rc_X10_mean_ok 20 (41, [some (.ref 0), some (.int p0), none, none, none], [], σ) rfl rfl c7 rfl ?_
        refine rf_b wf1 rc_X10_mean_ok 25 4 (46, [some (.ref 0), some (.int p0), some (.long 0), none, some (.int 0)], [], σ) rfl ?_
        obtain ⟨e11, h12, h⟩ := Option.bind_eq_some_iff.mp h
        refine rf_lpG (b := f_X10_mean_b46 p0 σ) (G := fun (s46 : Int64 × Int32) => rf_G ly1 (d + 1) mX10_mean (46, [some (.ref 0), some (.int p0), some (.long s46.1), none, some (.int s46.2)], [], σ) (some (.int q.1) : Option Value) q.2) (K := fun (e : (Int64)) => rf_G ly1 (d + 1) mX10_mean (79, [some (.ref 0), some (.int p0), some (.long e), none, none], [], σ) (some (.int q.1) : Option Value) q.2) (fun (s46 : Int64 × Int32) (o : (Int64 × Int32) ⊕ (Int64)) hb kl kx => ok_X10_mean_b46 d p0 σ s46 o hb kl kx) 5000 (0, 0) e11 h12 ?_
        show rf_G _ _ _ (79, [some (.ref 0), some (.int p0), some (.long e11), none, none], [], σ) _ _
        refine rf_b wf1 rc_X10_mean_ok 49 5 (86, [some (.ref 0), some (.int p0), some (.long e11), none, none], [.int p0, .ref 1, .long e11, .ref 0], σ) rfl ?_
        obtain ⟨g13, h⟩ := rf_ifn h
        refine rf_gd wf1 rc_X10_mean_ok 54 (87, [some (.ref 0), some (.int p0), some (.long e11), none, none], [.int (σ.1 1 p0.toNatClampNeg), .long e11, .ref 0], σ) rfl rfl g13 rfl ?_
        refine rf_b wf1 rc_X10_mean_ok 55 1 (88, [some (.ref 0), some (.int p0), some (.long e11), none, none], [.long ((σ.1 1 p0.toNatClampNeg).toInt64), .long e11, .ref 0], σ) rfl ?_
        obtain ⟨g14, h⟩ := rf_ifz h
        refine rf_nz wf1 rc_X10_mean_ok 56 (89, [some (.ref 0), some (.int p0), some (.long e11), none, none], [.long (e11 / ((σ.1 1 p0.toNatClampNeg).toInt64)), .ref 0], σ) rfl rfl g14 rfl ?_
        refine rf_b wf1 rc_X10_mean_ok 57 1 (90, [some (.ref 0), some (.int p0), some (.long e11), none, none], [.int ((e11 / ((σ.1 1 p0.toNatClampNeg).toInt64)).toInt32), .ref 0], σ) rfl ?_
        obtain ⟨q15, h16, h⟩ := Option.bind_eq_some_iff.mp h
        refine rf_cv1 (Mt := mX10_tells) wf1 rc_X10_mean_ok 58 false rfl (List.mem_of_getElem? (i := 146) rfl) mw_X10_tells rfl 0 [.int ((e11 / ((σ.1 1 p0.toNatClampNeg).toInt64)).toInt32)] [] rfl rfl rfl (Nat.le_of_ble_eq_true rfl) (ok_X10_tells d ((e11 / ((σ.1 1 p0.toNatClampNeg).toInt64)).toInt32) σ q15 h16) ?_
        show rf_G _ _ _ (93, [some (.ref 0), some (.int p0), some (.long e11), none, none], [.int q15.1], q15.2) _ _
        obtain rfl := Option.some.inj h
        exact rf_ri rc_X10_mean_ok 59 rfl rfl
      · rw [if_neg c7] at h
        refine rf_f wf1 rc_X10_mean_ok 20 (35, [some (.ref 0), some (.int p0), none, none, none], [], σ) rfl rfl c7 rfl ?_
        refine rf_b wf1 rc_X10_mean_ok 21 2 (37, [some (.ref 0), some (.int p0), none, none, none], [.int 4, .ref 0], σ) rfl ?_
        obtain ⟨q17, h18, h⟩ := Option.bind_eq_some_iff.mp h
        refine rf_cv1 (Mt := mX10_finds) wf1 rc_X10_mean_ok 23 false rfl (List.mem_of_getElem? (i := 144) rfl) mw_X10_finds rfl 0 [.int 4] [] rfl rfl rfl (Nat.le_of_ble_eq_true rfl) (ok_X10_finds d 4 σ q17 h18) ?_
        show rf_G _ _ _ (40, [some (.ref 0), some (.int p0), none, none, none], [.int q17.1], q17.2) _ _
        obtain rfl := Option.some.inj h
        exact rf_ri rc_X10_mean_ok 24 rfl rfl
    · rw [if_neg c5] at h
      refine rf_f wf1 rc_X10_mean_ok 11 (20, [some (.ref 0), some (.int p0), none, none, none], [], σ) rfl rfl c5 rfl ?_
      refine rf_b wf1 rc_X10_mean_ok 12 2 (22, [some (.ref 0), some (.int p0), none, none, none], [.int 1, .ref 0], σ) rfl ?_
      obtain ⟨q19, h20, h⟩ := Option.bind_eq_some_iff.mp h
      refine rf_cv1 (Mt := mX10_finds) wf1 rc_X10_mean_ok 14 false rfl (List.mem_of_getElem? (i := 144) rfl) mw_X10_finds rfl 0 [.int 1] [] rfl rfl rfl (Nat.le_of_ble_eq_true rfl) (ok_X10_finds d 1 σ q19 h20) ?_
      show rf_G _ _ _ (25, [some (.ref 0), some (.int p0), none, none, none], [.int q19.1], q19.2) _ _
      obtain rfl := Option.some.inj h
      exact rf_ri rc_X10_mean_ok 15 rfl rfl
  · rw [if_neg c3] at h
    refine rf_f wf1 rc_X10_mean_ok 4 (9, [some (.ref 0), some (.int p0), none, none, none], [], σ) rfl rfl c3 rfl ?_
    refine rf_b wf1 rc_X10_mean_ok 5 1 (10, [some (.ref 0), some (.int p0), none, none, none], [.int (-1)], σ) rfl ?_
    obtain rfl := Option.some.inj h
    exact rf_ri rc_X10_mean_ok 6 rfl rfl
def rc_X10_text : List rf_E := [(0, .iload_n 1, 1, 1), (1, .iconst 0, 1, 0), (2, .iconst 3, 1, 0), (3, .invokestatic 78, 3, 0), (6, .ifCond .eq 9, 3, 15), (9, .iload_n 2, 1, 2), (10, .bipush 60, 2, 0), (12, .if_icmp .le 5, 3, 17), (15, .iconst (-1), 1, 0), (16, .ireturn, 1, 0), (17, .iload_n 2, 1, 2), (18, .ifCond .ge 9, 3, 27), (21, .aload_n 0, 1, 0), (22, .iconst 5, 1, 0), (23, .invokevirtual 85, 3, 0), (26, .ireturn, 1, 0), (27, .aload_n 0, 1, 0), (28, .getfield 16, 3, 1002), (31, .iload_n 1, 1, 1), (32, .iload_n 2, 1, 2), (33, .iastore, 1, 0), (34, .iconst 0, 1, 0), (35, .istore_n 3, 1, 3), (36, .iload_n 3, 1, 3), (37, .bipush 60, 2, 0), (39, .if_icmp .ge 22, 3, 61), (42, .aload_n 0, 1, 0), (43, .getfield 19, 3, 1003), (46, .bipush 60, 2, 0), (48, .iload_n 1, 1, 1), (49, .imul, 1, 0), (50, .iload_n 3, 1, 3), (51, .iadd, 1, 0), (52, .bipush 32, 2, 0), (54, .iastore, 1, 0), (55, .iinc 3 1, 3, 3), (58, .goto (-22), 3, 36), (61, .iload_n 2, 1, 2), (62, .ireturn, 1, 0)]
theorem rc_X10_text_ok : rf_rc mX10_text rc_X10_text = true := by decide +kernel
theorem mw_X10_text : rf_mw mX10_text := ⟨rf_mt_ok _ (List.mem_of_getElem? (i := 164) rfl), fun h => absurd h (by decide), fun _ => ⟨rf_mi_ok _ (List.mem_of_getElem? (i := 146) rfl), rf_mv_ok _ (List.mem_of_getElem? (i := 146) rfl)⟩, rf_mq_6 _ (List.mem_of_getElem? (i := 14) rfl)⟩
def f_X10_text_b36 (l1 : Int32) (l2 : Int32) (s36 : Int32 × rf_S) : Option ((Int32 × rf_S) ⊕ (rf_S)) := if 60 ≤ s36.1 then (some (.inr s36.2)) else (if rf_ck ly1 0 4 ((60 * l1) + s36.1) = true then (some (.inl ((s36.1 + 1), (rf_sI s36.2 4 ((60 * l1) + s36.1).toNatClampNeg 32)))) else none)
set_option maxHeartbeats 2000000 in
theorem ok_X10_text_b36 (d : Nat) (l1 : Int32) (l2 : Int32) (s36 : Int32 × rf_S) (o : ((Int32 × rf_S) ⊕ (rf_S))) (h : f_X10_text_b36 l1 l2 s36 = some o) {r : Option Value} {σr : rf_S} (kl : ∀ s', o = .inl s' → rf_G ly1 (d + 1) mX10_text (36, [some (.ref 0), some (.int l1), some (.int l2), some (.int s'.1)], [], s'.2) r σr) (kx : ∀ e, o = .inr e → rf_G ly1 (d + 1) mX10_text (61, [none, none, some (.int l2), none], [], e) r σr) : rf_G ly1 (d + 1) mX10_text (36, [some (.ref 0), some (.int l1), some (.int l2), some (.int s36.1)], [], s36.2) r σr := by
  unfold f_X10_text_b36 at h
  refine rf_b wf1 rc_X10_text_ok 23 2 (39, [some (.ref 0), some (.int l1), some (.int l2), some (.int s36.1)], [.int 60, .int s36.1], s36.2) rfl ?_
  by_cases c7 : 60 ≤ s36.1
  · rw [if_pos c7] at h
    refine rf_t wf1 rc_X10_text_ok 25 (61, [some (.ref 0), some (.int l1), some (.int l2), some (.int s36.1)], [], s36.2) rfl rfl c7 rfl ?_
    refine rf_fg [false, false, true, false] [none, none, some (.int l2), none] rfl ?_
    exact kx s36.2 (Option.some.inj h).symm
  · rw [if_neg c7] at h
    refine rf_f wf1 rc_X10_text_ok 25 (42, [some (.ref 0), some (.int l1), some (.int l2), some (.int s36.1)], [], s36.2) rfl rfl c7 rfl ?_
    refine rf_b wf1 rc_X10_text_ok 26 8 (54, [some (.ref 0), some (.int l1), some (.int l2), some (.int s36.1)], [.int 32, .int ((60 * l1) + s36.1), .ref 4], s36.2) rfl ?_
    obtain ⟨g8, h⟩ := rf_ifn h
    refine rf_gd wf1 rc_X10_text_ok 34 (55, [some (.ref 0), some (.int l1), some (.int l2), some (.int s36.1)], [], (rf_sI s36.2 4 ((60 * l1) + s36.1).toNatClampNeg 32)) rfl rfl g8 rfl ?_
    refine rf_b wf1 rc_X10_text_ok 35 2 (36, [some (.ref 0), some (.int l1), some (.int l2), some (.int (s36.1 + 1))], [], (rf_sI s36.2 4 ((60 * l1) + s36.1).toNatClampNeg 32)) rfl ?_
    exact kl ((s36.1 + 1), (rf_sI s36.2 4 ((60 * l1) + s36.1).toNatClampNeg 32)) (Option.some.inj h).symm
def f_X10_text (p0 : Int32) (p1 : Int32) (σ : rf_S) : Option (Int32 × rf_S) := (f_X10_in p0 0 3 σ).bind (fun q1 => if q1 = 0 then (some ((-1), σ)) else (if p1 ≤ 60 then (if 0 ≤ p1 then (if rf_ck ly1 0 3 p0 = true then ((rf_lp (f_X10_text_b36 p0 p1) 5000 (0, (rf_sI σ 3 p0.toNatClampNeg p1))).bind (fun e9 => some (p1, e9))) else none) else ((f_X10_finds 5 σ).bind (fun q11 => some (q11.1, q11.2)))) else (some ((-1), σ))))
set_option maxHeartbeats 2000000 in
theorem ok_X10_text (d : Nat) (p0 : Int32) (p1 : Int32) (σ : rf_S) (q : (Int32 × rf_S)) (h : f_X10_text p0 p1 σ = some q) : rf_Ex ly1 (d + 2) mX10_text [.ref 0, .int p0, .int p1] σ (some (.int q.1) : Option Value) q.2 := by
  unfold f_X10_text at h
  refine rf_ex mw_X10_text [some (.ref 0), some (.int p0), some (.int p1), none] (Nat.le_of_ble_eq_true rfl) rfl ?_
  refine rf_b wf1 rc_X10_text_ok 0 3 (3, [some (.ref 0), some (.int p0), some (.int p1), none], [.int 3, .int 0, .int p0], σ) rfl ?_
  obtain ⟨q1, h2, h⟩ := Option.bind_eq_some_iff.mp h
  refine rf_cs1 (Mt := mX10_in) rc_X10_text_ok 3 false rfl (List.mem_of_getElem? (i := 143) rfl) mw_X10_in rfl [.int p0, .int 0, .int 3] [] rfl rfl (Nat.le_of_ble_eq_true rfl) (ok_X10_in d p0 0 3 σ q1 h2) ?_
  show rf_G _ _ _ (6, [some (.ref 0), some (.int p0), some (.int p1), none], [.int q1], σ) _ _
  by_cases c3 : q1 = 0
  · rw [if_pos c3] at h
    refine rf_t wf1 rc_X10_text_ok 4 (15, [some (.ref 0), some (.int p0), some (.int p1), none], [], σ) rfl rfl c3 rfl ?_
    refine rf_b wf1 rc_X10_text_ok 8 1 (16, [some (.ref 0), some (.int p0), some (.int p1), none], [.int (-1)], σ) rfl ?_
    obtain rfl := Option.some.inj h
    exact rf_ri rc_X10_text_ok 9 rfl rfl
  · rw [if_neg c3] at h
    refine rf_f wf1 rc_X10_text_ok 4 (9, [some (.ref 0), some (.int p0), some (.int p1), none], [], σ) rfl rfl c3 rfl ?_
    refine rf_b wf1 rc_X10_text_ok 5 2 (12, [some (.ref 0), some (.int p0), some (.int p1), none], [.int 60, .int p1], σ) rfl ?_
    by_cases c4 : p1 ≤ 60
    · rw [if_pos c4] at h
      refine rf_t wf1 rc_X10_text_ok 7 (17, [some (.ref 0), some (.int p0), some (.int p1), none], [], σ) rfl rfl c4 rfl ?_
      refine rf_b wf1 rc_X10_text_ok 10 1 (18, [some (.ref 0), some (.int p0), some (.int p1), none], [.int p1], σ) rfl ?_
      by_cases c5 : 0 ≤ p1
      · rw [if_pos c5] at h
        refine rf_t wf1 rc_X10_text_ok 11 (27, [some (.ref 0), some (.int p0), some (.int p1), none], [], σ) rfl rfl c5 rfl ?_
        refine rf_b wf1 rc_X10_text_ok 16 4 (33, [some (.ref 0), some (.int p0), some (.int p1), none], [.int p1, .int p0, .ref 3], σ) rfl ?_
        obtain ⟨g6, h⟩ := rf_ifn h
        refine rf_gd wf1 rc_X10_text_ok 20 (34, [some (.ref 0), some (.int p0), some (.int p1), none], [], (rf_sI σ 3 p0.toNatClampNeg p1)) rfl rfl g6 rfl ?_
        refine rf_b wf1 rc_X10_text_ok 21 2 (36, [some (.ref 0), some (.int p0), some (.int p1), some (.int 0)], [], (rf_sI σ 3 p0.toNatClampNeg p1)) rfl ?_
        obtain ⟨e9, h10, h⟩ := Option.bind_eq_some_iff.mp h
        refine rf_lpG (b := f_X10_text_b36 p0 p1) (G := fun (s36 : Int32 × rf_S) => rf_G ly1 (d + 1) mX10_text (36, [some (.ref 0), some (.int p0), some (.int p1), some (.int s36.1)], [], s36.2) (some (.int q.1) : Option Value) q.2) (K := fun (e : (rf_S)) => rf_G ly1 (d + 1) mX10_text (61, [none, none, some (.int p1), none], [], e) (some (.int q.1) : Option Value) q.2) (fun (s36 : Int32 × rf_S) (o : (Int32 × rf_S) ⊕ (rf_S)) hb kl kx => ok_X10_text_b36 d p0 p1 s36 o hb kl kx) 5000 (0, (rf_sI σ 3 p0.toNatClampNeg p1)) e9 h10 ?_
        show rf_G _ _ _ (61, [none, none, some (.int p1), none], [], e9) _ _
        refine rf_b wf1 rc_X10_text_ok 37 1 (62, [none, none, some (.int p1), none], [.int p1], e9) rfl ?_
        obtain rfl := Option.some.inj h
        exact rf_ri rc_X10_text_ok 38 rfl rfl
      · rw [if_neg c5] at h
        refine rf_f wf1 rc_X10_text_ok 11 (21, [some (.ref 0), some (.int p0), some (.int p1), none], [], σ) rfl rfl c5 rfl ?_
        refine rf_b wf1 rc_X10_text_ok 12 2 (23, [some (.ref 0), some (.int p0), some (.int p1), none], [.int 5, .ref 0], σ) rfl ?_
        obtain ⟨q11, h12, h⟩ := Option.bind_eq_some_iff.mp h
        refine rf_cv1 (Mt := mX10_finds) wf1 rc_X10_text_ok 14 false rfl (List.mem_of_getElem? (i := 144) rfl) mw_X10_finds rfl 0 [.int 5] [] rfl rfl rfl (Nat.le_of_ble_eq_true rfl) (ok_X10_finds d 5 σ q11 h12) ?_
        show rf_G _ _ _ (26, [some (.ref 0), some (.int p0), some (.int p1), none], [.int q11.1], q11.2) _ _
        obtain rfl := Option.some.inj h
        exact rf_ri rc_X10_text_ok 15 rfl rfl
    · rw [if_neg c4] at h
      refine rf_f wf1 rc_X10_text_ok 7 (15, [some (.ref 0), some (.int p0), some (.int p1), none], [], σ) rfl rfl c4 rfl ?_
      refine rf_b wf1 rc_X10_text_ok 8 1 (16, [some (.ref 0), some (.int p0), some (.int p1), none], [.int (-1)], σ) rfl ?_
      obtain rfl := Option.some.inj h
      exact rf_ri rc_X10_text_ok 9 rfl rfl
def rc_X10_put : List rf_E := [(0, .iload_n 1, 1, 1), (1, .iconst 0, 1, 0), (2, .iconst 3, 1, 0), (3, .invokestatic 78, 3, 0), (6, .ifCond .ne 5, 3, 11), (9, .iconst (-1), 1, 0), (10, .ireturn, 1, 0), (11, .aload_n 0, 1, 0), (12, .getfield 16, 3, 1002), (15, .iload_n 1, 1, 1), (16, .iaload, 1, 0), (17, .ifCond .ge 9, 3, 26), (20, .aload_n 0, 1, 0), (21, .iconst 1, 1, 0), (22, .invokevirtual 85, 3, 0), (25, .ireturn, 1, 0), (26, .iload_n 2, 1, 2), (27, .iconst 0, 1, 0), (28, .aload_n 0, 1, 0), (29, .getfield 16, 3, 1002), (32, .iload_n 1, 1, 1), (33, .iaload, 1, 0), (34, .iconst 1, 1, 0), (35, .isub, 1, 0), (36, .invokestatic 78, 3, 0), (39, .ifCond .ne 9, 3, 48), (42, .aload_n 0, 1, 0), (43, .iconst 2, 1, 0), (44, .invokevirtual 85, 3, 0), (47, .ireturn, 1, 0), (48, .aload_n 0, 1, 0), (49, .getfield 19, 3, 1003), (52, .bipush 60, 2, 0), (54, .iload_n 1, 1, 1), (55, .imul, 1, 0), (56, .iload_n 2, 1, 2), (57, .iadd, 1, 0), (58, .iaload, 1, 0), (59, .istore 4, 2, 4), (61, .aload_n 0, 1, 0), (62, .getfield 19, 3, 1003), (65, .bipush 60, 2, 0), (67, .iload_n 1, 1, 1), (68, .imul, 1, 0), (69, .iload_n 2, 1, 2), (70, .iadd, 1, 0), (71, .iload_n 3, 1, 3), (72, .i2b, 1, 0), (73, .iastore, 1, 0), (74, .iload 4, 2, 4), (76, .sipush 1000, 3, 0), (79, .iadd, 1, 0), (80, .ireturn, 1, 0)]
theorem rc_X10_put_ok : rf_rc mX10_put rc_X10_put = true := by decide +kernel
theorem mw_X10_put : rf_mw mX10_put := ⟨rf_mt_ok _ (List.mem_of_getElem? (i := 165) rfl), fun h => absurd h (by decide), fun _ => ⟨rf_mi_ok _ (List.mem_of_getElem? (i := 147) rfl), rf_mv_ok _ (List.mem_of_getElem? (i := 147) rfl)⟩, rf_mq_6 _ (List.mem_of_getElem? (i := 15) rfl)⟩
def f_X10_put (p0 : Int32) (p1 : Int32) (p2 : Int32) (σ : rf_S) : Option (Int32 × rf_S) := (f_X10_in p0 0 3 σ).bind (fun q1 => if q1 ≠ 0 then (if rf_ck ly1 0 3 p0 = true then (if 0 ≤ (σ.1 3 p0.toNatClampNeg) then (if rf_ck ly1 0 3 p0 = true then ((f_X10_in p1 0 ((σ.1 3 p0.toNatClampNeg) - 1) σ).bind (fun q7 => if q7 ≠ 0 then (if rf_ck ly1 0 4 ((60 * p0) + p1) = true then (if rf_ck ly1 0 4 ((60 * p0) + p1) = true then (some (((σ.1 4 ((60 * p0) + p1).toNatClampNeg) + 1000), (rf_sI σ 4 ((60 * p0) + p1).toNatClampNeg p2.toInt8.toInt32))) else none) else none) else ((f_X10_finds 2 σ).bind (fun q12 => some (q12.1, q12.2))))) else none) else ((f_X10_finds 1 σ).bind (fun q14 => some (q14.1, q14.2)))) else none) else (some ((-1), σ)))
set_option maxHeartbeats 2000000 in
theorem ok_X10_put (d : Nat) (p0 : Int32) (p1 : Int32) (p2 : Int32) (σ : rf_S) (q : (Int32 × rf_S)) (h : f_X10_put p0 p1 p2 σ = some q) : rf_Ex ly1 (d + 2) mX10_put [.ref 0, .int p0, .int p1, .int p2] σ (some (.int q.1) : Option Value) q.2 := by
  unfold f_X10_put at h
  refine rf_ex mw_X10_put [some (.ref 0), some (.int p0), some (.int p1), some (.int p2), none] (Nat.le_of_ble_eq_true rfl) rfl ?_
  refine rf_b wf1 rc_X10_put_ok 0 3 (3, [some (.ref 0), some (.int p0), some (.int p1), some (.int p2), none], [.int 3, .int 0, .int p0], σ) rfl ?_
  obtain ⟨q1, h2, h⟩ := Option.bind_eq_some_iff.mp h
  refine rf_cs1 (Mt := mX10_in) rc_X10_put_ok 3 false rfl (List.mem_of_getElem? (i := 143) rfl) mw_X10_in rfl [.int p0, .int 0, .int 3] [] rfl rfl (Nat.le_of_ble_eq_true rfl) (ok_X10_in d p0 0 3 σ q1 h2) ?_
  show rf_G _ _ _ (6, [some (.ref 0), some (.int p0), some (.int p1), some (.int p2), none], [.int q1], σ) _ _
  by_cases c3 : q1 ≠ 0
  · rw [if_pos c3] at h
    refine rf_t wf1 rc_X10_put_ok 4 (11, [some (.ref 0), some (.int p0), some (.int p1), some (.int p2), none], [], σ) rfl rfl c3 rfl ?_
    refine rf_b wf1 rc_X10_put_ok 7 3 (16, [some (.ref 0), some (.int p0), some (.int p1), some (.int p2), none], [.int p0, .ref 3], σ) rfl ?_
    obtain ⟨g4, h⟩ := rf_ifn h
    refine rf_gd wf1 rc_X10_put_ok 10 (17, [some (.ref 0), some (.int p0), some (.int p1), some (.int p2), none], [.int (σ.1 3 p0.toNatClampNeg)], σ) rfl rfl g4 rfl ?_
    by_cases c5 : 0 ≤ (σ.1 3 p0.toNatClampNeg)
    · rw [if_pos c5] at h
      refine rf_t wf1 rc_X10_put_ok 11 (26, [some (.ref 0), some (.int p0), some (.int p1), some (.int p2), none], [], σ) rfl rfl c5 rfl ?_
      refine rf_b wf1 rc_X10_put_ok 16 5 (33, [some (.ref 0), some (.int p0), some (.int p1), some (.int p2), none], [.int p0, .ref 3, .int 0, .int p1], σ) rfl ?_
      obtain ⟨g6, h⟩ := rf_ifn h
      refine rf_gd wf1 rc_X10_put_ok 21 (34, [some (.ref 0), some (.int p0), some (.int p1), some (.int p2), none], [.int (σ.1 3 p0.toNatClampNeg), .int 0, .int p1], σ) rfl rfl g6 rfl ?_
      refine rf_b wf1 rc_X10_put_ok 22 2 (36, [some (.ref 0), some (.int p0), some (.int p1), some (.int p2), none], [.int ((σ.1 3 p0.toNatClampNeg) - 1), .int 0, .int p1], σ) rfl ?_
      obtain ⟨q7, h8, h⟩ := Option.bind_eq_some_iff.mp h
      refine rf_cs1 (Mt := mX10_in) rc_X10_put_ok 24 false rfl (List.mem_of_getElem? (i := 143) rfl) mw_X10_in rfl [.int p1, .int 0, .int ((σ.1 3 p0.toNatClampNeg) - 1)] [] rfl rfl (Nat.le_of_ble_eq_true rfl) (ok_X10_in d p1 0 ((σ.1 3 p0.toNatClampNeg) - 1) σ q7 h8) ?_
      show rf_G _ _ _ (39, [some (.ref 0), some (.int p0), some (.int p1), some (.int p2), none], [.int q7], σ) _ _
      by_cases c9 : q7 ≠ 0
      · rw [if_pos c9] at h
        refine rf_t wf1 rc_X10_put_ok 25 (48, [some (.ref 0), some (.int p0), some (.int p1), some (.int p2), none], [], σ) rfl rfl c9 rfl ?_
        refine rf_b wf1 rc_X10_put_ok 30 7 (58, [some (.ref 0), some (.int p0), some (.int p1), some (.int p2), none], [.int ((60 * p0) + p1), .ref 4], σ) rfl ?_
        obtain ⟨g10, h⟩ := rf_ifn h
        refine rf_gd wf1 rc_X10_put_ok 37 (59, [some (.ref 0), some (.int p0), some (.int p1), some (.int p2), none], [.int (σ.1 4 ((60 * p0) + p1).toNatClampNeg)], σ) rfl rfl g10 rfl ?_
        refine rf_b wf1 rc_X10_put_ok 38 10 (73, [some (.ref 0), some (.int p0), some (.int p1), some (.int p2), some (.int (σ.1 4 ((60 * p0) + p1).toNatClampNeg))], [.int p2.toInt8.toInt32, .int ((60 * p0) + p1), .ref 4], σ) rfl ?_
        obtain ⟨g11, h⟩ := rf_ifn h
        refine rf_gd wf1 rc_X10_put_ok 48 (74, [some (.ref 0), some (.int p0), some (.int p1), some (.int p2), some (.int (σ.1 4 ((60 * p0) + p1).toNatClampNeg))], [], (rf_sI σ 4 ((60 * p0) + p1).toNatClampNeg p2.toInt8.toInt32)) rfl rfl g11 rfl ?_
        refine rf_b wf1 rc_X10_put_ok 49 3 (80, [some (.ref 0), some (.int p0), some (.int p1), some (.int p2), some (.int (σ.1 4 ((60 * p0) + p1).toNatClampNeg))], [.int ((σ.1 4 ((60 * p0) + p1).toNatClampNeg) + 1000)], (rf_sI σ 4 ((60 * p0) + p1).toNatClampNeg p2.toInt8.toInt32)) rfl ?_
        obtain rfl := Option.some.inj h
        exact rf_ri rc_X10_put_ok 52 rfl rfl
      · rw [if_neg c9] at h
        refine rf_f wf1 rc_X10_put_ok 25 (42, [some (.ref 0), some (.int p0), some (.int p1), some (.int p2), none], [], σ) rfl rfl c9 rfl ?_
        refine rf_b wf1 rc_X10_put_ok 26 2 (44, [some (.ref 0), some (.int p0), some (.int p1), some (.int p2), none], [.int 2, .ref 0], σ) rfl ?_
        obtain ⟨q12, h13, h⟩ := Option.bind_eq_some_iff.mp h
        refine rf_cv1 (Mt := mX10_finds) wf1 rc_X10_put_ok 28 false rfl (List.mem_of_getElem? (i := 144) rfl) mw_X10_finds rfl 0 [.int 2] [] rfl rfl rfl (Nat.le_of_ble_eq_true rfl) (ok_X10_finds d 2 σ q12 h13) ?_
        show rf_G _ _ _ (47, [some (.ref 0), some (.int p0), some (.int p1), some (.int p2), none], [.int q12.1], q12.2) _ _
        obtain rfl := Option.some.inj h
        exact rf_ri rc_X10_put_ok 29 rfl rfl
    · rw [if_neg c5] at h
      refine rf_f wf1 rc_X10_put_ok 11 (20, [some (.ref 0), some (.int p0), some (.int p1), some (.int p2), none], [], σ) rfl rfl c5 rfl ?_
      refine rf_b wf1 rc_X10_put_ok 12 2 (22, [some (.ref 0), some (.int p0), some (.int p1), some (.int p2), none], [.int 1, .ref 0], σ) rfl ?_
      obtain ⟨q14, h15, h⟩ := Option.bind_eq_some_iff.mp h
      refine rf_cv1 (Mt := mX10_finds) wf1 rc_X10_put_ok 14 false rfl (List.mem_of_getElem? (i := 144) rfl) mw_X10_finds rfl 0 [.int 1] [] rfl rfl rfl (Nat.le_of_ble_eq_true rfl) (ok_X10_finds d 1 σ q14 h15) ?_
      show rf_G _ _ _ (25, [some (.ref 0), some (.int p0), some (.int p1), some (.int p2), none], [.int q14.1], q14.2) _ _
      obtain rfl := Option.some.inj h
      exact rf_ri rc_X10_put_ok 15 rfl rfl
  · rw [if_neg c3] at h
    refine rf_f wf1 rc_X10_put_ok 4 (9, [some (.ref 0), some (.int p0), some (.int p1), some (.int p2), none], [], σ) rfl rfl c3 rfl ?_
    refine rf_b wf1 rc_X10_put_ok 5 1 (10, [some (.ref 0), some (.int p0), some (.int p1), some (.int p2), none], [.int (-1)], σ) rfl ?_
    obtain rfl := Option.some.inj h
    exact rf_ri rc_X10_put_ok 6 rfl rfl
def rc_X10_letterAt : List rf_E := [(0, .iload_n 1, 1, 1), (1, .aload_n 0, 1, 0), (2, .getfield 99, 3, 1011), (5, .if_icmp .ge 17, 3, 22), (8, .aload_n 0, 1, 0), (9, .getfield 19, 3, 1003), (12, .aload_n 0, 1, 0), (13, .getfield 102, 3, 1010), (16, .iload_n 1, 1, 1), (17, .iadd, 1, 0), (18, .iaload, 1, 0), (19, .goto 6, 3, 25), (22, .sipush (-1000), 3, 0), (25, .ireturn, 1, 0)]
theorem rc_X10_letterAt_ok : rf_rc mX10_letterAt rc_X10_letterAt = true := by decide +kernel
theorem mw_X10_letterAt : rf_mw mX10_letterAt := ⟨rf_mt_ok _ (List.mem_of_getElem? (i := 166) rfl), fun h => absurd h (by decide), fun _ => ⟨rf_mi_ok _ (List.mem_of_getElem? (i := 148) rfl), rf_mv_ok _ (List.mem_of_getElem? (i := 148) rfl)⟩, rf_mq_6 _ (List.mem_of_getElem? (i := 16) rfl)⟩
def f_X10_letterAt (p0 : Int32) (σ : rf_S) : Option Int32 := if (σ.1 0 11) ≤ p0 then (some (-1000)) else (if rf_ck ly1 0 4 ((σ.1 0 10) + p0) = true then (some (σ.1 4 ((σ.1 0 10) + p0).toNatClampNeg)) else none)
set_option maxHeartbeats 2000000 in
theorem ok_X10_letterAt (d : Nat) (p0 : Int32) (σ : rf_S) (q : Int32) (h : f_X10_letterAt p0 σ = some q) : rf_Ex ly1 (d + 1) mX10_letterAt [.ref 0, .int p0] σ (some (.int q) : Option Value) σ := by
  unfold f_X10_letterAt at h
  refine rf_ex mw_X10_letterAt [some (.ref 0), some (.int p0)] (Nat.le_of_ble_eq_true rfl) rfl ?_
  refine rf_b wf1 rc_X10_letterAt_ok 0 3 (5, [some (.ref 0), some (.int p0)], [.int (σ.1 0 11), .int p0], σ) rfl ?_
  by_cases c1 : (σ.1 0 11) ≤ p0
  · rw [if_pos c1] at h
    refine rf_t wf1 rc_X10_letterAt_ok 3 (22, [some (.ref 0), some (.int p0)], [], σ) rfl rfl c1 rfl ?_
    refine rf_b wf1 rc_X10_letterAt_ok 12 1 (25, [some (.ref 0), some (.int p0)], [.int (-1000)], σ) rfl ?_
    obtain rfl := Option.some.inj h
    exact rf_ri rc_X10_letterAt_ok 13 rfl rfl
  · rw [if_neg c1] at h
    refine rf_f wf1 rc_X10_letterAt_ok 3 (8, [some (.ref 0), some (.int p0)], [], σ) rfl rfl c1 rfl ?_
    refine rf_b wf1 rc_X10_letterAt_ok 4 6 (18, [some (.ref 0), some (.int p0)], [.int ((σ.1 0 10) + p0), .ref 4], σ) rfl ?_
    obtain ⟨g2, h⟩ := rf_ifn h
    refine rf_gd wf1 rc_X10_letterAt_ok 10 (19, [some (.ref 0), some (.int p0)], [.int (σ.1 4 ((σ.1 0 10) + p0).toNatClampNeg)], σ) rfl rfl g2 rfl ?_
    refine rf_b wf1 rc_X10_letterAt_ok 11 1 (25, [some (.ref 0), some (.int p0)], [.int (σ.1 4 ((σ.1 0 10) + p0).toNatClampNeg)], σ) rfl ?_
    obtain rfl := Option.some.inj h
    exact rf_ri rc_X10_letterAt_ok 13 rfl rfl
def rc_X10_isFigure : List rf_E := [(0, .aload_n 0, 1, 0), (1, .iload_n 1, 1, 1), (2, .invokevirtual 105, 3, 0), (5, .bipush 48, 2, 0), (7, .bipush 57, 2, 0), (9, .invokestatic 78, 3, 0), (12, .ireturn, 1, 0)]
theorem rc_X10_isFigure_ok : rf_rc mX10_isFigure rc_X10_isFigure = true := by decide +kernel
theorem mw_X10_isFigure : rf_mw mX10_isFigure := ⟨rf_mt_ok _ (List.mem_of_getElem? (i := 167) rfl), fun h => absurd h (by decide), fun _ => ⟨rf_mi_ok _ (List.mem_of_getElem? (i := 149) rfl), rf_mv_ok _ (List.mem_of_getElem? (i := 149) rfl)⟩, rf_mq_6 _ (List.mem_of_getElem? (i := 17) rfl)⟩
def f_X10_isFigure (p0 : Int32) (σ : rf_S) : Option Int32 := (f_X10_letterAt p0 σ).bind (fun q1 => (f_X10_in q1 48 57 σ).bind (fun q3 => if q3 = 0 ∨ q3 = 1 then some q3 else none))
set_option maxHeartbeats 2000000 in
theorem ok_X10_isFigure (d : Nat) (p0 : Int32) (σ : rf_S) (q : Int32) (h : f_X10_isFigure p0 σ = some q) : rf_Ex ly1 (d + 2) mX10_isFigure [.ref 0, .int p0] σ (some (.int q) : Option Value) σ := by
  unfold f_X10_isFigure at h
  refine rf_ex mw_X10_isFigure [some (.ref 0), some (.int p0)] (Nat.le_of_ble_eq_true rfl) rfl ?_
  refine rf_b wf1 rc_X10_isFigure_ok 0 2 (2, [some (.ref 0), some (.int p0)], [.int p0, .ref 0], σ) rfl ?_
  obtain ⟨q1, h2, h⟩ := Option.bind_eq_some_iff.mp h
  refine rf_cv1 (Mt := mX10_letterAt) wf1 rc_X10_isFigure_ok 2 false rfl (List.mem_of_getElem? (i := 148) rfl) mw_X10_letterAt rfl 0 [.int p0] [] rfl rfl rfl (Nat.le_of_ble_eq_true rfl) (ok_X10_letterAt d p0 σ q1 h2) ?_
  show rf_G _ _ _ (5, [some (.ref 0), some (.int p0)], [.int q1], σ) _ _
  refine rf_b wf1 rc_X10_isFigure_ok 3 2 (9, [some (.ref 0), some (.int p0)], [.int 57, .int 48, .int q1], σ) rfl ?_
  obtain ⟨q3, h4, h⟩ := Option.bind_eq_some_iff.mp h
  refine rf_cs1 (Mt := mX10_in) rc_X10_isFigure_ok 5 false rfl (List.mem_of_getElem? (i := 143) rfl) mw_X10_in rfl [.int q1, .int 48, .int 57] [] rfl rfl (Nat.le_of_ble_eq_true rfl) (ok_X10_in d q1 48 57 σ q3 h4) ?_
  show rf_G _ _ _ (12, [some (.ref 0), some (.int p0)], [.int q3], σ) _ _
  obtain ⟨g5, h⟩ := rf_ifn h
  obtain rfl := Option.some.inj h
  exact rf_rz rc_X10_isFigure_ok 6 rfl rfl g5
def rc_X10_two : List rf_E := [(0, .aload_n 0, 1, 0), (1, .aload_n 0, 1, 0), (2, .getfield 108, 3, 1009), (5, .invokevirtual 111, 3, 0), (8, .ifCond .ne 5, 3, 13), (11, .iconst (-1), 1, 0), (12, .ireturn, 1, 0), (13, .aload_n 0, 1, 0), (14, .aload_n 0, 1, 0), (15, .getfield 108, 3, 1009), (18, .iconst 1, 1, 0), (19, .iadd, 1, 0), (20, .invokevirtual 111, 3, 0), (23, .ifCond .ne 15, 3, 38), (26, .aload_n 0, 1, 0), (27, .dup, 1, 0), (28, .getfield 108, 3, 1009), (31, .iconst 1, 1, 0), (32, .iadd, 1, 0), (33, .putfield 108, 3, 1009), (36, .iconst (-1), 1, 0), (37, .ireturn, 1, 0), (38, .bipush 10, 2, 0), (40, .aload_n 0, 1, 0), (41, .aload_n 0, 1, 0), (42, .getfield 108, 3, 1009), (45, .invokevirtual 105, 3, 0), (48, .imul, 1, 0), (49, .aload_n 0, 1, 0), (50, .aload_n 0, 1, 0), (51, .getfield 108, 3, 1009), (54, .iconst 1, 1, 0), (55, .iadd, 1, 0), (56, .invokevirtual 105, 3, 0), (59, .iadd, 1, 0), (60, .sipush 528, 3, 0), (63, .isub, 1, 0), (64, .istore_n 3, 1, 3), (65, .iload_n 3, 1, 3), (66, .iload_n 1, 1, 1), (67, .iload_n 2, 1, 2), (68, .invokestatic 78, 3, 0), (71, .ifCond .ne 5, 3, 76), (74, .iconst (-1), 1, 0), (75, .ireturn, 1, 0), (76, .aload_n 0, 1, 0), (77, .dup, 1, 0), (78, .getfield 108, 3, 1009), (81, .iconst 2, 1, 0), (82, .iadd, 1, 0), (83, .putfield 108, 3, 1009), (86, .iload_n 3, 1, 3), (87, .ireturn, 1, 0)]
theorem rc_X10_two_ok : rf_rc mX10_two rc_X10_two = true := by decide +kernel
theorem mw_X10_two : rf_mw mX10_two := ⟨rf_mt_ok _ (List.mem_of_getElem? (i := 168) rfl), fun h => absurd h (by decide), fun _ => ⟨rf_mi_ok _ (List.mem_of_getElem? (i := 150) rfl), rf_mv_ok _ (List.mem_of_getElem? (i := 150) rfl)⟩, rf_mq_6 _ (List.mem_of_getElem? (i := 18) rfl)⟩
def f_X10_two (p0 : Int32) (p1 : Int32) (σ : rf_S) : Option (Int32 × rf_S) := (f_X10_isFigure (σ.1 0 9) σ).bind (fun q1 => if q1 ≠ 0 then ((f_X10_isFigure ((σ.1 0 9) + 1) σ).bind (fun q4 => if q4 ≠ 0 then ((f_X10_letterAt (σ.1 0 9) σ).bind (fun q7 => (f_X10_letterAt ((σ.1 0 9) + 1) σ).bind (fun q9 => (f_X10_in (((10 * q7) + q9) - 528) p0 p1 σ).bind (fun q11 => if q11 ≠ 0 then (some ((((10 * q7) + q9) - 528), (rf_sI σ 0 9 ((σ.1 0 9) + 2)))) else (some ((-1), σ)))))) else (some ((-1), (rf_sI σ 0 9 ((σ.1 0 9) + 1)))))) else (some ((-1), σ)))
set_option maxHeartbeats 2000000 in
theorem ok_X10_two (d : Nat) (p0 : Int32) (p1 : Int32) (σ : rf_S) (q : (Int32 × rf_S)) (h : f_X10_two p0 p1 σ = some q) : rf_Ex ly1 (d + 3) mX10_two [.ref 0, .int p0, .int p1] σ (some (.int q.1) : Option Value) q.2 := by
  unfold f_X10_two at h
  refine rf_ex mw_X10_two [some (.ref 0), some (.int p0), some (.int p1), none] (Nat.le_of_ble_eq_true rfl) rfl ?_
  refine rf_b wf1 rc_X10_two_ok 0 3 (5, [some (.ref 0), some (.int p0), some (.int p1), none], [.int (σ.1 0 9), .ref 0], σ) rfl ?_
  obtain ⟨q1, h2, h⟩ := Option.bind_eq_some_iff.mp h
  refine rf_cv1 (Mt := mX10_isFigure) wf1 rc_X10_two_ok 3 false rfl (List.mem_of_getElem? (i := 149) rfl) mw_X10_isFigure rfl 0 [.int (σ.1 0 9)] [] rfl rfl rfl (Nat.le_of_ble_eq_true rfl) (ok_X10_isFigure d (σ.1 0 9) σ q1 h2) ?_
  show rf_G _ _ _ (8, [some (.ref 0), some (.int p0), some (.int p1), none], [.int q1], σ) _ _
  by_cases c3 : q1 ≠ 0
  · rw [if_pos c3] at h
    refine rf_t wf1 rc_X10_two_ok 4 (13, [some (.ref 0), some (.int p0), some (.int p1), none], [], σ) rfl rfl c3 rfl ?_
    refine rf_b wf1 rc_X10_two_ok 7 5 (20, [some (.ref 0), some (.int p0), some (.int p1), none], [.int ((σ.1 0 9) + 1), .ref 0], σ) rfl ?_
    obtain ⟨q4, h5, h⟩ := Option.bind_eq_some_iff.mp h
    refine rf_cv1 (Mt := mX10_isFigure) wf1 rc_X10_two_ok 12 false rfl (List.mem_of_getElem? (i := 149) rfl) mw_X10_isFigure rfl 0 [.int ((σ.1 0 9) + 1)] [] rfl rfl rfl (Nat.le_of_ble_eq_true rfl) (ok_X10_isFigure d ((σ.1 0 9) + 1) σ q4 h5) ?_
    show rf_G _ _ _ (23, [some (.ref 0), some (.int p0), some (.int p1), none], [.int q4], σ) _ _
    by_cases c6 : q4 ≠ 0
    · rw [if_pos c6] at h
      refine rf_t wf1 rc_X10_two_ok 13 (38, [some (.ref 0), some (.int p0), some (.int p1), none], [], σ) rfl rfl c6 rfl ?_
      refine rf_b wf1 rc_X10_two_ok 22 4 (45, [some (.ref 0), some (.int p0), some (.int p1), none], [.int (σ.1 0 9), .ref 0, .int 10], σ) rfl ?_
      obtain ⟨q7, h8, h⟩ := Option.bind_eq_some_iff.mp h
      refine rf_cv1 (Mt := mX10_letterAt) wf1 rc_X10_two_ok 26 false rfl (List.mem_of_getElem? (i := 148) rfl) mw_X10_letterAt rfl 0 [.int (σ.1 0 9)] [.int 10] rfl rfl rfl (Nat.le_of_ble_eq_true rfl) (ok_X10_letterAt (d + 1) (σ.1 0 9) σ q7 h8) ?_
      show rf_G _ _ _ (48, [some (.ref 0), some (.int p0), some (.int p1), none], [.int q7, .int 10], σ) _ _
      refine rf_b wf1 rc_X10_two_ok 27 6 (56, [some (.ref 0), some (.int p0), some (.int p1), none], [.int ((σ.1 0 9) + 1), .ref 0, .int (10 * q7)], σ) rfl ?_
      obtain ⟨q9, h10, h⟩ := Option.bind_eq_some_iff.mp h
      refine rf_cv1 (Mt := mX10_letterAt) wf1 rc_X10_two_ok 33 false rfl (List.mem_of_getElem? (i := 148) rfl) mw_X10_letterAt rfl 0 [.int ((σ.1 0 9) + 1)] [.int (10 * q7)] rfl rfl rfl (Nat.le_of_ble_eq_true rfl) (ok_X10_letterAt (d + 1) ((σ.1 0 9) + 1) σ q9 h10) ?_
      show rf_G _ _ _ (59, [some (.ref 0), some (.int p0), some (.int p1), none], [.int q9, .int (10 * q7)], σ) _ _
      refine rf_b wf1 rc_X10_two_ok 34 7 (68, [some (.ref 0), some (.int p0), some (.int p1), some (.int (((10 * q7) + q9) - 528))], [.int p1, .int p0, .int (((10 * q7) + q9) - 528)], σ) rfl ?_
      obtain ⟨q11, h12, h⟩ := Option.bind_eq_some_iff.mp h
      refine rf_cs1 (Mt := mX10_in) rc_X10_two_ok 41 false rfl (List.mem_of_getElem? (i := 143) rfl) mw_X10_in rfl [.int (((10 * q7) + q9) - 528), .int p0, .int p1] [] rfl rfl (Nat.le_of_ble_eq_true rfl) (ok_X10_in (d + 1) (((10 * q7) + q9) - 528) p0 p1 σ q11 h12) ?_
      show rf_G _ _ _ (71, [some (.ref 0), some (.int p0), some (.int p1), some (.int (((10 * q7) + q9) - 528))], [.int q11], σ) _ _
      by_cases c13 : q11 ≠ 0
      · rw [if_pos c13] at h
        refine rf_t wf1 rc_X10_two_ok 42 (76, [some (.ref 0), some (.int p0), some (.int p1), some (.int (((10 * q7) + q9) - 528))], [], σ) rfl rfl c13 rfl ?_
        refine rf_b wf1 rc_X10_two_ok 45 7 (87, [some (.ref 0), some (.int p0), some (.int p1), some (.int (((10 * q7) + q9) - 528))], [.int (((10 * q7) + q9) - 528)], (rf_sI σ 0 9 ((σ.1 0 9) + 2))) rfl ?_
        obtain rfl := Option.some.inj h
        exact rf_ri rc_X10_two_ok 52 rfl rfl
      · rw [if_neg c13] at h
        refine rf_f wf1 rc_X10_two_ok 42 (74, [some (.ref 0), some (.int p0), some (.int p1), some (.int (((10 * q7) + q9) - 528))], [], σ) rfl rfl c13 rfl ?_
        refine rf_b wf1 rc_X10_two_ok 43 1 (75, [some (.ref 0), some (.int p0), some (.int p1), some (.int (((10 * q7) + q9) - 528))], [.int (-1)], σ) rfl ?_
        obtain rfl := Option.some.inj h
        exact rf_ri rc_X10_two_ok 44 rfl rfl
    · rw [if_neg c6] at h
      refine rf_f wf1 rc_X10_two_ok 13 (26, [some (.ref 0), some (.int p0), some (.int p1), none], [], σ) rfl rfl c6 rfl ?_
      refine rf_b wf1 rc_X10_two_ok 14 7 (37, [some (.ref 0), some (.int p0), some (.int p1), none], [.int (-1)], (rf_sI σ 0 9 ((σ.1 0 9) + 1))) rfl ?_
      obtain rfl := Option.some.inj h
      exact rf_ri rc_X10_two_ok 21 rfl rfl
  · rw [if_neg c3] at h
    refine rf_f wf1 rc_X10_two_ok 4 (11, [some (.ref 0), some (.int p0), some (.int p1), none], [], σ) rfl rfl c3 rfl ?_
    refine rf_b wf1 rc_X10_two_ok 5 1 (12, [some (.ref 0), some (.int p0), some (.int p1), none], [.int (-1)], σ) rfl ?_
    obtain rfl := Option.some.inj h
    exact rf_ri rc_X10_two_ok 6 rfl rfl
def rc_X10_one : List rf_E := [(0, .aload_n 0, 1, 0), (1, .aload_n 0, 1, 0), (2, .getfield 108, 3, 1009), (5, .invokevirtual 105, 3, 0), (8, .bipush 48, 2, 0), (10, .isub, 1, 0), (11, .istore_n 2, 1, 2), (12, .iload_n 2, 1, 2), (13, .iconst 0, 1, 0), (14, .iload_n 1, 1, 1), (15, .invokestatic 78, 3, 0), (18, .ifCond .ne 5, 3, 23), (21, .iconst (-1), 1, 0), (22, .ireturn, 1, 0), (23, .aload_n 0, 1, 0), (24, .dup, 1, 0), (25, .getfield 108, 3, 1009), (28, .iconst 1, 1, 0), (29, .iadd, 1, 0), (30, .putfield 108, 3, 1009), (33, .iload_n 2, 1, 2), (34, .ireturn, 1, 0)]
theorem rc_X10_one_ok : rf_rc mX10_one rc_X10_one = true := by decide +kernel
theorem mw_X10_one : rf_mw mX10_one := ⟨rf_mt_ok _ (List.mem_of_getElem? (i := 169) rfl), fun h => absurd h (by decide), fun _ => ⟨rf_mi_ok _ (List.mem_of_getElem? (i := 151) rfl), rf_mv_ok _ (List.mem_of_getElem? (i := 151) rfl)⟩, rf_mq_6 _ (List.mem_of_getElem? (i := 19) rfl)⟩
def f_X10_one (p0 : Int32) (σ : rf_S) : Option (Int32 × rf_S) := (f_X10_letterAt (σ.1 0 9) σ).bind (fun q1 => (f_X10_in (q1 - 48) 0 p0 σ).bind (fun q3 => if q3 ≠ 0 then (some ((q1 - 48), (rf_sI σ 0 9 ((σ.1 0 9) + 1)))) else (some ((-1), σ))))
set_option maxHeartbeats 2000000 in
theorem ok_X10_one (d : Nat) (p0 : Int32) (σ : rf_S) (q : (Int32 × rf_S)) (h : f_X10_one p0 σ = some q) : rf_Ex ly1 (d + 2) mX10_one [.ref 0, .int p0] σ (some (.int q.1) : Option Value) q.2 := by
  unfold f_X10_one at h
  refine rf_ex mw_X10_one [some (.ref 0), some (.int p0), none] (Nat.le_of_ble_eq_true rfl) rfl ?_
  refine rf_b wf1 rc_X10_one_ok 0 3 (5, [some (.ref 0), some (.int p0), none], [.int (σ.1 0 9), .ref 0], σ) rfl ?_
  obtain ⟨q1, h2, h⟩ := Option.bind_eq_some_iff.mp h
  refine rf_cv1 (Mt := mX10_letterAt) wf1 rc_X10_one_ok 3 false rfl (List.mem_of_getElem? (i := 148) rfl) mw_X10_letterAt rfl 0 [.int (σ.1 0 9)] [] rfl rfl rfl (Nat.le_of_ble_eq_true rfl) (ok_X10_letterAt d (σ.1 0 9) σ q1 h2) ?_
  show rf_G _ _ _ (8, [some (.ref 0), some (.int p0), none], [.int q1], σ) _ _
  refine rf_b wf1 rc_X10_one_ok 4 6 (15, [some (.ref 0), some (.int p0), some (.int (q1 - 48))], [.int p0, .int 0, .int (q1 - 48)], σ) rfl ?_
  obtain ⟨q3, h4, h⟩ := Option.bind_eq_some_iff.mp h
  refine rf_cs1 (Mt := mX10_in) rc_X10_one_ok 10 false rfl (List.mem_of_getElem? (i := 143) rfl) mw_X10_in rfl [.int (q1 - 48), .int 0, .int p0] [] rfl rfl (Nat.le_of_ble_eq_true rfl) (ok_X10_in d (q1 - 48) 0 p0 σ q3 h4) ?_
  show rf_G _ _ _ (18, [some (.ref 0), some (.int p0), some (.int (q1 - 48))], [.int q3], σ) _ _
  by_cases c5 : q3 ≠ 0
  · rw [if_pos c5] at h
    refine rf_t wf1 rc_X10_one_ok 11 (23, [some (.ref 0), some (.int p0), some (.int (q1 - 48))], [], σ) rfl rfl c5 rfl ?_
    refine rf_b wf1 rc_X10_one_ok 14 7 (34, [some (.ref 0), some (.int p0), some (.int (q1 - 48))], [.int (q1 - 48)], (rf_sI σ 0 9 ((σ.1 0 9) + 1))) rfl ?_
    obtain rfl := Option.some.inj h
    exact rf_ri rc_X10_one_ok 21 rfl rfl
  · rw [if_neg c5] at h
    refine rf_f wf1 rc_X10_one_ok 11 (21, [some (.ref 0), some (.int p0), some (.int (q1 - 48))], [], σ) rfl rfl c5 rfl ?_
    refine rf_b wf1 rc_X10_one_ok 12 1 (22, [some (.ref 0), some (.int p0), some (.int (q1 - 48))], [.int (-1)], σ) rfl ?_
    obtain rfl := Option.some.inj h
    exact rf_ri rc_X10_one_ok 13 rfl rfl
def rc_X10_isRoomItem : List rf_E := [(0, .aload_n 0, 1, 0), (1, .getfield 115, 3, 1012), (4, .iconst 4, 1, 0), (5, .if_icmp .eq 10, 3, 15), (8, .aload_n 0, 1, 0), (9, .getfield 118, 3, 1013), (12, .ifCond .le 5, 3, 17), (15, .iconst 0, 1, 0), (16, .ireturn, 1, 0), (17, .aload_n 0, 1, 0), (18, .dup, 1, 0), (19, .getfield 108, 3, 1009), (22, .iconst 1, 1, 0), (23, .iadd, 1, 0), (24, .putfield 108, 3, 1009), (27, .iconst 0, 1, 0), (28, .istore_n 1, 1, 1), (29, .iload_n 1, 1, 1), (30, .iconst 2, 1, 0), (31, .if_icmp .ge 39, 3, 70), (34, .aload_n 0, 1, 0), (35, .iload_n 1, 1, 1), (36, .bipush 30, 2, 0), (38, .iload_n 1, 1, 1), (39, .iadd, 1, 0), (40, .invokevirtual 121, 3, 0), (43, .istore_n 2, 1, 2), (44, .iload_n 2, 1, 2), (45, .ifCond .ge 5, 3, 50), (48, .iconst 0, 1, 0), (49, .ireturn, 1, 0), (50, .aload_n 0, 1, 0), (51, .getfield 29, 3, 1014), (54, .iconst 2, 1, 0), (55, .aload_n 0, 1, 0), (56, .getfield 115, 3, 1012), (59, .imul, 1, 0), (60, .iload_n 1, 1, 1), (61, .iadd, 1, 0), (62, .iload_n 2, 1, 2), (63, .iastore, 1, 0), (64, .iinc 1 1, 3, 1), (67, .goto (-38), 3, 29), (70, .aload_n 0, 1, 0), (71, .dup, 1, 0), (72, .getfield 115, 3, 1012), (75, .iconst 1, 1, 0), (76, .iadd, 1, 0), (77, .putfield 115, 3, 1012), (80, .iconst 1, 1, 0), (81, .ireturn, 1, 0)]
theorem rc_X10_isRoomItem_ok : rf_rc mX10_isRoomItem rc_X10_isRoomItem = true := by decide +kernel
theorem mw_X10_isRoomItem : rf_mw mX10_isRoomItem := ⟨rf_mt_ok _ (List.mem_of_getElem? (i := 170) rfl), fun h => absurd h (by decide), fun _ => ⟨rf_mi_ok _ (List.mem_of_getElem? (i := 152) rfl), rf_mv_ok _ (List.mem_of_getElem? (i := 152) rfl)⟩, rf_mq_6 _ (List.mem_of_getElem? (i := 20) rfl)⟩
def f_X10_isRoomItem_b29 (s29 : Int32 × rf_S) : Option ((Int32 × rf_S) ⊕ ((rf_S) ⊕ (Int32 × rf_S))) := if 2 ≤ s29.1 then (some (.inr (.inl s29.2))) else ((f_X10_two s29.1 (30 + s29.1) s29.2).bind (fun q4 => if 0 ≤ q4.1 then (if rf_ck ly1 0 6 ((2 * (q4.2.1 0 12)) + s29.1) = true then (some (.inl ((s29.1 + 1), (rf_sI q4.2 6 ((2 * (q4.2.1 0 12)) + s29.1).toNatClampNeg q4.1)))) else none) else (some (.inr (.inr (0, q4.2))))))
set_option maxHeartbeats 2000000 in
theorem ok_X10_isRoomItem_b29 (d : Nat) (s29 : Int32 × rf_S) (o : ((Int32 × rf_S) ⊕ ((rf_S) ⊕ (Int32 × rf_S)))) (h : f_X10_isRoomItem_b29 s29 = some o) {r : Option Value} {σr : rf_S} (kl : ∀ s', o = .inl s' → rf_G ly1 (d + 3) mX10_isRoomItem (29, [some (.ref 0), some (.int s'.1), none], [], s'.2) r σr) (kx : ∀ e, o = .inr (.inl e) → rf_G ly1 (d + 3) mX10_isRoomItem (70, [some (.ref 0), none, none], [], e) r σr) (kr : ∀ q : (Int32 × rf_S), o = .inr (.inr q) → r = (some (.int q.1) : Option Value) ∧ σr = q.2) : rf_G ly1 (d + 3) mX10_isRoomItem (29, [some (.ref 0), some (.int s29.1), none], [], s29.2) r σr := by
  unfold f_X10_isRoomItem_b29 at h
  refine rf_b wf1 rc_X10_isRoomItem_ok 17 2 (31, [some (.ref 0), some (.int s29.1), none], [.int 2, .int s29.1], s29.2) rfl ?_
  by_cases c3 : 2 ≤ s29.1
  · rw [if_pos c3] at h
    refine rf_t wf1 rc_X10_isRoomItem_ok 19 (70, [some (.ref 0), some (.int s29.1), none], [], s29.2) rfl rfl c3 rfl ?_
    refine rf_fg [true, false, true] [some (.ref 0), none, none] rfl ?_
    exact kx s29.2 (Option.some.inj h).symm
  · rw [if_neg c3] at h
    refine rf_f wf1 rc_X10_isRoomItem_ok 19 (34, [some (.ref 0), some (.int s29.1), none], [], s29.2) rfl rfl c3 rfl ?_
    refine rf_b wf1 rc_X10_isRoomItem_ok 20 5 (40, [some (.ref 0), some (.int s29.1), none], [.int (30 + s29.1), .int s29.1, .ref 0], s29.2) rfl ?_
    obtain ⟨q4, h5, h⟩ := Option.bind_eq_some_iff.mp h
    refine rf_cv1 (Mt := mX10_two) wf1 rc_X10_isRoomItem_ok 25 false rfl (List.mem_of_getElem? (i := 150) rfl) mw_X10_two rfl 0 [.int s29.1, .int (30 + s29.1)] [] rfl rfl rfl (Nat.le_of_ble_eq_true rfl) (ok_X10_two d s29.1 (30 + s29.1) s29.2 q4 h5) ?_
    show rf_G _ _ _ (43, [some (.ref 0), some (.int s29.1), none], [.int q4.1], q4.2) _ _
    refine rf_b wf1 rc_X10_isRoomItem_ok 26 2 (45, [some (.ref 0), some (.int s29.1), some (.int q4.1)], [.int q4.1], q4.2) rfl ?_
    by_cases c6 : 0 ≤ q4.1
    · rw [if_pos c6] at h
      refine rf_t wf1 rc_X10_isRoomItem_ok 28 (50, [some (.ref 0), some (.int s29.1), some (.int q4.1)], [], q4.2) rfl rfl c6 rfl ?_
      refine rf_b wf1 rc_X10_isRoomItem_ok 31 9 (63, [some (.ref 0), some (.int s29.1), some (.int q4.1)], [.int q4.1, .int ((2 * (q4.2.1 0 12)) + s29.1), .ref 6], q4.2) rfl ?_
      obtain ⟨g7, h⟩ := rf_ifn h
      refine rf_gd wf1 rc_X10_isRoomItem_ok 40 (64, [some (.ref 0), some (.int s29.1), some (.int q4.1)], [], (rf_sI q4.2 6 ((2 * (q4.2.1 0 12)) + s29.1).toNatClampNeg q4.1)) rfl rfl g7 rfl ?_
      refine rf_b wf1 rc_X10_isRoomItem_ok 41 2 (29, [some (.ref 0), some (.int (s29.1 + 1)), some (.int q4.1)], [], (rf_sI q4.2 6 ((2 * (q4.2.1 0 12)) + s29.1).toNatClampNeg q4.1)) rfl ?_
      refine rf_fg [true, true, false] [some (.ref 0), some (.int (s29.1 + 1)), none] rfl ?_
      exact kl ((s29.1 + 1), (rf_sI q4.2 6 ((2 * (q4.2.1 0 12)) + s29.1).toNatClampNeg q4.1)) (Option.some.inj h).symm
    · rw [if_neg c6] at h
      refine rf_f wf1 rc_X10_isRoomItem_ok 28 (48, [some (.ref 0), some (.int s29.1), some (.int q4.1)], [], q4.2) rfl rfl c6 rfl ?_
      refine rf_b wf1 rc_X10_isRoomItem_ok 29 1 (49, [some (.ref 0), some (.int s29.1), some (.int q4.1)], [.int 0], q4.2) rfl ?_
      obtain ⟨e1, e2⟩ := kr (0, q4.2) (Option.some.inj h).symm
      subst e1
      subst e2
      exact rf_rz rc_X10_isRoomItem_ok 30 rfl rfl (by decide)
def f_X10_isRoomItem (σ : rf_S) : Option (Int32 × rf_S) := if (σ.1 0 12) = 4 then (some (0, σ)) else (if (σ.1 0 13) ≤ 0 then ((rf_lp f_X10_isRoomItem_b29 5000 (0, (rf_sI σ 0 9 ((σ.1 0 9) + 1)))).bind (fun e8 => Sum.elim (fun z10 => some (1, (rf_sI z10 0 12 ((z10.1 0 12) + 1)))) (fun y11 => some y11) e8)) else (some (0, σ)))
set_option maxHeartbeats 2000000 in
theorem ok_X10_isRoomItem (d : Nat) (σ : rf_S) (q : (Int32 × rf_S)) (h : f_X10_isRoomItem σ = some q) : rf_Ex ly1 (d + 4) mX10_isRoomItem [.ref 0] σ (some (.int q.1) : Option Value) q.2 := by
  unfold f_X10_isRoomItem at h
  refine rf_ex mw_X10_isRoomItem [some (.ref 0), none, none] (Nat.le_of_ble_eq_true rfl) rfl ?_
  refine rf_b wf1 rc_X10_isRoomItem_ok 0 3 (5, [some (.ref 0), none, none], [.int 4, .int (σ.1 0 12)], σ) rfl ?_
  by_cases c1 : (σ.1 0 12) = 4
  · rw [if_pos c1] at h
    refine rf_t wf1 rc_X10_isRoomItem_ok 3 (15, [some (.ref 0), none, none], [], σ) rfl rfl c1 rfl ?_
    refine rf_b wf1 rc_X10_isRoomItem_ok 7 1 (16, [some (.ref 0), none, none], [.int 0], σ) rfl ?_
    obtain rfl := Option.some.inj h
    exact rf_rz rc_X10_isRoomItem_ok 8 rfl rfl (by decide)
  · rw [if_neg c1] at h
    refine rf_f wf1 rc_X10_isRoomItem_ok 3 (8, [some (.ref 0), none, none], [], σ) rfl rfl c1 rfl ?_
    refine rf_b wf1 rc_X10_isRoomItem_ok 4 2 (12, [some (.ref 0), none, none], [.int (σ.1 0 13)], σ) rfl ?_
    by_cases c2 : (σ.1 0 13) ≤ 0
    · rw [if_pos c2] at h
      refine rf_t wf1 rc_X10_isRoomItem_ok 6 (17, [some (.ref 0), none, none], [], σ) rfl rfl c2 rfl ?_
      refine rf_b wf1 rc_X10_isRoomItem_ok 9 8 (29, [some (.ref 0), some (.int 0), none], [], (rf_sI σ 0 9 ((σ.1 0 9) + 1))) rfl ?_
      obtain ⟨e8, h9, h⟩ := Option.bind_eq_some_iff.mp h
      refine rf_lpG (b := f_X10_isRoomItem_b29) (G := fun (s29 : Int32 × rf_S) => rf_G ly1 (d + 3) mX10_isRoomItem (29, [some (.ref 0), some (.int s29.1), none], [], s29.2) (some (.int q.1) : Option Value) q.2) (K := fun (e : ((rf_S) ⊕ (Int32 × rf_S))) => (∀ z, e = .inl z → rf_G ly1 (d + 3) mX10_isRoomItem (70, [some (.ref 0), none, none], [], z) (some (.int q.1) : Option Value) q.2) ∧ (∀ y0 : (Int32 × rf_S), e = .inr y0 → (some (.int q.1) : Option Value) = (some (.int y0.1) : Option Value) ∧ q.2 = y0.2)) (fun (s29 : Int32 × rf_S) (o : (Int32 × rf_S) ⊕ ((rf_S) ⊕ (Int32 × rf_S))) hb kl kx => ok_X10_isRoomItem_b29 d  s29 o hb kl (fun e he => (kx _ he).1 e rfl) (fun q hq => (kx _ hq).2 q rfl)) 5000 (0, (rf_sI σ 0 9 ((σ.1 0 9) + 1))) e8 h9 ⟨?_, ?_⟩
      · intro z10 hz
        subst hz
        simp only [Sum.elim_inl] at h
        refine rf_b wf1 rc_X10_isRoomItem_ok 43 7 (81, [some (.ref 0), none, none], [.int 1], (rf_sI z10 0 12 ((z10.1 0 12) + 1))) rfl ?_
        obtain rfl := Option.some.inj h
        exact rf_rz rc_X10_isRoomItem_ok 50 rfl rfl (by decide)
      · intro y11 hz
        subst hz
        simp only [Sum.elim_inr] at h
        obtain rfl := Option.some.inj h
        exact ⟨rfl, rfl⟩
    · rw [if_neg c2] at h
      refine rf_f wf1 rc_X10_isRoomItem_ok 6 (15, [some (.ref 0), none, none], [], σ) rfl rfl c2 rfl ?_
      refine rf_b wf1 rc_X10_isRoomItem_ok 7 1 (16, [some (.ref 0), none, none], [.int 0], σ) rfl ?_
      obtain rfl := Option.some.inj h
      exact rf_rz rc_X10_isRoomItem_ok 8 rfl rfl (by decide)
def rc_X10_sortBy : List rf_E := [(0, .iload_n 0, 1, 0), (1, .bipush 111, 2, 0), (3, .if_icmp .ne 7, 3, 10), (6, .iconst 0, 1, 0), (7, .goto 54, 3, 61), (10, .iload_n 0, 1, 0), (11, .bipush 115, 2, 0), (13, .if_icmp .ne 7, 3, 20), (16, .iconst 1, 1, 0), (17, .goto 44, 3, 61), (20, .iload_n 0, 1, 0), (21, .bipush 116, 2, 0), (23, .if_icmp .ne 7, 3, 30), (26, .iconst 2, 1, 0), (27, .goto 34, 3, 61), (30, .iload_n 0, 1, 0), (31, .bipush 109, 2, 0), (33, .if_icmp .ne 7, 3, 40), (36, .iconst 3, 1, 0), (37, .goto 24, 3, 61), (40, .iload_n 0, 1, 0), (41, .bipush 102, 2, 0), (43, .if_icmp .ne 7, 3, 50), (46, .iconst 4, 1, 0), (47, .goto 14, 3, 61), (50, .iload_n 0, 1, 0), (51, .bipush 97, 2, 0), (53, .if_icmp .ne 7, 3, 60), (56, .iconst 5, 1, 0), (57, .goto 4, 3, 61), (60, .iconst (-1), 1, 0), (61, .ireturn, 1, 0)]
theorem rc_X10_sortBy_ok : rf_rc mX10_sortBy rc_X10_sortBy = true := by decide +kernel
theorem mw_X10_sortBy : rf_mw mX10_sortBy := ⟨rf_mt_ok _ (List.mem_of_getElem? (i := 171) rfl), fun _ => rf_ms_ok _ (List.mem_of_getElem? (i := 18) rfl), fun h => absurd h (by decide), rf_mq_6 _ (List.mem_of_getElem? (i := 21) rfl)⟩
def f_X10_sortBy (p0 : Int32) (σ : rf_S) : Option Int32 := if p0 ≠ 111 then (if p0 ≠ 115 then (if p0 ≠ 116 then (if p0 ≠ 109 then (if p0 ≠ 102 then (if p0 ≠ 97 then (some (-1)) else (some 5)) else (some 4)) else (some 3)) else (some 2)) else (some 1)) else (some 0)
set_option maxHeartbeats 2000000 in
theorem ok_X10_sortBy (d : Nat) (p0 : Int32) (σ : rf_S) (q : Int32) (h : f_X10_sortBy p0 σ = some q) : rf_Ex ly1 (d + 1) mX10_sortBy [.int p0] σ (some (.int q) : Option Value) σ := by
  unfold f_X10_sortBy at h
  refine rf_ex mw_X10_sortBy [some (.int p0)] (Nat.le_of_ble_eq_true rfl) rfl ?_
  refine rf_b wf1 rc_X10_sortBy_ok 0 2 (3, [some (.int p0)], [.int 111, .int p0], σ) rfl ?_
  by_cases c1 : p0 ≠ 111
  · rw [if_pos c1] at h
    refine rf_t wf1 rc_X10_sortBy_ok 2 (10, [some (.int p0)], [], σ) rfl rfl c1 rfl ?_
    refine rf_b wf1 rc_X10_sortBy_ok 5 2 (13, [some (.int p0)], [.int 115, .int p0], σ) rfl ?_
    by_cases c2 : p0 ≠ 115
    · rw [if_pos c2] at h
      refine rf_t wf1 rc_X10_sortBy_ok 7 (20, [some (.int p0)], [], σ) rfl rfl c2 rfl ?_
      refine rf_b wf1 rc_X10_sortBy_ok 10 2 (23, [some (.int p0)], [.int 116, .int p0], σ) rfl ?_
      by_cases c3 : p0 ≠ 116
      · rw [if_pos c3] at h
        refine rf_t wf1 rc_X10_sortBy_ok 12 (30, [some (.int p0)], [], σ) rfl rfl c3 rfl ?_
        refine rf_b wf1 rc_X10_sortBy_ok 15 2 (33, [some (.int p0)], [.int 109, .int p0], σ) rfl ?_
        by_cases c4 : p0 ≠ 109
        · rw [if_pos c4] at h
          refine rf_t wf1 rc_X10_sortBy_ok 17 (40, [some (.int p0)], [], σ) rfl rfl c4 rfl ?_
          refine rf_b wf1 rc_X10_sortBy_ok 20 2 (43, [some (.int p0)], [.int 102, .int p0], σ) rfl ?_
          by_cases c5 : p0 ≠ 102
          · rw [if_pos c5] at h
            refine rf_t wf1 rc_X10_sortBy_ok 22 (50, [some (.int p0)], [], σ) rfl rfl c5 rfl ?_
            refine rf_b wf1 rc_X10_sortBy_ok 25 2 (53, [some (.int p0)], [.int 97, .int p0], σ) rfl ?_
            by_cases c6 : p0 ≠ 97
            · rw [if_pos c6] at h
              refine rf_t wf1 rc_X10_sortBy_ok 27 (60, [some (.int p0)], [], σ) rfl rfl c6 rfl ?_
              refine rf_b wf1 rc_X10_sortBy_ok 30 1 (61, [some (.int p0)], [.int (-1)], σ) rfl ?_
              obtain rfl := Option.some.inj h
              exact rf_ri rc_X10_sortBy_ok 31 rfl rfl
            · rw [if_neg c6] at h
              refine rf_f wf1 rc_X10_sortBy_ok 27 (56, [some (.int p0)], [], σ) rfl rfl c6 rfl ?_
              refine rf_b wf1 rc_X10_sortBy_ok 28 2 (61, [some (.int p0)], [.int 5], σ) rfl ?_
              obtain rfl := Option.some.inj h
              exact rf_ri rc_X10_sortBy_ok 31 rfl rfl
          · rw [if_neg c5] at h
            refine rf_f wf1 rc_X10_sortBy_ok 22 (46, [some (.int p0)], [], σ) rfl rfl c5 rfl ?_
            refine rf_b wf1 rc_X10_sortBy_ok 23 2 (61, [some (.int p0)], [.int 4], σ) rfl ?_
            obtain rfl := Option.some.inj h
            exact rf_ri rc_X10_sortBy_ok 31 rfl rfl
        · rw [if_neg c4] at h
          refine rf_f wf1 rc_X10_sortBy_ok 17 (36, [some (.int p0)], [], σ) rfl rfl c4 rfl ?_
          refine rf_b wf1 rc_X10_sortBy_ok 18 2 (61, [some (.int p0)], [.int 3], σ) rfl ?_
          obtain rfl := Option.some.inj h
          exact rf_ri rc_X10_sortBy_ok 31 rfl rfl
      · rw [if_neg c3] at h
        refine rf_f wf1 rc_X10_sortBy_ok 12 (26, [some (.int p0)], [], σ) rfl rfl c3 rfl ?_
        refine rf_b wf1 rc_X10_sortBy_ok 13 2 (61, [some (.int p0)], [.int 2], σ) rfl ?_
        obtain rfl := Option.some.inj h
        exact rf_ri rc_X10_sortBy_ok 31 rfl rfl
    · rw [if_neg c2] at h
      refine rf_f wf1 rc_X10_sortBy_ok 7 (16, [some (.int p0)], [], σ) rfl rfl c2 rfl ?_
      refine rf_b wf1 rc_X10_sortBy_ok 8 2 (61, [some (.int p0)], [.int 1], σ) rfl ?_
      obtain rfl := Option.some.inj h
      exact rf_ri rc_X10_sortBy_ok 31 rfl rfl
  · rw [if_neg c1] at h
    refine rf_f wf1 rc_X10_sortBy_ok 2 (6, [some (.int p0)], [], σ) rfl rfl c1 rfl ?_
    refine rf_b wf1 rc_X10_sortBy_ok 3 2 (61, [some (.int p0)], [.int 0], σ) rfl ?_
    obtain rfl := Option.some.inj h
    exact rf_ri rc_X10_sortBy_ok 31 rfl rfl
def rc_X10_isMemberItem : List rf_E := [(0, .aload_n 0, 1, 0), (1, .aload_n 0, 1, 0), (2, .getfield 108, 3, 1009), (5, .invokevirtual 105, 3, 0), (8, .invokestatic 124, 3, 0), (11, .istore_n 1, 1, 1), (12, .iload_n 1, 1, 1), (13, .ifCond .lt 19, 3, 32), (16, .aload_n 0, 1, 0), (17, .getfield 115, 3, 1012), (20, .ifCond .eq 12, 3, 32), (23, .aload_n 0, 1, 0), (24, .getfield 118, 3, 1013), (27, .bipush 6, 2, 0), (29, .if_icmp .ne 5, 3, 34), (32, .iconst 0, 1, 0), (33, .ireturn, 1, 0), (34, .iconst 4, 1, 0), (35, .aload_n 0, 1, 0), (36, .getfield 118, 3, 1013), (39, .imul, 1, 0), (40, .istore_n 2, 1, 2), (41, .aload_n 0, 1, 0), (42, .dup, 1, 0), (43, .getfield 108, 3, 1009), (46, .iconst 1, 1, 0), (47, .iadd, 1, 0), (48, .putfield 108, 3, 1009), (51, .aload_n 0, 1, 0), (52, .getfield 32, 3, 1015), (55, .iload_n 2, 1, 2), (56, .iload_n 1, 1, 1), (57, .iastore, 1, 0), (58, .iconst 1, 1, 0), (59, .istore_n 3, 1, 3), (60, .iload_n 3, 1, 3), (61, .iconst 4, 1, 0), (62, .if_icmp .ge 63, 3, 125), (65, .iload_n 3, 1, 3), (66, .iconst 1, 1, 0), (67, .if_icmp .ne 13, 3, 80), (70, .aload_n 0, 1, 0), (71, .iconst 0, 1, 0), (72, .bipush 30, 2, 0), (74, .invokevirtual 121, 3, 0), (77, .goto 23, 3, 100), (80, .aload_n 0, 1, 0), (81, .iload_n 3, 1, 3), (82, .iconst 2, 1, 0), (83, .if_icmp .ne 8, 3, 91), (86, .bipush 9, 2, 0), (88, .goto 9, 3, 97), (91, .aload_n 0, 1, 0), (92, .getfield 115, 3, 1012), (95, .iconst 1, 1, 0), (96, .isub, 1, 0), (97, .invokevirtual 127, 3, 0), (100, .istore 4, 2, 4), (102, .iload 4, 2, 4), (104, .ifCond .ge 5, 3, 109), (107, .iconst 0, 1, 0), (108, .ireturn, 1, 0), (109, .aload_n 0, 1, 0), (110, .getfield 32, 3, 1015), (113, .iload_n 2, 1, 2), (114, .iload_n 3, 1, 3), (115, .iadd, 1, 0), (116, .iload 4, 2, 4), (118, .iastore, 1, 0), (119, .iinc 3 1, 3, 3), (122, .goto (-62), 3, 60), (125, .aload_n 0, 1, 0), (126, .dup, 1, 0), (127, .getfield 118, 3, 1013), (130, .iconst 1, 1, 0), (131, .iadd, 1, 0), (132, .putfield 118, 3, 1013), (135, .iconst 1, 1, 0), (136, .ireturn, 1, 0)]
theorem rc_X10_isMemberItem_ok : rf_rc mX10_isMemberItem rc_X10_isMemberItem = true := by decide +kernel
theorem mw_X10_isMemberItem : rf_mw mX10_isMemberItem := ⟨rf_mt_ok _ (List.mem_of_getElem? (i := 172) rfl), fun h => absurd h (by decide), fun _ => ⟨rf_mi_ok _ (List.mem_of_getElem? (i := 153) rfl), rf_mv_ok _ (List.mem_of_getElem? (i := 153) rfl)⟩, rf_mq_6 _ (List.mem_of_getElem? (i := 22) rfl)⟩
def f_X10_isMemberItem_j100 (l2 : Int32) (l3 : Int32) (t0 : Int32) (σ : rf_S) : Option ((Int32 × rf_S) ⊕ ((rf_S) ⊕ (Int32 × rf_S))) := if 0 ≤ t0 then (if rf_ck ly1 0 7 (l2 + l3) = true then (some (.inl ((l3 + 1), (rf_sI σ 7 (l2 + l3).toNatClampNeg t0)))) else none) else (some (.inr (.inr (0, σ))))
set_option maxHeartbeats 2000000 in
theorem ok_X10_isMemberItem_j100 (d : Nat) (l2 : Int32) (l3 : Int32) (t0 : Int32) (σ : rf_S) (o : ((Int32 × rf_S) ⊕ ((rf_S) ⊕ (Int32 × rf_S)))) (h : f_X10_isMemberItem_j100 l2 l3 t0 σ = some o) {r : Option Value} {σr : rf_S} (kl : ∀ s', o = .inl s' → rf_G ly1 (d + 3) mX10_isMemberItem (60, [some (.ref 0), none, some (.int l2), some (.int s'.1), none], [], s'.2) r σr) (kx : ∀ e, o = .inr (.inl e) → rf_G ly1 (d + 3) mX10_isMemberItem (125, [some (.ref 0), none, none, none, none], [], e) r σr) (kr : ∀ q : (Int32 × rf_S), o = .inr (.inr q) → r = (some (.int q.1) : Option Value) ∧ σr = q.2) : rf_G ly1 (d + 3) mX10_isMemberItem (100, [some (.ref 0), none, some (.int l2), some (.int l3), none], [.int t0], σ) r σr := by
  unfold f_X10_isMemberItem_j100 at h
  refine rf_b wf1 rc_X10_isMemberItem_ok 57 2 (104, [some (.ref 0), none, some (.int l2), some (.int l3), some (.int t0)], [.int t0], σ) rfl ?_
  by_cases c16 : 0 ≤ t0
  · rw [if_pos c16] at h
    refine rf_t wf1 rc_X10_isMemberItem_ok 59 (109, [some (.ref 0), none, some (.int l2), some (.int l3), some (.int t0)], [], σ) rfl rfl c16 rfl ?_
    refine rf_b wf1 rc_X10_isMemberItem_ok 62 6 (118, [some (.ref 0), none, some (.int l2), some (.int l3), some (.int t0)], [.int t0, .int (l2 + l3), .ref 7], σ) rfl ?_
    obtain ⟨g17, h⟩ := rf_ifn h
    refine rf_gd wf1 rc_X10_isMemberItem_ok 68 (119, [some (.ref 0), none, some (.int l2), some (.int l3), some (.int t0)], [], (rf_sI σ 7 (l2 + l3).toNatClampNeg t0)) rfl rfl g17 rfl ?_
    refine rf_b wf1 rc_X10_isMemberItem_ok 69 2 (60, [some (.ref 0), none, some (.int l2), some (.int (l3 + 1)), some (.int t0)], [], (rf_sI σ 7 (l2 + l3).toNatClampNeg t0)) rfl ?_
    refine rf_fg [true, true, true, true, false] [some (.ref 0), none, some (.int l2), some (.int (l3 + 1)), none] rfl ?_
    exact kl ((l3 + 1), (rf_sI σ 7 (l2 + l3).toNatClampNeg t0)) (Option.some.inj h).symm
  · rw [if_neg c16] at h
    refine rf_f wf1 rc_X10_isMemberItem_ok 59 (107, [some (.ref 0), none, some (.int l2), some (.int l3), some (.int t0)], [], σ) rfl rfl c16 rfl ?_
    refine rf_b wf1 rc_X10_isMemberItem_ok 60 1 (108, [some (.ref 0), none, some (.int l2), some (.int l3), some (.int t0)], [.int 0], σ) rfl ?_
    obtain ⟨e1, e2⟩ := kr (0, σ) (Option.some.inj h).symm
    subst e1
    subst e2
    exact rf_rz rc_X10_isMemberItem_ok 61 rfl rfl (by decide)
def f_X10_isMemberItem_j97 (l2 : Int32) (l3 : Int32) (t0 : Int32) (σ : rf_S) : Option ((Int32 × rf_S) ⊕ ((rf_S) ⊕ (Int32 × rf_S))) := (f_X10_one t0 σ).bind (fun q14 => f_X10_isMemberItem_j100 l2 l3 q14.1 q14.2)
set_option maxHeartbeats 2000000 in
theorem ok_X10_isMemberItem_j97 (d : Nat) (l2 : Int32) (l3 : Int32) (t0 : Int32) (σ : rf_S) (o : ((Int32 × rf_S) ⊕ ((rf_S) ⊕ (Int32 × rf_S)))) (h : f_X10_isMemberItem_j97 l2 l3 t0 σ = some o) {r : Option Value} {σr : rf_S} (kl : ∀ s', o = .inl s' → rf_G ly1 (d + 3) mX10_isMemberItem (60, [some (.ref 0), none, some (.int l2), some (.int s'.1), none], [], s'.2) r σr) (kx : ∀ e, o = .inr (.inl e) → rf_G ly1 (d + 3) mX10_isMemberItem (125, [some (.ref 0), none, none, none, none], [], e) r σr) (kr : ∀ q : (Int32 × rf_S), o = .inr (.inr q) → r = (some (.int q.1) : Option Value) ∧ σr = q.2) : rf_G ly1 (d + 3) mX10_isMemberItem (97, [some (.ref 0), none, some (.int l2), some (.int l3), none], [.int t0, .ref 0], σ) r σr := by
  unfold f_X10_isMemberItem_j97 at h
  obtain ⟨q14, h15, h⟩ := Option.bind_eq_some_iff.mp h
  refine rf_cv1 (Mt := mX10_one) wf1 rc_X10_isMemberItem_ok 56 false rfl (List.mem_of_getElem? (i := 152) rfl) mw_X10_one rfl 0 [.int t0] [] rfl rfl rfl (Nat.le_of_ble_eq_true rfl) (ok_X10_one (d + 1) t0 σ q14 h15) ?_
  show rf_G _ _ _ (100, [some (.ref 0), none, some (.int l2), some (.int l3), none], [.int q14.1], q14.2) _ _
  exact ok_X10_isMemberItem_j100 d l2 l3 q14.1 q14.2 o h kl kx kr
def f_X10_isMemberItem_b60 (l2 : Int32) (s60 : Int32 × rf_S) : Option ((Int32 × rf_S) ⊕ ((rf_S) ⊕ (Int32 × rf_S))) := if 4 ≤ s60.1 then (some (.inr (.inl s60.2))) else (if s60.1 ≠ 1 then (if s60.1 ≠ 2 then (f_X10_isMemberItem_j97 l2 s60.1 ((s60.2.1 0 12) - 1) s60.2) else (f_X10_isMemberItem_j97 l2 s60.1 9 s60.2)) else ((f_X10_two 0 30 s60.2).bind (fun q18 => f_X10_isMemberItem_j100 l2 s60.1 q18.1 q18.2)))
set_option maxHeartbeats 2000000 in
theorem ok_X10_isMemberItem_b60 (d : Nat) (l2 : Int32) (s60 : Int32 × rf_S) (o : ((Int32 × rf_S) ⊕ ((rf_S) ⊕ (Int32 × rf_S)))) (h : f_X10_isMemberItem_b60 l2 s60 = some o) {r : Option Value} {σr : rf_S} (kl : ∀ s', o = .inl s' → rf_G ly1 (d + 3) mX10_isMemberItem (60, [some (.ref 0), none, some (.int l2), some (.int s'.1), none], [], s'.2) r σr) (kx : ∀ e, o = .inr (.inl e) → rf_G ly1 (d + 3) mX10_isMemberItem (125, [some (.ref 0), none, none, none, none], [], e) r σr) (kr : ∀ q : (Int32 × rf_S), o = .inr (.inr q) → r = (some (.int q.1) : Option Value) ∧ σr = q.2) : rf_G ly1 (d + 3) mX10_isMemberItem (60, [some (.ref 0), none, some (.int l2), some (.int s60.1), none], [], s60.2) r σr := by
  unfold f_X10_isMemberItem_b60 at h
  refine rf_b wf1 rc_X10_isMemberItem_ok 35 2 (62, [some (.ref 0), none, some (.int l2), some (.int s60.1), none], [.int 4, .int s60.1], s60.2) rfl ?_
  by_cases c11 : 4 ≤ s60.1
  · rw [if_pos c11] at h
    refine rf_t wf1 rc_X10_isMemberItem_ok 37 (125, [some (.ref 0), none, some (.int l2), some (.int s60.1), none], [], s60.2) rfl rfl c11 rfl ?_
    refine rf_fg [true, true, false, false, true] [some (.ref 0), none, none, none, none] rfl ?_
    exact kx s60.2 (Option.some.inj h).symm
  · rw [if_neg c11] at h
    refine rf_f wf1 rc_X10_isMemberItem_ok 37 (65, [some (.ref 0), none, some (.int l2), some (.int s60.1), none], [], s60.2) rfl rfl c11 rfl ?_
    refine rf_b wf1 rc_X10_isMemberItem_ok 38 2 (67, [some (.ref 0), none, some (.int l2), some (.int s60.1), none], [.int 1, .int s60.1], s60.2) rfl ?_
    by_cases c12 : s60.1 ≠ 1
    · rw [if_pos c12] at h
      refine rf_t wf1 rc_X10_isMemberItem_ok 40 (80, [some (.ref 0), none, some (.int l2), some (.int s60.1), none], [], s60.2) rfl rfl c12 rfl ?_
      refine rf_b wf1 rc_X10_isMemberItem_ok 46 3 (83, [some (.ref 0), none, some (.int l2), some (.int s60.1), none], [.int 2, .int s60.1, .ref 0], s60.2) rfl ?_
      by_cases c13 : s60.1 ≠ 2
      · rw [if_pos c13] at h
        refine rf_t wf1 rc_X10_isMemberItem_ok 49 (91, [some (.ref 0), none, some (.int l2), some (.int s60.1), none], [.ref 0], s60.2) rfl rfl c13 rfl ?_
        refine rf_b wf1 rc_X10_isMemberItem_ok 52 4 (97, [some (.ref 0), none, some (.int l2), some (.int s60.1), none], [.int ((s60.2.1 0 12) - 1), .ref 0], s60.2) rfl ?_
        exact ok_X10_isMemberItem_j97 d l2 s60.1 ((s60.2.1 0 12) - 1) s60.2 o h kl kx kr
      · rw [if_neg c13] at h
        refine rf_f wf1 rc_X10_isMemberItem_ok 49 (86, [some (.ref 0), none, some (.int l2), some (.int s60.1), none], [.ref 0], s60.2) rfl rfl c13 rfl ?_
        refine rf_b wf1 rc_X10_isMemberItem_ok 50 2 (97, [some (.ref 0), none, some (.int l2), some (.int s60.1), none], [.int 9, .ref 0], s60.2) rfl ?_
        exact ok_X10_isMemberItem_j97 d l2 s60.1 9 s60.2 o h kl kx kr
    · rw [if_neg c12] at h
      refine rf_f wf1 rc_X10_isMemberItem_ok 40 (70, [some (.ref 0), none, some (.int l2), some (.int s60.1), none], [], s60.2) rfl rfl c12 rfl ?_
      refine rf_b wf1 rc_X10_isMemberItem_ok 41 3 (74, [some (.ref 0), none, some (.int l2), some (.int s60.1), none], [.int 30, .int 0, .ref 0], s60.2) rfl ?_
      obtain ⟨q18, h19, h⟩ := Option.bind_eq_some_iff.mp h
      refine rf_cv1 (Mt := mX10_two) wf1 rc_X10_isMemberItem_ok 44 false rfl (List.mem_of_getElem? (i := 150) rfl) mw_X10_two rfl 0 [.int 0, .int 30] [] rfl rfl rfl (Nat.le_of_ble_eq_true rfl) (ok_X10_two d 0 30 s60.2 q18 h19) ?_
      show rf_G _ _ _ (77, [some (.ref 0), none, some (.int l2), some (.int s60.1), none], [.int q18.1], q18.2) _ _
      refine rf_b wf1 rc_X10_isMemberItem_ok 45 1 (100, [some (.ref 0), none, some (.int l2), some (.int s60.1), none], [.int q18.1], q18.2) rfl ?_
      exact ok_X10_isMemberItem_j100 d l2 s60.1 q18.1 q18.2 o h kl kx kr
def f_X10_isMemberItem (σ : rf_S) : Option (Int32 × rf_S) := (f_X10_letterAt (σ.1 0 9) σ).bind (fun q1 => (f_X10_sortBy q1 σ).bind (fun q3 => if q3 < 0 then (some (0, σ)) else (if (σ.1 0 12) = 0 then (some (0, σ)) else (if (σ.1 0 13) ≠ 6 then (if rf_ck ly1 0 7 (4 * (σ.1 0 13)) = true then ((some (rf_sI (rf_sI σ 0 9 ((σ.1 0 9) + 1)) 7 (4 * (σ.1 0 13)).toNatClampNeg q3)).bind (fun σ9 => (rf_lp (f_X10_isMemberItem_b60 (4 * (σ.1 0 13))) 5000 (1, σ9)).bind (fun e20 => Sum.elim (fun z22 => some (1, (rf_sI z22 0 13 ((z22.1 0 13) + 1)))) (fun y23 => some y23) e20))) else none) else (some (0, σ))))))
set_option maxHeartbeats 2000000 in
theorem ok_X10_isMemberItem (d : Nat) (σ : rf_S) (q : (Int32 × rf_S)) (h : f_X10_isMemberItem σ = some q) : rf_Ex ly1 (d + 4) mX10_isMemberItem [.ref 0] σ (some (.int q.1) : Option Value) q.2 := by
  unfold f_X10_isMemberItem at h
  refine rf_ex mw_X10_isMemberItem [some (.ref 0), none, none, none, none] (Nat.le_of_ble_eq_true rfl) rfl ?_
  refine rf_b wf1 rc_X10_isMemberItem_ok 0 3 (5, [some (.ref 0), none, none, none, none], [.int (σ.1 0 9), .ref 0], σ) rfl ?_
  obtain ⟨q1, h2, h⟩ := Option.bind_eq_some_iff.mp h
  refine rf_cv1 (Mt := mX10_letterAt) wf1 rc_X10_isMemberItem_ok 3 false rfl (List.mem_of_getElem? (i := 148) rfl) mw_X10_letterAt rfl 0 [.int (σ.1 0 9)] [] rfl rfl rfl (Nat.le_of_ble_eq_true rfl) (ok_X10_letterAt (d + 2) (σ.1 0 9) σ q1 h2) ?_
  show rf_G _ _ _ (8, [some (.ref 0), none, none, none, none], [.int q1], σ) _ _
  obtain ⟨q3, h4, h⟩ := Option.bind_eq_some_iff.mp h
  refine rf_cs1 (Mt := mX10_sortBy) rc_X10_isMemberItem_ok 4 false rfl (List.mem_of_getElem? (i := 151) rfl) mw_X10_sortBy rfl [.int q1] [] rfl rfl (Nat.le_of_ble_eq_true rfl) (ok_X10_sortBy (d + 2) q1 σ q3 h4) ?_
  show rf_G _ _ _ (11, [some (.ref 0), none, none, none, none], [.int q3], σ) _ _
  refine rf_b wf1 rc_X10_isMemberItem_ok 5 2 (13, [some (.ref 0), some (.int q3), none, none, none], [.int q3], σ) rfl ?_
  by_cases c5 : q3 < 0
  · rw [if_pos c5] at h
    refine rf_t wf1 rc_X10_isMemberItem_ok 7 (32, [some (.ref 0), some (.int q3), none, none, none], [], σ) rfl rfl c5 rfl ?_
    refine rf_b wf1 rc_X10_isMemberItem_ok 15 1 (33, [some (.ref 0), some (.int q3), none, none, none], [.int 0], σ) rfl ?_
    obtain rfl := Option.some.inj h
    exact rf_rz rc_X10_isMemberItem_ok 16 rfl rfl (by decide)
  · rw [if_neg c5] at h
    refine rf_f wf1 rc_X10_isMemberItem_ok 7 (16, [some (.ref 0), some (.int q3), none, none, none], [], σ) rfl rfl c5 rfl ?_
    refine rf_b wf1 rc_X10_isMemberItem_ok 8 2 (20, [some (.ref 0), some (.int q3), none, none, none], [.int (σ.1 0 12)], σ) rfl ?_
    by_cases c6 : (σ.1 0 12) = 0
    · rw [if_pos c6] at h
      refine rf_t wf1 rc_X10_isMemberItem_ok 10 (32, [some (.ref 0), some (.int q3), none, none, none], [], σ) rfl rfl c6 rfl ?_
      refine rf_b wf1 rc_X10_isMemberItem_ok 15 1 (33, [some (.ref 0), some (.int q3), none, none, none], [.int 0], σ) rfl ?_
      obtain rfl := Option.some.inj h
      exact rf_rz rc_X10_isMemberItem_ok 16 rfl rfl (by decide)
    · rw [if_neg c6] at h
      refine rf_f wf1 rc_X10_isMemberItem_ok 10 (23, [some (.ref 0), some (.int q3), none, none, none], [], σ) rfl rfl c6 rfl ?_
      refine rf_b wf1 rc_X10_isMemberItem_ok 11 3 (29, [some (.ref 0), some (.int q3), none, none, none], [.int 6, .int (σ.1 0 13)], σ) rfl ?_
      by_cases c7 : (σ.1 0 13) ≠ 6
      · rw [if_pos c7] at h
        refine rf_t wf1 rc_X10_isMemberItem_ok 14 (34, [some (.ref 0), some (.int q3), none, none, none], [], σ) rfl rfl c7 rfl ?_
        refine rf_b wf1 rc_X10_isMemberItem_ok 17 15 (57, [some (.ref 0), some (.int q3), some (.int (4 * (σ.1 0 13))), none, none], [.int q3, .int (4 * (σ.1 0 13)), .ref 7], (rf_sI σ 0 9 ((σ.1 0 9) + 1))) rfl ?_
        obtain ⟨g8, h⟩ := rf_ifn h
        refine rf_gd wf1 rc_X10_isMemberItem_ok 32 (58, [some (.ref 0), some (.int q3), some (.int (4 * (σ.1 0 13))), none, none], [], (rf_sI (rf_sI σ 0 9 ((σ.1 0 9) + 1)) 7 (4 * (σ.1 0 13)).toNatClampNeg q3)) rfl rfl g8 rfl ?_
        obtain ⟨σ9, h10, h⟩ := Option.bind_eq_some_iff.mp h
        refine rf_sgb (Option.some.inj h10) ?_
        refine rf_b wf1 rc_X10_isMemberItem_ok 33 2 (60, [some (.ref 0), some (.int q3), some (.int (4 * (σ.1 0 13))), some (.int 1), none], [], σ9) rfl ?_
        refine rf_fg [true, false, true, true, true] [some (.ref 0), none, some (.int (4 * (σ.1 0 13))), some (.int 1), none] rfl ?_
        obtain ⟨e20, h21, h⟩ := Option.bind_eq_some_iff.mp h
        refine rf_lpG (b := f_X10_isMemberItem_b60 (4 * (σ.1 0 13))) (G := fun (s60 : Int32 × rf_S) => rf_G ly1 (d + 3) mX10_isMemberItem (60, [some (.ref 0), none, some (.int (4 * (σ.1 0 13))), some (.int s60.1), none], [], s60.2) (some (.int q.1) : Option Value) q.2) (K := fun (e : ((rf_S) ⊕ (Int32 × rf_S))) => (∀ z, e = .inl z → rf_G ly1 (d + 3) mX10_isMemberItem (125, [some (.ref 0), none, none, none, none], [], z) (some (.int q.1) : Option Value) q.2) ∧ (∀ y0 : (Int32 × rf_S), e = .inr y0 → (some (.int q.1) : Option Value) = (some (.int y0.1) : Option Value) ∧ q.2 = y0.2)) (fun (s60 : Int32 × rf_S) (o : (Int32 × rf_S) ⊕ ((rf_S) ⊕ (Int32 × rf_S))) hb kl kx => ok_X10_isMemberItem_b60 d (4 * (σ.1 0 13)) s60 o hb kl (fun e he => (kx _ he).1 e rfl) (fun q hq => (kx _ hq).2 q rfl)) 5000 (1, σ9) e20 h21 ⟨?_, ?_⟩
        · intro z22 hz
          subst hz
          simp only [Sum.elim_inl] at h
          refine rf_b wf1 rc_X10_isMemberItem_ok 71 7 (136, [some (.ref 0), none, none, none, none], [.int 1], (rf_sI z22 0 13 ((z22.1 0 13) + 1))) rfl ?_
          obtain rfl := Option.some.inj h
          exact rf_rz rc_X10_isMemberItem_ok 78 rfl rfl (by decide)
        · intro y23 hz
          subst hz
          simp only [Sum.elim_inr] at h
          obtain rfl := Option.some.inj h
          exact ⟨rfl, rfl⟩
      · rw [if_neg c7] at h
        refine rf_f wf1 rc_X10_isMemberItem_ok 14 (32, [some (.ref 0), some (.int q3), none, none, none], [], σ) rfl rfl c7 rfl ?_
        refine rf_b wf1 rc_X10_isMemberItem_ok 15 1 (33, [some (.ref 0), some (.int q3), none, none, none], [.int 0], σ) rfl ?_
        obtain rfl := Option.some.inj h
        exact rf_rz rc_X10_isMemberItem_ok 16 rfl rfl (by decide)
def rc_X10_skip : List rf_E := [(0, .aload_n 0, 1, 0), (1, .aload_n 0, 1, 0), (2, .getfield 108, 3, 1009), (5, .invokevirtual 105, 3, 0), (8, .bipush 32, 2, 0), (10, .if_icmp .ne 16, 3, 26), (13, .aload_n 0, 1, 0), (14, .dup, 1, 0), (15, .getfield 108, 3, 1009), (18, .iconst 1, 1, 0), (19, .iadd, 1, 0), (20, .putfield 108, 3, 1009), (23, .goto (-23), 3, 0), (26, .return_, 1, 0)]
theorem rc_X10_skip_ok : rf_rc mX10_skip rc_X10_skip = true := by decide +kernel
theorem mw_X10_skip : rf_mw mX10_skip := ⟨rf_mt_ok _ (List.mem_of_getElem? (i := 173) rfl), fun h => absurd h (by decide), fun _ => ⟨rf_mi_ok _ (List.mem_of_getElem? (i := 154) rfl), rf_mv_ok _ (List.mem_of_getElem? (i := 154) rfl)⟩, rf_mq_6 _ (List.mem_of_getElem? (i := 23) rfl)⟩
def f_X10_skip_b0 (s0 : rf_S) : Option ((rf_S) ⊕ (rf_S)) := (f_X10_letterAt (s0.1 0 9) s0).bind (fun q1 => if q1 ≠ 32 then (some (.inr s0)) else (some (.inl (rf_sI s0 0 9 ((s0.1 0 9) + 1)))))
set_option maxHeartbeats 2000000 in
theorem ok_X10_skip_b0 (d : Nat) (s0 : rf_S) (o : ((rf_S) ⊕ (rf_S))) (h : f_X10_skip_b0 s0 = some o) {r : Option Value} {σr : rf_S} (kl : ∀ s', o = .inl s' → rf_G ly1 (d + 1) mX10_skip (0, [some (.ref 0)], [], s') r σr) (kx : ∀ e, o = .inr e → rf_G ly1 (d + 1) mX10_skip (26, [none], [], e) r σr) : rf_G ly1 (d + 1) mX10_skip (0, [some (.ref 0)], [], s0) r σr := by
  unfold f_X10_skip_b0 at h
  refine rf_b wf1 rc_X10_skip_ok 0 3 (5, [some (.ref 0)], [.int (s0.1 0 9), .ref 0], s0) rfl ?_
  obtain ⟨q1, h2, h⟩ := Option.bind_eq_some_iff.mp h
  refine rf_cv1 (Mt := mX10_letterAt) wf1 rc_X10_skip_ok 3 false rfl (List.mem_of_getElem? (i := 148) rfl) mw_X10_letterAt rfl 0 [.int (s0.1 0 9)] [] rfl rfl rfl (Nat.le_of_ble_eq_true rfl) (ok_X10_letterAt d (s0.1 0 9) s0 q1 h2) ?_
  show rf_G _ _ _ (8, [some (.ref 0)], [.int q1], s0) _ _
  refine rf_b wf1 rc_X10_skip_ok 4 1 (10, [some (.ref 0)], [.int 32, .int q1], s0) rfl ?_
  by_cases c3 : q1 ≠ 32
  · rw [if_pos c3] at h
    refine rf_t wf1 rc_X10_skip_ok 5 (26, [some (.ref 0)], [], s0) rfl rfl c3 rfl ?_
    refine rf_fg [false] [none] rfl ?_
    exact kx s0 (Option.some.inj h).symm
  · rw [if_neg c3] at h
    refine rf_f wf1 rc_X10_skip_ok 5 (13, [some (.ref 0)], [], s0) rfl rfl c3 rfl ?_
    refine rf_b wf1 rc_X10_skip_ok 6 7 (0, [some (.ref 0)], [], (rf_sI s0 0 9 ((s0.1 0 9) + 1))) rfl ?_
    exact kl (rf_sI s0 0 9 ((s0.1 0 9) + 1)) (Option.some.inj h).symm
def f_X10_skip (σ : rf_S) : Option rf_S := (rf_lp f_X10_skip_b0 5000 σ).bind (fun e4 => some e4)
set_option maxHeartbeats 2000000 in
theorem ok_X10_skip (d : Nat) (σ : rf_S) (q : rf_S) (h : f_X10_skip σ = some q) : rf_Ex ly1 (d + 2) mX10_skip [.ref 0] σ none q := by
  unfold f_X10_skip at h
  refine rf_ex mw_X10_skip [some (.ref 0)] (Nat.le_of_ble_eq_true rfl) rfl ?_
  obtain ⟨e4, h5, h⟩ := Option.bind_eq_some_iff.mp h
  refine rf_lpG (b := f_X10_skip_b0) (G := fun (s0 : rf_S) => rf_G ly1 (d + 1) mX10_skip (0, [some (.ref 0)], [], s0) none q) (K := fun (e : (rf_S)) => rf_G ly1 (d + 1) mX10_skip (26, [none], [], e) none q) (fun (s0 : rf_S) (o : (rf_S) ⊕ (rf_S)) hb kl kx => ok_X10_skip_b0 d  s0 o hb kl kx) 5000 σ e4 h5 ?_
  show rf_G _ _ _ (26, [none], [], e4) _ _
  obtain rfl := Option.some.inj h
  exact rf_rv rc_X10_skip_ok 13 rfl rfl
def rc_X10_read : List rf_E := [(0, .aload_n 0, 1, 0), (1, .bipush 60, 2, 0), (3, .iload_n 1, 1, 1), (4, .imul, 1, 0), (5, .putfield 102, 3, 1010), (8, .aload_n 0, 1, 0), (9, .aload_n 0, 1, 0), (10, .getfield 16, 3, 1002), (13, .iload_n 1, 1, 1), (14, .iaload, 1, 0), (15, .putfield 99, 3, 1011), (18, .aload_n 0, 1, 0), (19, .iconst 0, 1, 0), (20, .putfield 108, 3, 1009), (23, .aload_n 0, 1, 0), (24, .iconst 0, 1, 0), (25, .putfield 115, 3, 1012), (28, .aload_n 0, 1, 0), (29, .iconst 0, 1, 0), (30, .putfield 118, 3, 1013), (33, .aload_n 0, 1, 0), (34, .invokevirtual 130, 3, 0), (37, .aload_n 0, 1, 0), (38, .getfield 108, 3, 1009), (41, .aload_n 0, 1, 0), (42, .getfield 99, 3, 1011), (45, .if_icmp .ge 44, 3, 89), (48, .aload_n 0, 1, 0), (49, .aload_n 0, 1, 0), (50, .getfield 108, 3, 1009), (53, .invokevirtual 105, 3, 0), (56, .bipush 114, 2, 0), (58, .if_icmp .ne 10, 3, 68), (61, .aload_n 0, 1, 0), (62, .invokevirtual 133, 3, 0), (65, .goto 7, 3, 72), (68, .aload_n 0, 1, 0), (69, .invokevirtual 137, 3, 0), (72, .istore_n 2, 1, 2), (73, .iload_n 2, 1, 2), (74, .ifCond .ne 8, 3, 82), (77, .aload_n 0, 1, 0), (78, .getfield 108, 3, 1009), (81, .ireturn, 1, 0), (82, .aload_n 0, 1, 0), (83, .invokevirtual 130, 3, 0), (86, .goto (-49), 3, 37), (89, .aload_n 0, 1, 0), (90, .getfield 118, 3, 1013), (93, .ifCond .ne 10, 3, 103), (96, .aload_n 0, 1, 0), (97, .getfield 99, 3, 1011), (100, .goto 5, 3, 105), (103, .bipush (-9), 2, 0), (105, .ireturn, 1, 0)]
theorem rc_X10_read_ok : rf_rc mX10_read rc_X10_read = true := by decide +kernel
theorem mw_X10_read : rf_mw mX10_read := ⟨rf_mt_ok _ (List.mem_of_getElem? (i := 174) rfl), fun h => absurd h (by decide), fun _ => ⟨rf_mi_ok _ (List.mem_of_getElem? (i := 155) rfl), rf_mv_ok _ (List.mem_of_getElem? (i := 155) rfl)⟩, rf_mq_6 _ (List.mem_of_getElem? (i := 24) rfl)⟩
def f_X10_read_j72 (t0 : Int32) (σ : rf_S) : Option ((rf_S) ⊕ ((rf_S) ⊕ (Int32 × rf_S))) := if t0 ≠ 0 then ((f_X10_skip σ).bind (fun q13 => some (.inl q13))) else (some (.inr (.inr ((σ.1 0 9), σ))))
set_option maxHeartbeats 2000000 in
theorem ok_X10_read_j72 (d : Nat) (t0 : Int32) (σ : rf_S) (o : ((rf_S) ⊕ ((rf_S) ⊕ (Int32 × rf_S)))) (h : f_X10_read_j72 t0 σ = some o) {r : Option Value} {σr : rf_S} (kl : ∀ s', o = .inl s' → rf_G ly1 (d + 4) mX10_read (37, [some (.ref 0), none, none], [], s') r σr) (kx : ∀ e, o = .inr (.inl e) → rf_G ly1 (d + 4) mX10_read (89, [some (.ref 0), none, none], [], e) r σr) (kr : ∀ q : (Int32 × rf_S), o = .inr (.inr q) → r = (some (.int q.1) : Option Value) ∧ σr = q.2) : rf_G ly1 (d + 4) mX10_read (72, [some (.ref 0), none, none], [.int t0], σ) r σr := by
  unfold f_X10_read_j72 at h
  refine rf_b wf1 rc_X10_read_ok 38 2 (74, [some (.ref 0), none, some (.int t0)], [.int t0], σ) rfl ?_
  by_cases c12 : t0 ≠ 0
  · rw [if_pos c12] at h
    refine rf_t wf1 rc_X10_read_ok 40 (82, [some (.ref 0), none, some (.int t0)], [], σ) rfl rfl c12 rfl ?_
    refine rf_b wf1 rc_X10_read_ok 44 1 (83, [some (.ref 0), none, some (.int t0)], [.ref 0], σ) rfl ?_
    obtain ⟨q13, h14, h⟩ := Option.bind_eq_some_iff.mp h
    refine rf_cv1 (Mt := mX10_skip) wf1 rc_X10_read_ok 45 false rfl (List.mem_of_getElem? (i := 153) rfl) mw_X10_skip rfl 0 [] [] rfl rfl rfl (Nat.le_of_ble_eq_true rfl) (ok_X10_skip (d + 2)  σ q13 h14) ?_
    show rf_G _ _ _ (86, [some (.ref 0), none, some (.int t0)], [], q13) _ _
    refine rf_b wf1 rc_X10_read_ok 46 1 (37, [some (.ref 0), none, some (.int t0)], [], q13) rfl ?_
    refine rf_fg [true, true, false] [some (.ref 0), none, none] rfl ?_
    exact kl q13 (Option.some.inj h).symm
  · rw [if_neg c12] at h
    refine rf_f wf1 rc_X10_read_ok 40 (77, [some (.ref 0), none, some (.int t0)], [], σ) rfl rfl c12 rfl ?_
    refine rf_b wf1 rc_X10_read_ok 41 2 (81, [some (.ref 0), none, some (.int t0)], [.int (σ.1 0 9)], σ) rfl ?_
    obtain ⟨e1, e2⟩ := kr ((σ.1 0 9), σ) (Option.some.inj h).symm
    subst e1
    subst e2
    exact rf_ri rc_X10_read_ok 43 rfl rfl
def f_X10_read_b37 (s37 : rf_S) : Option ((rf_S) ⊕ ((rf_S) ⊕ (Int32 × rf_S))) := if (s37.1 0 11) ≤ (s37.1 0 9) then (some (.inr (.inl s37))) else ((f_X10_letterAt (s37.1 0 9) s37).bind (fun q7 => if q7 ≠ 114 then ((f_X10_isMemberItem s37).bind (fun q10 => f_X10_read_j72 q10.1 q10.2)) else ((f_X10_isRoomItem s37).bind (fun q15 => f_X10_read_j72 q15.1 q15.2))))
set_option maxHeartbeats 2000000 in
theorem ok_X10_read_b37 (d : Nat) (s37 : rf_S) (o : ((rf_S) ⊕ ((rf_S) ⊕ (Int32 × rf_S)))) (h : f_X10_read_b37 s37 = some o) {r : Option Value} {σr : rf_S} (kl : ∀ s', o = .inl s' → rf_G ly1 (d + 4) mX10_read (37, [some (.ref 0), none, none], [], s') r σr) (kx : ∀ e, o = .inr (.inl e) → rf_G ly1 (d + 4) mX10_read (89, [some (.ref 0), none, none], [], e) r σr) (kr : ∀ q : (Int32 × rf_S), o = .inr (.inr q) → r = (some (.int q.1) : Option Value) ∧ σr = q.2) : rf_G ly1 (d + 4) mX10_read (37, [some (.ref 0), none, none], [], s37) r σr := by
  unfold f_X10_read_b37 at h
  refine rf_b wf1 rc_X10_read_ok 22 4 (45, [some (.ref 0), none, none], [.int (s37.1 0 11), .int (s37.1 0 9)], s37) rfl ?_
  by_cases c6 : (s37.1 0 11) ≤ (s37.1 0 9)
  · rw [if_pos c6] at h
    refine rf_t wf1 rc_X10_read_ok 26 (89, [some (.ref 0), none, none], [], s37) rfl rfl c6 rfl ?_
    exact kx s37 (Option.some.inj h).symm
  · rw [if_neg c6] at h
    refine rf_f wf1 rc_X10_read_ok 26 (48, [some (.ref 0), none, none], [], s37) rfl rfl c6 rfl ?_
    refine rf_b wf1 rc_X10_read_ok 27 3 (53, [some (.ref 0), none, none], [.int (s37.1 0 9), .ref 0], s37) rfl ?_
    obtain ⟨q7, h8, h⟩ := Option.bind_eq_some_iff.mp h
    refine rf_cv1 (Mt := mX10_letterAt) wf1 rc_X10_read_ok 30 false rfl (List.mem_of_getElem? (i := 148) rfl) mw_X10_letterAt rfl 0 [.int (s37.1 0 9)] [] rfl rfl rfl (Nat.le_of_ble_eq_true rfl) (ok_X10_letterAt (d + 3) (s37.1 0 9) s37 q7 h8) ?_
    show rf_G _ _ _ (56, [some (.ref 0), none, none], [.int q7], s37) _ _
    refine rf_b wf1 rc_X10_read_ok 31 1 (58, [some (.ref 0), none, none], [.int 114, .int q7], s37) rfl ?_
    by_cases c9 : q7 ≠ 114
    · rw [if_pos c9] at h
      refine rf_t wf1 rc_X10_read_ok 32 (68, [some (.ref 0), none, none], [], s37) rfl rfl c9 rfl ?_
      refine rf_b wf1 rc_X10_read_ok 36 1 (69, [some (.ref 0), none, none], [.ref 0], s37) rfl ?_
      obtain ⟨q10, h11, h⟩ := Option.bind_eq_some_iff.mp h
      refine rf_cv1 (Mt := mX10_isMemberItem) wf1 rc_X10_read_ok 37 false rfl (List.mem_of_getElem? (i := 155) rfl) mw_X10_isMemberItem rfl 0 [] [] rfl rfl rfl (Nat.le_of_ble_eq_true rfl) (ok_X10_isMemberItem d  s37 q10 h11) ?_
      show rf_G _ _ _ (72, [some (.ref 0), none, none], [.int q10.1], q10.2) _ _
      exact ok_X10_read_j72 d q10.1 q10.2 o h kl kx kr
    · rw [if_neg c9] at h
      refine rf_f wf1 rc_X10_read_ok 32 (61, [some (.ref 0), none, none], [], s37) rfl rfl c9 rfl ?_
      refine rf_b wf1 rc_X10_read_ok 33 1 (62, [some (.ref 0), none, none], [.ref 0], s37) rfl ?_
      obtain ⟨q15, h16, h⟩ := Option.bind_eq_some_iff.mp h
      refine rf_cv1 (Mt := mX10_isRoomItem) wf1 rc_X10_read_ok 34 false rfl (List.mem_of_getElem? (i := 154) rfl) mw_X10_isRoomItem rfl 0 [] [] rfl rfl rfl (Nat.le_of_ble_eq_true rfl) (ok_X10_isRoomItem d  s37 q15 h16) ?_
      show rf_G _ _ _ (65, [some (.ref 0), none, none], [.int q15.1], q15.2) _ _
      refine rf_b wf1 rc_X10_read_ok 35 1 (72, [some (.ref 0), none, none], [.int q15.1], q15.2) rfl ?_
      exact ok_X10_read_j72 d q15.1 q15.2 o h kl kx kr
def f_X10_read (p0 : Int32) (σ : rf_S) : Option (Int32 × rf_S) := if rf_ck ly1 0 3 p0 = true then ((some (rf_sI (rf_sI σ 0 10 (60 * p0)) 0 11 ((rf_sI σ 0 10 (60 * p0)).1 3 p0.toNatClampNeg))).bind (fun σ2 => (f_X10_skip (rf_sI (rf_sI (rf_sI σ2 0 9 0) 0 12 0) 0 13 0)).bind (fun q4 => (rf_lp f_X10_read_b37 5000 q4).bind (fun e17 => Sum.elim (fun z19 => if (z19.1 0 13) ≠ 0 then (some ((-9), z19)) else (some ((z19.1 0 11), z19))) (fun y21 => some y21) e17)))) else none
set_option maxHeartbeats 2000000 in
theorem ok_X10_read (d : Nat) (p0 : Int32) (σ : rf_S) (q : (Int32 × rf_S)) (h : f_X10_read p0 σ = some q) : rf_Ex ly1 (d + 5) mX10_read [.ref 0, .int p0] σ (some (.int q.1) : Option Value) q.2 := by
  unfold f_X10_read at h
  refine rf_ex mw_X10_read [some (.ref 0), some (.int p0), none] (Nat.le_of_ble_eq_true rfl) rfl ?_
  refine rf_b wf1 rc_X10_read_ok 0 9 (14, [some (.ref 0), some (.int p0), none], [.int p0, .ref 3, .ref 0], (rf_sI σ 0 10 (60 * p0))) rfl ?_
  obtain ⟨g1, h⟩ := rf_ifn h
  refine rf_gd wf1 rc_X10_read_ok 9 (15, [some (.ref 0), some (.int p0), none], [.int ((rf_sI σ 0 10 (60 * p0)).1 3 p0.toNatClampNeg), .ref 0], (rf_sI σ 0 10 (60 * p0))) rfl rfl g1 rfl ?_
  refine rf_b wf1 rc_X10_read_ok 10 1 (18, [some (.ref 0), some (.int p0), none], [], (rf_sI (rf_sI σ 0 10 (60 * p0)) 0 11 ((rf_sI σ 0 10 (60 * p0)).1 3 p0.toNatClampNeg))) rfl ?_
  obtain ⟨σ2, h3, h⟩ := Option.bind_eq_some_iff.mp h
  refine rf_sgb (Option.some.inj h3) ?_
  refine rf_b wf1 rc_X10_read_ok 11 10 (34, [some (.ref 0), some (.int p0), none], [.ref 0], (rf_sI (rf_sI (rf_sI σ2 0 9 0) 0 12 0) 0 13 0)) rfl ?_
  obtain ⟨q4, h5, h⟩ := Option.bind_eq_some_iff.mp h
  refine rf_cv1 (Mt := mX10_skip) wf1 rc_X10_read_ok 21 false rfl (List.mem_of_getElem? (i := 153) rfl) mw_X10_skip rfl 0 [] [] rfl rfl rfl (Nat.le_of_ble_eq_true rfl) (ok_X10_skip (d + 2)  (rf_sI (rf_sI (rf_sI σ2 0 9 0) 0 12 0) 0 13 0) q4 h5) ?_
  show rf_G _ _ _ (37, [some (.ref 0), some (.int p0), none], [], q4) _ _
  refine rf_fg [true, false, true] [some (.ref 0), none, none] rfl ?_
  obtain ⟨e17, h18, h⟩ := Option.bind_eq_some_iff.mp h
  refine rf_lpG (b := f_X10_read_b37) (G := fun (s37 : rf_S) => rf_G ly1 (d + 4) mX10_read (37, [some (.ref 0), none, none], [], s37) (some (.int q.1) : Option Value) q.2) (K := fun (e : ((rf_S) ⊕ (Int32 × rf_S))) => (∀ z, e = .inl z → rf_G ly1 (d + 4) mX10_read (89, [some (.ref 0), none, none], [], z) (some (.int q.1) : Option Value) q.2) ∧ (∀ y0 : (Int32 × rf_S), e = .inr y0 → (some (.int q.1) : Option Value) = (some (.int y0.1) : Option Value) ∧ q.2 = y0.2)) (fun (s37 : rf_S) (o : (rf_S) ⊕ ((rf_S) ⊕ (Int32 × rf_S))) hb kl kx => ok_X10_read_b37 d  s37 o hb kl (fun e he => (kx _ he).1 e rfl) (fun q hq => (kx _ hq).2 q rfl)) 5000 q4 e17 h18 ⟨?_, ?_⟩
  · intro z19 hz
    subst hz
    simp only [Sum.elim_inl] at h
    refine rf_b wf1 rc_X10_read_ok 47 2 (93, [some (.ref 0), none, none], [.int (z19.1 0 13)], z19) rfl ?_
    by_cases c20 : (z19.1 0 13) ≠ 0
    · rw [if_pos c20] at h
      refine rf_t wf1 rc_X10_read_ok 49 (103, [some (.ref 0), none, none], [], z19) rfl rfl c20 rfl ?_
      refine rf_b wf1 rc_X10_read_ok 53 1 (105, [some (.ref 0), none, none], [.int (-9)], z19) rfl ?_
      obtain rfl := Option.some.inj h
      exact rf_ri rc_X10_read_ok 54 rfl rfl
    · rw [if_neg c20] at h
      refine rf_f wf1 rc_X10_read_ok 49 (96, [some (.ref 0), none, none], [], z19) rfl rfl c20 rfl ?_
      refine rf_b wf1 rc_X10_read_ok 50 3 (105, [some (.ref 0), none, none], [.int (z19.1 0 11)], z19) rfl ?_
      obtain rfl := Option.some.inj h
      exact rf_ri rc_X10_read_ok 54 rfl rfl
  · intro y21 hz
    subst hz
    simp only [Sum.elim_inr] at h
    obtain rfl := Option.some.inj h
    exact ⟨rfl, rfl⟩
def rc_X10_fault : List rf_E := [(0, .iload_n 1, 1, 1), (1, .iconst 0, 1, 0), (2, .iconst 3, 1, 0), (3, .invokestatic 78, 3, 0), (6, .ifCond .ne 5, 3, 11), (9, .iconst (-1), 1, 0), (10, .ireturn, 1, 0), (11, .aload_n 0, 1, 0), (12, .getfield 16, 3, 1002), (15, .iload_n 1, 1, 1), (16, .iaload, 1, 0), (17, .ifCond .ge 11, 3, 28), (20, .aload_n 0, 1, 0), (21, .iconst 1, 1, 0), (22, .invokevirtual 85, 3, 0), (25, .goto 8, 3, 33), (28, .aload_n 0, 1, 0), (29, .iload_n 1, 1, 1), (30, .invokevirtual 140, 3, 0), (33, .ireturn, 1, 0)]
theorem rc_X10_fault_ok : rf_rc mX10_fault rc_X10_fault = true := by decide +kernel
theorem mw_X10_fault : rf_mw mX10_fault := ⟨rf_mt_ok _ (List.mem_of_getElem? (i := 175) rfl), fun h => absurd h (by decide), fun _ => ⟨rf_mi_ok _ (List.mem_of_getElem? (i := 156) rfl), rf_mv_ok _ (List.mem_of_getElem? (i := 156) rfl)⟩, rf_mq_7 _ (List.mem_of_getElem? (i := 0) rfl)⟩
def f_X10_fault (p0 : Int32) (σ : rf_S) : Option (Int32 × rf_S) := (f_X10_in p0 0 3 σ).bind (fun q1 => if q1 ≠ 0 then (if rf_ck ly1 0 3 p0 = true then (if 0 ≤ (σ.1 3 p0.toNatClampNeg) then ((f_X10_read p0 σ).bind (fun q6 => some (q6.1, q6.2))) else ((f_X10_finds 1 σ).bind (fun q8 => some (q8.1, q8.2)))) else none) else (some ((-1), σ)))
set_option maxHeartbeats 2000000 in
theorem ok_X10_fault (d : Nat) (p0 : Int32) (σ : rf_S) (q : (Int32 × rf_S)) (h : f_X10_fault p0 σ = some q) : rf_Ex ly1 (d + 6) mX10_fault [.ref 0, .int p0] σ (some (.int q.1) : Option Value) q.2 := by
  unfold f_X10_fault at h
  refine rf_ex mw_X10_fault [some (.ref 0), some (.int p0)] (Nat.le_of_ble_eq_true rfl) rfl ?_
  refine rf_b wf1 rc_X10_fault_ok 0 3 (3, [some (.ref 0), some (.int p0)], [.int 3, .int 0, .int p0], σ) rfl ?_
  obtain ⟨q1, h2, h⟩ := Option.bind_eq_some_iff.mp h
  refine rf_cs1 (Mt := mX10_in) rc_X10_fault_ok 3 false rfl (List.mem_of_getElem? (i := 143) rfl) mw_X10_in rfl [.int p0, .int 0, .int 3] [] rfl rfl (Nat.le_of_ble_eq_true rfl) (ok_X10_in (d + 4) p0 0 3 σ q1 h2) ?_
  show rf_G _ _ _ (6, [some (.ref 0), some (.int p0)], [.int q1], σ) _ _
  by_cases c3 : q1 ≠ 0
  · rw [if_pos c3] at h
    refine rf_t wf1 rc_X10_fault_ok 4 (11, [some (.ref 0), some (.int p0)], [], σ) rfl rfl c3 rfl ?_
    refine rf_b wf1 rc_X10_fault_ok 7 3 (16, [some (.ref 0), some (.int p0)], [.int p0, .ref 3], σ) rfl ?_
    obtain ⟨g4, h⟩ := rf_ifn h
    refine rf_gd wf1 rc_X10_fault_ok 10 (17, [some (.ref 0), some (.int p0)], [.int (σ.1 3 p0.toNatClampNeg)], σ) rfl rfl g4 rfl ?_
    by_cases c5 : 0 ≤ (σ.1 3 p0.toNatClampNeg)
    · rw [if_pos c5] at h
      refine rf_t wf1 rc_X10_fault_ok 11 (28, [some (.ref 0), some (.int p0)], [], σ) rfl rfl c5 rfl ?_
      refine rf_b wf1 rc_X10_fault_ok 16 2 (30, [some (.ref 0), some (.int p0)], [.int p0, .ref 0], σ) rfl ?_
      obtain ⟨q6, h7, h⟩ := Option.bind_eq_some_iff.mp h
      refine rf_cv1 (Mt := mX10_read) wf1 rc_X10_fault_ok 18 false rfl (List.mem_of_getElem? (i := 156) rfl) mw_X10_read rfl 0 [.int p0] [] rfl rfl rfl (Nat.le_of_ble_eq_true rfl) (ok_X10_read d p0 σ q6 h7) ?_
      show rf_G _ _ _ (33, [some (.ref 0), some (.int p0)], [.int q6.1], q6.2) _ _
      obtain rfl := Option.some.inj h
      exact rf_ri rc_X10_fault_ok 19 rfl rfl
    · rw [if_neg c5] at h
      refine rf_f wf1 rc_X10_fault_ok 11 (20, [some (.ref 0), some (.int p0)], [], σ) rfl rfl c5 rfl ?_
      refine rf_b wf1 rc_X10_fault_ok 12 2 (22, [some (.ref 0), some (.int p0)], [.int 1, .ref 0], σ) rfl ?_
      obtain ⟨q8, h9, h⟩ := Option.bind_eq_some_iff.mp h
      refine rf_cv1 (Mt := mX10_finds) wf1 rc_X10_fault_ok 14 false rfl (List.mem_of_getElem? (i := 144) rfl) mw_X10_finds rfl 0 [.int 1] [] rfl rfl rfl (Nat.le_of_ble_eq_true rfl) (ok_X10_finds (d + 4) 1 σ q8 h9) ?_
      show rf_G _ _ _ (25, [some (.ref 0), some (.int p0)], [.int q8.1], q8.2) _ _
      refine rf_b wf1 rc_X10_fault_ok 15 1 (33, [some (.ref 0), some (.int p0)], [.int q8.1], q8.2) rfl ?_
      obtain rfl := Option.some.inj h
      exact rf_ri rc_X10_fault_ok 19 rfl rfl
  · rw [if_neg c3] at h
    refine rf_f wf1 rc_X10_fault_ok 4 (9, [some (.ref 0), some (.int p0)], [], σ) rfl rfl c3 rfl ?_
    refine rf_b wf1 rc_X10_fault_ok 5 1 (10, [some (.ref 0), some (.int p0)], [.int (-1)], σ) rfl ?_
    obtain rfl := Option.some.inj h
    exact rf_ri rc_X10_fault_ok 6 rfl rfl
