def rc_X8_there : List rf_E := [(0, .iconst 0, 1, 0), (1, .istore_n 2, 1, 2), (2, .iconst 0, 1, 0), (3, .istore_n 3, 1, 3), (4, .iload_n 3, 1, 3), (5, .aload_n 0, 1, 0), (6, .getfield 12, 3, 800), (9, .getfield 67, 3, 207), (12, .if_icmp .ge 25, 3, 37), (15, .aload_n 0, 1, 0), (16, .getfield 22, 3, 802), (19, .iload_n 3, 1, 3), (20, .iaload, 1, 0), (21, .iload_n 1, 1, 1), (22, .if_icmp .ne 9, 3, 31), (25, .iload_n 2, 1, 2), (26, .iconst 1, 1, 0), (27, .iload_n 3, 1, 3), (28, .ishl, 1, 0), (29, .ior, 1, 0), (30, .istore_n 2, 1, 2), (31, .iinc 3 1, 3, 3), (34, .goto (-30), 3, 4), (37, .iload_n 2, 1, 2), (38, .ireturn, 1, 0)]
theorem rc_X8_there_ok : rf_rc mX8_there rc_X8_there = true := by decide +kernel
theorem mw_X8_there : rf_mw mX8_there := ⟨rf_mt_ok _ (List.mem_of_getElem? (i := 56) rfl), fun h => absurd h (by decide), fun _ => ⟨rf_mi_ok _ (List.mem_of_getElem? (i := 53) rfl), rf_mv_ok _ (List.mem_of_getElem? (i := 53) rfl)⟩, rf_mq_2 _ (List.mem_of_getElem? (i := 6) rfl)⟩
def f_X8_there_j31 (l1 : Int32) (l2 : Int32) (l3 : Int32) (σ : rf_S) : Option ((Int32 × Int32) ⊕ (Int32)) := some (.inl (l2, (l3 + 1)))
set_option maxHeartbeats 2000000 in
theorem ok_X8_there_j31 (d : Nat) (l1 : Int32) (l2 : Int32) (l3 : Int32) (σ : rf_S) (o : ((Int32 × Int32) ⊕ (Int32))) (h : f_X8_there_j31 l1 l2 l3 σ = some o) {r : Option Value} {σr : rf_S} (kl : ∀ s', o = .inl s' → rf_G ly0 (d) mX8_there (4, [some (.ref 25), some (.int l1), some (.int s'.1), some (.int s'.2)], [], σ) r σr) (kx : ∀ e, o = .inr e → rf_G ly0 (d) mX8_there (37, [none, none, some (.int e), none], [], σ) r σr) : rf_G ly0 (d) mX8_there (31, [some (.ref 25), some (.int l1), some (.int l2), some (.int l3)], [], σ) r σr := by
  unfold f_X8_there_j31 at h
  refine rf_b wf0 rc_X8_there_ok 21 2 (4, [some (.ref 25), some (.int l1), some (.int l2), some (.int (l3 + 1))], [], σ) rfl ?_
  exact kl (l2, (l3 + 1)) (Option.some.inj h).symm
def f_X8_there_b4 (l1 : Int32) (σ : rf_S) (s4 : Int32 × Int32) : Option ((Int32 × Int32) ⊕ (Int32)) := if (σ.1 26 7) ≤ s4.2 then (some (.inr s4.1)) else (if rf_ck ly0 0 34 s4.2 = true then (if (σ.1 34 s4.2.toNatClampNeg) ≠ l1 then (f_X8_there_j31 l1 s4.1 s4.2 σ) else (f_X8_there_j31 l1 (s4.1 ||| (1 <<< (s4.2 &&& 31))) s4.2 σ)) else none)
set_option maxHeartbeats 2000000 in
theorem ok_X8_there_b4 (d : Nat) (l1 : Int32) (σ : rf_S) (s4 : Int32 × Int32) (o : ((Int32 × Int32) ⊕ (Int32))) (h : f_X8_there_b4 l1 σ s4 = some o) {r : Option Value} {σr : rf_S} (kl : ∀ s', o = .inl s' → rf_G ly0 (d) mX8_there (4, [some (.ref 25), some (.int l1), some (.int s'.1), some (.int s'.2)], [], σ) r σr) (kx : ∀ e, o = .inr e → rf_G ly0 (d) mX8_there (37, [none, none, some (.int e), none], [], σ) r σr) : rf_G ly0 (d) mX8_there (4, [some (.ref 25), some (.int l1), some (.int s4.1), some (.int s4.2)], [], σ) r σr := by
  unfold f_X8_there_b4 at h
  refine rf_b wf0 rc_X8_there_ok 4 4 (12, [some (.ref 25), some (.int l1), some (.int s4.1), some (.int s4.2)], [.int (σ.1 26 7), .int s4.2], σ) rfl ?_
  by_cases c1 : (σ.1 26 7) ≤ s4.2
  · rw [if_pos c1] at h
    refine rf_t wf0 rc_X8_there_ok 8 (37, [some (.ref 25), some (.int l1), some (.int s4.1), some (.int s4.2)], [], σ) rfl rfl c1 rfl ?_
    refine rf_fg [false, false, true, false] [none, none, some (.int s4.1), none] rfl ?_
    exact kx s4.1 (Option.some.inj h).symm
  · rw [if_neg c1] at h
    refine rf_f wf0 rc_X8_there_ok 8 (15, [some (.ref 25), some (.int l1), some (.int s4.1), some (.int s4.2)], [], σ) rfl rfl c1 rfl ?_
    refine rf_b wf0 rc_X8_there_ok 9 3 (20, [some (.ref 25), some (.int l1), some (.int s4.1), some (.int s4.2)], [.int s4.2, .ref 34], σ) rfl ?_
    obtain ⟨g2, h⟩ := rf_ifn h
    refine rf_gd wf0 rc_X8_there_ok 12 (21, [some (.ref 25), some (.int l1), some (.int s4.1), some (.int s4.2)], [.int (σ.1 34 s4.2.toNatClampNeg)], σ) rfl rfl g2 rfl ?_
    refine rf_b wf0 rc_X8_there_ok 13 1 (22, [some (.ref 25), some (.int l1), some (.int s4.1), some (.int s4.2)], [.int l1, .int (σ.1 34 s4.2.toNatClampNeg)], σ) rfl ?_
    by_cases c3 : (σ.1 34 s4.2.toNatClampNeg) ≠ l1
    · rw [if_pos c3] at h
      refine rf_t wf0 rc_X8_there_ok 14 (31, [some (.ref 25), some (.int l1), some (.int s4.1), some (.int s4.2)], [], σ) rfl rfl c3 rfl ?_
      exact ok_X8_there_j31 d l1 s4.1 s4.2 σ o h kl kx
    · rw [if_neg c3] at h
      refine rf_f wf0 rc_X8_there_ok 14 (25, [some (.ref 25), some (.int l1), some (.int s4.1), some (.int s4.2)], [], σ) rfl rfl c3 rfl ?_
      refine rf_b wf0 rc_X8_there_ok 15 6 (31, [some (.ref 25), some (.int l1), some (.int (s4.1 ||| (1 <<< (s4.2 &&& 31)))), some (.int s4.2)], [], σ) rfl ?_
      exact ok_X8_there_j31 d l1 (s4.1 ||| (1 <<< (s4.2 &&& 31))) s4.2 σ o h kl kx
def f_X8_there (p0 : Int32) (σ : rf_S) : Option Int32 := (rf_lp (f_X8_there_b4 p0 σ) 5000 (0, 0)).bind (fun e4 => some e4)
set_option maxHeartbeats 2000000 in
theorem ok_X8_there (d : Nat) (p0 : Int32) (σ : rf_S) (q : Int32) (h : f_X8_there p0 σ = some q) : rf_Ex ly0 (d + 1) mX8_there [.ref 25, .int p0] σ (some (.int q) : Option Value) σ := by
  unfold f_X8_there at h
  refine rf_ex mw_X8_there [some (.ref 25), some (.int p0), none, none] (Nat.le_of_ble_eq_true rfl) rfl ?_
  refine rf_b wf0 rc_X8_there_ok 0 4 (4, [some (.ref 25), some (.int p0), some (.int 0), some (.int 0)], [], σ) rfl ?_
  obtain ⟨e4, h5, h⟩ := Option.bind_eq_some_iff.mp h
  refine rf_lpG (b := f_X8_there_b4 p0 σ) (G := fun (s4 : Int32 × Int32) => rf_G ly0 (d) mX8_there (4, [some (.ref 25), some (.int p0), some (.int s4.1), some (.int s4.2)], [], σ) (some (.int q) : Option Value) σ) (K := fun (e : (Int32)) => rf_G ly0 (d) mX8_there (37, [none, none, some (.int e), none], [], σ) (some (.int q) : Option Value) σ) (fun (s4 : Int32 × Int32) (o : (Int32 × Int32) ⊕ (Int32)) hb kl kx => ok_X8_there_b4 d p0 σ s4 o hb kl kx) 5000 (0, 0) e4 h5 ?_
  show rf_G _ _ _ (37, [none, none, some (.int e4), none], [], σ) _ _
  refine rf_b wf0 rc_X8_there_ok 23 1 (38, [none, none, some (.int e4), none], [.int e4], σ) rfl ?_
  obtain rfl := Option.some.inj h
  exact rf_ri rc_X8_there_ok 24 rfl rfl
def rc_X8_members : List rf_E := [(0, .aload_n 0, 1, 0), (1, .getfield 12, 3, 800), (4, .getfield 67, 3, 207), (7, .ireturn, 1, 0)]
theorem rc_X8_members_ok : rf_rc mX8_members rc_X8_members = true := by decide +kernel
theorem mw_X8_members : rf_mw mX8_members := ⟨rf_mt_ok _ (List.mem_of_getElem? (i := 47) rfl), fun h => absurd h (by decide), fun _ => ⟨rf_mi_ok _ (List.mem_of_getElem? (i := 44) rfl), rf_mv_ok _ (List.mem_of_getElem? (i := 44) rfl)⟩, rf_mq_1 _ (List.mem_of_getElem? (i := 22) rfl)⟩
def f_X8_members (σ : rf_S) : Option Int32 := some (σ.1 26 7)
set_option maxHeartbeats 2000000 in
theorem ok_X8_members (d : Nat) (σ : rf_S) (q : Int32) (h : f_X8_members σ = some q) : rf_Ex ly0 (d + 1) mX8_members [.ref 25] σ (some (.int q) : Option Value) σ := by
  unfold f_X8_members at h
  refine rf_ex mw_X8_members [some (.ref 25)] (Nat.le_of_ble_eq_true rfl) rfl ?_
  refine rf_b wf0 rc_X8_members_ok 0 3 (7, [some (.ref 25)], [.int (σ.1 26 7)], σ) rfl ?_
  obtain rfl := Option.some.inj h
  exact rf_ri rc_X8_members_ok 3 rfl rfl
def rc_X8_kindOf : List rf_E := [(0, .aload_n 0, 1, 0), (1, .getfield 12, 3, 800), (4, .getfield 80, 3, 202), (7, .iload_n 1, 1, 1), (8, .iaload, 1, 0), (9, .ireturn, 1, 0)]
theorem rc_X8_kindOf_ok : rf_rc mX8_kindOf rc_X8_kindOf = true := by decide +kernel
theorem mw_X8_kindOf : rf_mw mX8_kindOf := ⟨rf_mt_ok _ (List.mem_of_getElem? (i := 53) rfl), fun h => absurd h (by decide), fun _ => ⟨rf_mi_ok _ (List.mem_of_getElem? (i := 50) rfl), rf_mv_ok _ (List.mem_of_getElem? (i := 50) rfl)⟩, rf_mq_2 _ (List.mem_of_getElem? (i := 3) rfl)⟩
def f_X8_kindOf (p0 : Int32) (σ : rf_S) : Option Int32 := if rf_ck ly0 0 29 p0 = true then (some (σ.1 29 p0.toNatClampNeg)) else none
set_option maxHeartbeats 2000000 in
theorem ok_X8_kindOf (d : Nat) (p0 : Int32) (σ : rf_S) (q : Int32) (h : f_X8_kindOf p0 σ = some q) : rf_Ex ly0 (d + 1) mX8_kindOf [.ref 25, .int p0] σ (some (.int q) : Option Value) σ := by
  unfold f_X8_kindOf at h
  refine rf_ex mw_X8_kindOf [some (.ref 25), some (.int p0)] (Nat.le_of_ble_eq_true rfl) rfl ?_
  refine rf_b wf0 rc_X8_kindOf_ok 0 4 (8, [some (.ref 25), some (.int p0)], [.int p0, .ref 29], σ) rfl ?_
  obtain ⟨g1, h⟩ := rf_ifn h
  refine rf_gd wf0 rc_X8_kindOf_ok 4 (9, [some (.ref 25), some (.int p0)], [.int (σ.1 29 p0.toNatClampNeg)], σ) rfl rfl g1 rfl ?_
  obtain rfl := Option.some.inj h
  exact rf_ri rc_X8_kindOf_ok 5 rfl rfl
def rc_X8_markOf : List rf_E := [(0, .aload_n 0, 1, 0), (1, .getfield 12, 3, 800), (4, .getfield 83, 3, 203), (7, .iload_n 1, 1, 1), (8, .iaload, 1, 0), (9, .ireturn, 1, 0)]
theorem rc_X8_markOf_ok : rf_rc mX8_markOf rc_X8_markOf = true := by decide +kernel
theorem mw_X8_markOf : rf_mw mX8_markOf := ⟨rf_mt_ok _ (List.mem_of_getElem? (i := 54) rfl), fun h => absurd h (by decide), fun _ => ⟨rf_mi_ok _ (List.mem_of_getElem? (i := 51) rfl), rf_mv_ok _ (List.mem_of_getElem? (i := 51) rfl)⟩, rf_mq_2 _ (List.mem_of_getElem? (i := 4) rfl)⟩
def f_X8_markOf (p0 : Int32) (σ : rf_S) : Option Int32 := if rf_ck ly0 0 30 p0 = true then (some (σ.1 30 p0.toNatClampNeg)) else none
set_option maxHeartbeats 2000000 in
theorem ok_X8_markOf (d : Nat) (p0 : Int32) (σ : rf_S) (q : Int32) (h : f_X8_markOf p0 σ = some q) : rf_Ex ly0 (d + 1) mX8_markOf [.ref 25, .int p0] σ (some (.int q) : Option Value) σ := by
  unfold f_X8_markOf at h
  refine rf_ex mw_X8_markOf [some (.ref 25), some (.int p0)] (Nat.le_of_ble_eq_true rfl) rfl ?_
  refine rf_b wf0 rc_X8_markOf_ok 0 4 (8, [some (.ref 25), some (.int p0)], [.int p0, .ref 30], σ) rfl ?_
  obtain ⟨g1, h⟩ := rf_ifn h
  refine rf_gd wf0 rc_X8_markOf_ok 4 (9, [some (.ref 25), some (.int p0)], [.int (σ.1 30 p0.toNatClampNeg)], σ) rfl rfl g1 rfl ?_
  obtain rfl := Option.some.inj h
  exact rf_ri rc_X8_markOf_ok 5 rfl rfl
def rc_X8_feeling : List rf_E := [(0, .iload_n 1, 1, 1), (1, .istore 4, 2, 4), (3, .iload_n 2, 1, 2), (4, .ifCond .le 6, 3, 10), (7, .iinc 4 1, 3, 4), (10, .iload_n 0, 1, 0), (11, .iconst 3, 1, 0), (12, .if_icmp .eq 8, 3, 20), (15, .iload_n 0, 1, 0), (16, .iconst 5, 1, 0), (17, .if_icmp .ne 6, 3, 23), (20, .iinc 4 2, 3, 4), (23, .iload_n 0, 1, 0), (24, .iconst 5, 1, 0), (25, .if_icmp .ne 12, 3, 37), (28, .iload 4, 2, 4), (30, .iload_n 3, 1, 3), (31, .bipush 6, 2, 0), (33, .idiv, 1, 0), (34, .isub, 1, 0), (35, .istore 4, 2, 4), (37, .iload 4, 2, 4), (39, .ireturn, 1, 0)]
theorem rc_X8_feeling_ok : rf_rc mX8_feeling rc_X8_feeling = true := by decide +kernel
theorem mw_X8_feeling : rf_mw mX8_feeling := ⟨rf_mt_ok _ (List.mem_of_getElem? (i := 60) rfl), fun _ => rf_ms_ok _ (List.mem_of_getElem? (i := 3) rfl), fun h => absurd h (by decide), rf_mq_2 _ (List.mem_of_getElem? (i := 10) rfl)⟩
def f_X8_feeling_j23 (l0 : Int32) (l3 : Int32) (l4 : Int32) (σ : rf_S) : Option Int32 := if l0 ≠ 5 then (some l4) else (some (l4 - (l3 / 6)))
set_option maxHeartbeats 2000000 in
theorem ok_X8_feeling_j23 (d : Nat) (l0 : Int32) (l3 : Int32) (l4 : Int32) (σ : rf_S) (q : Int32) (h : f_X8_feeling_j23 l0 l3 l4 σ = some q) : rf_G ly0 (d) mX8_feeling (23, [some (.int l0), none, none, some (.int l3), some (.int l4)], [], σ) (some (.int q) : Option Value) σ := by
  unfold f_X8_feeling_j23 at h
  refine rf_b wf0 rc_X8_feeling_ok 12 2 (25, [some (.int l0), none, none, some (.int l3), some (.int l4)], [.int 5, .int l0], σ) rfl ?_
  by_cases c3 : l0 ≠ 5
  · rw [if_pos c3] at h
    refine rf_t wf0 rc_X8_feeling_ok 14 (37, [some (.int l0), none, none, some (.int l3), some (.int l4)], [], σ) rfl rfl c3 rfl ?_
    refine rf_b wf0 rc_X8_feeling_ok 21 1 (39, [some (.int l0), none, none, some (.int l3), some (.int l4)], [.int l4], σ) rfl ?_
    obtain rfl := Option.some.inj h
    exact rf_ri rc_X8_feeling_ok 22 rfl rfl
  · rw [if_neg c3] at h
    refine rf_f wf0 rc_X8_feeling_ok 14 (28, [some (.int l0), none, none, some (.int l3), some (.int l4)], [], σ) rfl rfl c3 rfl ?_
    refine rf_b wf0 rc_X8_feeling_ok 15 3 (33, [some (.int l0), none, none, some (.int l3), some (.int l4)], [.int 6, .int l3, .int l4], σ) rfl ?_
    refine rf_nz wf0 rc_X8_feeling_ok 18 (34, [some (.int l0), none, none, some (.int l3), some (.int l4)], [.int (l3 / 6), .int l4], σ) rfl rfl (c := (6 : Int32) = 0) (by decide) rfl ?_
    refine rf_b wf0 rc_X8_feeling_ok 19 3 (39, [some (.int l0), none, none, some (.int l3), some (.int (l4 - (l3 / 6)))], [.int (l4 - (l3 / 6))], σ) rfl ?_
    obtain rfl := Option.some.inj h
    exact rf_ri rc_X8_feeling_ok 22 rfl rfl
def f_X8_feeling_j20 (l0 : Int32) (l3 : Int32) (l4 : Int32) (σ : rf_S) : Option Int32 := f_X8_feeling_j23 l0 l3 (l4 + 2) σ
set_option maxHeartbeats 2000000 in
theorem ok_X8_feeling_j20 (d : Nat) (l0 : Int32) (l3 : Int32) (l4 : Int32) (σ : rf_S) (q : Int32) (h : f_X8_feeling_j20 l0 l3 l4 σ = some q) : rf_G ly0 (d) mX8_feeling (20, [some (.int l0), none, none, some (.int l3), some (.int l4)], [], σ) (some (.int q) : Option Value) σ := by
  unfold f_X8_feeling_j20 at h
  refine rf_b wf0 rc_X8_feeling_ok 11 1 (23, [some (.int l0), none, none, some (.int l3), some (.int (l4 + 2))], [], σ) rfl ?_
  exact ok_X8_feeling_j23 d l0 l3 (l4 + 2) σ q h
def f_X8_feeling_j10 (l0 : Int32) (l3 : Int32) (l4 : Int32) (σ : rf_S) : Option Int32 := if l0 = 3 then (f_X8_feeling_j20 l0 l3 l4 σ) else (if l0 ≠ 5 then (f_X8_feeling_j23 l0 l3 l4 σ) else (f_X8_feeling_j20 l0 l3 l4 σ))
set_option maxHeartbeats 2000000 in
theorem ok_X8_feeling_j10 (d : Nat) (l0 : Int32) (l3 : Int32) (l4 : Int32) (σ : rf_S) (q : Int32) (h : f_X8_feeling_j10 l0 l3 l4 σ = some q) : rf_G ly0 (d) mX8_feeling (10, [some (.int l0), none, none, some (.int l3), some (.int l4)], [], σ) (some (.int q) : Option Value) σ := by
  unfold f_X8_feeling_j10 at h
  refine rf_b wf0 rc_X8_feeling_ok 5 2 (12, [some (.int l0), none, none, some (.int l3), some (.int l4)], [.int 3, .int l0], σ) rfl ?_
  by_cases c2 : l0 = 3
  · rw [if_pos c2] at h
    refine rf_t wf0 rc_X8_feeling_ok 7 (20, [some (.int l0), none, none, some (.int l3), some (.int l4)], [], σ) rfl rfl c2 rfl ?_
    exact ok_X8_feeling_j20 d l0 l3 l4 σ q h
  · rw [if_neg c2] at h
    refine rf_f wf0 rc_X8_feeling_ok 7 (15, [some (.int l0), none, none, some (.int l3), some (.int l4)], [], σ) rfl rfl c2 rfl ?_
    refine rf_b wf0 rc_X8_feeling_ok 8 2 (17, [some (.int l0), none, none, some (.int l3), some (.int l4)], [.int 5, .int l0], σ) rfl ?_
    by_cases c5 : l0 ≠ 5
    · rw [if_pos c5] at h
      refine rf_t wf0 rc_X8_feeling_ok 10 (23, [some (.int l0), none, none, some (.int l3), some (.int l4)], [], σ) rfl rfl c5 rfl ?_
      exact ok_X8_feeling_j23 d l0 l3 l4 σ q h
    · rw [if_neg c5] at h
      refine rf_f wf0 rc_X8_feeling_ok 10 (20, [some (.int l0), none, none, some (.int l3), some (.int l4)], [], σ) rfl rfl c5 rfl ?_
      exact ok_X8_feeling_j20 d l0 l3 l4 σ q h
def f_X8_feeling (p0 : Int32) (p1 : Int32) (p2 : Int32) (p3 : Int32) (σ : rf_S) : Option Int32 := if p2 ≤ 0 then (f_X8_feeling_j10 p0 p3 p1 σ) else (f_X8_feeling_j10 p0 p3 (p1 + 1) σ)
set_option maxHeartbeats 2000000 in
theorem ok_X8_feeling (d : Nat) (p0 : Int32) (p1 : Int32) (p2 : Int32) (p3 : Int32) (σ : rf_S) (q : Int32) (h : f_X8_feeling p0 p1 p2 p3 σ = some q) : rf_Ex ly0 (d + 1) mX8_feeling [.int p0, .int p1, .int p2, .int p3] σ (some (.int q) : Option Value) σ := by
  unfold f_X8_feeling at h
  refine rf_ex mw_X8_feeling [some (.int p0), some (.int p1), some (.int p2), some (.int p3), none] (Nat.le_of_ble_eq_true rfl) rfl ?_
  refine rf_b wf0 rc_X8_feeling_ok 0 3 (4, [some (.int p0), some (.int p1), some (.int p2), some (.int p3), some (.int p1)], [.int p2], σ) rfl ?_
  by_cases c1 : p2 ≤ 0
  · rw [if_pos c1] at h
    refine rf_t wf0 rc_X8_feeling_ok 3 (10, [some (.int p0), some (.int p1), some (.int p2), some (.int p3), some (.int p1)], [], σ) rfl rfl c1 rfl ?_
    refine rf_fg [true, false, false, true, true] [some (.int p0), none, none, some (.int p3), some (.int p1)] rfl ?_
    exact ok_X8_feeling_j10 d p0 p3 p1 σ q h
  · rw [if_neg c1] at h
    refine rf_f wf0 rc_X8_feeling_ok 3 (7, [some (.int p0), some (.int p1), some (.int p2), some (.int p3), some (.int p1)], [], σ) rfl rfl c1 rfl ?_
    refine rf_b wf0 rc_X8_feeling_ok 4 1 (10, [some (.int p0), some (.int p1), some (.int p2), some (.int p3), some (.int (p1 + 1))], [], σ) rfl ?_
    refine rf_fg [true, false, false, true, true] [some (.int p0), none, none, some (.int p3), some (.int (p1 + 1))] rfl ?_
    exact ok_X8_feeling_j10 d p0 p3 (p1 + 1) σ q h
def rc_X8_widthOf : List rf_E := [(0, .aload_n 0, 1, 0), (1, .getfield 12, 3, 800), (4, .getfield 86, 3, 204), (7, .iload_n 1, 1, 1), (8, .iaload, 1, 0), (9, .ireturn, 1, 0)]
theorem rc_X8_widthOf_ok : rf_rc mX8_widthOf rc_X8_widthOf = true := by decide +kernel
theorem mw_X8_widthOf : rf_mw mX8_widthOf := ⟨rf_mt_ok _ (List.mem_of_getElem? (i := 55) rfl), fun h => absurd h (by decide), fun _ => ⟨rf_mi_ok _ (List.mem_of_getElem? (i := 52) rfl), rf_mv_ok _ (List.mem_of_getElem? (i := 52) rfl)⟩, rf_mq_2 _ (List.mem_of_getElem? (i := 5) rfl)⟩
def f_X8_widthOf (p0 : Int32) (σ : rf_S) : Option Int32 := if rf_ck ly0 0 31 p0 = true then (some (σ.1 31 p0.toNatClampNeg)) else none
set_option maxHeartbeats 2000000 in
theorem ok_X8_widthOf (d : Nat) (p0 : Int32) (σ : rf_S) (q : Int32) (h : f_X8_widthOf p0 σ = some q) : rf_Ex ly0 (d + 1) mX8_widthOf [.ref 25, .int p0] σ (some (.int q) : Option Value) σ := by
  unfold f_X8_widthOf at h
  refine rf_ex mw_X8_widthOf [some (.ref 25), some (.int p0)] (Nat.le_of_ble_eq_true rfl) rfl ?_
  refine rf_b wf0 rc_X8_widthOf_ok 0 4 (8, [some (.ref 25), some (.int p0)], [.int p0, .ref 31], σ) rfl ?_
  obtain ⟨g1, h⟩ := rf_ifn h
  refine rf_gd wf0 rc_X8_widthOf_ok 4 (9, [some (.ref 25), some (.int p0)], [.int (σ.1 31 p0.toNatClampNeg)], σ) rfl rfl g1 rfl ?_
  obtain rfl := Option.some.inj h
  exact rf_ri rc_X8_widthOf_ok 5 rfl rfl
def rc_X8_doingBy : List rf_E := [(0, .iload_n 1, 1, 1), (1, .istore_n 3, 1, 3), (2, .bipush 30, 2, 0), (4, .istore 4, 2, 4), (6, .iload_n 0, 1, 0), (7, .iconst 1, 1, 0), (8, .if_icmp .ne 11, 3, 19), (11, .iconst 0, 1, 0), (12, .istore_n 3, 1, 3), (13, .iload_n 1, 1, 1), (14, .istore 4, 2, 4), (16, .goto 25, 3, 41), (19, .iload_n 0, 1, 0), (20, .iconst 4, 1, 0), (21, .if_icmp .ne 10, 3, 31), (24, .iload_n 1, 1, 1), (25, .iconst 1, 1, 0), (26, .iadd, 1, 0), (27, .istore_n 3, 1, 3), (28, .goto 13, 3, 41), (31, .iload_n 0, 1, 0), (32, .iconst 2, 1, 0), (33, .if_icmp .ne 8, 3, 41), (36, .iload_n 1, 1, 1), (37, .iload_n 2, 1, 2), (38, .iadd, 1, 0), (39, .istore 4, 2, 4), (41, .iload_n 3, 1, 3), (42, .ifCond .ge 7, 3, 49), (45, .iconst 0, 1, 0), (46, .goto 4, 3, 50), (49, .iload_n 3, 1, 3), (50, .istore_n 3, 1, 3), (51, .iload 4, 2, 4), (53, .bipush 30, 2, 0), (55, .if_icmp .le 8, 3, 63), (58, .bipush 30, 2, 0), (60, .goto 5, 3, 65), (63, .iload 4, 2, 4), (65, .istore 4, 2, 4), (67, .iload_n 3, 1, 3), (68, .iload 4, 2, 4), (70, .if_icmp .le 7, 3, 77), (73, .iconst 0, 1, 0), (74, .goto 16, 3, 90), (77, .ldc 104, 2, 2147483647), (79, .iload_n 3, 1, 3), (80, .ishl, 1, 0), (81, .ldc 104, 2, 2147483647), (83, .bipush 30, 2, 0), (85, .iload 4, 2, 4), (87, .isub, 1, 0), (88, .ishr, 1, 0), (89, .iand, 1, 0), (90, .ireturn, 1, 0)]
theorem rc_X8_doingBy_ok : rf_rc mX8_doingBy rc_X8_doingBy = true := by decide +kernel
theorem mw_X8_doingBy : rf_mw mX8_doingBy := ⟨rf_mt_ok _ (List.mem_of_getElem? (i := 61) rfl), fun _ => rf_ms_ok _ (List.mem_of_getElem? (i := 4) rfl), fun h => absurd h (by decide), rf_mq_2 _ (List.mem_of_getElem? (i := 11) rfl)⟩
def f_X8_doingBy_j65 (l3 : Int32) (t0 : Int32) (σ : rf_S) : Option Int32 := if l3 ≤ t0 then (some ((2147483647 <<< (l3 &&& 31)) &&& (2147483647 >>> ((30 - t0) &&& 31)))) else (some 0)
set_option maxHeartbeats 2000000 in
theorem ok_X8_doingBy_j65 (d : Nat) (l3 : Int32) (t0 : Int32) (σ : rf_S) (q : Int32) (h : f_X8_doingBy_j65 l3 t0 σ = some q) : rf_G ly0 (d) mX8_doingBy (65, [none, none, none, some (.int l3), none], [.int t0], σ) (some (.int q) : Option Value) σ := by
  unfold f_X8_doingBy_j65 at h
  refine rf_b wf0 rc_X8_doingBy_ok 39 3 (70, [none, none, none, some (.int l3), some (.int t0)], [.int t0, .int l3], σ) rfl ?_
  by_cases c6 : l3 ≤ t0
  · rw [if_pos c6] at h
    refine rf_t wf0 rc_X8_doingBy_ok 42 (77, [none, none, none, some (.int l3), some (.int t0)], [], σ) rfl rfl c6 rfl ?_
    refine rf_b wf0 rc_X8_doingBy_ok 45 9 (90, [none, none, none, some (.int l3), some (.int t0)], [.int ((2147483647 <<< (l3 &&& 31)) &&& (2147483647 >>> ((30 - t0) &&& 31)))], σ) rfl ?_
    obtain rfl := Option.some.inj h
    exact rf_ri rc_X8_doingBy_ok 54 rfl rfl
  · rw [if_neg c6] at h
    refine rf_f wf0 rc_X8_doingBy_ok 42 (73, [none, none, none, some (.int l3), some (.int t0)], [], σ) rfl rfl c6 rfl ?_
    refine rf_b wf0 rc_X8_doingBy_ok 43 2 (90, [none, none, none, some (.int l3), some (.int t0)], [.int 0], σ) rfl ?_
    obtain rfl := Option.some.inj h
    exact rf_ri rc_X8_doingBy_ok 54 rfl rfl
def f_X8_doingBy_j50 (l4 : Int32) (t0 : Int32) (σ : rf_S) : Option Int32 := if l4 ≤ 30 then (f_X8_doingBy_j65 t0 l4 σ) else (f_X8_doingBy_j65 t0 30 σ)
set_option maxHeartbeats 2000000 in
theorem ok_X8_doingBy_j50 (d : Nat) (l4 : Int32) (t0 : Int32) (σ : rf_S) (q : Int32) (h : f_X8_doingBy_j50 l4 t0 σ = some q) : rf_G ly0 (d) mX8_doingBy (50, [none, none, none, none, some (.int l4)], [.int t0], σ) (some (.int q) : Option Value) σ := by
  unfold f_X8_doingBy_j50 at h
  refine rf_b wf0 rc_X8_doingBy_ok 32 3 (55, [none, none, none, some (.int t0), some (.int l4)], [.int 30, .int l4], σ) rfl ?_
  by_cases c5 : l4 ≤ 30
  · rw [if_pos c5] at h
    refine rf_t wf0 rc_X8_doingBy_ok 35 (63, [none, none, none, some (.int t0), some (.int l4)], [], σ) rfl rfl c5 rfl ?_
    refine rf_b wf0 rc_X8_doingBy_ok 38 1 (65, [none, none, none, some (.int t0), some (.int l4)], [.int l4], σ) rfl ?_
    refine rf_fg [true, true, true, true, false] [none, none, none, some (.int t0), none] rfl ?_
    exact ok_X8_doingBy_j65 d t0 l4 σ q h
  · rw [if_neg c5] at h
    refine rf_f wf0 rc_X8_doingBy_ok 35 (58, [none, none, none, some (.int t0), some (.int l4)], [], σ) rfl rfl c5 rfl ?_
    refine rf_b wf0 rc_X8_doingBy_ok 36 2 (65, [none, none, none, some (.int t0), some (.int l4)], [.int 30], σ) rfl ?_
    refine rf_fg [true, true, true, true, false] [none, none, none, some (.int t0), none] rfl ?_
    exact ok_X8_doingBy_j65 d t0 30 σ q h
def f_X8_doingBy_j41 (l3 : Int32) (l4 : Int32) (σ : rf_S) : Option Int32 := if 0 ≤ l3 then (f_X8_doingBy_j50 l4 l3 σ) else (f_X8_doingBy_j50 l4 0 σ)
set_option maxHeartbeats 2000000 in
theorem ok_X8_doingBy_j41 (d : Nat) (l3 : Int32) (l4 : Int32) (σ : rf_S) (q : Int32) (h : f_X8_doingBy_j41 l3 l4 σ = some q) : rf_G ly0 (d) mX8_doingBy (41, [none, none, none, some (.int l3), some (.int l4)], [], σ) (some (.int q) : Option Value) σ := by
  unfold f_X8_doingBy_j41 at h
  refine rf_b wf0 rc_X8_doingBy_ok 27 1 (42, [none, none, none, some (.int l3), some (.int l4)], [.int l3], σ) rfl ?_
  by_cases c4 : 0 ≤ l3
  · rw [if_pos c4] at h
    refine rf_t wf0 rc_X8_doingBy_ok 28 (49, [none, none, none, some (.int l3), some (.int l4)], [], σ) rfl rfl c4 rfl ?_
    refine rf_b wf0 rc_X8_doingBy_ok 31 1 (50, [none, none, none, some (.int l3), some (.int l4)], [.int l3], σ) rfl ?_
    refine rf_fg [true, true, true, false, true] [none, none, none, none, some (.int l4)] rfl ?_
    exact ok_X8_doingBy_j50 d l4 l3 σ q h
  · rw [if_neg c4] at h
    refine rf_f wf0 rc_X8_doingBy_ok 28 (45, [none, none, none, some (.int l3), some (.int l4)], [], σ) rfl rfl c4 rfl ?_
    refine rf_b wf0 rc_X8_doingBy_ok 29 2 (50, [none, none, none, some (.int l3), some (.int l4)], [.int 0], σ) rfl ?_
    refine rf_fg [true, true, true, false, true] [none, none, none, none, some (.int l4)] rfl ?_
    exact ok_X8_doingBy_j50 d l4 0 σ q h
def f_X8_doingBy (p0 : Int32) (p1 : Int32) (p2 : Int32) (σ : rf_S) : Option Int32 := if p0 ≠ 1 then (if p0 ≠ 4 then (if p0 ≠ 2 then (f_X8_doingBy_j41 p1 30 σ) else (f_X8_doingBy_j41 p1 (p1 + p2) σ)) else (f_X8_doingBy_j41 (p1 + 1) 30 σ)) else (f_X8_doingBy_j41 0 p1 σ)
set_option maxHeartbeats 2000000 in
theorem ok_X8_doingBy (d : Nat) (p0 : Int32) (p1 : Int32) (p2 : Int32) (σ : rf_S) (q : Int32) (h : f_X8_doingBy p0 p1 p2 σ = some q) : rf_Ex ly0 (d + 1) mX8_doingBy [.int p0, .int p1, .int p2] σ (some (.int q) : Option Value) σ := by
  unfold f_X8_doingBy at h
  refine rf_ex mw_X8_doingBy [some (.int p0), some (.int p1), some (.int p2), none, none] (Nat.le_of_ble_eq_true rfl) rfl ?_
  refine rf_b wf0 rc_X8_doingBy_ok 0 6 (8, [some (.int p0), some (.int p1), some (.int p2), some (.int p1), some (.int 30)], [.int 1, .int p0], σ) rfl ?_
  by_cases c1 : p0 ≠ 1
  · rw [if_pos c1] at h
    refine rf_t wf0 rc_X8_doingBy_ok 6 (19, [some (.int p0), some (.int p1), some (.int p2), some (.int p1), some (.int 30)], [], σ) rfl rfl c1 rfl ?_
    refine rf_b wf0 rc_X8_doingBy_ok 12 2 (21, [some (.int p0), some (.int p1), some (.int p2), some (.int p1), some (.int 30)], [.int 4, .int p0], σ) rfl ?_
    by_cases c2 : p0 ≠ 4
    · rw [if_pos c2] at h
      refine rf_t wf0 rc_X8_doingBy_ok 14 (31, [some (.int p0), some (.int p1), some (.int p2), some (.int p1), some (.int 30)], [], σ) rfl rfl c2 rfl ?_
      refine rf_b wf0 rc_X8_doingBy_ok 20 2 (33, [some (.int p0), some (.int p1), some (.int p2), some (.int p1), some (.int 30)], [.int 2, .int p0], σ) rfl ?_
      by_cases c3 : p0 ≠ 2
      · rw [if_pos c3] at h
        refine rf_t wf0 rc_X8_doingBy_ok 22 (41, [some (.int p0), some (.int p1), some (.int p2), some (.int p1), some (.int 30)], [], σ) rfl rfl c3 rfl ?_
        refine rf_fg [false, false, false, true, true] [none, none, none, some (.int p1), some (.int 30)] rfl ?_
        exact ok_X8_doingBy_j41 d p1 30 σ q h
      · rw [if_neg c3] at h
        refine rf_f wf0 rc_X8_doingBy_ok 22 (36, [some (.int p0), some (.int p1), some (.int p2), some (.int p1), some (.int 30)], [], σ) rfl rfl c3 rfl ?_
        refine rf_b wf0 rc_X8_doingBy_ok 23 4 (41, [some (.int p0), some (.int p1), some (.int p2), some (.int p1), some (.int (p1 + p2))], [], σ) rfl ?_
        refine rf_fg [false, false, false, true, true] [none, none, none, some (.int p1), some (.int (p1 + p2))] rfl ?_
        exact ok_X8_doingBy_j41 d p1 (p1 + p2) σ q h
    · rw [if_neg c2] at h
      refine rf_f wf0 rc_X8_doingBy_ok 14 (24, [some (.int p0), some (.int p1), some (.int p2), some (.int p1), some (.int 30)], [], σ) rfl rfl c2 rfl ?_
      refine rf_b wf0 rc_X8_doingBy_ok 15 5 (41, [some (.int p0), some (.int p1), some (.int p2), some (.int (p1 + 1)), some (.int 30)], [], σ) rfl ?_
      refine rf_fg [false, false, false, true, true] [none, none, none, some (.int (p1 + 1)), some (.int 30)] rfl ?_
      exact ok_X8_doingBy_j41 d (p1 + 1) 30 σ q h
  · rw [if_neg c1] at h
    refine rf_f wf0 rc_X8_doingBy_ok 6 (11, [some (.int p0), some (.int p1), some (.int p2), some (.int p1), some (.int 30)], [], σ) rfl rfl c1 rfl ?_
    refine rf_b wf0 rc_X8_doingBy_ok 7 5 (41, [some (.int p0), some (.int p1), some (.int p2), some (.int 0), some (.int p1)], [], σ) rfl ?_
    refine rf_fg [false, false, false, true, true] [none, none, none, some (.int 0), some (.int p1)] rfl ?_
    exact ok_X8_doingBy_j41 d 0 p1 σ q h
def rc_X8_wouldAs : List rf_E := [(0, .iload_n 2, 1, 2), (1, .iload_n 2, 1, 2), (2, .aload_n 0, 1, 0), (3, .iload_n 1, 1, 1), (4, .invokevirtual 97, 3, 0), (7, .iload_n 3, 1, 3), (8, .iadd, 1, 0), (9, .aload_n 0, 1, 0), (10, .getfield 61, 3, 807), (13, .aload_n 0, 1, 0), (14, .getfield 57, 3, 806), (17, .invokestatic 100, 3, 0), (20, .aload_n 0, 1, 0), (21, .iload_n 1, 1, 1), (22, .invokevirtual 105, 3, 0), (25, .invokestatic 108, 3, 0), (28, .ireturn, 1, 0)]
theorem rc_X8_wouldAs_ok : rf_rc mX8_wouldAs rc_X8_wouldAs = true := by decide +kernel
theorem mw_X8_wouldAs : rf_mw mX8_wouldAs := ⟨rf_mt_ok _ (List.mem_of_getElem? (i := 62) rfl), fun h => absurd h (by decide), fun _ => ⟨rf_mi_ok _ (List.mem_of_getElem? (i := 57) rfl), rf_mv_ok _ (List.mem_of_getElem? (i := 57) rfl)⟩, rf_mq_2 _ (List.mem_of_getElem? (i := 12) rfl)⟩
def f_X8_wouldAs (p0 : Int32) (p1 : Int32) (p2 : Int32) (σ : rf_S) : Option Int32 := (f_X8_markOf p0 σ).bind (fun q1 => (f_X8_feeling p1 (q1 + p2) (σ.1 25 7) (σ.1 25 6) σ).bind (fun q3 => (f_X8_widthOf p0 σ).bind (fun q5 => (f_X8_doingBy p1 q3 q5 σ).bind (fun q7 => some q7))))
set_option maxHeartbeats 2000000 in
theorem ok_X8_wouldAs (d : Nat) (p0 : Int32) (p1 : Int32) (p2 : Int32) (σ : rf_S) (q : Int32) (h : f_X8_wouldAs p0 p1 p2 σ = some q) : rf_Ex ly0 (d + 2) mX8_wouldAs [.ref 25, .int p0, .int p1, .int p2] σ (some (.int q) : Option Value) σ := by
  unfold f_X8_wouldAs at h
  refine rf_ex mw_X8_wouldAs [some (.ref 25), some (.int p0), some (.int p1), some (.int p2)] (Nat.le_of_ble_eq_true rfl) rfl ?_
  refine rf_b wf0 rc_X8_wouldAs_ok 0 4 (4, [some (.ref 25), some (.int p0), some (.int p1), some (.int p2)], [.int p0, .ref 25, .int p1, .int p1], σ) rfl ?_
  obtain ⟨q1, h2, h⟩ := Option.bind_eq_some_iff.mp h
  refine rf_cv1 (Mt := mX8_markOf) wf0 rc_X8_wouldAs_ok 4 false rfl (List.mem_of_getElem? (i := 49) rfl) mw_X8_markOf rfl 25 [.int p0] [.int p1, .int p1] rfl rfl rfl (Nat.le_of_ble_eq_true rfl) (ok_X8_markOf d p0 σ q1 h2) ?_
  show rf_G _ _ _ (7, [some (.ref 25), some (.int p0), some (.int p1), some (.int p2)], [.int q1, .int p1, .int p1], σ) _ _
  refine rf_b wf0 rc_X8_wouldAs_ok 5 6 (17, [some (.ref 25), some (.int p0), some (.int p1), some (.int p2)], [.int (σ.1 25 6), .int (σ.1 25 7), .int (q1 + p2), .int p1, .int p1], σ) rfl ?_
  obtain ⟨q3, h4, h⟩ := Option.bind_eq_some_iff.mp h
  refine rf_cs1 (Mt := mX8_feeling) rc_X8_wouldAs_ok 11 false rfl (List.mem_of_getElem? (i := 50) rfl) mw_X8_feeling rfl [.int p1, .int (q1 + p2), .int (σ.1 25 7), .int (σ.1 25 6)] [.int p1] rfl rfl (Nat.le_of_ble_eq_true rfl) (ok_X8_feeling d p1 (q1 + p2) (σ.1 25 7) (σ.1 25 6) σ q3 h4) ?_
  show rf_G _ _ _ (20, [some (.ref 25), some (.int p0), some (.int p1), some (.int p2)], [.int q3, .int p1], σ) _ _
  refine rf_b wf0 rc_X8_wouldAs_ok 12 2 (22, [some (.ref 25), some (.int p0), some (.int p1), some (.int p2)], [.int p0, .ref 25, .int q3, .int p1], σ) rfl ?_
  obtain ⟨q5, h6, h⟩ := Option.bind_eq_some_iff.mp h
  refine rf_cv1 (Mt := mX8_widthOf) wf0 rc_X8_wouldAs_ok 14 false rfl (List.mem_of_getElem? (i := 51) rfl) mw_X8_widthOf rfl 25 [.int p0] [.int q3, .int p1] rfl rfl rfl (Nat.le_of_ble_eq_true rfl) (ok_X8_widthOf d p0 σ q5 h6) ?_
  show rf_G _ _ _ (25, [some (.ref 25), some (.int p0), some (.int p1), some (.int p2)], [.int q5, .int q3, .int p1], σ) _ _
  obtain ⟨q7, h8, h⟩ := Option.bind_eq_some_iff.mp h
  refine rf_cs1 (Mt := mX8_doingBy) rc_X8_wouldAs_ok 15 false rfl (List.mem_of_getElem? (i := 52) rfl) mw_X8_doingBy rfl [.int p1, .int q3, .int q5] [] rfl rfl (Nat.le_of_ble_eq_true rfl) (ok_X8_doingBy d p1 q3 q5 σ q7 h8) ?_
  show rf_G _ _ _ (28, [some (.ref 25), some (.int p0), some (.int p1), some (.int p2)], [.int q7], σ) _ _
  obtain rfl := Option.some.inj h
  exact rf_ri rc_X8_wouldAs_ok 16 rfl rfl
def rc_X8_does : List rf_E := [(0, .aload_n 0, 1, 0), (1, .getfield 25, 3, 803), (4, .iload_n 1, 1, 1), (5, .iaload, 1, 0), (6, .ifCond .le 7, 3, 13), (9, .iconst 0, 1, 0), (10, .goto 19, 3, 29), (13, .aload_n 0, 1, 0), (14, .iload_n 1, 1, 1), (15, .aload_n 0, 1, 0), (16, .iload_n 1, 1, 1), (17, .invokevirtual 89, 3, 0), (20, .aload_n 0, 1, 0), (21, .getfield 28, 3, 804), (24, .iload_n 1, 1, 1), (25, .iaload, 1, 0), (26, .invokevirtual 112, 3, 0), (29, .ireturn, 1, 0)]
theorem rc_X8_does_ok : rf_rc mX8_does rc_X8_does = true := by decide +kernel
theorem mw_X8_does : rf_mw mX8_does := ⟨rf_mt_ok _ (List.mem_of_getElem? (i := 64) rfl), fun h => absurd h (by decide), fun _ => ⟨rf_mi_ok _ (List.mem_of_getElem? (i := 59) rfl), rf_mv_ok _ (List.mem_of_getElem? (i := 59) rfl)⟩, rf_mq_2 _ (List.mem_of_getElem? (i := 14) rfl)⟩
def f_X8_does (p0 : Int32) (σ : rf_S) : Option Int32 := if rf_ck ly0 0 35 p0 = true then (if (σ.1 35 p0.toNatClampNeg) ≤ 0 then ((f_X8_kindOf p0 σ).bind (fun q3 => if rf_ck ly0 0 36 p0 = true then ((f_X8_wouldAs p0 q3 (σ.1 36 p0.toNatClampNeg) σ).bind (fun q6 => some q6)) else none)) else (some 0)) else none
set_option maxHeartbeats 2000000 in
theorem ok_X8_does (d : Nat) (p0 : Int32) (σ : rf_S) (q : Int32) (h : f_X8_does p0 σ = some q) : rf_Ex ly0 (d + 3) mX8_does [.ref 25, .int p0] σ (some (.int q) : Option Value) σ := by
  unfold f_X8_does at h
  refine rf_ex mw_X8_does [some (.ref 25), some (.int p0)] (Nat.le_of_ble_eq_true rfl) rfl ?_
  refine rf_b wf0 rc_X8_does_ok 0 3 (5, [some (.ref 25), some (.int p0)], [.int p0, .ref 35], σ) rfl ?_
  obtain ⟨g1, h⟩ := rf_ifn h
  refine rf_gd wf0 rc_X8_does_ok 3 (6, [some (.ref 25), some (.int p0)], [.int (σ.1 35 p0.toNatClampNeg)], σ) rfl rfl g1 rfl ?_
  by_cases c2 : (σ.1 35 p0.toNatClampNeg) ≤ 0
  · rw [if_pos c2] at h
    refine rf_t wf0 rc_X8_does_ok 4 (13, [some (.ref 25), some (.int p0)], [], σ) rfl rfl c2 rfl ?_
    refine rf_b wf0 rc_X8_does_ok 7 4 (17, [some (.ref 25), some (.int p0)], [.int p0, .ref 25, .int p0, .ref 25], σ) rfl ?_
    obtain ⟨q3, h4, h⟩ := Option.bind_eq_some_iff.mp h
    refine rf_cv1 (Mt := mX8_kindOf) wf0 rc_X8_does_ok 11 false rfl (List.mem_of_getElem? (i := 47) rfl) mw_X8_kindOf rfl 25 [.int p0] [.int p0, .ref 25] rfl rfl rfl (Nat.le_of_ble_eq_true rfl) (ok_X8_kindOf (d + 1) p0 σ q3 h4) ?_
    show rf_G _ _ _ (20, [some (.ref 25), some (.int p0)], [.int q3, .int p0, .ref 25], σ) _ _
    refine rf_b wf0 rc_X8_does_ok 12 3 (25, [some (.ref 25), some (.int p0)], [.int p0, .ref 36, .int q3, .int p0, .ref 25], σ) rfl ?_
    obtain ⟨g5, h⟩ := rf_ifn h
    refine rf_gd wf0 rc_X8_does_ok 15 (26, [some (.ref 25), some (.int p0)], [.int (σ.1 36 p0.toNatClampNeg), .int q3, .int p0, .ref 25], σ) rfl rfl g5 rfl ?_
    obtain ⟨q6, h7, h⟩ := Option.bind_eq_some_iff.mp h
    refine rf_cv1 (Mt := mX8_wouldAs) wf0 rc_X8_does_ok 16 false rfl (List.mem_of_getElem? (i := 53) rfl) mw_X8_wouldAs rfl 25 [.int p0, .int q3, .int (σ.1 36 p0.toNatClampNeg)] [] rfl rfl rfl (Nat.le_of_ble_eq_true rfl) (ok_X8_wouldAs d p0 q3 (σ.1 36 p0.toNatClampNeg) σ q6 h7) ?_
    show rf_G _ _ _ (29, [some (.ref 25), some (.int p0)], [.int q6], σ) _ _
    obtain rfl := Option.some.inj h
    exact rf_ri rc_X8_does_ok 17 rfl rfl
  · rw [if_neg c2] at h
    refine rf_f wf0 rc_X8_does_ok 4 (9, [some (.ref 25), some (.int p0)], [], σ) rfl rfl c2 rfl ?_
    refine rf_b wf0 rc_X8_does_ok 5 2 (29, [some (.ref 25), some (.int p0)], [.int 0], σ) rfl ?_
    obtain rfl := Option.some.inj h
    exact rf_ri rc_X8_does_ok 17 rfl rfl
def rc_X9_seen : List rf_E := [(0, .iload_n 1, 1, 1), (1, .ifCond .eq 7, 3, 8), (4, .iload_n 0, 1, 0), (5, .goto 10, 3, 15), (8, .iload_n 0, 1, 0), (9, .iconst (-1), 1, 0), (10, .ixor, 1, 0), (11, .ldc_w 394, 3, 2147483647), (14, .iand, 1, 0), (15, .ireturn, 1, 0)]
theorem rc_X9_seen_ok : rf_rc mX9_seen rc_X9_seen = true := by decide +kernel
theorem mw_X9_seen : rf_mw mX9_seen := ⟨rf_mt_ok _ (List.mem_of_getElem? (i := 143) rfl), fun _ => rf_ms_ok _ (List.mem_of_getElem? (i := 9) rfl), fun h => absurd h (by decide), rf_mq_5 _ (List.mem_of_getElem? (i := 18) rfl)⟩
def f_X9_seen (p0 : Int32) (p1 : Int32) (σ : rf_S) : Option Int32 := if p1 = 0 then (some ((p0 ^^^ (-1)) &&& 2147483647)) else (some p0)
set_option maxHeartbeats 2000000 in
theorem ok_X9_seen (d : Nat) (p0 : Int32) (p1 : Int32) (σ : rf_S) (q : Int32) (h : f_X9_seen p0 p1 σ = some q) : rf_Ex ly0 (d + 1) mX9_seen [.int p0, .int p1] σ (some (.int q) : Option Value) σ := by
  unfold f_X9_seen at h
  refine rf_ex mw_X9_seen [some (.int p0), some (.int p1)] (Nat.le_of_ble_eq_true rfl) rfl ?_
  refine rf_b wf0 rc_X9_seen_ok 0 1 (1, [some (.int p0), some (.int p1)], [.int p1], σ) rfl ?_
  by_cases c1 : p1 = 0
  · rw [if_pos c1] at h
    refine rf_t wf0 rc_X9_seen_ok 1 (8, [some (.int p0), some (.int p1)], [], σ) rfl rfl c1 rfl ?_
    refine rf_b wf0 rc_X9_seen_ok 4 5 (15, [some (.int p0), some (.int p1)], [.int ((p0 ^^^ (-1)) &&& 2147483647)], σ) rfl ?_
    obtain rfl := Option.some.inj h
    exact rf_ri rc_X9_seen_ok 9 rfl rfl
  · rw [if_neg c1] at h
    refine rf_f wf0 rc_X9_seen_ok 1 (4, [some (.int p0), some (.int p1)], [], σ) rfl rfl c1 rfl ?_
    refine rf_b wf0 rc_X9_seen_ok 2 2 (15, [some (.int p0), some (.int p1)], [.int p0], σ) rfl ?_
    obtain rfl := Option.some.inj h
    exact rf_ri rc_X9_seen_ok 9 rfl rfl
def rc_X0_seeming : List rf_E := [(0, .ldc 49, 2, 2147483647), (2, .istore 4, 2, 4), (4, .iconst 0, 1, 0), (5, .istore 5, 2, 5), (7, .iload 5, 2, 5), (9, .aload_n 0, 1, 0), (10, .invokevirtual 50, 3, 0), (13, .if_icmp .ge 66, 3, 79), (16, .iload_n 2, 1, 2), (17, .iload 5, 2, 5), (19, .ishr, 1, 0), (20, .iconst 1, 1, 0), (21, .iand, 1, 0), (22, .iconst 1, 1, 0), (23, .if_icmp .ne 50, 3, 73), (26, .aload_n 0, 1, 0), (27, .iload 5, 2, 5), (29, .invokevirtual 54, 3, 0), (32, .istore 6, 2, 6), (34, .iload 6, 2, 6), (36, .aload_n 0, 1, 0), (37, .getfield 57, 3, 801), (40, .iload_n 1, 1, 1), (41, .iaload, 1, 0), (42, .ishr, 1, 0), (43, .iconst 1, 1, 0), (44, .iand, 1, 0), (45, .iload_n 3, 1, 3), (46, .iload 5, 2, 5), (48, .ishr, 1, 0), (49, .iconst 1, 1, 0), (50, .iand, 1, 0), (51, .if_icmp .eq 7, 3, 58), (54, .iconst 1, 1, 0), (55, .goto 4, 3, 59), (58, .iconst 0, 1, 0), (59, .istore 7, 2, 7), (61, .iload 4, 2, 4), (63, .iload 6, 2, 6), (65, .iload 7, 2, 7), (67, .invokestatic 61, 3, 0), (70, .iand, 1, 0), (71, .istore 4, 2, 4), (73, .iinc 5 1, 3, 5), (76, .goto (-69), 3, 7), (79, .iload 4, 2, 4), (81, .ireturn, 1, 0)]
theorem rc_X0_seeming_ok : rf_rc mX0_seeming rc_X0_seeming = true := by decide +kernel
theorem mw_X0_seeming : rf_mw mX0_seeming := ⟨rf_mt_ok _ (List.mem_of_getElem? (i := 1) rfl), fun _ => rf_ms_ok _ (List.mem_of_getElem? (i := 0) rfl), fun h => absurd h (by decide), rf_mq_0 _ (List.mem_of_getElem? (i := 1) rfl)⟩
def f_X0_seeming_j73 (l1 : Int32) (l2 : Int32) (l3 : Int32) (l4 : Int32) (l5 : Int32) (σ : rf_S) : Option ((Int32 × Int32) ⊕ (Int32)) := some (.inl (l4, (l5 + 1)))
set_option maxHeartbeats 2000000 in
theorem ok_X0_seeming_j73 (d : Nat) (l1 : Int32) (l2 : Int32) (l3 : Int32) (l4 : Int32) (l5 : Int32) (σ : rf_S) (o : ((Int32 × Int32) ⊕ (Int32))) (h : f_X0_seeming_j73 l1 l2 l3 l4 l5 σ = some o) {r : Option Value} {σr : rf_S} (kl : ∀ s', o = .inl s' → rf_G ly0 (d + 3) mX0_seeming (7, [some (.ref 25), some (.int l1), some (.int l2), some (.int l3), some (.int s'.1), some (.int s'.2), none, none], [], σ) r σr) (kx : ∀ e, o = .inr e → rf_G ly0 (d + 3) mX0_seeming (79, [none, none, none, none, some (.int e), none, none, none], [], σ) r σr) : rf_G ly0 (d + 3) mX0_seeming (73, [some (.ref 25), some (.int l1), some (.int l2), some (.int l3), some (.int l4), some (.int l5), none, none], [], σ) r σr := by
  unfold f_X0_seeming_j73 at h
  refine rf_b wf0 rc_X0_seeming_ok 43 2 (7, [some (.ref 25), some (.int l1), some (.int l2), some (.int l3), some (.int l4), some (.int (l5 + 1)), none, none], [], σ) rfl ?_
  exact kl (l4, (l5 + 1)) (Option.some.inj h).symm
def f_X0_seeming_j59 (l1 : Int32) (l2 : Int32) (l3 : Int32) (l4 : Int32) (l5 : Int32) (l6 : Int32) (t0 : Int32) (σ : rf_S) : Option ((Int32 × Int32) ⊕ (Int32)) := (f_X9_seen l6 t0 σ).bind (fun q9 => f_X0_seeming_j73 l1 l2 l3 (l4 &&& q9) l5 σ)
set_option maxHeartbeats 2000000 in
theorem ok_X0_seeming_j59 (d : Nat) (l1 : Int32) (l2 : Int32) (l3 : Int32) (l4 : Int32) (l5 : Int32) (l6 : Int32) (t0 : Int32) (σ : rf_S) (o : ((Int32 × Int32) ⊕ (Int32))) (h : f_X0_seeming_j59 l1 l2 l3 l4 l5 l6 t0 σ = some o) {r : Option Value} {σr : rf_S} (kl : ∀ s', o = .inl s' → rf_G ly0 (d + 3) mX0_seeming (7, [some (.ref 25), some (.int l1), some (.int l2), some (.int l3), some (.int s'.1), some (.int s'.2), none, none], [], σ) r σr) (kx : ∀ e, o = .inr e → rf_G ly0 (d + 3) mX0_seeming (79, [none, none, none, none, some (.int e), none, none, none], [], σ) r σr) : rf_G ly0 (d + 3) mX0_seeming (59, [some (.ref 25), some (.int l1), some (.int l2), some (.int l3), some (.int l4), some (.int l5), some (.int l6), none], [.int t0], σ) r σr := by
  unfold f_X0_seeming_j59 at h
  refine rf_b wf0 rc_X0_seeming_ok 36 4 (67, [some (.ref 25), some (.int l1), some (.int l2), some (.int l3), some (.int l4), some (.int l5), some (.int l6), some (.int t0)], [.int t0, .int l6, .int l4], σ) rfl ?_
  obtain ⟨q9, h10, h⟩ := Option.bind_eq_some_iff.mp h
  refine rf_cs1 (Mt := mX9_seen) rc_X0_seeming_ok 40 true rfl (List.mem_of_getElem? (i := 7) rfl) mw_X9_seen rfl [.int l6, .int t0] [.int l4] rfl rfl (Nat.le_of_ble_eq_true rfl) (ok_X9_seen (d + 2) l6 t0 σ q9 h10) ?_
  show rf_G _ _ _ (70, [some (.ref 25), some (.int l1), some (.int l2), some (.int l3), some (.int l4), some (.int l5), some (.int l6), some (.int t0)], [.int q9, .int l4], σ) _ _
  refine rf_b wf0 rc_X0_seeming_ok 41 2 (73, [some (.ref 25), some (.int l1), some (.int l2), some (.int l3), some (.int (l4 &&& q9)), some (.int l5), some (.int l6), some (.int t0)], [], σ) rfl ?_
  refine rf_fg [true, true, true, true, true, true, false, false] [some (.ref 25), some (.int l1), some (.int l2), some (.int l3), some (.int (l4 &&& q9)), some (.int l5), none, none] rfl ?_
  exact ok_X0_seeming_j73 d l1 l2 l3 (l4 &&& q9) l5 σ o h kl kx
def f_X0_seeming_b7 (l1 : Int32) (l2 : Int32) (l3 : Int32) (σ : rf_S) (s7 : Int32 × Int32) : Option ((Int32 × Int32) ⊕ (Int32)) := (f_X8_members σ).bind (fun q1 => if q1 ≤ s7.2 then (some (.inr s7.1)) else (if ((l2 >>> (s7.2 &&& 31)) &&& 1) ≠ 1 then (f_X0_seeming_j73 l1 l2 l3 s7.1 s7.2 σ) else ((f_X8_does s7.2 σ).bind (fun q5 => if rf_ck ly0 0 33 l1 = true then (if ((q5 >>> ((σ.1 33 l1.toNatClampNeg) &&& 31)) &&& 1) = ((l3 >>> (s7.2 &&& 31)) &&& 1) then (f_X0_seeming_j59 l1 l2 l3 s7.1 s7.2 q5 0 σ) else (f_X0_seeming_j59 l1 l2 l3 s7.1 s7.2 q5 1 σ)) else none))))
set_option maxHeartbeats 2000000 in
theorem ok_X0_seeming_b7 (d : Nat) (l1 : Int32) (l2 : Int32) (l3 : Int32) (σ : rf_S) (s7 : Int32 × Int32) (o : ((Int32 × Int32) ⊕ (Int32))) (h : f_X0_seeming_b7 l1 l2 l3 σ s7 = some o) {r : Option Value} {σr : rf_S} (kl : ∀ s', o = .inl s' → rf_G ly0 (d + 3) mX0_seeming (7, [some (.ref 25), some (.int l1), some (.int l2), some (.int l3), some (.int s'.1), some (.int s'.2), none, none], [], σ) r σr) (kx : ∀ e, o = .inr e → rf_G ly0 (d + 3) mX0_seeming (79, [none, none, none, none, some (.int e), none, none, none], [], σ) r σr) : rf_G ly0 (d + 3) mX0_seeming (7, [some (.ref 25), some (.int l1), some (.int l2), some (.int l3), some (.int s7.1), some (.int s7.2), none, none], [], σ) r σr := by
  unfold f_X0_seeming_b7 at h
  refine rf_b wf0 rc_X0_seeming_ok 4 2 (10, [some (.ref 25), some (.int l1), some (.int l2), some (.int l3), some (.int s7.1), some (.int s7.2), none, none], [.ref 25, .int s7.2], σ) rfl ?_
  obtain ⟨q1, h2, h⟩ := Option.bind_eq_some_iff.mp h
  refine rf_cv1 (Mt := mX8_members) wf0 rc_X0_seeming_ok 6 false rfl (List.mem_of_getElem? (i := 5) rfl) mw_X8_members rfl 25 [] [.int s7.2] rfl rfl rfl (Nat.le_of_ble_eq_true rfl) (ok_X8_members (d + 2)  σ q1 h2) ?_
  show rf_G _ _ _ (13, [some (.ref 25), some (.int l1), some (.int l2), some (.int l3), some (.int s7.1), some (.int s7.2), none, none], [.int q1, .int s7.2], σ) _ _
  by_cases c3 : q1 ≤ s7.2
  · rw [if_pos c3] at h
    refine rf_t wf0 rc_X0_seeming_ok 7 (79, [some (.ref 25), some (.int l1), some (.int l2), some (.int l3), some (.int s7.1), some (.int s7.2), none, none], [], σ) rfl rfl c3 rfl ?_
    refine rf_fg [false, false, false, false, true, false, true, true] [none, none, none, none, some (.int s7.1), none, none, none] rfl ?_
    exact kx s7.1 (Option.some.inj h).symm
  · rw [if_neg c3] at h
    refine rf_f wf0 rc_X0_seeming_ok 7 (16, [some (.ref 25), some (.int l1), some (.int l2), some (.int l3), some (.int s7.1), some (.int s7.2), none, none], [], σ) rfl rfl c3 rfl ?_
    refine rf_b wf0 rc_X0_seeming_ok 8 6 (23, [some (.ref 25), some (.int l1), some (.int l2), some (.int l3), some (.int s7.1), some (.int s7.2), none, none], [.int 1, .int ((l2 >>> (s7.2 &&& 31)) &&& 1)], σ) rfl ?_
    by_cases c4 : ((l2 >>> (s7.2 &&& 31)) &&& 1) ≠ 1
    · rw [if_pos c4] at h
      refine rf_t wf0 rc_X0_seeming_ok 14 (73, [some (.ref 25), some (.int l1), some (.int l2), some (.int l3), some (.int s7.1), some (.int s7.2), none, none], [], σ) rfl rfl c4 rfl ?_
      exact ok_X0_seeming_j73 d l1 l2 l3 s7.1 s7.2 σ o h kl kx
    · rw [if_neg c4] at h
      refine rf_f wf0 rc_X0_seeming_ok 14 (26, [some (.ref 25), some (.int l1), some (.int l2), some (.int l3), some (.int s7.1), some (.int s7.2), none, none], [], σ) rfl rfl c4 rfl ?_
      refine rf_b wf0 rc_X0_seeming_ok 15 2 (29, [some (.ref 25), some (.int l1), some (.int l2), some (.int l3), some (.int s7.1), some (.int s7.2), none, none], [.int s7.2, .ref 25], σ) rfl ?_
      obtain ⟨q5, h6, h⟩ := Option.bind_eq_some_iff.mp h
      refine rf_cv1 (Mt := mX8_does) wf0 rc_X0_seeming_ok 17 false rfl (List.mem_of_getElem? (i := 6) rfl) mw_X8_does rfl 25 [.int s7.2] [] rfl rfl rfl (Nat.le_of_ble_eq_true rfl) (ok_X8_does d s7.2 σ q5 h6) ?_
      show rf_G _ _ _ (32, [some (.ref 25), some (.int l1), some (.int l2), some (.int l3), some (.int s7.1), some (.int s7.2), none, none], [.int q5], σ) _ _
      refine rf_b wf0 rc_X0_seeming_ok 18 5 (41, [some (.ref 25), some (.int l1), some (.int l2), some (.int l3), some (.int s7.1), some (.int s7.2), some (.int q5), none], [.int l1, .ref 33, .int q5], σ) rfl ?_
      obtain ⟨g7, h⟩ := rf_ifn h
      refine rf_gd wf0 rc_X0_seeming_ok 23 (42, [some (.ref 25), some (.int l1), some (.int l2), some (.int l3), some (.int s7.1), some (.int s7.2), some (.int q5), none], [.int (σ.1 33 l1.toNatClampNeg), .int q5], σ) rfl rfl g7 rfl ?_
      refine rf_b wf0 rc_X0_seeming_ok 24 8 (51, [some (.ref 25), some (.int l1), some (.int l2), some (.int l3), some (.int s7.1), some (.int s7.2), some (.int q5), none], [.int ((l3 >>> (s7.2 &&& 31)) &&& 1), .int ((q5 >>> ((σ.1 33 l1.toNatClampNeg) &&& 31)) &&& 1)], σ) rfl ?_
      by_cases c8 : ((q5 >>> ((σ.1 33 l1.toNatClampNeg) &&& 31)) &&& 1) = ((l3 >>> (s7.2 &&& 31)) &&& 1)
      · rw [if_pos c8] at h
        refine rf_t wf0 rc_X0_seeming_ok 32 (58, [some (.ref 25), some (.int l1), some (.int l2), some (.int l3), some (.int s7.1), some (.int s7.2), some (.int q5), none], [], σ) rfl rfl c8 rfl ?_
        refine rf_b wf0 rc_X0_seeming_ok 35 1 (59, [some (.ref 25), some (.int l1), some (.int l2), some (.int l3), some (.int s7.1), some (.int s7.2), some (.int q5), none], [.int 0], σ) rfl ?_
        exact ok_X0_seeming_j59 d l1 l2 l3 s7.1 s7.2 q5 0 σ o h kl kx
      · rw [if_neg c8] at h
        refine rf_f wf0 rc_X0_seeming_ok 32 (54, [some (.ref 25), some (.int l1), some (.int l2), some (.int l3), some (.int s7.1), some (.int s7.2), some (.int q5), none], [], σ) rfl rfl c8 rfl ?_
        refine rf_b wf0 rc_X0_seeming_ok 33 2 (59, [some (.ref 25), some (.int l1), some (.int l2), some (.int l3), some (.int s7.1), some (.int s7.2), some (.int q5), none], [.int 1], σ) rfl ?_
        exact ok_X0_seeming_j59 d l1 l2 l3 s7.1 s7.2 q5 1 σ o h kl kx
def f_X0_seeming (p1 : Int32) (p2 : Int32) (p3 : Int32) (σ : rf_S) : Option Int32 := (rf_lp (f_X0_seeming_b7 p1 p2 p3 σ) 5000 (2147483647, 0)).bind (fun e11 => some e11)
set_option maxHeartbeats 2000000 in
theorem ok_X0_seeming (d : Nat) (p1 : Int32) (p2 : Int32) (p3 : Int32) (σ : rf_S) (q : Int32) (h : f_X0_seeming p1 p2 p3 σ = some q) : rf_Ex ly0 (d + 4) mX0_seeming [.ref 25, .int p1, .int p2, .int p3] σ (some (.int q) : Option Value) σ := by
  unfold f_X0_seeming at h
  refine rf_ex mw_X0_seeming [some (.ref 25), some (.int p1), some (.int p2), some (.int p3), none, none, none, none] (Nat.le_of_ble_eq_true rfl) rfl ?_
  refine rf_b wf0 rc_X0_seeming_ok 0 4 (7, [some (.ref 25), some (.int p1), some (.int p2), some (.int p3), some (.int 2147483647), some (.int 0), none, none], [], σ) rfl ?_
  obtain ⟨e11, h12, h⟩ := Option.bind_eq_some_iff.mp h
  refine rf_lpG (b := f_X0_seeming_b7 p1 p2 p3 σ) (G := fun (s7 : Int32 × Int32) => rf_G ly0 (d + 3) mX0_seeming (7, [some (.ref 25), some (.int p1), some (.int p2), some (.int p3), some (.int s7.1), some (.int s7.2), none, none], [], σ) (some (.int q) : Option Value) σ) (K := fun (e : (Int32)) => rf_G ly0 (d + 3) mX0_seeming (79, [none, none, none, none, some (.int e), none, none, none], [], σ) (some (.int q) : Option Value) σ) (fun (s7 : Int32 × Int32) (o : (Int32 × Int32) ⊕ (Int32)) hb kl kx => ok_X0_seeming_b7 d p1 p2 p3 σ s7 o hb kl kx) 5000 (2147483647, 0) e11 h12 ?_
  show rf_G _ _ _ (79, [none, none, none, none, some (.int e11), none, none, none], [], σ) _ _
  refine rf_b wf0 rc_X0_seeming_ok 45 1 (81, [none, none, none, none, some (.int e11), none, none, none], [.int e11], σ) rfl ?_
  obtain rfl := Option.some.inj h
  exact rf_ri rc_X0_seeming_ok 46 rfl rfl
def rc_J_bitCount : List rf_E := [(0, .iload_n 0, 1, 0), (1, .iload_n 0, 1, 0), (2, .iconst 1, 1, 0), (3, .iushr, 1, 0), (4, .ldc_w 265, 3, 1431655765), (7, .iand, 1, 0), (8, .isub, 1, 0), (9, .istore_n 0, 1, 0), (10, .iload_n 0, 1, 0), (11, .ldc_w 266, 3, 858993459), (14, .iand, 1, 0), (15, .iload_n 0, 1, 0), (16, .iconst 2, 1, 0), (17, .iushr, 1, 0), (18, .ldc_w 266, 3, 858993459), (21, .iand, 1, 0), (22, .iadd, 1, 0), (23, .istore_n 0, 1, 0), (24, .iload_n 0, 1, 0), (25, .iload_n 0, 1, 0), (26, .iconst 4, 1, 0), (27, .iushr, 1, 0), (28, .iadd, 1, 0), (29, .ldc_w 267, 3, 252645135), (32, .iand, 1, 0), (33, .istore_n 0, 1, 0), (34, .iload_n 0, 1, 0), (35, .iload_n 0, 1, 0), (36, .bipush 8, 2, 0), (38, .iushr, 1, 0), (39, .iadd, 1, 0), (40, .istore_n 0, 1, 0), (41, .iload_n 0, 1, 0), (42, .iload_n 0, 1, 0), (43, .bipush 16, 2, 0), (45, .iushr, 1, 0), (46, .iadd, 1, 0), (47, .istore_n 0, 1, 0), (48, .iload_n 0, 1, 0), (49, .bipush 63, 2, 0), (51, .iand, 1, 0), (52, .ireturn, 1, 0)]
theorem rc_J_bitCount_ok : rf_rc mJ6_bitCount_0f7a4 rc_J_bitCount = true := by decide +kernel
theorem mw_J_bitCount : rf_mw mJ6_bitCount_0f7a4 := ⟨rf_mt_ok _ (List.mem_of_getElem? (i := 244) rfl), fun _ => rf_ms_ok _ (List.mem_of_getElem? (i := 23) rfl), fun h => absurd h (by decide), rf_mq_9 _ (List.mem_of_getElem? (i := 19) rfl)⟩
def f_J_bitCount (p0 : Int32) (σ : rf_S) : Option Int32 := some ((((((((p0 - (((p0.toUInt32 >>> ((1 : Int32).toUInt32 &&& Int32.toUInt32 31)).toInt32) &&& 1431655765)) &&& 858993459) + ((((p0 - (((p0.toUInt32 >>> ((1 : Int32).toUInt32 &&& Int32.toUInt32 31)).toInt32) &&& 1431655765)).toUInt32 >>> ((2 : Int32).toUInt32 &&& Int32.toUInt32 31)).toInt32) &&& 858993459)) + (((((p0 - (((p0.toUInt32 >>> ((1 : Int32).toUInt32 &&& Int32.toUInt32 31)).toInt32) &&& 1431655765)) &&& 858993459) + ((((p0 - (((p0.toUInt32 >>> ((1 : Int32).toUInt32 &&& Int32.toUInt32 31)).toInt32) &&& 1431655765)).toUInt32 >>> ((2 : Int32).toUInt32 &&& Int32.toUInt32 31)).toInt32) &&& 858993459)).toUInt32 >>> ((4 : Int32).toUInt32 &&& Int32.toUInt32 31)).toInt32)) &&& 252645135) + (((((((p0 - (((p0.toUInt32 >>> ((1 : Int32).toUInt32 &&& Int32.toUInt32 31)).toInt32) &&& 1431655765)) &&& 858993459) + ((((p0 - (((p0.toUInt32 >>> ((1 : Int32).toUInt32 &&& Int32.toUInt32 31)).toInt32) &&& 1431655765)).toUInt32 >>> ((2 : Int32).toUInt32 &&& Int32.toUInt32 31)).toInt32) &&& 858993459)) + (((((p0 - (((p0.toUInt32 >>> ((1 : Int32).toUInt32 &&& Int32.toUInt32 31)).toInt32) &&& 1431655765)) &&& 858993459) + ((((p0 - (((p0.toUInt32 >>> ((1 : Int32).toUInt32 &&& Int32.toUInt32 31)).toInt32) &&& 1431655765)).toUInt32 >>> ((2 : Int32).toUInt32 &&& Int32.toUInt32 31)).toInt32) &&& 858993459)).toUInt32 >>> ((4 : Int32).toUInt32 &&& Int32.toUInt32 31)).toInt32)) &&& 252645135).toUInt32 >>> ((8 : Int32).toUInt32 &&& Int32.toUInt32 31)).toInt32)) + ((((((((p0 - (((p0.toUInt32 >>> ((1 : Int32).toUInt32 &&& Int32.toUInt32 31)).toInt32) &&& 1431655765)) &&& 858993459) + ((((p0 - (((p0.toUInt32 >>> ((1 : Int32).toUInt32 &&& Int32.toUInt32 31)).toInt32) &&& 1431655765)).toUInt32 >>> ((2 : Int32).toUInt32 &&& Int32.toUInt32 31)).toInt32) &&& 858993459)) + (((((p0 - (((p0.toUInt32 >>> ((1 : Int32).toUInt32 &&& Int32.toUInt32 31)).toInt32) &&& 1431655765)) &&& 858993459) + ((((p0 - (((p0.toUInt32 >>> ((1 : Int32).toUInt32 &&& Int32.toUInt32 31)).toInt32) &&& 1431655765)).toUInt32 >>> ((2 : Int32).toUInt32 &&& Int32.toUInt32 31)).toInt32) &&& 858993459)).toUInt32 >>> ((4 : Int32).toUInt32 &&& Int32.toUInt32 31)).toInt32)) &&& 252645135) + (((((((p0 - (((p0.toUInt32 >>> ((1 : Int32).toUInt32 &&& Int32.toUInt32 31)).toInt32) &&& 1431655765)) &&& 858993459) + ((((p0 - (((p0.toUInt32 >>> ((1 : Int32).toUInt32 &&& Int32.toUInt32 31)).toInt32) &&& 1431655765)).toUInt32 >>> ((2 : Int32).toUInt32 &&& Int32.toUInt32 31)).toInt32) &&& 858993459)) + (((((p0 - (((p0.toUInt32 >>> ((1 : Int32).toUInt32 &&& Int32.toUInt32 31)).toInt32) &&& 1431655765)) &&& 858993459) + ((((p0 - (((p0.toUInt32 >>> ((1 : Int32).toUInt32 &&& Int32.toUInt32 31)).toInt32) &&& 1431655765)).toUInt32 >>> ((2 : Int32).toUInt32 &&& Int32.toUInt32 31)).toInt32) &&& 858993459)).toUInt32 >>> ((4 : Int32).toUInt32 &&& Int32.toUInt32 31)).toInt32)) &&& 252645135).toUInt32 >>> ((8 : Int32).toUInt32 &&& Int32.toUInt32 31)).toInt32)).toUInt32 >>> ((16 : Int32).toUInt32 &&& Int32.toUInt32 31)).toInt32)) &&& 63)
set_option maxHeartbeats 2000000 in
theorem ok_J_bitCount (d : Nat) (p0 : Int32) (σ : rf_S) (q : Int32) (h : f_J_bitCount p0 σ = some q) : rf_Ex ly0 (d + 1) mJ6_bitCount_0f7a4 [.int p0] σ (some (.int q) : Option Value) σ := by
  unfold f_J_bitCount at h
  refine rf_ex mw_J_bitCount [some (.int p0)] (Nat.le_of_ble_eq_true rfl) rfl ?_
  refine rf_b wf0 rc_J_bitCount_ok 0 41 (52, [some (.int (((((((p0 - (((p0.toUInt32 >>> ((1 : Int32).toUInt32 &&& Int32.toUInt32 31)).toInt32) &&& 1431655765)) &&& 858993459) + ((((p0 - (((p0.toUInt32 >>> ((1 : Int32).toUInt32 &&& Int32.toUInt32 31)).toInt32) &&& 1431655765)).toUInt32 >>> ((2 : Int32).toUInt32 &&& Int32.toUInt32 31)).toInt32) &&& 858993459)) + (((((p0 - (((p0.toUInt32 >>> ((1 : Int32).toUInt32 &&& Int32.toUInt32 31)).toInt32) &&& 1431655765)) &&& 858993459) + ((((p0 - (((p0.toUInt32 >>> ((1 : Int32).toUInt32 &&& Int32.toUInt32 31)).toInt32) &&& 1431655765)).toUInt32 >>> ((2 : Int32).toUInt32 &&& Int32.toUInt32 31)).toInt32) &&& 858993459)).toUInt32 >>> ((4 : Int32).toUInt32 &&& Int32.toUInt32 31)).toInt32)) &&& 252645135) + (((((((p0 - (((p0.toUInt32 >>> ((1 : Int32).toUInt32 &&& Int32.toUInt32 31)).toInt32) &&& 1431655765)) &&& 858993459) + ((((p0 - (((p0.toUInt32 >>> ((1 : Int32).toUInt32 &&& Int32.toUInt32 31)).toInt32) &&& 1431655765)).toUInt32 >>> ((2 : Int32).toUInt32 &&& Int32.toUInt32 31)).toInt32) &&& 858993459)) + (((((p0 - (((p0.toUInt32 >>> ((1 : Int32).toUInt32 &&& Int32.toUInt32 31)).toInt32) &&& 1431655765)) &&& 858993459) + ((((p0 - (((p0.toUInt32 >>> ((1 : Int32).toUInt32 &&& Int32.toUInt32 31)).toInt32) &&& 1431655765)).toUInt32 >>> ((2 : Int32).toUInt32 &&& Int32.toUInt32 31)).toInt32) &&& 858993459)).toUInt32 >>> ((4 : Int32).toUInt32 &&& Int32.toUInt32 31)).toInt32)) &&& 252645135).toUInt32 >>> ((8 : Int32).toUInt32 &&& Int32.toUInt32 31)).toInt32)) + ((((((((p0 - (((p0.toUInt32 >>> ((1 : Int32).toUInt32 &&& Int32.toUInt32 31)).toInt32) &&& 1431655765)) &&& 858993459) + ((((p0 - (((p0.toUInt32 >>> ((1 : Int32).toUInt32 &&& Int32.toUInt32 31)).toInt32) &&& 1431655765)).toUInt32 >>> ((2 : Int32).toUInt32 &&& Int32.toUInt32 31)).toInt32) &&& 858993459)) + (((((p0 - (((p0.toUInt32 >>> ((1 : Int32).toUInt32 &&& Int32.toUInt32 31)).toInt32) &&& 1431655765)) &&& 858993459) + ((((p0 - (((p0.toUInt32 >>> ((1 : Int32).toUInt32 &&& Int32.toUInt32 31)).toInt32) &&& 1431655765)).toUInt32 >>> ((2 : Int32).toUInt32 &&& Int32.toUInt32 31)).toInt32) &&& 858993459)).toUInt32 >>> ((4 : Int32).toUInt32 &&& Int32.toUInt32 31)).toInt32)) &&& 252645135) + (((((((p0 - (((p0.toUInt32 >>> ((1 : Int32).toUInt32 &&& Int32.toUInt32 31)).toInt32) &&& 1431655765)) &&& 858993459) + ((((p0 - (((p0.toUInt32 >>> ((1 : Int32).toUInt32 &&& Int32.toUInt32 31)).toInt32) &&& 1431655765)).toUInt32 >>> ((2 : Int32).toUInt32 &&& Int32.toUInt32 31)).toInt32) &&& 858993459)) + (((((p0 - (((p0.toUInt32 >>> ((1 : Int32).toUInt32 &&& Int32.toUInt32 31)).toInt32) &&& 1431655765)) &&& 858993459) + ((((p0 - (((p0.toUInt32 >>> ((1 : Int32).toUInt32 &&& Int32.toUInt32 31)).toInt32) &&& 1431655765)).toUInt32 >>> ((2 : Int32).toUInt32 &&& Int32.toUInt32 31)).toInt32) &&& 858993459)).toUInt32 >>> ((4 : Int32).toUInt32 &&& Int32.toUInt32 31)).toInt32)) &&& 252645135).toUInt32 >>> ((8 : Int32).toUInt32 &&& Int32.toUInt32 31)).toInt32)).toUInt32 >>> ((16 : Int32).toUInt32 &&& Int32.toUInt32 31)).toInt32)))], [.int ((((((((p0 - (((p0.toUInt32 >>> ((1 : Int32).toUInt32 &&& Int32.toUInt32 31)).toInt32) &&& 1431655765)) &&& 858993459) + ((((p0 - (((p0.toUInt32 >>> ((1 : Int32).toUInt32 &&& Int32.toUInt32 31)).toInt32) &&& 1431655765)).toUInt32 >>> ((2 : Int32).toUInt32 &&& Int32.toUInt32 31)).toInt32) &&& 858993459)) + (((((p0 - (((p0.toUInt32 >>> ((1 : Int32).toUInt32 &&& Int32.toUInt32 31)).toInt32) &&& 1431655765)) &&& 858993459) + ((((p0 - (((p0.toUInt32 >>> ((1 : Int32).toUInt32 &&& Int32.toUInt32 31)).toInt32) &&& 1431655765)).toUInt32 >>> ((2 : Int32).toUInt32 &&& Int32.toUInt32 31)).toInt32) &&& 858993459)).toUInt32 >>> ((4 : Int32).toUInt32 &&& Int32.toUInt32 31)).toInt32)) &&& 252645135) + (((((((p0 - (((p0.toUInt32 >>> ((1 : Int32).toUInt32 &&& Int32.toUInt32 31)).toInt32) &&& 1431655765)) &&& 858993459) + ((((p0 - (((p0.toUInt32 >>> ((1 : Int32).toUInt32 &&& Int32.toUInt32 31)).toInt32) &&& 1431655765)).toUInt32 >>> ((2 : Int32).toUInt32 &&& Int32.toUInt32 31)).toInt32) &&& 858993459)) + (((((p0 - (((p0.toUInt32 >>> ((1 : Int32).toUInt32 &&& Int32.toUInt32 31)).toInt32) &&& 1431655765)) &&& 858993459) + ((((p0 - (((p0.toUInt32 >>> ((1 : Int32).toUInt32 &&& Int32.toUInt32 31)).toInt32) &&& 1431655765)).toUInt32 >>> ((2 : Int32).toUInt32 &&& Int32.toUInt32 31)).toInt32) &&& 858993459)).toUInt32 >>> ((4 : Int32).toUInt32 &&& Int32.toUInt32 31)).toInt32)) &&& 252645135).toUInt32 >>> ((8 : Int32).toUInt32 &&& Int32.toUInt32 31)).toInt32)) + ((((((((p0 - (((p0.toUInt32 >>> ((1 : Int32).toUInt32 &&& Int32.toUInt32 31)).toInt32) &&& 1431655765)) &&& 858993459) + ((((p0 - (((p0.toUInt32 >>> ((1 : Int32).toUInt32 &&& Int32.toUInt32 31)).toInt32) &&& 1431655765)).toUInt32 >>> ((2 : Int32).toUInt32 &&& Int32.toUInt32 31)).toInt32) &&& 858993459)) + (((((p0 - (((p0.toUInt32 >>> ((1 : Int32).toUInt32 &&& Int32.toUInt32 31)).toInt32) &&& 1431655765)) &&& 858993459) + ((((p0 - (((p0.toUInt32 >>> ((1 : Int32).toUInt32 &&& Int32.toUInt32 31)).toInt32) &&& 1431655765)).toUInt32 >>> ((2 : Int32).toUInt32 &&& Int32.toUInt32 31)).toInt32) &&& 858993459)).toUInt32 >>> ((4 : Int32).toUInt32 &&& Int32.toUInt32 31)).toInt32)) &&& 252645135) + (((((((p0 - (((p0.toUInt32 >>> ((1 : Int32).toUInt32 &&& Int32.toUInt32 31)).toInt32) &&& 1431655765)) &&& 858993459) + ((((p0 - (((p0.toUInt32 >>> ((1 : Int32).toUInt32 &&& Int32.toUInt32 31)).toInt32) &&& 1431655765)).toUInt32 >>> ((2 : Int32).toUInt32 &&& Int32.toUInt32 31)).toInt32) &&& 858993459)) + (((((p0 - (((p0.toUInt32 >>> ((1 : Int32).toUInt32 &&& Int32.toUInt32 31)).toInt32) &&& 1431655765)) &&& 858993459) + ((((p0 - (((p0.toUInt32 >>> ((1 : Int32).toUInt32 &&& Int32.toUInt32 31)).toInt32) &&& 1431655765)).toUInt32 >>> ((2 : Int32).toUInt32 &&& Int32.toUInt32 31)).toInt32) &&& 858993459)).toUInt32 >>> ((4 : Int32).toUInt32 &&& Int32.toUInt32 31)).toInt32)) &&& 252645135).toUInt32 >>> ((8 : Int32).toUInt32 &&& Int32.toUInt32 31)).toInt32)).toUInt32 >>> ((16 : Int32).toUInt32 &&& Int32.toUInt32 31)).toInt32)) &&& 63)], σ) rfl ?_
  obtain rfl := Option.some.inj h
  exact rf_ri rc_J_bitCount_ok 41 rfl rfl
def rc_X0_ways : List rf_E := [(0, .lconst 1, 1, 1), (1, .lstore_n 3, 1, 3), (2, .iconst 0, 1, 0), (3, .istore 5, 2, 5), (5, .iload 5, 2, 5), (7, .bipush 6, 2, 0), (9, .if_icmp .ge 42, 3, 51), (12, .iload_n 0, 1, 0), (13, .iload 5, 2, 5), (15, .ishr, 1, 0), (16, .iconst 1, 1, 0), (17, .iand, 1, 0), (18, .iconst 1, 1, 0), (19, .if_icmp .ne 26, 3, 45), (22, .lload_n 3, 1, 3), (23, .iload_n 1, 1, 1), (24, .iload 5, 2, 5), (26, .ishr, 1, 0), (27, .iconst 1, 1, 0), (28, .iand, 1, 0), (29, .iconst 1, 1, 0), (30, .if_icmp .ne 8, 3, 38), (33, .iload_n 2, 1, 2), (34, .i2l, 1, 0), (35, .goto 8, 3, 43), (38, .bipush 12, 2, 0), (40, .iload_n 2, 1, 2), (41, .isub, 1, 0), (42, .i2l, 1, 0), (43, .lmul, 1, 0), (44, .lstore_n 3, 1, 3), (45, .iinc 5 1, 3, 5), (48, .goto (-43), 3, 5), (51, .lload_n 3, 1, 3), (52, .lreturn, 1, 0)]
theorem rc_X0_ways_ok : rf_rc mX0_ways rc_X0_ways = true := by decide +kernel
theorem mw_X0_ways : rf_mw mX0_ways := ⟨rf_mt_ok _ (List.mem_of_getElem? (i := 2) rfl), fun _ => rf_ms_ok _ (List.mem_of_getElem? (i := 1) rfl), fun h => absurd h (by decide), rf_mq_0 _ (List.mem_of_getElem? (i := 2) rfl)⟩
def f_X0_ways_j45 (l0 : Int32) (l1 : Int32) (l2 : Int32) (l3 : Int64) (l5 : Int32) (σ : rf_S) : Option ((Int64 × Int32) ⊕ (Int64)) := some (.inl (l3, (l5 + 1)))
set_option maxHeartbeats 2000000 in
theorem ok_X0_ways_j45 (d : Nat) (l0 : Int32) (l1 : Int32) (l2 : Int32) (l3 : Int64) (l5 : Int32) (σ : rf_S) (o : ((Int64 × Int32) ⊕ (Int64))) (h : f_X0_ways_j45 l0 l1 l2 l3 l5 σ = some o) {r : Option Value} {σr : rf_S} (kl : ∀ s', o = .inl s' → rf_G ly0 (d) mX0_ways (5, [some (.int l0), some (.int l1), some (.int l2), some (.long s'.1), none, some (.int s'.2)], [], σ) r σr) (kx : ∀ e, o = .inr e → rf_G ly0 (d) mX0_ways (51, [none, none, none, some (.long e), none, none], [], σ) r σr) : rf_G ly0 (d) mX0_ways (45, [some (.int l0), some (.int l1), some (.int l2), some (.long l3), none, some (.int l5)], [], σ) r σr := by
  unfold f_X0_ways_j45 at h
  refine rf_b wf0 rc_X0_ways_ok 31 2 (5, [some (.int l0), some (.int l1), some (.int l2), some (.long l3), none, some (.int (l5 + 1))], [], σ) rfl ?_
  exact kl (l3, (l5 + 1)) (Option.some.inj h).symm
def f_X0_ways_j43 (l0 : Int32) (l1 : Int32) (l2 : Int32) (l5 : Int32) (t0 : Int64) (t1 : Int64) (σ : rf_S) : Option ((Int64 × Int32) ⊕ (Int64)) := f_X0_ways_j45 l0 l1 l2 (t1 * t0) l5 σ
set_option maxHeartbeats 2000000 in
theorem ok_X0_ways_j43 (d : Nat) (l0 : Int32) (l1 : Int32) (l2 : Int32) (l5 : Int32) (t0 : Int64) (t1 : Int64) (σ : rf_S) (o : ((Int64 × Int32) ⊕ (Int64))) (h : f_X0_ways_j43 l0 l1 l2 l5 t0 t1 σ = some o) {r : Option Value} {σr : rf_S} (kl : ∀ s', o = .inl s' → rf_G ly0 (d) mX0_ways (5, [some (.int l0), some (.int l1), some (.int l2), some (.long s'.1), none, some (.int s'.2)], [], σ) r σr) (kx : ∀ e, o = .inr e → rf_G ly0 (d) mX0_ways (51, [none, none, none, some (.long e), none, none], [], σ) r σr) : rf_G ly0 (d) mX0_ways (43, [some (.int l0), some (.int l1), some (.int l2), none, none, some (.int l5)], [.long t0, .long t1], σ) r σr := by
  unfold f_X0_ways_j43 at h
  refine rf_b wf0 rc_X0_ways_ok 29 2 (45, [some (.int l0), some (.int l1), some (.int l2), some (.long (t1 * t0)), none, some (.int l5)], [], σ) rfl ?_
  exact ok_X0_ways_j45 d l0 l1 l2 (t1 * t0) l5 σ o h kl kx
def f_X0_ways_b5 (l0 : Int32) (l1 : Int32) (l2 : Int32) (σ : rf_S) (s5 : Int64 × Int32) : Option ((Int64 × Int32) ⊕ (Int64)) := if 6 ≤ s5.2 then (some (.inr s5.1)) else (if ((l0 >>> (s5.2 &&& 31)) &&& 1) ≠ 1 then (f_X0_ways_j45 l0 l1 l2 s5.1 s5.2 σ) else (if ((l1 >>> (s5.2 &&& 31)) &&& 1) ≠ 1 then (f_X0_ways_j43 l0 l1 l2 s5.2 ((12 - l2).toInt64) s5.1 σ) else (f_X0_ways_j43 l0 l1 l2 s5.2 l2.toInt64 s5.1 σ)))
set_option maxHeartbeats 2000000 in
theorem ok_X0_ways_b5 (d : Nat) (l0 : Int32) (l1 : Int32) (l2 : Int32) (σ : rf_S) (s5 : Int64 × Int32) (o : ((Int64 × Int32) ⊕ (Int64))) (h : f_X0_ways_b5 l0 l1 l2 σ s5 = some o) {r : Option Value} {σr : rf_S} (kl : ∀ s', o = .inl s' → rf_G ly0 (d) mX0_ways (5, [some (.int l0), some (.int l1), some (.int l2), some (.long s'.1), none, some (.int s'.2)], [], σ) r σr) (kx : ∀ e, o = .inr e → rf_G ly0 (d) mX0_ways (51, [none, none, none, some (.long e), none, none], [], σ) r σr) : rf_G ly0 (d) mX0_ways (5, [some (.int l0), some (.int l1), some (.int l2), some (.long s5.1), none, some (.int s5.2)], [], σ) r σr := by
  unfold f_X0_ways_b5 at h
  refine rf_b wf0 rc_X0_ways_ok 4 2 (9, [some (.int l0), some (.int l1), some (.int l2), some (.long s5.1), none, some (.int s5.2)], [.int 6, .int s5.2], σ) rfl ?_
  by_cases c1 : 6 ≤ s5.2
  · rw [if_pos c1] at h
    refine rf_t wf0 rc_X0_ways_ok 6 (51, [some (.int l0), some (.int l1), some (.int l2), some (.long s5.1), none, some (.int s5.2)], [], σ) rfl rfl c1 rfl ?_
    refine rf_fg [false, false, false, true, true, false] [none, none, none, some (.long s5.1), none, none] rfl ?_
    exact kx s5.1 (Option.some.inj h).symm
  · rw [if_neg c1] at h
    refine rf_f wf0 rc_X0_ways_ok 6 (12, [some (.int l0), some (.int l1), some (.int l2), some (.long s5.1), none, some (.int s5.2)], [], σ) rfl rfl c1 rfl ?_
    refine rf_b wf0 rc_X0_ways_ok 7 6 (19, [some (.int l0), some (.int l1), some (.int l2), some (.long s5.1), none, some (.int s5.2)], [.int 1, .int ((l0 >>> (s5.2 &&& 31)) &&& 1)], σ) rfl ?_
    by_cases c2 : ((l0 >>> (s5.2 &&& 31)) &&& 1) ≠ 1
    · rw [if_pos c2] at h
      refine rf_t wf0 rc_X0_ways_ok 13 (45, [some (.int l0), some (.int l1), some (.int l2), some (.long s5.1), none, some (.int s5.2)], [], σ) rfl rfl c2 rfl ?_
      exact ok_X0_ways_j45 d l0 l1 l2 s5.1 s5.2 σ o h kl kx
    · rw [if_neg c2] at h
      refine rf_f wf0 rc_X0_ways_ok 13 (22, [some (.int l0), some (.int l1), some (.int l2), some (.long s5.1), none, some (.int s5.2)], [], σ) rfl rfl c2 rfl ?_
      refine rf_b wf0 rc_X0_ways_ok 14 7 (30, [some (.int l0), some (.int l1), some (.int l2), some (.long s5.1), none, some (.int s5.2)], [.int 1, .int ((l1 >>> (s5.2 &&& 31)) &&& 1), .long s5.1], σ) rfl ?_
      by_cases c3 : ((l1 >>> (s5.2 &&& 31)) &&& 1) ≠ 1
      · rw [if_pos c3] at h
        refine rf_t wf0 rc_X0_ways_ok 21 (38, [some (.int l0), some (.int l1), some (.int l2), some (.long s5.1), none, some (.int s5.2)], [.long s5.1], σ) rfl rfl c3 rfl ?_
        refine rf_b wf0 rc_X0_ways_ok 25 4 (43, [some (.int l0), some (.int l1), some (.int l2), some (.long s5.1), none, some (.int s5.2)], [.long ((12 - l2).toInt64), .long s5.1], σ) rfl ?_
        refine rf_fg [true, true, true, false, true, true] [some (.int l0), some (.int l1), some (.int l2), none, none, some (.int s5.2)] rfl ?_
        exact ok_X0_ways_j43 d l0 l1 l2 s5.2 ((12 - l2).toInt64) s5.1 σ o h kl kx
      · rw [if_neg c3] at h
        refine rf_f wf0 rc_X0_ways_ok 21 (33, [some (.int l0), some (.int l1), some (.int l2), some (.long s5.1), none, some (.int s5.2)], [.long s5.1], σ) rfl rfl c3 rfl ?_
        refine rf_b wf0 rc_X0_ways_ok 22 3 (43, [some (.int l0), some (.int l1), some (.int l2), some (.long s5.1), none, some (.int s5.2)], [.long l2.toInt64, .long s5.1], σ) rfl ?_
        refine rf_fg [true, true, true, false, true, true] [some (.int l0), some (.int l1), some (.int l2), none, none, some (.int s5.2)] rfl ?_
        exact ok_X0_ways_j43 d l0 l1 l2 s5.2 l2.toInt64 s5.1 σ o h kl kx
def f_X0_ways (p0 : Int32) (p1 : Int32) (p2 : Int32) (σ : rf_S) : Option Int64 := (rf_lp (f_X0_ways_b5 p0 p1 p2 σ) 5000 (1, 0)).bind (fun e4 => some e4)
set_option maxHeartbeats 2000000 in
theorem ok_X0_ways (d : Nat) (p0 : Int32) (p1 : Int32) (p2 : Int32) (σ : rf_S) (q : Int64) (h : f_X0_ways p0 p1 p2 σ = some q) : rf_Ex ly0 (d + 1) mX0_ways [.int p0, .int p1, .int p2] σ (some (.long q) : Option Value) σ := by
  unfold f_X0_ways at h
  refine rf_ex mw_X0_ways [some (.int p0), some (.int p1), some (.int p2), none, none, none] (Nat.le_of_ble_eq_true rfl) rfl ?_
  refine rf_b wf0 rc_X0_ways_ok 0 4 (5, [some (.int p0), some (.int p1), some (.int p2), some (.long 1), none, some (.int 0)], [], σ) rfl ?_
  obtain ⟨e4, h5, h⟩ := Option.bind_eq_some_iff.mp h
  refine rf_lpG (b := f_X0_ways_b5 p0 p1 p2 σ) (G := fun (s5 : Int64 × Int32) => rf_G ly0 (d) mX0_ways (5, [some (.int p0), some (.int p1), some (.int p2), some (.long s5.1), none, some (.int s5.2)], [], σ) (some (.long q) : Option Value) σ) (K := fun (e : (Int64)) => rf_G ly0 (d) mX0_ways (51, [none, none, none, some (.long e), none, none], [], σ) (some (.long q) : Option Value) σ) (fun (s5 : Int64 × Int32) (o : (Int64 × Int32) ⊕ (Int64)) hb kl kx => ok_X0_ways_b5 d p0 p1 p2 σ s5 o hb kl kx) 5000 (1, 0) e4 h5 ?_
  show rf_G _ _ _ (51, [none, none, none, some (.long e4), none, none], [], σ) _ _
  refine rf_b wf0 rc_X0_ways_ok 33 1 (52, [none, none, none, some (.long e4), none, none], [.long e4], σ) rfl ?_
  obtain rfl := Option.some.inj h
  exact rf_rl rc_X0_ways_ok 34 rfl rfl
def rc_X0_reduce : List rf_E := [(0, .lload_n 1, 1, 1), (1, .lstore 5, 2, 5), (3, .lload_n 3, 1, 3), (4, .lstore 7, 2, 7), (6, .iconst 0, 1, 0), (7, .istore 9, 2, 9), (9, .iload 9, 2, 9), (11, .bipush 64, 2, 0), (13, .if_icmp .ge 31, 3, 44), (16, .lload 7, 2, 7), (18, .lconst 0, 1, 0), (19, .lcmp, 1, 0), (20, .ifCond .eq 24, 3, 44), (23, .lload 5, 2, 5), (25, .lload 7, 2, 7), (27, .lrem, 1, 0), (28, .lstore 10, 2, 10), (30, .lload 7, 2, 7), (32, .lstore 5, 2, 5), (34, .lload 10, 2, 10), (36, .lstore 7, 2, 7), (38, .iinc 9 1, 3, 9), (41, .goto (-32), 3, 9), (44, .lload 5, 2, 5), (46, .lconst 0, 1, 0), (47, .lcmp, 1, 0), (48, .ifCond .eq 19, 3, 67), (51, .aload_n 0, 1, 0), (52, .lload_n 1, 1, 1), (53, .lload 5, 2, 5), (55, .ldiv, 1, 0), (56, .putfield 9, 3, 0), (59, .aload_n 0, 1, 0), (60, .lload_n 3, 1, 3), (61, .lload 5, 2, 5), (63, .ldiv, 1, 0), (64, .putfield 15, 3, 1), (67, .return_, 1, 0)]
theorem rc_X0_reduce_ok : rf_rc mX0_reduce rc_X0_reduce = true := by decide +kernel
theorem mw_X0_reduce : rf_mw mX0_reduce := ⟨rf_mt_ok _ (List.mem_of_getElem? (i := 3) rfl), fun h => absurd h (by decide), fun _ => ⟨rf_mi_ok _ (List.mem_of_getElem? (i := 1) rfl), rf_mv_ok _ (List.mem_of_getElem? (i := 1) rfl)⟩, rf_mq_0 _ (List.mem_of_getElem? (i := 3) rfl)⟩
def f_X0_reduce_b9 (l1 : Int64) (l3 : Int64) (σ : rf_S) (s9 : Int64 × Int64 × Int32) : Option ((Int64 × Int64 × Int32) ⊕ (Int64)) := if 64 ≤ s9.2.2 then (some (.inr s9.1)) else (if (lg_cmp s9.2.1 0) = 0 then (some (.inr s9.1)) else (if s9.2.1 = 0 then none else (some (.inl (s9.2.1, (s9.1 - s9.1 / s9.2.1 * s9.2.1), (s9.2.2 + 1))))))
set_option maxHeartbeats 2000000 in
theorem ok_X0_reduce_b9 (d : Nat) (l1 : Int64) (l3 : Int64) (σ : rf_S) (s9 : Int64 × Int64 × Int32) (o : ((Int64 × Int64 × Int32) ⊕ (Int64))) (h : f_X0_reduce_b9 l1 l3 σ s9 = some o) {r : Option Value} {σr : rf_S} (kl : ∀ s', o = .inl s' → rf_G ly0 (d) mX0_reduce (9, [some (.ref 53), some (.long l1), none, some (.long l3), none, some (.long s'.1), none, some (.long s'.2.1), none, some (.int s'.2.2), none, none], [], σ) r σr) (kx : ∀ e, o = .inr e → rf_G ly0 (d) mX0_reduce (44, [some (.ref 53), some (.long l1), none, some (.long l3), none, some (.long e), none, none, none, none, none, none], [], σ) r σr) : rf_G ly0 (d) mX0_reduce (9, [some (.ref 53), some (.long l1), none, some (.long l3), none, some (.long s9.1), none, some (.long s9.2.1), none, some (.int s9.2.2), none, none], [], σ) r σr := by
  unfold f_X0_reduce_b9 at h
  refine rf_b wf0 rc_X0_reduce_ok 6 2 (13, [some (.ref 53), some (.long l1), none, some (.long l3), none, some (.long s9.1), none, some (.long s9.2.1), none, some (.int s9.2.2), none, none], [.int 64, .int s9.2.2], σ) rfl ?_
  by_cases c1 : 64 ≤ s9.2.2
  · rw [if_pos c1] at h
    refine rf_t wf0 rc_X0_reduce_ok 8 (44, [some (.ref 53), some (.long l1), none, some (.long l3), none, some (.long s9.1), none, some (.long s9.2.1), none, some (.int s9.2.2), none, none], [], σ) rfl rfl c1 rfl ?_
    refine rf_fg [true, true, true, true, true, true, true, false, true, false, true, true] [some (.ref 53), some (.long l1), none, some (.long l3), none, some (.long s9.1), none, none, none, none, none, none] rfl ?_
    exact kx s9.1 (Option.some.inj h).symm
  · rw [if_neg c1] at h
    refine rf_f wf0 rc_X0_reduce_ok 8 (16, [some (.ref 53), some (.long l1), none, some (.long l3), none, some (.long s9.1), none, some (.long s9.2.1), none, some (.int s9.2.2), none, none], [], σ) rfl rfl c1 rfl ?_
    refine rf_b wf0 rc_X0_reduce_ok 9 3 (20, [some (.ref 53), some (.long l1), none, some (.long l3), none, some (.long s9.1), none, some (.long s9.2.1), none, some (.int s9.2.2), none, none], [.int (lg_cmp s9.2.1 0)], σ) rfl ?_
    by_cases c2 : (lg_cmp s9.2.1 0) = 0
    · rw [if_pos c2] at h
      refine rf_t wf0 rc_X0_reduce_ok 12 (44, [some (.ref 53), some (.long l1), none, some (.long l3), none, some (.long s9.1), none, some (.long s9.2.1), none, some (.int s9.2.2), none, none], [], σ) rfl rfl c2 rfl ?_
      refine rf_fg [true, true, true, true, true, true, true, false, true, false, true, true] [some (.ref 53), some (.long l1), none, some (.long l3), none, some (.long s9.1), none, none, none, none, none, none] rfl ?_
      exact kx s9.1 (Option.some.inj h).symm
    · rw [if_neg c2] at h
      refine rf_f wf0 rc_X0_reduce_ok 12 (23, [some (.ref 53), some (.long l1), none, some (.long l3), none, some (.long s9.1), none, some (.long s9.2.1), none, some (.int s9.2.2), none, none], [], σ) rfl rfl c2 rfl ?_
      refine rf_b wf0 rc_X0_reduce_ok 13 2 (27, [some (.ref 53), some (.long l1), none, some (.long l3), none, some (.long s9.1), none, some (.long s9.2.1), none, some (.int s9.2.2), none, none], [.long s9.2.1, .long s9.1], σ) rfl ?_
      obtain ⟨g3, h⟩ := rf_ifz h
      refine rf_nz wf0 rc_X0_reduce_ok 15 (28, [some (.ref 53), some (.long l1), none, some (.long l3), none, some (.long s9.1), none, some (.long s9.2.1), none, some (.int s9.2.2), none, none], [.long (s9.1 - s9.1 / s9.2.1 * s9.2.1)], σ) rfl rfl g3 rfl ?_
      refine rf_b wf0 rc_X0_reduce_ok 16 7 (9, [some (.ref 53), some (.long l1), none, some (.long l3), none, some (.long s9.2.1), none, some (.long (s9.1 - s9.1 / s9.2.1 * s9.2.1)), none, some (.int (s9.2.2 + 1)), some (.long (s9.1 - s9.1 / s9.2.1 * s9.2.1)), none], [], σ) rfl ?_
      refine rf_fg [true, true, true, true, true, true, true, true, true, true, false, true] [some (.ref 53), some (.long l1), none, some (.long l3), none, some (.long s9.2.1), none, some (.long (s9.1 - s9.1 / s9.2.1 * s9.2.1)), none, some (.int (s9.2.2 + 1)), none, none] rfl ?_
      exact kl (s9.2.1, (s9.1 - s9.1 / s9.2.1 * s9.2.1), (s9.2.2 + 1)) (Option.some.inj h).symm
def f_X0_reduce (p0 : Int64) (p1 : Int64) (σ : rf_S) : Option rf_S := (rf_lp (f_X0_reduce_b9 p0 p1 σ) 5000 (p0, p1, 0)).bind (fun e4 => if (lg_cmp e4 0) = 0 then (some σ) else (if e4 = 0 then none else (if e4 = 0 then none else (some (rf_sL (rf_sL σ 53 0 (p0 / e4)) 53 1 (p1 / e4))))))
set_option maxHeartbeats 2000000 in
theorem ok_X0_reduce (d : Nat) (p0 : Int64) (p1 : Int64) (σ : rf_S) (q : rf_S) (h : f_X0_reduce p0 p1 σ = some q) : rf_Ex ly0 (d + 1) mX0_reduce [.ref 53, .long p0, .long p1] σ none q := by
  unfold f_X0_reduce at h
  refine rf_ex mw_X0_reduce [some (.ref 53), some (.long p0), none, some (.long p1), none, none, none, none, none, none, none, none] (Nat.le_of_ble_eq_true rfl) rfl ?_
  refine rf_b wf0 rc_X0_reduce_ok 0 6 (9, [some (.ref 53), some (.long p0), none, some (.long p1), none, some (.long p0), none, some (.long p1), none, some (.int 0), none, none], [], σ) rfl ?_
  obtain ⟨e4, h5, h⟩ := Option.bind_eq_some_iff.mp h
  refine rf_lpG (b := f_X0_reduce_b9 p0 p1 σ) (G := fun (s9 : Int64 × Int64 × Int32) => rf_G ly0 (d) mX0_reduce (9, [some (.ref 53), some (.long p0), none, some (.long p1), none, some (.long s9.1), none, some (.long s9.2.1), none, some (.int s9.2.2), none, none], [], σ) none q) (K := fun (e : (Int64)) => rf_G ly0 (d) mX0_reduce (44, [some (.ref 53), some (.long p0), none, some (.long p1), none, some (.long e), none, none, none, none, none, none], [], σ) none q) (fun (s9 : Int64 × Int64 × Int32) (o : (Int64 × Int64 × Int32) ⊕ (Int64)) hb kl kx => ok_X0_reduce_b9 d p0 p1 σ s9 o hb kl kx) 5000 (p0, p1, 0) e4 h5 ?_
  show rf_G _ _ _ (44, [some (.ref 53), some (.long p0), none, some (.long p1), none, some (.long e4), none, none, none, none, none, none], [], σ) _ _
  refine rf_b wf0 rc_X0_reduce_ok 23 3 (48, [some (.ref 53), some (.long p0), none, some (.long p1), none, some (.long e4), none, none, none, none, none, none], [.int (lg_cmp e4 0)], σ) rfl ?_
  by_cases c6 : (lg_cmp e4 0) = 0
  · rw [if_pos c6] at h
    refine rf_t wf0 rc_X0_reduce_ok 26 (67, [some (.ref 53), some (.long p0), none, some (.long p1), none, some (.long e4), none, none, none, none, none, none], [], σ) rfl rfl c6 rfl ?_
    obtain rfl := Option.some.inj h
    exact rf_rv rc_X0_reduce_ok 37 rfl rfl
  · rw [if_neg c6] at h
    refine rf_f wf0 rc_X0_reduce_ok 26 (51, [some (.ref 53), some (.long p0), none, some (.long p1), none, some (.long e4), none, none, none, none, none, none], [], σ) rfl rfl c6 rfl ?_
    refine rf_b wf0 rc_X0_reduce_ok 27 3 (55, [some (.ref 53), some (.long p0), none, some (.long p1), none, some (.long e4), none, none, none, none, none, none], [.long e4, .long p0, .ref 53], σ) rfl ?_
    obtain ⟨g7, h⟩ := rf_ifz h
    refine rf_nz wf0 rc_X0_reduce_ok 30 (56, [some (.ref 53), some (.long p0), none, some (.long p1), none, some (.long e4), none, none, none, none, none, none], [.long (p0 / e4), .ref 53], σ) rfl rfl g7 rfl ?_
    refine rf_b wf0 rc_X0_reduce_ok 31 4 (63, [some (.ref 53), some (.long p0), none, some (.long p1), none, some (.long e4), none, none, none, none, none, none], [.long e4, .long p1, .ref 53], (rf_sL σ 53 0 (p0 / e4))) rfl ?_
    obtain ⟨g8, h⟩ := rf_ifz h
    refine rf_nz wf0 rc_X0_reduce_ok 35 (64, [some (.ref 53), some (.long p0), none, some (.long p1), none, some (.long e4), none, none, none, none, none, none], [.long (p1 / e4), .ref 53], (rf_sL σ 53 0 (p0 / e4))) rfl rfl g8 rfl ?_
    refine rf_b wf0 rc_X0_reduce_ok 36 1 (67, [some (.ref 53), some (.long p0), none, some (.long p1), none, some (.long e4), none, none, none, none, none, none], [], (rf_sL (rf_sL σ 53 0 (p0 / e4)) 53 1 (p1 / e4))) rfl ?_
    obtain rfl := Option.some.inj h
    exact rf_rv rc_X0_reduce_ok 37 rfl rfl
def rc_X0_weigh : List rf_E := [(0, .aload_n 1, 1, 1), (1, .iload_n 2, 1, 2), (2, .invokevirtual 18, 3, 0), (5, .istore 5, 2, 5), (7, .lconst 0, 1, 0), (8, .lstore 6, 2, 6), (10, .iconst 0, 1, 0), (11, .istore 8, 2, 8), (13, .iload 8, 2, 8), (15, .iload 5, 2, 5), (17, .if_icmp .gt 64, 3, 81), (20, .iload 8, 2, 8), (22, .iload 5, 2, 5), (24, .iconst (-1), 1, 0), (25, .ixor, 1, 0), (26, .iand, 1, 0), (27, .ifCond .ne 48, 3, 75), (30, .aload_n 1, 1, 1), (31, .iload_n 2, 1, 2), (32, .iload 5, 2, 5), (34, .iload 8, 2, 8), (36, .invokestatic 24, 3, 0), (39, .invokestatic 28, 3, 0), (42, .istore 9, 2, 9), (44, .lload 6, 2, 6), (46, .iload 5, 2, 5), (48, .iload 8, 2, 8), (50, .iload_n 3, 1, 3), (51, .invokestatic 33, 3, 0), (54, .iload 4, 2, 4), (56, .ifCond .eq 8, 3, 64), (59, .iload 9, 2, 9), (61, .goto 9, 3, 70), (64, .iload 9, 2, 9), (66, .iconst 1, 1, 0), (67, .invokestatic 37, 3, 1003), (70, .i2l, 1, 0), (71, .lmul, 1, 0), (72, .ladd, 1, 0), (73, .lstore 6, 2, 6), (75, .iinc 8 1, 3, 8), (78, .goto (-65), 3, 13), (81, .lconst 1, 1, 1), (82, .lstore 8, 2, 8), (84, .iconst 0, 1, 0), (85, .istore 10, 2, 10), (87, .iload 10, 2, 10), (89, .iload 5, 2, 5), (91, .invokestatic 28, 3, 0), (94, .if_icmp .ge 17, 3, 111), (97, .lload 8, 2, 8), (99, .ldc2_w 43, 3, 12), (102, .lmul, 1, 0), (103, .lstore 8, 2, 8), (105, .iinc 10 1, 3, 10), (108, .goto (-21), 3, 87), (111, .aload_n 0, 1, 0), (112, .lload 6, 2, 6), (114, .lload 8, 2, 8), (116, .invokevirtual 45, 3, 0), (119, .return_, 1, 0)]
theorem rc_X0_weigh_ok : rf_rc mX0_weigh rc_X0_weigh = true := by decide +kernel
theorem mw_X0_weigh : rf_mw mX0_weigh := ⟨rf_mt_ok _ (List.mem_of_getElem? (i := 0) rfl), fun h => absurd h (by decide), fun _ => ⟨rf_mi_ok _ (List.mem_of_getElem? (i := 0) rfl), rf_mv_ok _ (List.mem_of_getElem? (i := 0) rfl)⟩, rf_mq_0 _ (List.mem_of_getElem? (i := 0) rfl)⟩
def f_X0_weigh_j75 (l2 : Int32) (l3 : Int32) (l4 : Int32) (l5 : Int32) (l6 : Int64) (l8 : Int32) (σ : rf_S) : Option ((Int64 × Int32) ⊕ (Int64)) := some (.inl (l6, (l8 + 1)))
set_option maxHeartbeats 2000000 in
theorem ok_X0_weigh_j75 (d : Nat) (l2 : Int32) (l3 : Int32) (l4 : Int32) (l5 : Int32) (l6 : Int64) (l8 : Int32) (σ : rf_S) (o : ((Int64 × Int32) ⊕ (Int64))) (h : f_X0_weigh_j75 l2 l3 l4 l5 l6 l8 σ = some o) {r : Option Value} {σr : rf_S} (kl : ∀ s', o = .inl s' → rf_G ly0 (d + 4) mX0_weigh (13, [some (.ref 53), some (.ref 25), some (.int l2), some (.int l3), some (.int l4), some (.int l5), some (.long s'.1), none, some (.int s'.2), none, none], [], σ) r σr) (kx : ∀ e, o = .inr e → rf_G ly0 (d + 4) mX0_weigh (81, [some (.ref 53), none, none, none, none, some (.int l5), some (.long e), none, none, none, none], [], σ) r σr) : rf_G ly0 (d + 4) mX0_weigh (75, [some (.ref 53), some (.ref 25), some (.int l2), some (.int l3), some (.int l4), some (.int l5), some (.long l6), none, some (.int l8), none, none], [], σ) r σr := by
  unfold f_X0_weigh_j75 at h
  refine rf_b wf0 rc_X0_weigh_ok 40 2 (13, [some (.ref 53), some (.ref 25), some (.int l2), some (.int l3), some (.int l4), some (.int l5), some (.long l6), none, some (.int (l8 + 1)), none, none], [], σ) rfl ?_
  exact kl (l6, (l8 + 1)) (Option.some.inj h).symm
def f_X0_weigh_j70 (l2 : Int32) (l3 : Int32) (l4 : Int32) (l5 : Int32) (l8 : Int32) (t0 : Int32) (t1 : Int64) (t2 : Int64) (σ : rf_S) : Option ((Int64 × Int32) ⊕ (Int64)) := f_X0_weigh_j75 l2 l3 l4 l5 (t2 + (t1 * t0.toInt64)) l8 σ
set_option maxHeartbeats 2000000 in
theorem ok_X0_weigh_j70 (d : Nat) (l2 : Int32) (l3 : Int32) (l4 : Int32) (l5 : Int32) (l8 : Int32) (t0 : Int32) (t1 : Int64) (t2 : Int64) (σ : rf_S) (o : ((Int64 × Int32) ⊕ (Int64))) (h : f_X0_weigh_j70 l2 l3 l4 l5 l8 t0 t1 t2 σ = some o) {r : Option Value} {σr : rf_S} (kl : ∀ s', o = .inl s' → rf_G ly0 (d + 4) mX0_weigh (13, [some (.ref 53), some (.ref 25), some (.int l2), some (.int l3), some (.int l4), some (.int l5), some (.long s'.1), none, some (.int s'.2), none, none], [], σ) r σr) (kx : ∀ e, o = .inr e → rf_G ly0 (d + 4) mX0_weigh (81, [some (.ref 53), none, none, none, none, some (.int l5), some (.long e), none, none, none, none], [], σ) r σr) : rf_G ly0 (d + 4) mX0_weigh (70, [some (.ref 53), some (.ref 25), some (.int l2), some (.int l3), some (.int l4), some (.int l5), none, none, some (.int l8), none, none], [.int t0, .long t1, .long t2], σ) r σr := by
  unfold f_X0_weigh_j70 at h
  refine rf_b wf0 rc_X0_weigh_ok 36 4 (75, [some (.ref 53), some (.ref 25), some (.int l2), some (.int l3), some (.int l4), some (.int l5), some (.long (t2 + (t1 * t0.toInt64))), none, some (.int l8), none, none], [], σ) rfl ?_
  exact ok_X0_weigh_j75 d l2 l3 l4 l5 (t2 + (t1 * t0.toInt64)) l8 σ o h kl kx
def f_X0_weigh_b13 (l2 : Int32) (l3 : Int32) (l4 : Int32) (l5 : Int32) (σ : rf_S) (s13 : Int64 × Int32) : Option ((Int64 × Int32) ⊕ (Int64)) := if l5 < s13.2 then (some (.inr s13.1)) else (if (s13.2 &&& (l5 ^^^ (-1))) ≠ 0 then (f_X0_weigh_j75 l2 l3 l4 l5 s13.1 s13.2 σ) else ((f_X0_seeming l2 l5 s13.2 σ).bind (fun q5 => (f_J_bitCount q5 σ).bind (fun q7 => (f_X0_ways l5 s13.2 l3 σ).bind (fun q9 => if l4 = 0 then (f_X0_weigh_j70 l2 l3 l4 l5 s13.2 (if 1 < q7 then 1 else q7) q9 s13.1 σ) else (f_X0_weigh_j70 l2 l3 l4 l5 s13.2 q7 q9 s13.1 σ))))))
set_option maxHeartbeats 2000000 in
theorem ok_X0_weigh_b13 (d : Nat) (l2 : Int32) (l3 : Int32) (l4 : Int32) (l5 : Int32) (σ : rf_S) (s13 : Int64 × Int32) (o : ((Int64 × Int32) ⊕ (Int64))) (h : f_X0_weigh_b13 l2 l3 l4 l5 σ s13 = some o) {r : Option Value} {σr : rf_S} (kl : ∀ s', o = .inl s' → rf_G ly0 (d + 4) mX0_weigh (13, [some (.ref 53), some (.ref 25), some (.int l2), some (.int l3), some (.int l4), some (.int l5), some (.long s'.1), none, some (.int s'.2), none, none], [], σ) r σr) (kx : ∀ e, o = .inr e → rf_G ly0 (d + 4) mX0_weigh (81, [some (.ref 53), none, none, none, none, some (.int l5), some (.long e), none, none, none, none], [], σ) r σr) : rf_G ly0 (d + 4) mX0_weigh (13, [some (.ref 53), some (.ref 25), some (.int l2), some (.int l3), some (.int l4), some (.int l5), some (.long s13.1), none, some (.int s13.2), none, none], [], σ) r σr := by
  unfold f_X0_weigh_b13 at h
  refine rf_b wf0 rc_X0_weigh_ok 8 2 (17, [some (.ref 53), some (.ref 25), some (.int l2), some (.int l3), some (.int l4), some (.int l5), some (.long s13.1), none, some (.int s13.2), none, none], [.int l5, .int s13.2], σ) rfl ?_
  by_cases c3 : l5 < s13.2
  · rw [if_pos c3] at h
    refine rf_t wf0 rc_X0_weigh_ok 10 (81, [some (.ref 53), some (.ref 25), some (.int l2), some (.int l3), some (.int l4), some (.int l5), some (.long s13.1), none, some (.int s13.2), none, none], [], σ) rfl rfl c3 rfl ?_
    refine rf_fg [true, false, false, false, false, true, true, true, false, true, true] [some (.ref 53), none, none, none, none, some (.int l5), some (.long s13.1), none, none, none, none] rfl ?_
    exact kx s13.1 (Option.some.inj h).symm
  · rw [if_neg c3] at h
    refine rf_f wf0 rc_X0_weigh_ok 10 (20, [some (.ref 53), some (.ref 25), some (.int l2), some (.int l3), some (.int l4), some (.int l5), some (.long s13.1), none, some (.int s13.2), none, none], [], σ) rfl rfl c3 rfl ?_
    refine rf_b wf0 rc_X0_weigh_ok 11 5 (27, [some (.ref 53), some (.ref 25), some (.int l2), some (.int l3), some (.int l4), some (.int l5), some (.long s13.1), none, some (.int s13.2), none, none], [.int (s13.2 &&& (l5 ^^^ (-1)))], σ) rfl ?_
    by_cases c4 : (s13.2 &&& (l5 ^^^ (-1))) ≠ 0
    · rw [if_pos c4] at h
      refine rf_t wf0 rc_X0_weigh_ok 16 (75, [some (.ref 53), some (.ref 25), some (.int l2), some (.int l3), some (.int l4), some (.int l5), some (.long s13.1), none, some (.int s13.2), none, none], [], σ) rfl rfl c4 rfl ?_
      exact ok_X0_weigh_j75 d l2 l3 l4 l5 s13.1 s13.2 σ o h kl kx
    · rw [if_neg c4] at h
      refine rf_f wf0 rc_X0_weigh_ok 16 (30, [some (.ref 53), some (.ref 25), some (.int l2), some (.int l3), some (.int l4), some (.int l5), some (.long s13.1), none, some (.int s13.2), none, none], [], σ) rfl rfl c4 rfl ?_
      refine rf_b wf0 rc_X0_weigh_ok 17 4 (36, [some (.ref 53), some (.ref 25), some (.int l2), some (.int l3), some (.int l4), some (.int l5), some (.long s13.1), none, some (.int s13.2), none, none], [.int s13.2, .int l5, .int l2, .ref 25], σ) rfl ?_
      obtain ⟨q5, h6, h⟩ := Option.bind_eq_some_iff.mp h
      refine rf_cs1 (Mt := mX0_seeming) rc_X0_weigh_ok 21 false rfl (List.mem_of_getElem? (i := 1) rfl) mw_X0_seeming rfl [.ref 25, .int l2, .int l5, .int s13.2] [] rfl rfl (Nat.le_of_ble_eq_true rfl) (ok_X0_seeming d l2 l5 s13.2 σ q5 h6) ?_
      show rf_G _ _ _ (39, [some (.ref 53), some (.ref 25), some (.int l2), some (.int l3), some (.int l4), some (.int l5), some (.long s13.1), none, some (.int s13.2), none, none], [.int q5], σ) _ _
      obtain ⟨q7, h8, h⟩ := Option.bind_eq_some_iff.mp h
      refine rf_cs1 (Mt := mJ6_bitCount_0f7a4) rc_X0_weigh_ok 22 false rfl (List.mem_of_getElem? (i := 2) rfl) mw_J_bitCount rfl [.int q5] [] rfl rfl (Nat.le_of_ble_eq_true rfl) (ok_J_bitCount (d + 3) q5 σ q7 h8) ?_
      show rf_G _ _ _ (42, [some (.ref 53), some (.ref 25), some (.int l2), some (.int l3), some (.int l4), some (.int l5), some (.long s13.1), none, some (.int s13.2), none, none], [.int q7], σ) _ _
      refine rf_b wf0 rc_X0_weigh_ok 23 5 (51, [some (.ref 53), some (.ref 25), some (.int l2), some (.int l3), some (.int l4), some (.int l5), some (.long s13.1), none, some (.int s13.2), some (.int q7), none], [.int l3, .int s13.2, .int l5, .long s13.1], σ) rfl ?_
      obtain ⟨q9, h10, h⟩ := Option.bind_eq_some_iff.mp h
      refine rf_cs1 (Mt := mX0_ways) rc_X0_weigh_ok 28 false rfl (List.mem_of_getElem? (i := 3) rfl) mw_X0_ways rfl [.int l5, .int s13.2, .int l3] [.long s13.1] rfl rfl (Nat.le_of_ble_eq_true rfl) (ok_X0_ways (d + 3) l5 s13.2 l3 σ q9 h10) ?_
      show rf_G _ _ _ (54, [some (.ref 53), some (.ref 25), some (.int l2), some (.int l3), some (.int l4), some (.int l5), some (.long s13.1), none, some (.int s13.2), some (.int q7), none], [.long q9, .long s13.1], σ) _ _
      refine rf_b wf0 rc_X0_weigh_ok 29 1 (56, [some (.ref 53), some (.ref 25), some (.int l2), some (.int l3), some (.int l4), some (.int l5), some (.long s13.1), none, some (.int s13.2), some (.int q7), none], [.int l4, .long q9, .long s13.1], σ) rfl ?_
      by_cases c11 : l4 = 0
      · rw [if_pos c11] at h
        refine rf_t wf0 rc_X0_weigh_ok 30 (64, [some (.ref 53), some (.ref 25), some (.int l2), some (.int l3), some (.int l4), some (.int l5), some (.long s13.1), none, some (.int s13.2), some (.int q7), none], [.long q9, .long s13.1], σ) rfl rfl c11 rfl ?_
        refine rf_b wf0 rc_X0_weigh_ok 33 3 (70, [some (.ref 53), some (.ref 25), some (.int l2), some (.int l3), some (.int l4), some (.int l5), some (.long s13.1), none, some (.int s13.2), some (.int q7), none], [.int (if 1 < q7 then 1 else q7), .long q9, .long s13.1], σ) rfl ?_
        refine rf_fg [true, true, true, true, true, true, false, true, true, false, true] [some (.ref 53), some (.ref 25), some (.int l2), some (.int l3), some (.int l4), some (.int l5), none, none, some (.int s13.2), none, none] rfl ?_
        exact ok_X0_weigh_j70 d l2 l3 l4 l5 s13.2 (if 1 < q7 then 1 else q7) q9 s13.1 σ o h kl kx
      · rw [if_neg c11] at h
        refine rf_f wf0 rc_X0_weigh_ok 30 (59, [some (.ref 53), some (.ref 25), some (.int l2), some (.int l3), some (.int l4), some (.int l5), some (.long s13.1), none, some (.int s13.2), some (.int q7), none], [.long q9, .long s13.1], σ) rfl rfl c11 rfl ?_
        refine rf_b wf0 rc_X0_weigh_ok 31 2 (70, [some (.ref 53), some (.ref 25), some (.int l2), some (.int l3), some (.int l4), some (.int l5), some (.long s13.1), none, some (.int s13.2), some (.int q7), none], [.int q7, .long q9, .long s13.1], σ) rfl ?_
        refine rf_fg [true, true, true, true, true, true, false, true, true, false, true] [some (.ref 53), some (.ref 25), some (.int l2), some (.int l3), some (.int l4), some (.int l5), none, none, some (.int s13.2), none, none] rfl ?_
        exact ok_X0_weigh_j70 d l2 l3 l4 l5 s13.2 q7 q9 s13.1 σ o h kl kx
def f_X0_weigh_b87 (l5 : Int32) (l6 : Int64) (σ : rf_S) (s87 : Int64 × Int32) : Option ((Int64 × Int32) ⊕ (Int64)) := (f_J_bitCount l5 σ).bind (fun q14 => if q14 ≤ s87.2 then (some (.inr s87.1)) else (some (.inl ((s87.1 * 12), (s87.2 + 1)))))
set_option maxHeartbeats 2000000 in
theorem ok_X0_weigh_b87 (d : Nat) (l5 : Int32) (l6 : Int64) (σ : rf_S) (s87 : Int64 × Int32) (o : ((Int64 × Int32) ⊕ (Int64))) (h : f_X0_weigh_b87 l5 l6 σ s87 = some o) {r : Option Value} {σr : rf_S} (kl : ∀ s', o = .inl s' → rf_G ly0 (d + 4) mX0_weigh (87, [some (.ref 53), none, none, none, none, some (.int l5), some (.long l6), none, some (.long s'.1), none, some (.int s'.2)], [], σ) r σr) (kx : ∀ e, o = .inr e → rf_G ly0 (d + 4) mX0_weigh (111, [some (.ref 53), none, none, none, none, none, some (.long l6), none, some (.long e), none, none], [], σ) r σr) : rf_G ly0 (d + 4) mX0_weigh (87, [some (.ref 53), none, none, none, none, some (.int l5), some (.long l6), none, some (.long s87.1), none, some (.int s87.2)], [], σ) r σr := by
  unfold f_X0_weigh_b87 at h
  refine rf_b wf0 rc_X0_weigh_ok 46 2 (91, [some (.ref 53), none, none, none, none, some (.int l5), some (.long l6), none, some (.long s87.1), none, some (.int s87.2)], [.int l5, .int s87.2], σ) rfl ?_
  obtain ⟨q14, h15, h⟩ := Option.bind_eq_some_iff.mp h
  refine rf_cs1 (Mt := mJ6_bitCount_0f7a4) rc_X0_weigh_ok 48 false rfl (List.mem_of_getElem? (i := 2) rfl) mw_J_bitCount rfl [.int l5] [.int s87.2] rfl rfl (Nat.le_of_ble_eq_true rfl) (ok_J_bitCount (d + 3) l5 σ q14 h15) ?_
  show rf_G _ _ _ (94, [some (.ref 53), none, none, none, none, some (.int l5), some (.long l6), none, some (.long s87.1), none, some (.int s87.2)], [.int q14, .int s87.2], σ) _ _
  by_cases c16 : q14 ≤ s87.2
  · rw [if_pos c16] at h
    refine rf_t wf0 rc_X0_weigh_ok 49 (111, [some (.ref 53), none, none, none, none, some (.int l5), some (.long l6), none, some (.long s87.1), none, some (.int s87.2)], [], σ) rfl rfl c16 rfl ?_
    refine rf_fg [true, true, true, true, true, false, true, true, true, true, false] [some (.ref 53), none, none, none, none, none, some (.long l6), none, some (.long s87.1), none, none] rfl ?_
    exact kx s87.1 (Option.some.inj h).symm
  · rw [if_neg c16] at h
    refine rf_f wf0 rc_X0_weigh_ok 49 (97, [some (.ref 53), none, none, none, none, some (.int l5), some (.long l6), none, some (.long s87.1), none, some (.int s87.2)], [], σ) rfl rfl c16 rfl ?_
    refine rf_b wf0 rc_X0_weigh_ok 50 6 (87, [some (.ref 53), none, none, none, none, some (.int l5), some (.long l6), none, some (.long (s87.1 * 12)), none, some (.int (s87.2 + 1))], [], σ) rfl ?_
    exact kl ((s87.1 * 12), (s87.2 + 1)) (Option.some.inj h).symm
def f_X0_weigh (p1 : Int32) (p2 : Int32) (p3 : Int32) (σ : rf_S) : Option rf_S := (f_X8_there p1 σ).bind (fun q1 => (rf_lp (f_X0_weigh_b13 p1 p2 p3 q1 σ) 5000 (0, 0)).bind (fun e12 => (rf_lp (f_X0_weigh_b87 q1 e12 σ) 5000 (1, 0)).bind (fun e17 => (f_X0_reduce e12 e17 σ).bind (fun q19 => some q19))))
set_option maxHeartbeats 2000000 in
theorem ok_X0_weigh (d : Nat) (p1 : Int32) (p2 : Int32) (p3 : Int32) (σ : rf_S) (q : rf_S) (h : f_X0_weigh p1 p2 p3 σ = some q) : rf_Ex ly0 (d + 5) mX0_weigh [.ref 53, .ref 25, .int p1, .int p2, .int p3] σ none q := by
  unfold f_X0_weigh at h
  refine rf_ex mw_X0_weigh [some (.ref 53), some (.ref 25), some (.int p1), some (.int p2), some (.int p3), none, none, none, none, none, none] (Nat.le_of_ble_eq_true rfl) rfl ?_
  refine rf_b wf0 rc_X0_weigh_ok 0 2 (2, [some (.ref 53), some (.ref 25), some (.int p1), some (.int p2), some (.int p3), none, none, none, none, none, none], [.int p1, .ref 25], σ) rfl ?_
  obtain ⟨q1, h2, h⟩ := Option.bind_eq_some_iff.mp h
  refine rf_cv1 (Mt := mX8_there) wf0 rc_X0_weigh_ok 2 false rfl (List.mem_of_getElem? (i := 0) rfl) mw_X8_there rfl 25 [.int p1] [] rfl rfl rfl (Nat.le_of_ble_eq_true rfl) (ok_X8_there (d + 3) p1 σ q1 h2) ?_
  show rf_G _ _ _ (5, [some (.ref 53), some (.ref 25), some (.int p1), some (.int p2), some (.int p3), none, none, none, none, none, none], [.int q1], σ) _ _
  refine rf_b wf0 rc_X0_weigh_ok 3 5 (13, [some (.ref 53), some (.ref 25), some (.int p1), some (.int p2), some (.int p3), some (.int q1), some (.long 0), none, some (.int 0), none, none], [], σ) rfl ?_
  obtain ⟨e12, h13, h⟩ := Option.bind_eq_some_iff.mp h
  refine rf_lpG (b := f_X0_weigh_b13 p1 p2 p3 q1 σ) (G := fun (s13 : Int64 × Int32) => rf_G ly0 (d + 4) mX0_weigh (13, [some (.ref 53), some (.ref 25), some (.int p1), some (.int p2), some (.int p3), some (.int q1), some (.long s13.1), none, some (.int s13.2), none, none], [], σ) none q) (K := fun (e : (Int64)) => rf_G ly0 (d + 4) mX0_weigh (81, [some (.ref 53), none, none, none, none, some (.int q1), some (.long e), none, none, none, none], [], σ) none q) (fun (s13 : Int64 × Int32) (o : (Int64 × Int32) ⊕ (Int64)) hb kl kx => ok_X0_weigh_b13 d p1 p2 p3 q1 σ s13 o hb kl kx) 5000 (0, 0) e12 h13 ?_
  show rf_G _ _ _ (81, [some (.ref 53), none, none, none, none, some (.int q1), some (.long e12), none, none, none, none], [], σ) _ _
  refine rf_b wf0 rc_X0_weigh_ok 42 4 (87, [some (.ref 53), none, none, none, none, some (.int q1), some (.long e12), none, some (.long 1), none, some (.int 0)], [], σ) rfl ?_
  obtain ⟨e17, h18, h⟩ := Option.bind_eq_some_iff.mp h
  refine rf_lpG (b := f_X0_weigh_b87 q1 e12 σ) (G := fun (s87 : Int64 × Int32) => rf_G ly0 (d + 4) mX0_weigh (87, [some (.ref 53), none, none, none, none, some (.int q1), some (.long e12), none, some (.long s87.1), none, some (.int s87.2)], [], σ) none q) (K := fun (e : (Int64)) => rf_G ly0 (d + 4) mX0_weigh (111, [some (.ref 53), none, none, none, none, none, some (.long e12), none, some (.long e), none, none], [], σ) none q) (fun (s87 : Int64 × Int32) (o : (Int64 × Int32) ⊕ (Int64)) hb kl kx => ok_X0_weigh_b87 d q1 e12 σ s87 o hb kl kx) 5000 (1, 0) e17 h18 ?_
  show rf_G _ _ _ (111, [some (.ref 53), none, none, none, none, none, some (.long e12), none, some (.long e17), none, none], [], σ) _ _
  refine rf_b wf0 rc_X0_weigh_ok 56 3 (116, [some (.ref 53), none, none, none, none, none, some (.long e12), none, some (.long e17), none, none], [.long e17, .long e12, .ref 53], σ) rfl ?_
  obtain ⟨q19, h20, h⟩ := Option.bind_eq_some_iff.mp h
  refine rf_cv1 (Mt := mX0_reduce) wf0 rc_X0_weigh_ok 59 false rfl (List.mem_of_getElem? (i := 4) rfl) mw_X0_reduce rfl 53 [.long e12, .long e17] [] rfl rfl rfl (Nat.le_of_ble_eq_true rfl) (ok_X0_reduce (d + 3) e12 e17 σ q19 h20) ?_
  show rf_G _ _ _ (119, [some (.ref 53), none, none, none, none, none, some (.long e12), none, some (.long e17), none, none], [], q19) _ _
  obtain rfl := Option.some.inj h
  exact rf_rv rc_X0_weigh_ok 60 rfl rfl
def rc_J_fillI : List rf_E := [(0, .iconst 0, 1, 0), (1, .istore_n 2, 1, 2), (2, .aload_n 0, 1, 0), (3, .arraylength, 1, 0), (4, .istore_n 3, 1, 3), (5, .iload_n 2, 1, 2), (6, .iload_n 3, 1, 3), (7, .if_icmp .ge 13, 3, 20), (10, .aload_n 0, 1, 0), (11, .iload_n 2, 1, 2), (12, .iload_n 1, 1, 1), (13, .iastore, 1, 0), (14, .iinc 2 1, 3, 2), (17, .goto (-12), 3, 5), (20, .return_, 1, 0)]
theorem rc_J_fillI_ok : rf_rc mJ7_fill_53178 rc_J_fillI = true := by decide +kernel
theorem mw_J_fillI : rf_mw mJ7_fill_53178 := ⟨rf_mt_ok _ (List.mem_of_getElem? (i := 245) rfl), fun _ => rf_ms_ok _ (List.mem_of_getElem? (i := 24) rfl), fun h => absurd h (by decide), rf_mq_9 _ (List.mem_of_getElem? (i := 20) rfl)⟩
def f_J_fillI_b5 (l0 : Nat) (l1 : Int32) (l3 : Int32) (s5 : Int32 × rf_S) : Option ((Int32 × rf_S) ⊕ (rf_S)) := if l3 ≤ s5.1 then (some (.inr s5.2)) else (if rf_ck ly0 0 l0 s5.1 = true then (some (.inl ((s5.1 + 1), (rf_sI s5.2 l0 s5.1.toNatClampNeg l1)))) else none)
set_option maxHeartbeats 2000000 in
theorem ok_J_fillI_b5 (d : Nat) (l0 : Nat) (l1 : Int32) (l3 : Int32) (s5 : Int32 × rf_S) (o : ((Int32 × rf_S) ⊕ (rf_S))) (h : f_J_fillI_b5 l0 l1 l3 s5 = some o) {r : Option Value} {σr : rf_S} (kl : ∀ s', o = .inl s' → rf_G ly0 (d) mJ7_fill_53178 (5, [some (.ref l0), some (.int l1), some (.int s'.1), some (.int l3)], [], s'.2) r σr) (kx : ∀ e, o = .inr e → rf_G ly0 (d) mJ7_fill_53178 (20, [none, none, none, none], [], e) r σr) : rf_G ly0 (d) mJ7_fill_53178 (5, [some (.ref l0), some (.int l1), some (.int s5.1), some (.int l3)], [], s5.2) r σr := by
  unfold f_J_fillI_b5 at h
  refine rf_b wf0 rc_J_fillI_ok 5 2 (7, [some (.ref l0), some (.int l1), some (.int s5.1), some (.int l3)], [.int l3, .int s5.1], s5.2) rfl ?_
  by_cases c2 : l3 ≤ s5.1
  · rw [if_pos c2] at h
    refine rf_t wf0 rc_J_fillI_ok 7 (20, [some (.ref l0), some (.int l1), some (.int s5.1), some (.int l3)], [], s5.2) rfl rfl c2 rfl ?_
    refine rf_fg [false, false, false, false] [none, none, none, none] rfl ?_
    exact kx s5.2 (Option.some.inj h).symm
  · rw [if_neg c2] at h
    refine rf_f wf0 rc_J_fillI_ok 7 (10, [some (.ref l0), some (.int l1), some (.int s5.1), some (.int l3)], [], s5.2) rfl rfl c2 rfl ?_
    refine rf_b wf0 rc_J_fillI_ok 8 3 (13, [some (.ref l0), some (.int l1), some (.int s5.1), some (.int l3)], [.int l1, .int s5.1, .ref l0], s5.2) rfl ?_
    obtain ⟨g3, h⟩ := rf_ifn h
    refine rf_gd wf0 rc_J_fillI_ok 11 (14, [some (.ref l0), some (.int l1), some (.int s5.1), some (.int l3)], [], (rf_sI s5.2 l0 s5.1.toNatClampNeg l1)) rfl rfl g3 rfl ?_
    refine rf_b wf0 rc_J_fillI_ok 12 2 (5, [some (.ref l0), some (.int l1), some (.int (s5.1 + 1)), some (.int l3)], [], (rf_sI s5.2 l0 s5.1.toNatClampNeg l1)) rfl ?_
    exact kl ((s5.1 + 1), (rf_sI s5.2 l0 s5.1.toNatClampNeg l1)) (Option.some.inj h).symm
def f_J_fillI (p0 : Nat) (p1 : Int32) (σ : rf_S) : Option rf_S := if rf_isA ly0 p0 = true then ((rf_lp (f_J_fillI_b5 p0 p1 (Int32.ofNat (rf_len ly0 p0))) 5000 (0, σ)).bind (fun e4 => some e4)) else none
set_option maxHeartbeats 2000000 in
theorem ok_J_fillI (d : Nat) (p0 : Nat) (p1 : Int32) (σ : rf_S) (q : rf_S) (h : f_J_fillI p0 p1 σ = some q) : rf_Ex ly0 (d + 1) mJ7_fill_53178 [.ref p0, .int p1] σ none q := by
  unfold f_J_fillI at h
  refine rf_ex mw_J_fillI [some (.ref p0), some (.int p1), none, none] (Nat.le_of_ble_eq_true rfl) rfl ?_
  refine rf_b wf0 rc_J_fillI_ok 0 3 (3, [some (.ref p0), some (.int p1), some (.int 0), none], [.ref p0], σ) rfl ?_
  obtain ⟨g1, h⟩ := rf_ifn h
  refine rf_gd wf0 rc_J_fillI_ok 3 (4, [some (.ref p0), some (.int p1), some (.int 0), none], [.int (Int32.ofNat (rf_len ly0 p0))], σ) rfl rfl g1 rfl ?_
  refine rf_b wf0 rc_J_fillI_ok 4 1 (5, [some (.ref p0), some (.int p1), some (.int 0), some (.int (Int32.ofNat (rf_len ly0 p0)))], [], σ) rfl ?_
  obtain ⟨e4, h5, h⟩ := Option.bind_eq_some_iff.mp h
  refine rf_lpG (b := f_J_fillI_b5 p0 p1 (Int32.ofNat (rf_len ly0 p0))) (G := fun (s5 : Int32 × rf_S) => rf_G ly0 (d) mJ7_fill_53178 (5, [some (.ref p0), some (.int p1), some (.int s5.1), some (.int (Int32.ofNat (rf_len ly0 p0)))], [], s5.2) none q) (K := fun (e : (rf_S)) => rf_G ly0 (d) mJ7_fill_53178 (20, [none, none, none, none], [], e) none q) (fun (s5 : Int32 × rf_S) (o : (Int32 × rf_S) ⊕ (rf_S)) hb kl kx => ok_J_fillI_b5 d p0 p1 (Int32.ofNat (rf_len ly0 p0)) s5 o hb kl kx) 5000 (0, σ) e4 h5 ?_
  show rf_G _ _ _ (20, [none, none, none, none], [], e4) _ _
  obtain rfl := Option.some.inj h
  exact rf_rv rc_J_fillI_ok 14 rfl rfl
def rc_X1_forget : List rf_E := [(0, .aload_n 0, 1, 0), (1, .iconst 0, 1, 0), (2, .putfield 29, 3, 103), (5, .aload_n 0, 1, 0), (6, .getfield 20, 3, 102), (9, .iconst (-1), 1, 0), (10, .invokestatic 23, 3, 0), (13, .return_, 1, 0)]
theorem rc_X1_forget_ok : rf_rc mX1_forget rc_X1_forget = true := by decide +kernel
theorem mw_X1_forget : rf_mw mX1_forget := ⟨rf_mt_ok _ (List.mem_of_getElem? (i := 4) rfl), fun h => absurd h (by decide), fun _ => ⟨rf_mi_ok _ (List.mem_of_getElem? (i := 2) rfl), rf_mv_ok _ (List.mem_of_getElem? (i := 2) rfl)⟩, rf_mq_0 _ (List.mem_of_getElem? (i := 4) rfl)⟩
def f_X1_forget (σ : rf_S) : Option rf_S := (f_J_fillI 44 (-1) (rf_sI σ 38 3 0)).bind (fun q1 => some q1)
set_option maxHeartbeats 2000000 in
theorem ok_X1_forget (d : Nat) (σ : rf_S) (q : rf_S) (h : f_X1_forget σ = some q) : rf_Ex ly0 (d + 2) mX1_forget [.ref 38] σ none q := by
  unfold f_X1_forget at h
  refine rf_ex mw_X1_forget [some (.ref 38)] (Nat.le_of_ble_eq_true rfl) rfl ?_
  refine rf_b wf0 rc_X1_forget_ok 0 6 (10, [some (.ref 38)], [.int (-1), .ref 44], (rf_sI σ 38 3 0)) rfl ?_
  obtain ⟨q1, h2, h⟩ := Option.bind_eq_some_iff.mp h
  refine rf_cs1 (Mt := mJ7_fill_53178) rc_X1_forget_ok 6 false rfl (List.mem_of_getElem? (i := 8) rfl) mw_J_fillI rfl [.ref 44, .int (-1)] [] rfl rfl (Nat.le_of_ble_eq_true rfl) (ok_J_fillI d 44 (-1) (rf_sI σ 38 3 0) q1 h2) ?_
  show rf_G _ _ _ (13, [some (.ref 38)], [], q1) _ _
  obtain rfl := Option.some.inj h
  exact rf_rv rc_X1_forget_ok 7 rfl rfl
def rc_X1_left : List rf_E := [(0, .bipush 40, 2, 0), (2, .aload_n 0, 1, 0), (3, .getfield 29, 3, 103), (6, .isub, 1, 0), (7, .ireturn, 1, 0)]
theorem rc_X1_left_ok : rf_rc mX1_left rc_X1_left = true := by decide +kernel
theorem mw_X1_left : rf_mw mX1_left := ⟨rf_mt_ok _ (List.mem_of_getElem? (i := 5) rfl), fun h => absurd h (by decide), fun _ => ⟨rf_mi_ok _ (List.mem_of_getElem? (i := 3) rfl), rf_mv_ok _ (List.mem_of_getElem? (i := 3) rfl)⟩, rf_mq_0 _ (List.mem_of_getElem? (i := 5) rfl)⟩
def f_X1_left (σ : rf_S) : Option Int32 := some (40 - (σ.1 38 3))
set_option maxHeartbeats 2000000 in
theorem ok_X1_left (d : Nat) (σ : rf_S) (q : Int32) (h : f_X1_left σ = some q) : rf_Ex ly0 (d + 1) mX1_left [.ref 38] σ (some (.int q) : Option Value) σ := by
  unfold f_X1_left at h
  refine rf_ex mw_X1_left [some (.ref 38)] (Nat.le_of_ble_eq_true rfl) rfl ?_
  refine rf_b wf0 rc_X1_left_ok 0 4 (7, [some (.ref 38)], [.int (40 - (σ.1 38 3))], σ) rfl ?_
  obtain rfl := Option.some.inj h
  exact rf_ri rc_X1_left_ok 4 rfl rfl
def rc_X9_sick : List rf_E := [(0, .iconst 0, 1, 0), (1, .istore_n 1, 1, 1), (2, .iconst 0, 1, 0), (3, .istore_n 2, 1, 2), (4, .iload_n 2, 1, 2), (5, .aload_n 0, 1, 0), (6, .arraylength, 1, 0), (7, .if_icmp .ge 21, 3, 28), (10, .aload_n 0, 1, 0), (11, .iload_n 2, 1, 2), (12, .iaload, 1, 0), (13, .ifCond .le 9, 3, 22), (16, .iload_n 1, 1, 1), (17, .iconst 1, 1, 0), (18, .iload_n 2, 1, 2), (19, .ishl, 1, 0), (20, .ior, 1, 0), (21, .istore_n 1, 1, 1), (22, .iinc 2 1, 3, 2), (25, .goto (-21), 3, 4), (28, .iload_n 1, 1, 1), (29, .ireturn, 1, 0)]
theorem rc_X9_sick_ok : rf_rc mX9_sick rc_X9_sick = true := by decide +kernel
theorem mw_X9_sick : rf_mw mX9_sick := ⟨rf_mt_ok _ (List.mem_of_getElem? (i := 144) rfl), fun _ => rf_ms_ok _ (List.mem_of_getElem? (i := 10) rfl), fun h => absurd h (by decide), rf_mq_5 _ (List.mem_of_getElem? (i := 19) rfl)⟩
def f_X9_sick_j22 (l0 : Nat) (l1 : Int32) (l2 : Int32) (σ : rf_S) : Option ((Int32 × Int32) ⊕ (Int32)) := some (.inl (l1, (l2 + 1)))
set_option maxHeartbeats 2000000 in
theorem ok_X9_sick_j22 (d : Nat) (l0 : Nat) (l1 : Int32) (l2 : Int32) (σ : rf_S) (o : ((Int32 × Int32) ⊕ (Int32))) (h : f_X9_sick_j22 l0 l1 l2 σ = some o) {r : Option Value} {σr : rf_S} (kl : ∀ s', o = .inl s' → rf_G ly0 (d) mX9_sick (4, [some (.ref l0), some (.int s'.1), some (.int s'.2)], [], σ) r σr) (kx : ∀ e, o = .inr e → rf_G ly0 (d) mX9_sick (28, [none, some (.int e), none], [], σ) r σr) : rf_G ly0 (d) mX9_sick (22, [some (.ref l0), some (.int l1), some (.int l2)], [], σ) r σr := by
  unfold f_X9_sick_j22 at h
  refine rf_b wf0 rc_X9_sick_ok 18 2 (4, [some (.ref l0), some (.int l1), some (.int (l2 + 1))], [], σ) rfl ?_
  exact kl (l1, (l2 + 1)) (Option.some.inj h).symm
def f_X9_sick_b4 (l0 : Nat) (σ : rf_S) (s4 : Int32 × Int32) : Option ((Int32 × Int32) ⊕ (Int32)) := if rf_isA ly0 l0 = true then (if (Int32.ofNat (rf_len ly0 l0)) ≤ s4.2 then (some (.inr s4.1)) else (if rf_ck ly0 0 l0 s4.2 = true then (if (σ.1 l0 s4.2.toNatClampNeg) ≤ 0 then (f_X9_sick_j22 l0 s4.1 s4.2 σ) else (f_X9_sick_j22 l0 (s4.1 ||| (1 <<< (s4.2 &&& 31))) s4.2 σ)) else none)) else none
set_option maxHeartbeats 2000000 in
theorem ok_X9_sick_b4 (d : Nat) (l0 : Nat) (σ : rf_S) (s4 : Int32 × Int32) (o : ((Int32 × Int32) ⊕ (Int32))) (h : f_X9_sick_b4 l0 σ s4 = some o) {r : Option Value} {σr : rf_S} (kl : ∀ s', o = .inl s' → rf_G ly0 (d) mX9_sick (4, [some (.ref l0), some (.int s'.1), some (.int s'.2)], [], σ) r σr) (kx : ∀ e, o = .inr e → rf_G ly0 (d) mX9_sick (28, [none, some (.int e), none], [], σ) r σr) : rf_G ly0 (d) mX9_sick (4, [some (.ref l0), some (.int s4.1), some (.int s4.2)], [], σ) r σr := by
  unfold f_X9_sick_b4 at h
  refine rf_b wf0 rc_X9_sick_ok 4 2 (6, [some (.ref l0), some (.int s4.1), some (.int s4.2)], [.ref l0, .int s4.2], σ) rfl ?_
  obtain ⟨g1, h⟩ := rf_ifn h
  refine rf_gd wf0 rc_X9_sick_ok 6 (7, [some (.ref l0), some (.int s4.1), some (.int s4.2)], [.int (Int32.ofNat (rf_len ly0 l0)), .int s4.2], σ) rfl rfl g1 rfl ?_
  by_cases c2 : (Int32.ofNat (rf_len ly0 l0)) ≤ s4.2
  · rw [if_pos c2] at h
    refine rf_t wf0 rc_X9_sick_ok 7 (28, [some (.ref l0), some (.int s4.1), some (.int s4.2)], [], σ) rfl rfl c2 rfl ?_
    refine rf_fg [false, true, false] [none, some (.int s4.1), none] rfl ?_
    exact kx s4.1 (Option.some.inj h).symm
  · rw [if_neg c2] at h
    refine rf_f wf0 rc_X9_sick_ok 7 (10, [some (.ref l0), some (.int s4.1), some (.int s4.2)], [], σ) rfl rfl c2 rfl ?_
    refine rf_b wf0 rc_X9_sick_ok 8 2 (12, [some (.ref l0), some (.int s4.1), some (.int s4.2)], [.int s4.2, .ref l0], σ) rfl ?_
    obtain ⟨g3, h⟩ := rf_ifn h
    refine rf_gd wf0 rc_X9_sick_ok 10 (13, [some (.ref l0), some (.int s4.1), some (.int s4.2)], [.int (σ.1 l0 s4.2.toNatClampNeg)], σ) rfl rfl g3 rfl ?_
    by_cases c4 : (σ.1 l0 s4.2.toNatClampNeg) ≤ 0
    · rw [if_pos c4] at h
      refine rf_t wf0 rc_X9_sick_ok 11 (22, [some (.ref l0), some (.int s4.1), some (.int s4.2)], [], σ) rfl rfl c4 rfl ?_
      exact ok_X9_sick_j22 d l0 s4.1 s4.2 σ o h kl kx
    · rw [if_neg c4] at h
      refine rf_f wf0 rc_X9_sick_ok 11 (16, [some (.ref l0), some (.int s4.1), some (.int s4.2)], [], σ) rfl rfl c4 rfl ?_
      refine rf_b wf0 rc_X9_sick_ok 12 6 (22, [some (.ref l0), some (.int (s4.1 ||| (1 <<< (s4.2 &&& 31)))), some (.int s4.2)], [], σ) rfl ?_
      exact ok_X9_sick_j22 d l0 (s4.1 ||| (1 <<< (s4.2 &&& 31))) s4.2 σ o h kl kx
def f_X9_sick (p0 : Nat) (σ : rf_S) : Option Int32 := (rf_lp (f_X9_sick_b4 p0 σ) 5000 (0, 0)).bind (fun e5 => some e5)
set_option maxHeartbeats 2000000 in
theorem ok_X9_sick (d : Nat) (p0 : Nat) (σ : rf_S) (q : Int32) (h : f_X9_sick p0 σ = some q) : rf_Ex ly0 (d + 1) mX9_sick [.ref p0] σ (some (.int q) : Option Value) σ := by
  unfold f_X9_sick at h
  refine rf_ex mw_X9_sick [some (.ref p0), none, none] (Nat.le_of_ble_eq_true rfl) rfl ?_
  refine rf_b wf0 rc_X9_sick_ok 0 4 (4, [some (.ref p0), some (.int 0), some (.int 0)], [], σ) rfl ?_
  obtain ⟨e5, h6, h⟩ := Option.bind_eq_some_iff.mp h
  refine rf_lpG (b := f_X9_sick_b4 p0 σ) (G := fun (s4 : Int32 × Int32) => rf_G ly0 (d) mX9_sick (4, [some (.ref p0), some (.int s4.1), some (.int s4.2)], [], σ) (some (.int q) : Option Value) σ) (K := fun (e : (Int32)) => rf_G ly0 (d) mX9_sick (28, [none, some (.int e), none], [], σ) (some (.int q) : Option Value) σ) (fun (s4 : Int32 × Int32) (o : (Int32 × Int32) ⊕ (Int32)) hb kl kx => ok_X9_sick_b4 d p0 σ s4 o hb kl kx) 5000 (0, 0) e5 h6 ?_
  show rf_G _ _ _ (28, [none, some (.int e5), none], [], σ) _ _
  refine rf_b wf0 rc_X9_sick_ok 20 1 (29, [none, some (.int e5), none], [.int e5], σ) rfl ?_
  obtain rfl := Option.some.inj h
  exact rf_ri rc_X9_sick_ok 21 rfl rfl
def rc_X8_catchers : List rf_E := [(0, .aload_n 1, 1, 1), (1, .invokestatic 132, 3, 0), (4, .istore_n 2, 1, 2), (5, .iconst 0, 1, 0), (6, .istore_n 3, 1, 3), (7, .iconst 0, 1, 0), (8, .istore 4, 2, 4), (10, .iload 4, 2, 4), (12, .aload_n 0, 1, 0), (13, .getfield 12, 3, 800), (16, .getfield 67, 3, 207), (19, .if_icmp .ge 39, 3, 58), (22, .aload_n 1, 1, 1), (23, .iload 4, 2, 4), (25, .iaload, 1, 0), (26, .ifCond .ne 26, 3, 52), (29, .aload_n 0, 1, 0), (30, .aload_n 0, 1, 0), (31, .getfield 22, 3, 802), (34, .iload 4, 2, 4), (36, .iaload, 1, 0), (37, .invokevirtual 136, 3, 0), (40, .iload_n 2, 1, 2), (41, .iand, 1, 0), (42, .ifCond .eq 10, 3, 52), (45, .iload_n 3, 1, 3), (46, .iconst 1, 1, 0), (47, .iload 4, 2, 4), (49, .ishl, 1, 0), (50, .ior, 1, 0), (51, .istore_n 3, 1, 3), (52, .iinc 4 1, 3, 4), (55, .goto (-45), 3, 10), (58, .iload_n 3, 1, 3), (59, .ireturn, 1, 0)]
theorem rc_X8_catchers_ok : rf_rc mX8_catchers rc_X8_catchers = true := by decide +kernel
theorem mw_X8_catchers : rf_mw mX8_catchers := ⟨rf_mt_ok _ (List.mem_of_getElem? (i := 71) rfl), fun h => absurd h (by decide), fun _ => ⟨rf_mi_ok _ (List.mem_of_getElem? (i := 66) rfl), rf_mv_ok _ (List.mem_of_getElem? (i := 66) rfl)⟩, rf_mq_2 _ (List.mem_of_getElem? (i := 21) rfl)⟩
def f_X8_catchers_j52 (l1 : Nat) (l2 : Int32) (l3 : Int32) (l4 : Int32) (σ : rf_S) : Option ((Int32 × Int32) ⊕ (Int32)) := some (.inl (l3, (l4 + 1)))
set_option maxHeartbeats 2000000 in
theorem ok_X8_catchers_j52 (d : Nat) (l1 : Nat) (l2 : Int32) (l3 : Int32) (l4 : Int32) (σ : rf_S) (o : ((Int32 × Int32) ⊕ (Int32))) (h : f_X8_catchers_j52 l1 l2 l3 l4 σ = some o) {r : Option Value} {σr : rf_S} (kl : ∀ s', o = .inl s' → rf_G ly0 (d + 1) mX8_catchers (10, [some (.ref 25), some (.ref l1), some (.int l2), some (.int s'.1), some (.int s'.2)], [], σ) r σr) (kx : ∀ e, o = .inr e → rf_G ly0 (d + 1) mX8_catchers (58, [none, none, none, some (.int e), none], [], σ) r σr) : rf_G ly0 (d + 1) mX8_catchers (52, [some (.ref 25), some (.ref l1), some (.int l2), some (.int l3), some (.int l4)], [], σ) r σr := by
  unfold f_X8_catchers_j52 at h
  refine rf_b wf0 rc_X8_catchers_ok 31 2 (10, [some (.ref 25), some (.ref l1), some (.int l2), some (.int l3), some (.int (l4 + 1))], [], σ) rfl ?_
  exact kl (l3, (l4 + 1)) (Option.some.inj h).symm
def f_X8_catchers_b10 (l1 : Nat) (l2 : Int32) (σ : rf_S) (s10 : Int32 × Int32) : Option ((Int32 × Int32) ⊕ (Int32)) := if (σ.1 26 7) ≤ s10.2 then (some (.inr s10.1)) else (if rf_ck ly0 0 l1 s10.2 = true then (if (σ.1 l1 s10.2.toNatClampNeg) ≠ 0 then (f_X8_catchers_j52 l1 l2 s10.1 s10.2 σ) else (if rf_ck ly0 0 34 s10.2 = true then ((f_X8_there (σ.1 34 s10.2.toNatClampNeg) σ).bind (fun q7 => if (q7 &&& l2) = 0 then (f_X8_catchers_j52 l1 l2 s10.1 s10.2 σ) else (f_X8_catchers_j52 l1 l2 (s10.1 ||| (1 <<< (s10.2 &&& 31))) s10.2 σ))) else none)) else none)
set_option maxHeartbeats 2000000 in
theorem ok_X8_catchers_b10 (d : Nat) (l1 : Nat) (l2 : Int32) (σ : rf_S) (s10 : Int32 × Int32) (o : ((Int32 × Int32) ⊕ (Int32))) (h : f_X8_catchers_b10 l1 l2 σ s10 = some o) {r : Option Value} {σr : rf_S} (kl : ∀ s', o = .inl s' → rf_G ly0 (d + 1) mX8_catchers (10, [some (.ref 25), some (.ref l1), some (.int l2), some (.int s'.1), some (.int s'.2)], [], σ) r σr) (kx : ∀ e, o = .inr e → rf_G ly0 (d + 1) mX8_catchers (58, [none, none, none, some (.int e), none], [], σ) r σr) : rf_G ly0 (d + 1) mX8_catchers (10, [some (.ref 25), some (.ref l1), some (.int l2), some (.int s10.1), some (.int s10.2)], [], σ) r σr := by
  unfold f_X8_catchers_b10 at h
  refine rf_b wf0 rc_X8_catchers_ok 7 4 (19, [some (.ref 25), some (.ref l1), some (.int l2), some (.int s10.1), some (.int s10.2)], [.int (σ.1 26 7), .int s10.2], σ) rfl ?_
  by_cases c3 : (σ.1 26 7) ≤ s10.2
  · rw [if_pos c3] at h
    refine rf_t wf0 rc_X8_catchers_ok 11 (58, [some (.ref 25), some (.ref l1), some (.int l2), some (.int s10.1), some (.int s10.2)], [], σ) rfl rfl c3 rfl ?_
    refine rf_fg [false, false, false, true, false] [none, none, none, some (.int s10.1), none] rfl ?_
    exact kx s10.1 (Option.some.inj h).symm
  · rw [if_neg c3] at h
    refine rf_f wf0 rc_X8_catchers_ok 11 (22, [some (.ref 25), some (.ref l1), some (.int l2), some (.int s10.1), some (.int s10.2)], [], σ) rfl rfl c3 rfl ?_
    refine rf_b wf0 rc_X8_catchers_ok 12 2 (25, [some (.ref 25), some (.ref l1), some (.int l2), some (.int s10.1), some (.int s10.2)], [.int s10.2, .ref l1], σ) rfl ?_
    obtain ⟨g4, h⟩ := rf_ifn h
    refine rf_gd wf0 rc_X8_catchers_ok 14 (26, [some (.ref 25), some (.ref l1), some (.int l2), some (.int s10.1), some (.int s10.2)], [.int (σ.1 l1 s10.2.toNatClampNeg)], σ) rfl rfl g4 rfl ?_
    by_cases c5 : (σ.1 l1 s10.2.toNatClampNeg) ≠ 0
    · rw [if_pos c5] at h
      refine rf_t wf0 rc_X8_catchers_ok 15 (52, [some (.ref 25), some (.ref l1), some (.int l2), some (.int s10.1), some (.int s10.2)], [], σ) rfl rfl c5 rfl ?_
      exact ok_X8_catchers_j52 d l1 l2 s10.1 s10.2 σ o h kl kx
    · rw [if_neg c5] at h
      refine rf_f wf0 rc_X8_catchers_ok 15 (29, [some (.ref 25), some (.ref l1), some (.int l2), some (.int s10.1), some (.int s10.2)], [], σ) rfl rfl c5 rfl ?_
      refine rf_b wf0 rc_X8_catchers_ok 16 4 (36, [some (.ref 25), some (.ref l1), some (.int l2), some (.int s10.1), some (.int s10.2)], [.int s10.2, .ref 34, .ref 25], σ) rfl ?_
      obtain ⟨g6, h⟩ := rf_ifn h
      refine rf_gd wf0 rc_X8_catchers_ok 20 (37, [some (.ref 25), some (.ref l1), some (.int l2), some (.int s10.1), some (.int s10.2)], [.int (σ.1 34 s10.2.toNatClampNeg), .ref 25], σ) rfl rfl g6 rfl ?_
      obtain ⟨q7, h8, h⟩ := Option.bind_eq_some_iff.mp h
      refine rf_cv1 (Mt := mX8_there) wf0 rc_X8_catchers_ok 21 false rfl (List.mem_of_getElem? (i := 60) rfl) mw_X8_there rfl 25 [.int (σ.1 34 s10.2.toNatClampNeg)] [] rfl rfl rfl (Nat.le_of_ble_eq_true rfl) (ok_X8_there d (σ.1 34 s10.2.toNatClampNeg) σ q7 h8) ?_
      show rf_G _ _ _ (40, [some (.ref 25), some (.ref l1), some (.int l2), some (.int s10.1), some (.int s10.2)], [.int q7], σ) _ _
      refine rf_b wf0 rc_X8_catchers_ok 22 2 (42, [some (.ref 25), some (.ref l1), some (.int l2), some (.int s10.1), some (.int s10.2)], [.int (q7 &&& l2)], σ) rfl ?_
      by_cases c9 : (q7 &&& l2) = 0
      · rw [if_pos c9] at h
        refine rf_t wf0 rc_X8_catchers_ok 24 (52, [some (.ref 25), some (.ref l1), some (.int l2), some (.int s10.1), some (.int s10.2)], [], σ) rfl rfl c9 rfl ?_
        exact ok_X8_catchers_j52 d l1 l2 s10.1 s10.2 σ o h kl kx
      · rw [if_neg c9] at h
        refine rf_f wf0 rc_X8_catchers_ok 24 (45, [some (.ref 25), some (.ref l1), some (.int l2), some (.int s10.1), some (.int s10.2)], [], σ) rfl rfl c9 rfl ?_
        refine rf_b wf0 rc_X8_catchers_ok 25 6 (52, [some (.ref 25), some (.ref l1), some (.int l2), some (.int (s10.1 ||| (1 <<< (s10.2 &&& 31)))), some (.int s10.2)], [], σ) rfl ?_
        exact ok_X8_catchers_j52 d l1 l2 (s10.1 ||| (1 <<< (s10.2 &&& 31))) s10.2 σ o h kl kx
def f_X8_catchers (p0 : Nat) (σ : rf_S) : Option Int32 := (f_X9_sick p0 σ).bind (fun q1 => (rf_lp (f_X8_catchers_b10 p0 q1 σ) 5000 (0, 0)).bind (fun e10 => some e10))
set_option maxHeartbeats 2000000 in
theorem ok_X8_catchers (d : Nat) (p0 : Nat) (σ : rf_S) (q : Int32) (h : f_X8_catchers p0 σ = some q) : rf_Ex ly0 (d + 2) mX8_catchers [.ref 25, .ref p0] σ (some (.int q) : Option Value) σ := by
  unfold f_X8_catchers at h
  refine rf_ex mw_X8_catchers [some (.ref 25), some (.ref p0), none, none, none] (Nat.le_of_ble_eq_true rfl) rfl ?_
  refine rf_b wf0 rc_X8_catchers_ok 0 1 (1, [some (.ref 25), some (.ref p0), none, none, none], [.ref p0], σ) rfl ?_
  obtain ⟨q1, h2, h⟩ := Option.bind_eq_some_iff.mp h
  refine rf_cs1 (Mt := mX9_sick) rc_X8_catchers_ok 1 true rfl (List.mem_of_getElem? (i := 59) rfl) mw_X9_sick rfl [.ref p0] [] rfl rfl (Nat.le_of_ble_eq_true rfl) (ok_X9_sick d p0 σ q1 h2) ?_
  show rf_G _ _ _ (4, [some (.ref 25), some (.ref p0), none, none, none], [.int q1], σ) _ _
  refine rf_b wf0 rc_X8_catchers_ok 2 5 (10, [some (.ref 25), some (.ref p0), some (.int q1), some (.int 0), some (.int 0)], [], σ) rfl ?_
  obtain ⟨e10, h11, h⟩ := Option.bind_eq_some_iff.mp h
  refine rf_lpG (b := f_X8_catchers_b10 p0 q1 σ) (G := fun (s10 : Int32 × Int32) => rf_G ly0 (d + 1) mX8_catchers (10, [some (.ref 25), some (.ref p0), some (.int q1), some (.int s10.1), some (.int s10.2)], [], σ) (some (.int q) : Option Value) σ) (K := fun (e : (Int32)) => rf_G ly0 (d + 1) mX8_catchers (58, [none, none, none, some (.int e), none], [], σ) (some (.int q) : Option Value) σ) (fun (s10 : Int32 × Int32) (o : (Int32 × Int32) ⊕ (Int32)) hb kl kx => ok_X8_catchers_b10 d p0 q1 σ s10 o hb kl kx) 5000 (0, 0) e10 h11 ?_
  show rf_G _ _ _ (58, [none, none, none, some (.int e10), none], [], σ) _ _
  refine rf_b wf0 rc_X8_catchers_ok 33 1 (59, [none, none, none, some (.int e10), none], [.int e10], σ) rfl ?_
  obtain rfl := Option.some.inj h
  exact rf_ri rc_X8_catchers_ok 34 rfl rfl
def rc_X8_passColds : List rf_E := [(0, .aload_n 0, 1, 0), (1, .aload_n 1, 1, 1), (2, .invokevirtual 139, 3, 0), (5, .istore_n 2, 1, 2), (6, .iconst 0, 1, 0), (7, .istore_n 3, 1, 3), (8, .iload_n 3, 1, 3), (9, .aload_n 0, 1, 0), (10, .getfield 12, 3, 800), (13, .getfield 67, 3, 207), (16, .if_icmp .ge 38, 3, 54), (19, .iload_n 2, 1, 2), (20, .iload_n 3, 1, 3), (21, .ishr, 1, 0), (22, .iconst 1, 1, 0), (23, .iand, 1, 0), (24, .iconst 1, 1, 0), (25, .if_icmp .ne 10, 3, 35), (28, .aload_n 1, 1, 1), (29, .iload_n 3, 1, 3), (30, .iconst 2, 1, 0), (31, .iastore, 1, 0), (32, .goto 16, 3, 48), (35, .aload_n 1, 1, 1), (36, .iload_n 3, 1, 3), (37, .iaload, 1, 0), (38, .ifCond .le 10, 3, 48), (41, .aload_n 1, 1, 1), (42, .iload_n 3, 1, 3), (43, .dup2, 1, 0), (44, .iaload, 1, 0), (45, .iconst 1, 1, 0), (46, .isub, 1, 0), (47, .iastore, 1, 0), (48, .iinc 3 1, 3, 3), (51, .goto (-43), 3, 8), (54, .return_, 1, 0)]
theorem rc_X8_passColds_ok : rf_rc mX8_passColds rc_X8_passColds = true := by decide +kernel
theorem mw_X8_passColds : rf_mw mX8_passColds := ⟨rf_mt_ok _ (List.mem_of_getElem? (i := 72) rfl), fun h => absurd h (by decide), fun _ => ⟨rf_mi_ok _ (List.mem_of_getElem? (i := 67) rfl), rf_mv_ok _ (List.mem_of_getElem? (i := 67) rfl)⟩, rf_mq_2 _ (List.mem_of_getElem? (i := 22) rfl)⟩
def f_X8_passColds_j48 (l1 : Nat) (l2 : Int32) (l3 : Int32) (σ : rf_S) : Option ((Int32 × rf_S) ⊕ (rf_S)) := some (.inl ((l3 + 1), σ))
set_option maxHeartbeats 2000000 in
theorem ok_X8_passColds_j48 (d : Nat) (l1 : Nat) (l2 : Int32) (l3 : Int32) (σ : rf_S) (o : ((Int32 × rf_S) ⊕ (rf_S))) (h : f_X8_passColds_j48 l1 l2 l3 σ = some o) {r : Option Value} {σr : rf_S} (kl : ∀ s', o = .inl s' → rf_G ly0 (d + 2) mX8_passColds (8, [some (.ref 25), some (.ref l1), some (.int l2), some (.int s'.1)], [], s'.2) r σr) (kx : ∀ e, o = .inr e → rf_G ly0 (d + 2) mX8_passColds (54, [none, none, none, none], [], e) r σr) : rf_G ly0 (d + 2) mX8_passColds (48, [some (.ref 25), some (.ref l1), some (.int l2), some (.int l3)], [], σ) r σr := by
  unfold f_X8_passColds_j48 at h
  refine rf_b wf0 rc_X8_passColds_ok 34 2 (8, [some (.ref 25), some (.ref l1), some (.int l2), some (.int (l3 + 1))], [], σ) rfl ?_
  exact kl ((l3 + 1), σ) (Option.some.inj h).symm
def f_X8_passColds_b8 (l1 : Nat) (l2 : Int32) (s8 : Int32 × rf_S) : Option ((Int32 × rf_S) ⊕ (rf_S)) := if (s8.2.1 26 7) ≤ s8.1 then (some (.inr s8.2)) else (if ((l2 >>> (s8.1 &&& 31)) &&& 1) ≠ 1 then (if rf_ck ly0 0 l1 s8.1 = true then (if (s8.2.1 l1 s8.1.toNatClampNeg) ≤ 0 then (f_X8_passColds_j48 l1 l2 s8.1 s8.2) else (if rf_ck ly0 0 l1 s8.1 = true then (if rf_ck ly0 0 l1 s8.1 = true then (f_X8_passColds_j48 l1 l2 s8.1 (rf_sI s8.2 l1 s8.1.toNatClampNeg ((s8.2.1 l1 s8.1.toNatClampNeg) - 1))) else none) else none)) else none) else (if rf_ck ly0 0 l1 s8.1 = true then (f_X8_passColds_j48 l1 l2 s8.1 (rf_sI s8.2 l1 s8.1.toNatClampNeg 2)) else none))
set_option maxHeartbeats 2000000 in
theorem ok_X8_passColds_b8 (d : Nat) (l1 : Nat) (l2 : Int32) (s8 : Int32 × rf_S) (o : ((Int32 × rf_S) ⊕ (rf_S))) (h : f_X8_passColds_b8 l1 l2 s8 = some o) {r : Option Value} {σr : rf_S} (kl : ∀ s', o = .inl s' → rf_G ly0 (d + 2) mX8_passColds (8, [some (.ref 25), some (.ref l1), some (.int l2), some (.int s'.1)], [], s'.2) r σr) (kx : ∀ e, o = .inr e → rf_G ly0 (d + 2) mX8_passColds (54, [none, none, none, none], [], e) r σr) : rf_G ly0 (d + 2) mX8_passColds (8, [some (.ref 25), some (.ref l1), some (.int l2), some (.int s8.1)], [], s8.2) r σr := by
  unfold f_X8_passColds_b8 at h
  refine rf_b wf0 rc_X8_passColds_ok 6 4 (16, [some (.ref 25), some (.ref l1), some (.int l2), some (.int s8.1)], [.int (s8.2.1 26 7), .int s8.1], s8.2) rfl ?_
  by_cases c3 : (s8.2.1 26 7) ≤ s8.1
  · rw [if_pos c3] at h
    refine rf_t wf0 rc_X8_passColds_ok 10 (54, [some (.ref 25), some (.ref l1), some (.int l2), some (.int s8.1)], [], s8.2) rfl rfl c3 rfl ?_
    refine rf_fg [false, false, false, false] [none, none, none, none] rfl ?_
    exact kx s8.2 (Option.some.inj h).symm
  · rw [if_neg c3] at h
    refine rf_f wf0 rc_X8_passColds_ok 10 (19, [some (.ref 25), some (.ref l1), some (.int l2), some (.int s8.1)], [], s8.2) rfl rfl c3 rfl ?_
    refine rf_b wf0 rc_X8_passColds_ok 11 6 (25, [some (.ref 25), some (.ref l1), some (.int l2), some (.int s8.1)], [.int 1, .int ((l2 >>> (s8.1 &&& 31)) &&& 1)], s8.2) rfl ?_
    by_cases c4 : ((l2 >>> (s8.1 &&& 31)) &&& 1) ≠ 1
    · rw [if_pos c4] at h
      refine rf_t wf0 rc_X8_passColds_ok 17 (35, [some (.ref 25), some (.ref l1), some (.int l2), some (.int s8.1)], [], s8.2) rfl rfl c4 rfl ?_
      refine rf_b wf0 rc_X8_passColds_ok 23 2 (37, [some (.ref 25), some (.ref l1), some (.int l2), some (.int s8.1)], [.int s8.1, .ref l1], s8.2) rfl ?_
      obtain ⟨g5, h⟩ := rf_ifn h
      refine rf_gd wf0 rc_X8_passColds_ok 25 (38, [some (.ref 25), some (.ref l1), some (.int l2), some (.int s8.1)], [.int (s8.2.1 l1 s8.1.toNatClampNeg)], s8.2) rfl rfl g5 rfl ?_
      by_cases c6 : (s8.2.1 l1 s8.1.toNatClampNeg) ≤ 0
      · rw [if_pos c6] at h
        refine rf_t wf0 rc_X8_passColds_ok 26 (48, [some (.ref 25), some (.ref l1), some (.int l2), some (.int s8.1)], [], s8.2) rfl rfl c6 rfl ?_
        exact ok_X8_passColds_j48 d l1 l2 s8.1 s8.2 o h kl kx
      · rw [if_neg c6] at h
        refine rf_f wf0 rc_X8_passColds_ok 26 (41, [some (.ref 25), some (.ref l1), some (.int l2), some (.int s8.1)], [], s8.2) rfl rfl c6 rfl ?_
        refine rf_b wf0 rc_X8_passColds_ok 27 3 (44, [some (.ref 25), some (.ref l1), some (.int l2), some (.int s8.1)], [.int s8.1, .ref l1, .int s8.1, .ref l1], s8.2) rfl ?_
        obtain ⟨g7, h⟩ := rf_ifn h
        refine rf_gd wf0 rc_X8_passColds_ok 30 (45, [some (.ref 25), some (.ref l1), some (.int l2), some (.int s8.1)], [.int (s8.2.1 l1 s8.1.toNatClampNeg), .int s8.1, .ref l1], s8.2) rfl rfl g7 rfl ?_
        refine rf_b wf0 rc_X8_passColds_ok 31 2 (47, [some (.ref 25), some (.ref l1), some (.int l2), some (.int s8.1)], [.int ((s8.2.1 l1 s8.1.toNatClampNeg) - 1), .int s8.1, .ref l1], s8.2) rfl ?_
        obtain ⟨g8, h⟩ := rf_ifn h
        refine rf_gd wf0 rc_X8_passColds_ok 33 (48, [some (.ref 25), some (.ref l1), some (.int l2), some (.int s8.1)], [], (rf_sI s8.2 l1 s8.1.toNatClampNeg ((s8.2.1 l1 s8.1.toNatClampNeg) - 1))) rfl rfl g8 rfl ?_
        exact ok_X8_passColds_j48 d l1 l2 s8.1 (rf_sI s8.2 l1 s8.1.toNatClampNeg ((s8.2.1 l1 s8.1.toNatClampNeg) - 1)) o h kl kx
    · rw [if_neg c4] at h
      refine rf_f wf0 rc_X8_passColds_ok 17 (28, [some (.ref 25), some (.ref l1), some (.int l2), some (.int s8.1)], [], s8.2) rfl rfl c4 rfl ?_
      refine rf_b wf0 rc_X8_passColds_ok 18 3 (31, [some (.ref 25), some (.ref l1), some (.int l2), some (.int s8.1)], [.int 2, .int s8.1, .ref l1], s8.2) rfl ?_
      obtain ⟨g9, h⟩ := rf_ifn h
      refine rf_gd wf0 rc_X8_passColds_ok 21 (32, [some (.ref 25), some (.ref l1), some (.int l2), some (.int s8.1)], [], (rf_sI s8.2 l1 s8.1.toNatClampNeg 2)) rfl rfl g9 rfl ?_
      refine rf_b wf0 rc_X8_passColds_ok 22 1 (48, [some (.ref 25), some (.ref l1), some (.int l2), some (.int s8.1)], [], (rf_sI s8.2 l1 s8.1.toNatClampNeg 2)) rfl ?_
      exact ok_X8_passColds_j48 d l1 l2 s8.1 (rf_sI s8.2 l1 s8.1.toNatClampNeg 2) o h kl kx
def f_X8_passColds (p0 : Nat) (σ : rf_S) : Option rf_S := (f_X8_catchers p0 σ).bind (fun q1 => (rf_lp (f_X8_passColds_b8 p0 q1) 5000 (0, σ)).bind (fun e10 => some e10))
set_option maxHeartbeats 2000000 in
theorem ok_X8_passColds (d : Nat) (p0 : Nat) (σ : rf_S) (q : rf_S) (h : f_X8_passColds p0 σ = some q) : rf_Ex ly0 (d + 3) mX8_passColds [.ref 25, .ref p0] σ none q := by
  unfold f_X8_passColds at h
  refine rf_ex mw_X8_passColds [some (.ref 25), some (.ref p0), none, none] (Nat.le_of_ble_eq_true rfl) rfl ?_
  refine rf_b wf0 rc_X8_passColds_ok 0 2 (2, [some (.ref 25), some (.ref p0), none, none], [.ref p0, .ref 25], σ) rfl ?_
  obtain ⟨q1, h2, h⟩ := Option.bind_eq_some_iff.mp h
  refine rf_cv1 (Mt := mX8_catchers) wf0 rc_X8_passColds_ok 2 false rfl (List.mem_of_getElem? (i := 61) rfl) mw_X8_catchers rfl 25 [.ref p0] [] rfl rfl rfl (Nat.le_of_ble_eq_true rfl) (ok_X8_catchers d p0 σ q1 h2) ?_
  show rf_G _ _ _ (5, [some (.ref 25), some (.ref p0), none, none], [.int q1], σ) _ _
  refine rf_b wf0 rc_X8_passColds_ok 3 3 (8, [some (.ref 25), some (.ref p0), some (.int q1), some (.int 0)], [], σ) rfl ?_
  obtain ⟨e10, h11, h⟩ := Option.bind_eq_some_iff.mp h
  refine rf_lpG (b := f_X8_passColds_b8 p0 q1) (G := fun (s8 : Int32 × rf_S) => rf_G ly0 (d + 2) mX8_passColds (8, [some (.ref 25), some (.ref p0), some (.int q1), some (.int s8.1)], [], s8.2) none q) (K := fun (e : (rf_S)) => rf_G ly0 (d + 2) mX8_passColds (54, [none, none, none, none], [], e) none q) (fun (s8 : Int32 × rf_S) (o : (Int32 × rf_S) ⊕ (rf_S)) hb kl kx => ok_X8_passColds_b8 d p0 q1 s8 o hb kl kx) 5000 (0, σ) e10 h11 ?_
  show rf_G _ _ _ (54, [none, none, none, none], [], e10) _ _
  obtain rfl := Option.some.inj h
  exact rf_rv rc_X8_passColds_ok 36 rfl rfl
def rc_X8_act : List rf_E := [(0, .iload_n 1, 1, 1), (1, .tableswitch 128 0 4 #[35, 65, 100, 108, 118], 35, 0), (36, .aload_n 0, 1, 0), (37, .dup, 1, 0), (38, .getfield 64, 3, 808), (41, .iload_n 3, 1, 3), (42, .aload_n 0, 1, 0), (43, .getfield 22, 3, 802), (46, .iload_n 2, 1, 2), (47, .iaload, 1, 0), (48, .isub, 1, 0), (49, .invokestatic 147, 3, 1001), (52, .iadd, 1, 0), (53, .putfield 64, 3, 808), (56, .aload_n 0, 1, 0), (57, .getfield 22, 3, 802), (60, .iload_n 2, 1, 2), (61, .iload_n 3, 1, 3), (62, .iastore, 1, 0), (63, .goto 73, 3, 136), (66, .aload_n 0, 1, 0), (67, .aload_n 0, 1, 0), (68, .getfield 25, 3, 803), (71, .invokevirtual 150, 3, 0), (74, .aload_n 0, 1, 0), (75, .iconst 0, 1, 0), (76, .aload_n 0, 1, 0), (77, .getfield 61, 3, 807), (80, .iconst 1, 1, 0), (81, .isub, 1, 0), (82, .invokestatic 142, 3, 1002), (85, .putfield 61, 3, 807), (88, .aload_n 0, 1, 0), (89, .dup, 1, 0), (90, .getfield 57, 3, 806), (93, .iconst 1, 1, 0), (94, .iadd, 1, 0), (95, .putfield 57, 3, 806), (98, .goto 38, 3, 136), (101, .aload_n 0, 1, 0), (102, .iconst 3, 1, 0), (103, .putfield 61, 3, 807), (106, .goto 30, 3, 136), (109, .aload_n 0, 1, 0), (110, .getfield 25, 3, 803), (113, .iload_n 2, 1, 2), (114, .iconst 2, 1, 0), (115, .iastore, 1, 0), (116, .goto 20, 3, 136), (119, .aload_n 0, 1, 0), (120, .getfield 28, 3, 804), (123, .iload_n 2, 1, 2), (124, .iload_n 3, 1, 3), (125, .iastore, 1, 0), (126, .goto 10, 3, 136), (129, .aload_n 0, 1, 0), (130, .getfield 18, 3, 801), (133, .iload_n 2, 1, 2), (134, .iload_n 3, 1, 3), (135, .iastore, 1, 0), (136, .return_, 1, 0)]
theorem rc_X8_act_ok : rf_rc mX8_act rc_X8_act = true := by decide +kernel
theorem mw_X8_act : rf_mw mX8_act := ⟨rf_mt_ok _ (List.mem_of_getElem? (i := 74) rfl), fun h => absurd h (by decide), fun _ => ⟨rf_mi_ok _ (List.mem_of_getElem? (i := 69) rfl), rf_mv_ok _ (List.mem_of_getElem? (i := 69) rfl)⟩, rf_mq_2 _ (List.mem_of_getElem? (i := 24) rfl)⟩
def f_X8_act (p0 : Int32) (p1 : Int32) (p2 : Int32) (σ : rf_S) : Option rf_S := if p0 = 0 then (if rf_ck ly0 0 34 p1 = true then ((some (rf_sI σ 25 8 ((σ.1 25 8) + (if 0 ≤ (p2 - (σ.1 34 p1.toNatClampNeg)) then (p2 - (σ.1 34 p1.toNatClampNeg)) else 0 - (p2 - (σ.1 34 p1.toNatClampNeg)))))).bind (fun σ3 => if rf_ck ly0 0 34 p1 = true then (some (rf_sI σ3 34 p1.toNatClampNeg p2)) else none)) else none) else (if p0 = 1 then ((f_X8_passColds 35 σ).bind (fun q7 => (some (rf_sI q7 25 7 (if 0 < ((q7.1 25 7) - 1) then ((q7.1 25 7) - 1) else 0))).bind (fun σ9 => some (rf_sI σ9 25 6 ((σ9.1 25 6) + 1))))) else (if p0 = 2 then (some (rf_sI σ 25 7 3)) else (if p0 = 3 then (if rf_ck ly0 0 35 p1 = true then (some (rf_sI σ 35 p1.toNatClampNeg 2)) else none) else (if p0 = 4 then (if rf_ck ly0 0 36 p1 = true then (some (rf_sI σ 36 p1.toNatClampNeg p2)) else none) else (if rf_ck ly0 0 33 p1 = true then (some (rf_sI σ 33 p1.toNatClampNeg p2)) else none)))))
set_option maxHeartbeats 2000000 in
theorem ok_X8_act (d : Nat) (p0 : Int32) (p1 : Int32) (p2 : Int32) (σ : rf_S) (q : rf_S) (h : f_X8_act p0 p1 p2 σ = some q) : rf_Ex ly0 (d + 4) mX8_act [.ref 25, .int p0, .int p1, .int p2] σ none q := by
  unfold f_X8_act at h
  refine rf_ex mw_X8_act [some (.ref 25), some (.int p0), some (.int p1), some (.int p2)] (Nat.le_of_ble_eq_true rfl) rfl ?_
  refine rf_b wf0 rc_X8_act_ok 0 1 (1, [some (.ref 25), some (.int p0), some (.int p1), some (.int p2)], [.int p0], σ) rfl ?_
  by_cases c1 : p0 = 0
  · rw [if_pos c1] at h
    refine rf_sw rc_X8_act_ok 1 36 rfl c1 (by decide) (by decide) rfl (by decide) ?_
    refine rf_b wf0 rc_X8_act_ok 2 7 (47, [some (.ref 25), some (.int p0), some (.int p1), some (.int p2)], [.int p1, .ref 34, .int p2, .int (σ.1 25 8), .ref 25], σ) rfl ?_
    obtain ⟨g2, h⟩ := rf_ifn h
    refine rf_gd wf0 rc_X8_act_ok 9 (48, [some (.ref 25), some (.int p0), some (.int p1), some (.int p2)], [.int (σ.1 34 p1.toNatClampNeg), .int p2, .int (σ.1 25 8), .ref 25], σ) rfl rfl g2 rfl ?_
    refine rf_b wf0 rc_X8_act_ok 10 4 (56, [some (.ref 25), some (.int p0), some (.int p1), some (.int p2)], [], (rf_sI σ 25 8 ((σ.1 25 8) + (if 0 ≤ (p2 - (σ.1 34 p1.toNatClampNeg)) then (p2 - (σ.1 34 p1.toNatClampNeg)) else 0 - (p2 - (σ.1 34 p1.toNatClampNeg)))))) rfl ?_
    obtain ⟨σ3, h4, h⟩ := Option.bind_eq_some_iff.mp h
    refine rf_sgb (Option.some.inj h4) ?_
    refine rf_b wf0 rc_X8_act_ok 14 4 (62, [some (.ref 25), some (.int p0), some (.int p1), some (.int p2)], [.int p2, .int p1, .ref 34], σ3) rfl ?_
    obtain ⟨g5, h⟩ := rf_ifn h
    refine rf_gd wf0 rc_X8_act_ok 18 (63, [some (.ref 25), some (.int p0), some (.int p1), some (.int p2)], [], (rf_sI σ3 34 p1.toNatClampNeg p2)) rfl rfl g5 rfl ?_
    refine rf_b wf0 rc_X8_act_ok 19 1 (136, [some (.ref 25), some (.int p0), some (.int p1), some (.int p2)], [], (rf_sI σ3 34 p1.toNatClampNeg p2)) rfl ?_
    obtain rfl := Option.some.inj h
    exact rf_rv rc_X8_act_ok 60 rfl rfl
  · rw [if_neg c1] at h
    by_cases c6 : p0 = 1
    · rw [if_pos c6] at h
      refine rf_sw rc_X8_act_ok 1 66 rfl c6 (by decide) (by decide) rfl (by decide) ?_
      refine rf_b wf0 rc_X8_act_ok 20 3 (71, [some (.ref 25), some (.int p0), some (.int p1), some (.int p2)], [.ref 35, .ref 25], σ) rfl ?_
      obtain ⟨q7, h8, h⟩ := Option.bind_eq_some_iff.mp h
      refine rf_cv1 (Mt := mX8_passColds) wf0 rc_X8_act_ok 23 false rfl (List.mem_of_getElem? (i := 62) rfl) mw_X8_passColds rfl 25 [.ref 35] [] rfl rfl rfl (Nat.le_of_ble_eq_true rfl) (ok_X8_passColds d 35 σ q7 h8) ?_
      show rf_G _ _ _ (74, [some (.ref 25), some (.int p0), some (.int p1), some (.int p2)], [], q7) _ _
      refine rf_b wf0 rc_X8_act_ok 24 8 (88, [some (.ref 25), some (.int p0), some (.int p1), some (.int p2)], [], (rf_sI q7 25 7 (if 0 < ((q7.1 25 7) - 1) then ((q7.1 25 7) - 1) else 0))) rfl ?_
      obtain ⟨σ9, h10, h⟩ := Option.bind_eq_some_iff.mp h
      refine rf_sgb (Option.some.inj h10) ?_
      refine rf_b wf0 rc_X8_act_ok 32 7 (136, [some (.ref 25), some (.int p0), some (.int p1), some (.int p2)], [], (rf_sI σ9 25 6 ((σ9.1 25 6) + 1))) rfl ?_
      obtain rfl := Option.some.inj h
      exact rf_rv rc_X8_act_ok 60 rfl rfl
    · rw [if_neg c6] at h
      by_cases c11 : p0 = 2
      · rw [if_pos c11] at h
        refine rf_sw rc_X8_act_ok 1 101 rfl c11 (by decide) (by decide) rfl (by decide) ?_
        refine rf_b wf0 rc_X8_act_ok 39 4 (136, [some (.ref 25), some (.int p0), some (.int p1), some (.int p2)], [], (rf_sI σ 25 7 3)) rfl ?_
        obtain rfl := Option.some.inj h
        exact rf_rv rc_X8_act_ok 60 rfl rfl
      · rw [if_neg c11] at h
        by_cases c12 : p0 = 3
        · rw [if_pos c12] at h
          refine rf_sw rc_X8_act_ok 1 109 rfl c12 (by decide) (by decide) rfl (by decide) ?_
          refine rf_b wf0 rc_X8_act_ok 43 4 (115, [some (.ref 25), some (.int p0), some (.int p1), some (.int p2)], [.int 2, .int p1, .ref 35], σ) rfl ?_
          obtain ⟨g13, h⟩ := rf_ifn h
          refine rf_gd wf0 rc_X8_act_ok 47 (116, [some (.ref 25), some (.int p0), some (.int p1), some (.int p2)], [], (rf_sI σ 35 p1.toNatClampNeg 2)) rfl rfl g13 rfl ?_
          refine rf_b wf0 rc_X8_act_ok 48 1 (136, [some (.ref 25), some (.int p0), some (.int p1), some (.int p2)], [], (rf_sI σ 35 p1.toNatClampNeg 2)) rfl ?_
          obtain rfl := Option.some.inj h
          exact rf_rv rc_X8_act_ok 60 rfl rfl
        · rw [if_neg c12] at h
          by_cases c14 : p0 = 4
          · rw [if_pos c14] at h
            refine rf_sw rc_X8_act_ok 1 119 rfl c14 (by decide) (by decide) rfl (by decide) ?_
            refine rf_b wf0 rc_X8_act_ok 49 4 (125, [some (.ref 25), some (.int p0), some (.int p1), some (.int p2)], [.int p2, .int p1, .ref 36], σ) rfl ?_
            obtain ⟨g15, h⟩ := rf_ifn h
            refine rf_gd wf0 rc_X8_act_ok 53 (126, [some (.ref 25), some (.int p0), some (.int p1), some (.int p2)], [], (rf_sI σ 36 p1.toNatClampNeg p2)) rfl rfl g15 rfl ?_
            refine rf_b wf0 rc_X8_act_ok 54 1 (136, [some (.ref 25), some (.int p0), some (.int p1), some (.int p2)], [], (rf_sI σ 36 p1.toNatClampNeg p2)) rfl ?_
            obtain rfl := Option.some.inj h
            exact rf_rv rc_X8_act_ok 60 rfl rfl
          · rw [if_neg c14] at h
            refine rf_sd rc_X8_act_ok 1 [0, 1, 2, 3, 4] 129 rfl (by intro k hk; simp only [List.mem_cons, List.not_mem_nil, or_false] at hk; rcases hk with rfl | rfl | rfl | rfl | rfl <;> assumption) (by decide) (by decide) ?_
            refine rf_b wf0 rc_X8_act_ok 55 4 (135, [some (.ref 25), some (.int p0), some (.int p1), some (.int p2)], [.int p2, .int p1, .ref 33], σ) rfl ?_
            obtain ⟨g16, h⟩ := rf_ifn h
            refine rf_gd wf0 rc_X8_act_ok 59 (136, [some (.ref 25), some (.int p0), some (.int p1), some (.int p2)], [], (rf_sI σ 33 p1.toNatClampNeg p2)) rfl rfl g16 rfl ?_
            obtain rfl := Option.some.inj h
            exact rf_rv rc_X8_act_ok 60 rfl rfl
def rc_X1_carryOut : List rf_E := [(0, .aload_n 0, 1, 0), (1, .invokevirtual 33, 3, 0), (4, .ifCond .le 45, 3, 49), (7, .aload_n 0, 1, 0), (8, .getfield 9, 3, 100), (11, .aload_n 0, 1, 0), (12, .getfield 29, 3, 103), (15, .sipush 10000, 3, 0), (18, .iload_n 2, 1, 2), (19, .imul, 1, 0), (20, .bipush 100, 2, 0), (22, .iload_n 3, 1, 3), (23, .imul, 1, 0), (24, .iadd, 1, 0), (25, .iload 4, 2, 4), (27, .iadd, 1, 0), (28, .iconst 5, 1, 0), (29, .iadd, 1, 0), (30, .iastore, 1, 0), (31, .aload_n 0, 1, 0), (32, .dup, 1, 0), (33, .getfield 29, 3, 103), (36, .iconst 1, 1, 0), (37, .iadd, 1, 0), (38, .putfield 29, 3, 103), (41, .aload_n 1, 1, 1), (42, .iload_n 2, 1, 2), (43, .iload_n 3, 1, 3), (44, .iload 4, 2, 4), (46, .invokevirtual 37, 3, 0), (49, .return_, 1, 0)]
theorem rc_X1_carryOut_ok : rf_rc mX1_carryOut rc_X1_carryOut = true := by decide +kernel
theorem mw_X1_carryOut : rf_mw mX1_carryOut := ⟨rf_mt_ok _ (List.mem_of_getElem? (i := 6) rfl), fun h => absurd h (by decide), fun _ => ⟨rf_mi_ok _ (List.mem_of_getElem? (i := 4) rfl), rf_mv_ok _ (List.mem_of_getElem? (i := 4) rfl)⟩, rf_mq_0 _ (List.mem_of_getElem? (i := 6) rfl)⟩
def f_X1_carryOut (p1 : Int32) (p2 : Int32) (p3 : Int32) (σ : rf_S) : Option rf_S := (f_X1_left σ).bind (fun q1 => if q1 ≤ 0 then (some σ) else (if rf_ck ly0 0 39 (σ.1 38 3) = true then ((some (rf_sI σ 39 (σ.1 38 3).toNatClampNeg ((((10000 * p1) + (100 * p2)) + p3) + 5))).bind (fun σ5 => (f_X8_act p1 p2 p3 (rf_sI σ5 38 3 ((σ5.1 38 3) + 1))).bind (fun q7 => some q7))) else none))
set_option maxHeartbeats 2000000 in
theorem ok_X1_carryOut (d : Nat) (p1 : Int32) (p2 : Int32) (p3 : Int32) (σ : rf_S) (q : rf_S) (h : f_X1_carryOut p1 p2 p3 σ = some q) : rf_Ex ly0 (d + 5) mX1_carryOut [.ref 38, .ref 25, .int p1, .int p2, .int p3] σ none q := by
  unfold f_X1_carryOut at h
  refine rf_ex mw_X1_carryOut [some (.ref 38), some (.ref 25), some (.int p1), some (.int p2), some (.int p3)] (Nat.le_of_ble_eq_true rfl) rfl ?_
  refine rf_b wf0 rc_X1_carryOut_ok 0 1 (1, [some (.ref 38), some (.ref 25), some (.int p1), some (.int p2), some (.int p3)], [.ref 38], σ) rfl ?_
  obtain ⟨q1, h2, h⟩ := Option.bind_eq_some_iff.mp h
  refine rf_cv1 (Mt := mX1_left) wf0 rc_X1_carryOut_ok 1 false rfl (List.mem_of_getElem? (i := 9) rfl) mw_X1_left rfl 38 [] [] rfl rfl rfl (Nat.le_of_ble_eq_true rfl) (ok_X1_left (d + 3)  σ q1 h2) ?_
  show rf_G _ _ _ (4, [some (.ref 38), some (.ref 25), some (.int p1), some (.int p2), some (.int p3)], [.int q1], σ) _ _
  by_cases c3 : q1 ≤ 0
  · rw [if_pos c3] at h
    refine rf_t wf0 rc_X1_carryOut_ok 2 (49, [some (.ref 38), some (.ref 25), some (.int p1), some (.int p2), some (.int p3)], [], σ) rfl rfl c3 rfl ?_
    obtain rfl := Option.some.inj h
    exact rf_rv rc_X1_carryOut_ok 30 rfl rfl
  · rw [if_neg c3] at h
    refine rf_f wf0 rc_X1_carryOut_ok 2 (7, [some (.ref 38), some (.ref 25), some (.int p1), some (.int p2), some (.int p3)], [], σ) rfl rfl c3 rfl ?_
    refine rf_b wf0 rc_X1_carryOut_ok 3 15 (30, [some (.ref 38), some (.ref 25), some (.int p1), some (.int p2), some (.int p3)], [.int ((((10000 * p1) + (100 * p2)) + p3) + 5), .int (σ.1 38 3), .ref 39], σ) rfl ?_
    obtain ⟨g4, h⟩ := rf_ifn h
    refine rf_gd wf0 rc_X1_carryOut_ok 18 (31, [some (.ref 38), some (.ref 25), some (.int p1), some (.int p2), some (.int p3)], [], (rf_sI σ 39 (σ.1 38 3).toNatClampNeg ((((10000 * p1) + (100 * p2)) + p3) + 5))) rfl rfl g4 rfl ?_
    obtain ⟨σ5, h6, h⟩ := Option.bind_eq_some_iff.mp h
    refine rf_sgb (Option.some.inj h6) ?_
    refine rf_b wf0 rc_X1_carryOut_ok 19 10 (46, [some (.ref 38), some (.ref 25), some (.int p1), some (.int p2), some (.int p3)], [.int p3, .int p2, .int p1, .ref 25], (rf_sI σ5 38 3 ((σ5.1 38 3) + 1))) rfl ?_
    obtain ⟨q7, h8, h⟩ := Option.bind_eq_some_iff.mp h
    refine rf_cv1 (Mt := mX8_act) wf0 rc_X1_carryOut_ok 29 false rfl (List.mem_of_getElem? (i := 10) rfl) mw_X8_act rfl 25 [.int p1, .int p2, .int p3] [] rfl rfl rfl (Nat.le_of_ble_eq_true rfl) (ok_X8_act d p1 p2 p3 (rf_sI σ5 38 3 ((σ5.1 38 3) + 1)) q7 h8) ?_
    show rf_G _ _ _ (49, [some (.ref 38), some (.ref 25), some (.int p1), some (.int p2), some (.int p3)], [], q7) _ _
    obtain rfl := Option.some.inj h
    exact rf_rv rc_X1_carryOut_ok 30 rfl rfl
def rc_X8_begin : List rf_E := [(0, .aload_n 0, 1, 0), (1, .getfield 12, 3, 800), (4, .getfield 41, 3, 200), (7, .iconst 0, 1, 0), (8, .aload_n 0, 1, 0), (9, .getfield 18, 3, 801), (12, .iconst 0, 1, 0), (13, .iconst 4, 1, 0), (14, .invokestatic 42, 3, 1000), (17, .aload_n 0, 1, 0), (18, .getfield 12, 3, 800), (21, .getfield 48, 3, 205), (24, .iconst 0, 1, 0), (25, .aload_n 0, 1, 0), (26, .getfield 22, 3, 802), (29, .iconst 0, 1, 0), (30, .bipush 6, 2, 0), (32, .invokestatic 42, 3, 1000), (35, .aload_n 0, 1, 0), (36, .getfield 25, 3, 803), (39, .iconst 0, 1, 0), (40, .invokestatic 51, 3, 0), (43, .aload_n 0, 1, 0), (44, .getfield 28, 3, 804), (47, .iconst 0, 1, 0), (48, .invokestatic 51, 3, 0), (51, .aload_n 0, 1, 0), (52, .iconst 0, 1, 0), (53, .putfield 57, 3, 806), (56, .aload_n 0, 1, 0), (57, .iconst 0, 1, 0), (58, .putfield 61, 3, 807), (61, .aload_n 0, 1, 0), (62, .iconst 0, 1, 0), (63, .putfield 64, 3, 808), (66, .return_, 1, 0)]
theorem rc_X8_begin_ok : rf_rc mX8_begin rc_X8_begin = true := by decide +kernel
theorem mw_X8_begin : rf_mw mX8_begin := ⟨rf_mt_ok _ (List.mem_of_getElem? (i := 46) rfl), fun h => absurd h (by decide), fun _ => ⟨rf_mi_ok _ (List.mem_of_getElem? (i := 43) rfl), rf_mv_ok _ (List.mem_of_getElem? (i := 43) rfl)⟩, rf_mq_1 _ (List.mem_of_getElem? (i := 21) rfl)⟩
def f_X8_begin (σ : rf_S) : Option rf_S := if rf_cp ly0 27 0 33 0 4 = true then ((some (rf_sA σ 33 (va_cpy (σ.1 27) (σ.1 33) (0 : Int32).toNatClampNeg (0 : Int32).toNatClampNeg (4 : Int32).toNatClampNeg))).bind (fun σ2 => if rf_cp ly0 32 0 34 0 6 = true then ((some (rf_sA σ2 34 (va_cpy (σ2.1 32) (σ2.1 34) (0 : Int32).toNatClampNeg (0 : Int32).toNatClampNeg (6 : Int32).toNatClampNeg))).bind (fun σ5 => (f_J_fillI 35 0 σ5).bind (fun q7 => (f_J_fillI 36 0 q7).bind (fun q9 => some (rf_sI (rf_sI (rf_sI q9 25 6 0) 25 7 0) 25 8 0))))) else none)) else none
set_option maxHeartbeats 2000000 in
theorem ok_X8_begin (d : Nat) (σ : rf_S) (q : rf_S) (h : f_X8_begin σ = some q) : rf_Ex ly0 (d + 2) mX8_begin [.ref 25] σ none q := by
  unfold f_X8_begin at h
  refine rf_ex mw_X8_begin [some (.ref 25)] (Nat.le_of_ble_eq_true rfl) rfl ?_
  refine rf_b wf0 rc_X8_begin_ok 0 8 (14, [some (.ref 25)], [.int 4, .int 0, .ref 33, .int 0, .ref 27], σ) rfl ?_
  obtain ⟨g1, h⟩ := rf_ifn h
  refine rf_gd wf0 rc_X8_begin_ok 8 (17, [some (.ref 25)], [], (rf_sA σ 33 (va_cpy (σ.1 27) (σ.1 33) (0 : Int32).toNatClampNeg (0 : Int32).toNatClampNeg (4 : Int32).toNatClampNeg))) rfl rfl g1 rfl ?_
  obtain ⟨σ2, h3, h⟩ := Option.bind_eq_some_iff.mp h
  refine rf_sgb (Option.some.inj h3) ?_
  refine rf_b wf0 rc_X8_begin_ok 9 8 (32, [some (.ref 25)], [.int 6, .int 0, .ref 34, .int 0, .ref 32], σ2) rfl ?_
  obtain ⟨g4, h⟩ := rf_ifn h
  refine rf_gd wf0 rc_X8_begin_ok 17 (35, [some (.ref 25)], [], (rf_sA σ2 34 (va_cpy (σ2.1 32) (σ2.1 34) (0 : Int32).toNatClampNeg (0 : Int32).toNatClampNeg (6 : Int32).toNatClampNeg))) rfl rfl g4 rfl ?_
  obtain ⟨σ5, h6, h⟩ := Option.bind_eq_some_iff.mp h
  refine rf_sgb (Option.some.inj h6) ?_
  refine rf_b wf0 rc_X8_begin_ok 18 3 (40, [some (.ref 25)], [.int 0, .ref 35], σ5) rfl ?_
  obtain ⟨q7, h8, h⟩ := Option.bind_eq_some_iff.mp h
  refine rf_cs1 (Mt := mJ7_fill_53178) rc_X8_begin_ok 21 false rfl (List.mem_of_getElem? (i := 45) rfl) mw_J_fillI rfl [.ref 35, .int 0] [] rfl rfl (Nat.le_of_ble_eq_true rfl) (ok_J_fillI d 35 0 σ5 q7 h8) ?_
  show rf_G _ _ _ (43, [some (.ref 25)], [], q7) _ _
  refine rf_b wf0 rc_X8_begin_ok 22 3 (48, [some (.ref 25)], [.int 0, .ref 36], q7) rfl ?_
  obtain ⟨q9, h10, h⟩ := Option.bind_eq_some_iff.mp h
  refine rf_cs1 (Mt := mJ7_fill_53178) rc_X8_begin_ok 25 false rfl (List.mem_of_getElem? (i := 45) rfl) mw_J_fillI rfl [.ref 36, .int 0] [] rfl rfl (Nat.le_of_ble_eq_true rfl) (ok_J_fillI d 36 0 q7 q9 h10) ?_
  show rf_G _ _ _ (51, [some (.ref 25)], [], q9) _ _
  refine rf_b wf0 rc_X8_begin_ok 26 9 (66, [some (.ref 25)], [], (rf_sI (rf_sI (rf_sI q9 25 6 0) 25 7 0) 25 8 0)) rfl ?_
  obtain rfl := Option.some.inj h
  exact rf_rv rc_X8_begin_ok 35 rfl rfl
def rc_X1_goBack : List rf_E := [(0, .aload_n 1, 1, 1), (1, .invokevirtual 43, 3, 0), (4, .iconst 0, 1, 0), (5, .istore_n 3, 1, 3), (6, .iload_n 3, 1, 3), (7, .iload_n 2, 1, 2), (8, .if_icmp .ge 42, 3, 50), (11, .aload_n 0, 1, 0), (12, .getfield 9, 3, 100), (15, .iload_n 3, 1, 3), (16, .iaload, 1, 0), (17, .istore 4, 2, 4), (19, .aload_n 1, 1, 1), (20, .iload 4, 2, 4), (22, .sipush 10000, 3, 0), (25, .idiv, 1, 0), (26, .iload 4, 2, 4), (28, .bipush 100, 2, 0), (30, .idiv, 1, 0), (31, .bipush 100, 2, 0), (33, .irem, 1, 0), (34, .iload 4, 2, 4), (36, .bipush 100, 2, 0), (38, .irem, 1, 0), (39, .iconst 5, 1, 0), (40, .isub, 1, 0), (41, .invokevirtual 37, 3, 0), (44, .iinc 3 1, 3, 3), (47, .goto (-41), 3, 6), (50, .aload_n 0, 1, 0), (51, .iload_n 2, 1, 2), (52, .putfield 29, 3, 103), (55, .return_, 1, 0)]
theorem rc_X1_goBack_ok : rf_rc mX1_goBack rc_X1_goBack = true := by decide +kernel
theorem mw_X1_goBack : rf_mw mX1_goBack := ⟨rf_mt_ok _ (List.mem_of_getElem? (i := 7) rfl), fun h => absurd h (by decide), fun _ => ⟨rf_mi_ok _ (List.mem_of_getElem? (i := 5) rfl), rf_mv_ok _ (List.mem_of_getElem? (i := 5) rfl)⟩, rf_mq_0 _ (List.mem_of_getElem? (i := 7) rfl)⟩
def f_X1_goBack_b6 (l2 : Int32) (s6 : Int32 × rf_S) : Option ((Int32 × rf_S) ⊕ (rf_S)) := if l2 ≤ s6.1 then (some (.inr s6.2)) else (if rf_ck ly0 0 39 s6.1 = true then ((f_X8_act ((s6.2.1 39 s6.1.toNatClampNeg) / 10000) (((s6.2.1 39 s6.1.toNatClampNeg) / 100) - ((s6.2.1 39 s6.1.toNatClampNeg) / 100) / 100 * 100) (((s6.2.1 39 s6.1.toNatClampNeg) - (s6.2.1 39 s6.1.toNatClampNeg) / 100 * 100) - 5) s6.2).bind (fun q9 => some (.inl ((s6.1 + 1), q9)))) else none)
set_option maxHeartbeats 2000000 in
theorem ok_X1_goBack_b6 (d : Nat) (l2 : Int32) (s6 : Int32 × rf_S) (o : ((Int32 × rf_S) ⊕ (rf_S))) (h : f_X1_goBack_b6 l2 s6 = some o) {r : Option Value} {σr : rf_S} (kl : ∀ s', o = .inl s' → rf_G ly0 (d + 4) mX1_goBack (6, [some (.ref 38), some (.ref 25), some (.int l2), some (.int s'.1), none], [], s'.2) r σr) (kx : ∀ e, o = .inr e → rf_G ly0 (d + 4) mX1_goBack (50, [some (.ref 38), none, some (.int l2), none, none], [], e) r σr) : rf_G ly0 (d + 4) mX1_goBack (6, [some (.ref 38), some (.ref 25), some (.int l2), some (.int s6.1), none], [], s6.2) r σr := by
  unfold f_X1_goBack_b6 at h
  refine rf_b wf0 rc_X1_goBack_ok 4 2 (8, [some (.ref 38), some (.ref 25), some (.int l2), some (.int s6.1), none], [.int l2, .int s6.1], s6.2) rfl ?_
  by_cases c3 : l2 ≤ s6.1
  · rw [if_pos c3] at h
    refine rf_t wf0 rc_X1_goBack_ok 6 (50, [some (.ref 38), some (.ref 25), some (.int l2), some (.int s6.1), none], [], s6.2) rfl rfl c3 rfl ?_
    refine rf_fg [true, false, true, false, true] [some (.ref 38), none, some (.int l2), none, none] rfl ?_
    exact kx s6.2 (Option.some.inj h).symm
  · rw [if_neg c3] at h
    refine rf_f wf0 rc_X1_goBack_ok 6 (11, [some (.ref 38), some (.ref 25), some (.int l2), some (.int s6.1), none], [], s6.2) rfl rfl c3 rfl ?_
    refine rf_b wf0 rc_X1_goBack_ok 7 3 (16, [some (.ref 38), some (.ref 25), some (.int l2), some (.int s6.1), none], [.int s6.1, .ref 39], s6.2) rfl ?_
    obtain ⟨g4, h⟩ := rf_ifn h
    refine rf_gd wf0 rc_X1_goBack_ok 10 (17, [some (.ref 38), some (.ref 25), some (.int l2), some (.int s6.1), none], [.int (s6.2.1 39 s6.1.toNatClampNeg)], s6.2) rfl rfl g4 rfl ?_
    refine rf_b wf0 rc_X1_goBack_ok 11 4 (25, [some (.ref 38), some (.ref 25), some (.int l2), some (.int s6.1), some (.int (s6.2.1 39 s6.1.toNatClampNeg))], [.int 10000, .int (s6.2.1 39 s6.1.toNatClampNeg), .ref 25], s6.2) rfl ?_
    refine rf_nz wf0 rc_X1_goBack_ok 15 (26, [some (.ref 38), some (.ref 25), some (.int l2), some (.int s6.1), some (.int (s6.2.1 39 s6.1.toNatClampNeg))], [.int ((s6.2.1 39 s6.1.toNatClampNeg) / 10000), .ref 25], s6.2) rfl rfl (c := (10000 : Int32) = 0) (by decide) rfl ?_
    refine rf_b wf0 rc_X1_goBack_ok 16 2 (30, [some (.ref 38), some (.ref 25), some (.int l2), some (.int s6.1), some (.int (s6.2.1 39 s6.1.toNatClampNeg))], [.int 100, .int (s6.2.1 39 s6.1.toNatClampNeg), .int ((s6.2.1 39 s6.1.toNatClampNeg) / 10000), .ref 25], s6.2) rfl ?_
    refine rf_nz wf0 rc_X1_goBack_ok 18 (31, [some (.ref 38), some (.ref 25), some (.int l2), some (.int s6.1), some (.int (s6.2.1 39 s6.1.toNatClampNeg))], [.int ((s6.2.1 39 s6.1.toNatClampNeg) / 100), .int ((s6.2.1 39 s6.1.toNatClampNeg) / 10000), .ref 25], s6.2) rfl rfl (c := (100 : Int32) = 0) (by decide) rfl ?_
    refine rf_b wf0 rc_X1_goBack_ok 19 1 (33, [some (.ref 38), some (.ref 25), some (.int l2), some (.int s6.1), some (.int (s6.2.1 39 s6.1.toNatClampNeg))], [.int 100, .int ((s6.2.1 39 s6.1.toNatClampNeg) / 100), .int ((s6.2.1 39 s6.1.toNatClampNeg) / 10000), .ref 25], s6.2) rfl ?_
    refine rf_nz wf0 rc_X1_goBack_ok 20 (34, [some (.ref 38), some (.ref 25), some (.int l2), some (.int s6.1), some (.int (s6.2.1 39 s6.1.toNatClampNeg))], [.int (((s6.2.1 39 s6.1.toNatClampNeg) / 100) - ((s6.2.1 39 s6.1.toNatClampNeg) / 100) / 100 * 100), .int ((s6.2.1 39 s6.1.toNatClampNeg) / 10000), .ref 25], s6.2) rfl rfl (c := (100 : Int32) = 0) (by decide) rfl ?_
    refine rf_b wf0 rc_X1_goBack_ok 21 2 (38, [some (.ref 38), some (.ref 25), some (.int l2), some (.int s6.1), some (.int (s6.2.1 39 s6.1.toNatClampNeg))], [.int 100, .int (s6.2.1 39 s6.1.toNatClampNeg), .int (((s6.2.1 39 s6.1.toNatClampNeg) / 100) - ((s6.2.1 39 s6.1.toNatClampNeg) / 100) / 100 * 100), .int ((s6.2.1 39 s6.1.toNatClampNeg) / 10000), .ref 25], s6.2) rfl ?_
    refine rf_nz wf0 rc_X1_goBack_ok 23 (39, [some (.ref 38), some (.ref 25), some (.int l2), some (.int s6.1), some (.int (s6.2.1 39 s6.1.toNatClampNeg))], [.int ((s6.2.1 39 s6.1.toNatClampNeg) - (s6.2.1 39 s6.1.toNatClampNeg) / 100 * 100), .int (((s6.2.1 39 s6.1.toNatClampNeg) / 100) - ((s6.2.1 39 s6.1.toNatClampNeg) / 100) / 100 * 100), .int ((s6.2.1 39 s6.1.toNatClampNeg) / 10000), .ref 25], s6.2) rfl rfl (c := (100 : Int32) = 0) (by decide) rfl ?_
    refine rf_b wf0 rc_X1_goBack_ok 24 2 (41, [some (.ref 38), some (.ref 25), some (.int l2), some (.int s6.1), some (.int (s6.2.1 39 s6.1.toNatClampNeg))], [.int (((s6.2.1 39 s6.1.toNatClampNeg) - (s6.2.1 39 s6.1.toNatClampNeg) / 100 * 100) - 5), .int (((s6.2.1 39 s6.1.toNatClampNeg) / 100) - ((s6.2.1 39 s6.1.toNatClampNeg) / 100) / 100 * 100), .int ((s6.2.1 39 s6.1.toNatClampNeg) / 10000), .ref 25], s6.2) rfl ?_
    obtain ⟨q9, h10, h⟩ := Option.bind_eq_some_iff.mp h
    refine rf_cv1 (Mt := mX8_act) wf0 rc_X1_goBack_ok 26 false rfl (List.mem_of_getElem? (i := 10) rfl) mw_X8_act rfl 25 [.int ((s6.2.1 39 s6.1.toNatClampNeg) / 10000), .int (((s6.2.1 39 s6.1.toNatClampNeg) / 100) - ((s6.2.1 39 s6.1.toNatClampNeg) / 100) / 100 * 100), .int (((s6.2.1 39 s6.1.toNatClampNeg) - (s6.2.1 39 s6.1.toNatClampNeg) / 100 * 100) - 5)] [] rfl rfl rfl (Nat.le_of_ble_eq_true rfl) (ok_X8_act d ((s6.2.1 39 s6.1.toNatClampNeg) / 10000) (((s6.2.1 39 s6.1.toNatClampNeg) / 100) - ((s6.2.1 39 s6.1.toNatClampNeg) / 100) / 100 * 100) (((s6.2.1 39 s6.1.toNatClampNeg) - (s6.2.1 39 s6.1.toNatClampNeg) / 100 * 100) - 5) s6.2 q9 h10) ?_
    show rf_G _ _ _ (44, [some (.ref 38), some (.ref 25), some (.int l2), some (.int s6.1), some (.int (s6.2.1 39 s6.1.toNatClampNeg))], [], q9) _ _
    refine rf_b wf0 rc_X1_goBack_ok 27 2 (6, [some (.ref 38), some (.ref 25), some (.int l2), some (.int (s6.1 + 1)), some (.int (s6.2.1 39 s6.1.toNatClampNeg))], [], q9) rfl ?_
    refine rf_fg [true, true, true, true, false] [some (.ref 38), some (.ref 25), some (.int l2), some (.int (s6.1 + 1)), none] rfl ?_
    exact kl ((s6.1 + 1), q9) (Option.some.inj h).symm
def f_X1_goBack (p1 : Int32) (σ : rf_S) : Option rf_S := (f_X8_begin σ).bind (fun q1 => (rf_lp (f_X1_goBack_b6 p1) 5000 (0, q1)).bind (fun e11 => some (rf_sI e11 38 3 p1)))
set_option maxHeartbeats 2000000 in
theorem ok_X1_goBack (d : Nat) (p1 : Int32) (σ : rf_S) (q : rf_S) (h : f_X1_goBack p1 σ = some q) : rf_Ex ly0 (d + 5) mX1_goBack [.ref 38, .ref 25, .int p1] σ none q := by
  unfold f_X1_goBack at h
  refine rf_ex mw_X1_goBack [some (.ref 38), some (.ref 25), some (.int p1), none, none] (Nat.le_of_ble_eq_true rfl) rfl ?_
  refine rf_b wf0 rc_X1_goBack_ok 0 1 (1, [some (.ref 38), some (.ref 25), some (.int p1), none, none], [.ref 25], σ) rfl ?_
  obtain ⟨q1, h2, h⟩ := Option.bind_eq_some_iff.mp h
  refine rf_cv1 (Mt := mX8_begin) wf0 rc_X1_goBack_ok 1 false rfl (List.mem_of_getElem? (i := 11) rfl) mw_X8_begin rfl 25 [] [] rfl rfl rfl (Nat.le_of_ble_eq_true rfl) (ok_X8_begin (d + 2)  σ q1 h2) ?_
  show rf_G _ _ _ (4, [some (.ref 38), some (.ref 25), some (.int p1), none, none], [], q1) _ _
  refine rf_b wf0 rc_X1_goBack_ok 2 2 (6, [some (.ref 38), some (.ref 25), some (.int p1), some (.int 0), none], [], q1) rfl ?_
  obtain ⟨e11, h12, h⟩ := Option.bind_eq_some_iff.mp h
  refine rf_lpG (b := f_X1_goBack_b6 p1) (G := fun (s6 : Int32 × rf_S) => rf_G ly0 (d + 4) mX1_goBack (6, [some (.ref 38), some (.ref 25), some (.int p1), some (.int s6.1), none], [], s6.2) none q) (K := fun (e : (rf_S)) => rf_G ly0 (d + 4) mX1_goBack (50, [some (.ref 38), none, some (.int p1), none, none], [], e) none q) (fun (s6 : Int32 × rf_S) (o : (Int32 × rf_S) ⊕ (rf_S)) hb kl kx => ok_X1_goBack_b6 d p1 s6 o hb kl kx) 5000 (0, q1) e11 h12 ?_
  show rf_G _ _ _ (50, [some (.ref 38), none, some (.int p1), none, none], [], e11) _ _
  refine rf_b wf0 rc_X1_goBack_ok 29 3 (55, [some (.ref 38), none, some (.int p1), none, none], [], (rf_sI e11 38 3 p1)) rfl ?_
  obtain rfl := Option.some.inj h
  exact rf_rv rc_X1_goBack_ok 32 rfl rfl
def rc_X1_store : List rf_E := [(0, .aload_n 0, 1, 0), (1, .getfield 9, 3, 100), (4, .iconst 0, 1, 0), (5, .aload_n 0, 1, 0), (6, .getfield 17, 3, 101), (9, .iload_n 1, 1, 1), (10, .aaload, 1, 0), (11, .iconst 0, 1, 0), (12, .aload_n 0, 1, 0), (13, .getfield 29, 3, 103), (16, .invokestatic 46, 3, 1000), (19, .aload_n 0, 1, 0), (20, .getfield 20, 3, 102), (23, .iload_n 1, 1, 1), (24, .aload_n 0, 1, 0), (25, .getfield 29, 3, 103), (28, .iastore, 1, 0), (29, .return_, 1, 0)]
theorem rc_X1_store_ok : rf_rc mX1_store rc_X1_store = true := by decide +kernel
theorem mw_X1_store : rf_mw mX1_store := ⟨rf_mt_ok _ (List.mem_of_getElem? (i := 8) rfl), fun h => absurd h (by decide), fun _ => ⟨rf_mi_ok _ (List.mem_of_getElem? (i := 6) rfl), rf_mv_ok _ (List.mem_of_getElem? (i := 6) rfl)⟩, rf_mq_0 _ (List.mem_of_getElem? (i := 8) rfl)⟩
def f_X1_store (p0 : Int32) (σ : rf_S) : Option rf_S := if rf_rk ly0 40 p0 = true then (if rf_cp ly0 39 0 (rf_ra ly0 40 p0.toNatClampNeg) 0 (σ.1 38 3) = true then ((some (rf_sA σ (rf_ra ly0 40 p0.toNatClampNeg) (va_cpy (σ.1 39) (σ.1 (rf_ra ly0 40 p0.toNatClampNeg)) (0 : Int32).toNatClampNeg (0 : Int32).toNatClampNeg (σ.1 38 3).toNatClampNeg))).bind (fun σ3 => if rf_ck ly0 0 44 p0 = true then (some (rf_sI σ3 44 p0.toNatClampNeg (σ3.1 38 3))) else none)) else none) else none
set_option maxHeartbeats 2000000 in
theorem ok_X1_store (d : Nat) (p0 : Int32) (σ : rf_S) (q : rf_S) (h : f_X1_store p0 σ = some q) : rf_Ex ly0 (d + 1) mX1_store [.ref 38, .int p0] σ none q := by
  unfold f_X1_store at h
  refine rf_ex mw_X1_store [some (.ref 38), some (.int p0)] (Nat.le_of_ble_eq_true rfl) rfl ?_
  refine rf_b wf0 rc_X1_store_ok 0 6 (10, [some (.ref 38), some (.int p0)], [.int p0, .ref 40, .int 0, .ref 39], σ) rfl ?_
  obtain ⟨g1, h⟩ := rf_ifn h
  refine rf_gd wf0 rc_X1_store_ok 6 (11, [some (.ref 38), some (.int p0)], [.ref (rf_ra ly0 40 p0.toNatClampNeg), .int 0, .ref 39], σ) rfl rfl g1 rfl ?_
  refine rf_b wf0 rc_X1_store_ok 7 3 (16, [some (.ref 38), some (.int p0)], [.int (σ.1 38 3), .int 0, .ref (rf_ra ly0 40 p0.toNatClampNeg), .int 0, .ref 39], σ) rfl ?_
  obtain ⟨g2, h⟩ := rf_ifn h
  refine rf_gd wf0 rc_X1_store_ok 10 (19, [some (.ref 38), some (.int p0)], [], (rf_sA σ (rf_ra ly0 40 p0.toNatClampNeg) (va_cpy (σ.1 39) (σ.1 (rf_ra ly0 40 p0.toNatClampNeg)) (0 : Int32).toNatClampNeg (0 : Int32).toNatClampNeg (σ.1 38 3).toNatClampNeg))) rfl rfl g2 rfl ?_
  obtain ⟨σ3, h4, h⟩ := Option.bind_eq_some_iff.mp h
  refine rf_sgb (Option.some.inj h4) ?_
  refine rf_b wf0 rc_X1_store_ok 11 5 (28, [some (.ref 38), some (.int p0)], [.int (σ3.1 38 3), .int p0, .ref 44], σ3) rfl ?_
  obtain ⟨g5, h⟩ := rf_ifn h
  refine rf_gd wf0 rc_X1_store_ok 16 (29, [some (.ref 38), some (.int p0)], [], (rf_sI σ3 44 p0.toNatClampNeg (σ3.1 38 3))) rfl rfl g5 rfl ?_
  obtain rfl := Option.some.inj h
  exact rf_rv rc_X1_store_ok 17 rfl rfl
def rc_X1_resume : List rf_E := [(0, .aload_n 0, 1, 0), (1, .getfield 17, 3, 101), (4, .iload_n 2, 1, 2), (5, .aaload, 1, 0), (6, .iconst 0, 1, 0), (7, .aload_n 0, 1, 0), (8, .getfield 9, 3, 100), (11, .iconst 0, 1, 0), (12, .aload_n 0, 1, 0), (13, .getfield 20, 3, 102), (16, .iload_n 2, 1, 2), (17, .iaload, 1, 0), (18, .invokestatic 46, 3, 1000), (21, .aload_n 0, 1, 0), (22, .aload_n 1, 1, 1), (23, .aload_n 0, 1, 0), (24, .getfield 20, 3, 102), (27, .iload_n 2, 1, 2), (28, .iaload, 1, 0), (29, .invokevirtual 52, 3, 0), (32, .return_, 1, 0)]
theorem rc_X1_resume_ok : rf_rc mX1_resume rc_X1_resume = true := by decide +kernel
theorem mw_X1_resume : rf_mw mX1_resume := ⟨rf_mt_ok _ (List.mem_of_getElem? (i := 9) rfl), fun h => absurd h (by decide), fun _ => ⟨rf_mi_ok _ (List.mem_of_getElem? (i := 7) rfl), rf_mv_ok _ (List.mem_of_getElem? (i := 7) rfl)⟩, rf_mq_0 _ (List.mem_of_getElem? (i := 9) rfl)⟩
def f_X1_resume (p1 : Int32) (σ : rf_S) : Option rf_S := if rf_rk ly0 40 p1 = true then (if rf_ck ly0 0 44 p1 = true then (if rf_cp ly0 (rf_ra ly0 40 p1.toNatClampNeg) 0 39 0 (σ.1 44 p1.toNatClampNeg) = true then ((some (rf_sA σ 39 (va_cpy (σ.1 (rf_ra ly0 40 p1.toNatClampNeg)) (σ.1 39) (0 : Int32).toNatClampNeg (0 : Int32).toNatClampNeg (σ.1 44 p1.toNatClampNeg).toNatClampNeg))).bind (fun σ4 => if rf_ck ly0 0 44 p1 = true then ((f_X1_goBack (σ4.1 44 p1.toNatClampNeg) σ4).bind (fun q7 => some q7)) else none)) else none) else none) else none
set_option maxHeartbeats 2000000 in
theorem ok_X1_resume (d : Nat) (p1 : Int32) (σ : rf_S) (q : rf_S) (h : f_X1_resume p1 σ = some q) : rf_Ex ly0 (d + 6) mX1_resume [.ref 38, .ref 25, .int p1] σ none q := by
  unfold f_X1_resume at h
  refine rf_ex mw_X1_resume [some (.ref 38), some (.ref 25), some (.int p1)] (Nat.le_of_ble_eq_true rfl) rfl ?_
  refine rf_b wf0 rc_X1_resume_ok 0 3 (5, [some (.ref 38), some (.ref 25), some (.int p1)], [.int p1, .ref 40], σ) rfl ?_
  obtain ⟨g1, h⟩ := rf_ifn h
  refine rf_gd wf0 rc_X1_resume_ok 3 (6, [some (.ref 38), some (.ref 25), some (.int p1)], [.ref (rf_ra ly0 40 p1.toNatClampNeg)], σ) rfl rfl g1 rfl ?_
  refine rf_b wf0 rc_X1_resume_ok 4 7 (17, [some (.ref 38), some (.ref 25), some (.int p1)], [.int p1, .ref 44, .int 0, .ref 39, .int 0, .ref (rf_ra ly0 40 p1.toNatClampNeg)], σ) rfl ?_
  obtain ⟨g2, h⟩ := rf_ifn h
  refine rf_gd wf0 rc_X1_resume_ok 11 (18, [some (.ref 38), some (.ref 25), some (.int p1)], [.int (σ.1 44 p1.toNatClampNeg), .int 0, .ref 39, .int 0, .ref (rf_ra ly0 40 p1.toNatClampNeg)], σ) rfl rfl g2 rfl ?_
  obtain ⟨g3, h⟩ := rf_ifn h
  refine rf_gd wf0 rc_X1_resume_ok 12 (21, [some (.ref 38), some (.ref 25), some (.int p1)], [], (rf_sA σ 39 (va_cpy (σ.1 (rf_ra ly0 40 p1.toNatClampNeg)) (σ.1 39) (0 : Int32).toNatClampNeg (0 : Int32).toNatClampNeg (σ.1 44 p1.toNatClampNeg).toNatClampNeg))) rfl rfl g3 rfl ?_
  obtain ⟨σ4, h5, h⟩ := Option.bind_eq_some_iff.mp h
  refine rf_sgb (Option.some.inj h5) ?_
  refine rf_b wf0 rc_X1_resume_ok 13 5 (28, [some (.ref 38), some (.ref 25), some (.int p1)], [.int p1, .ref 44, .ref 25, .ref 38], σ4) rfl ?_
  obtain ⟨g6, h⟩ := rf_ifn h
  refine rf_gd wf0 rc_X1_resume_ok 18 (29, [some (.ref 38), some (.ref 25), some (.int p1)], [.int (σ4.1 44 p1.toNatClampNeg), .ref 25, .ref 38], σ4) rfl rfl g6 rfl ?_
  obtain ⟨q7, h8, h⟩ := Option.bind_eq_some_iff.mp h
  refine rf_cv1 (Mt := mX1_goBack) wf0 rc_X1_resume_ok 19 false rfl (List.mem_of_getElem? (i := 12) rfl) mw_X1_goBack rfl 38 [.ref 25, .int (σ4.1 44 p1.toNatClampNeg)] [] rfl rfl rfl (Nat.le_of_ble_eq_true rfl) (ok_X1_goBack d (σ4.1 44 p1.toNatClampNeg) σ4 q7 h8) ?_
  show rf_G _ _ _ (32, [some (.ref 38), some (.ref 25), some (.int p1)], [], q7) _ _
  obtain rfl := Option.some.inj h
  exact rf_rv rc_X1_resume_ok 20 rfl rfl
def rc_X2_clear : List rf_E := [(0, .aload_n 0, 1, 0), (1, .iconst 0, 1, 0), (2, .putfield 30, 3, 206), (5, .aload_n 0, 1, 0), (6, .iconst 0, 1, 0), (7, .putfield 34, 3, 207), (10, .return_, 1, 0)]
theorem rc_X2_clear_ok : rf_rc mX2_clear rc_X2_clear = true := by decide +kernel
theorem mw_X2_clear : rf_mw mX2_clear := ⟨rf_mt_ok _ (List.mem_of_getElem? (i := 10) rfl), fun h => absurd h (by decide), fun _ => ⟨rf_mi_ok _ (List.mem_of_getElem? (i := 8) rfl), rf_mv_ok _ (List.mem_of_getElem? (i := 8) rfl)⟩, rf_mq_0 _ (List.mem_of_getElem? (i := 10) rfl)⟩
def f_X2_clear (σ : rf_S) : Option rf_S := some (rf_sI (rf_sI σ 18 6 0) 18 7 0)
set_option maxHeartbeats 2000000 in
theorem ok_X2_clear (d : Nat) (σ : rf_S) (q : rf_S) (h : f_X2_clear σ = some q) : rf_Ex ly0 (d + 1) mX2_clear [.ref 18] σ none q := by
  unfold f_X2_clear at h
  refine rf_ex mw_X2_clear [some (.ref 18)] (Nat.le_of_ble_eq_true rfl) rfl ?_
  refine rf_b wf0 rc_X2_clear_ok 0 6 (10, [some (.ref 18)], [], (rf_sI (rf_sI σ 18 6 0) 18 7 0)) rfl ?_
  obtain rfl := Option.some.inj h
  exact rf_rv rc_X2_clear_ok 6 rfl rfl
def rc_X2_hasSpaceForRoom : List rf_E := [(0, .aload_n 0, 1, 0), (1, .getfield 34, 3, 207), (4, .ifCond .ne 15, 3, 19), (7, .aload_n 0, 1, 0), (8, .getfield 30, 3, 206), (11, .iconst 4, 1, 0), (12, .if_icmp .ge 7, 3, 19), (15, .iconst 1, 1, 0), (16, .goto 4, 3, 20), (19, .iconst 0, 1, 0), (20, .ireturn, 1, 0)]
theorem rc_X2_hasSpaceForRoom_ok : rf_rc mX2_hasSpaceForRoom rc_X2_hasSpaceForRoom = true := by decide +kernel
theorem mw_X2_hasSpaceForRoom : rf_mw mX2_hasSpaceForRoom := ⟨rf_mt_ok _ (List.mem_of_getElem? (i := 11) rfl), fun h => absurd h (by decide), fun _ => ⟨rf_mi_ok _ (List.mem_of_getElem? (i := 9) rfl), rf_mv_ok _ (List.mem_of_getElem? (i := 9) rfl)⟩, rf_mq_0 _ (List.mem_of_getElem? (i := 11) rfl)⟩
def f_X2_hasSpaceForRoom (σ : rf_S) : Option Int32 := if (σ.1 18 7) ≠ 0 then (some 0) else (if 4 ≤ (σ.1 18 6) then (some 0) else (some 1))
set_option maxHeartbeats 2000000 in
theorem ok_X2_hasSpaceForRoom (d : Nat) (σ : rf_S) (q : Int32) (h : f_X2_hasSpaceForRoom σ = some q) : rf_Ex ly0 (d + 1) mX2_hasSpaceForRoom [.ref 18] σ (some (.int q) : Option Value) σ := by
  unfold f_X2_hasSpaceForRoom at h
  refine rf_ex mw_X2_hasSpaceForRoom [some (.ref 18)] (Nat.le_of_ble_eq_true rfl) rfl ?_
  refine rf_b wf0 rc_X2_hasSpaceForRoom_ok 0 2 (4, [some (.ref 18)], [.int (σ.1 18 7)], σ) rfl ?_
  by_cases c1 : (σ.1 18 7) ≠ 0
  · rw [if_pos c1] at h
    refine rf_t wf0 rc_X2_hasSpaceForRoom_ok 2 (19, [some (.ref 18)], [], σ) rfl rfl c1 rfl ?_
    refine rf_b wf0 rc_X2_hasSpaceForRoom_ok 9 1 (20, [some (.ref 18)], [.int 0], σ) rfl ?_
    obtain rfl := Option.some.inj h
    exact rf_rz rc_X2_hasSpaceForRoom_ok 10 rfl rfl (by decide)
  · rw [if_neg c1] at h
    refine rf_f wf0 rc_X2_hasSpaceForRoom_ok 2 (7, [some (.ref 18)], [], σ) rfl rfl c1 rfl ?_
    refine rf_b wf0 rc_X2_hasSpaceForRoom_ok 3 3 (12, [some (.ref 18)], [.int 4, .int (σ.1 18 6)], σ) rfl ?_
    by_cases c2 : 4 ≤ (σ.1 18 6)
    · rw [if_pos c2] at h
      refine rf_t wf0 rc_X2_hasSpaceForRoom_ok 6 (19, [some (.ref 18)], [], σ) rfl rfl c2 rfl ?_
      refine rf_b wf0 rc_X2_hasSpaceForRoom_ok 9 1 (20, [some (.ref 18)], [.int 0], σ) rfl ?_
      obtain rfl := Option.some.inj h
      exact rf_rz rc_X2_hasSpaceForRoom_ok 10 rfl rfl (by decide)
    · rw [if_neg c2] at h
      refine rf_f wf0 rc_X2_hasSpaceForRoom_ok 6 (15, [some (.ref 18)], [], σ) rfl rfl c2 rfl ?_
      refine rf_b wf0 rc_X2_hasSpaceForRoom_ok 7 2 (20, [some (.ref 18)], [.int 1], σ) rfl ?_
      obtain rfl := Option.some.inj h
      exact rf_rz rc_X2_hasSpaceForRoom_ok 10 rfl rfl (by decide)
def rc_X2_hasSpaceForMember : List rf_E := [(0, .aload_n 0, 1, 0), (1, .getfield 30, 3, 206), (4, .ifCond .le 16, 3, 20), (7, .aload_n 0, 1, 0), (8, .getfield 34, 3, 207), (11, .bipush 6, 2, 0), (13, .if_icmp .ge 7, 3, 20), (16, .iconst 1, 1, 0), (17, .goto 4, 3, 21), (20, .iconst 0, 1, 0), (21, .ireturn, 1, 0)]
theorem rc_X2_hasSpaceForMember_ok : rf_rc mX2_hasSpaceForMember rc_X2_hasSpaceForMember = true := by decide +kernel
theorem mw_X2_hasSpaceForMember : rf_mw mX2_hasSpaceForMember := ⟨rf_mt_ok _ (List.mem_of_getElem? (i := 12) rfl), fun h => absurd h (by decide), fun _ => ⟨rf_mi_ok _ (List.mem_of_getElem? (i := 10) rfl), rf_mv_ok _ (List.mem_of_getElem? (i := 10) rfl)⟩, rf_mq_0 _ (List.mem_of_getElem? (i := 12) rfl)⟩
def f_X2_hasSpaceForMember (σ : rf_S) : Option Int32 := if (σ.1 18 6) ≤ 0 then (some 0) else (if 6 ≤ (σ.1 18 7) then (some 0) else (some 1))
set_option maxHeartbeats 2000000 in
theorem ok_X2_hasSpaceForMember (d : Nat) (σ : rf_S) (q : Int32) (h : f_X2_hasSpaceForMember σ = some q) : rf_Ex ly0 (d + 1) mX2_hasSpaceForMember [.ref 18] σ (some (.int q) : Option Value) σ := by
  unfold f_X2_hasSpaceForMember at h
  refine rf_ex mw_X2_hasSpaceForMember [some (.ref 18)] (Nat.le_of_ble_eq_true rfl) rfl ?_
  refine rf_b wf0 rc_X2_hasSpaceForMember_ok 0 2 (4, [some (.ref 18)], [.int (σ.1 18 6)], σ) rfl ?_
  by_cases c1 : (σ.1 18 6) ≤ 0
  · rw [if_pos c1] at h
    refine rf_t wf0 rc_X2_hasSpaceForMember_ok 2 (20, [some (.ref 18)], [], σ) rfl rfl c1 rfl ?_
    refine rf_b wf0 rc_X2_hasSpaceForMember_ok 9 1 (21, [some (.ref 18)], [.int 0], σ) rfl ?_
    obtain rfl := Option.some.inj h
    exact rf_rz rc_X2_hasSpaceForMember_ok 10 rfl rfl (by decide)
  · rw [if_neg c1] at h
    refine rf_f wf0 rc_X2_hasSpaceForMember_ok 2 (7, [some (.ref 18)], [], σ) rfl rfl c1 rfl ?_
    refine rf_b wf0 rc_X2_hasSpaceForMember_ok 3 3 (13, [some (.ref 18)], [.int 6, .int (σ.1 18 7)], σ) rfl ?_
    by_cases c2 : 6 ≤ (σ.1 18 7)
    · rw [if_pos c2] at h
      refine rf_t wf0 rc_X2_hasSpaceForMember_ok 6 (20, [some (.ref 18)], [], σ) rfl rfl c2 rfl ?_
      refine rf_b wf0 rc_X2_hasSpaceForMember_ok 9 1 (21, [some (.ref 18)], [.int 0], σ) rfl ?_
      obtain rfl := Option.some.inj h
      exact rf_rz rc_X2_hasSpaceForMember_ok 10 rfl rfl (by decide)
    · rw [if_neg c2] at h
      refine rf_f wf0 rc_X2_hasSpaceForMember_ok 6 (16, [some (.ref 18)], [], σ) rfl rfl c2 rfl ?_
      refine rf_b wf0 rc_X2_hasSpaceForMember_ok 7 2 (21, [some (.ref 18)], [.int 1], σ) rfl ?_
      obtain rfl := Option.some.inj h
      exact rf_rz rc_X2_hasSpaceForMember_ok 10 rfl rfl (by decide)
def rc_X2_addRoom : List rf_E := [(0, .aload_n 0, 1, 0), (1, .invokevirtual 37, 3, 0), (4, .ifCond .eq 33, 3, 37), (7, .aload_n 0, 1, 0), (8, .getfield 9, 3, 200), (11, .aload_n 0, 1, 0), (12, .getfield 30, 3, 206), (15, .iload_n 1, 1, 1), (16, .iastore, 1, 0), (17, .aload_n 0, 1, 0), (18, .getfield 15, 3, 201), (21, .aload_n 0, 1, 0), (22, .getfield 30, 3, 206), (25, .iload_n 2, 1, 2), (26, .iastore, 1, 0), (27, .aload_n 0, 1, 0), (28, .dup, 1, 0), (29, .getfield 30, 3, 206), (32, .iconst 1, 1, 0), (33, .iadd, 1, 0), (34, .putfield 30, 3, 206), (37, .return_, 1, 0)]
theorem rc_X2_addRoom_ok : rf_rc mX2_addRoom rc_X2_addRoom = true := by decide +kernel
theorem mw_X2_addRoom : rf_mw mX2_addRoom := ⟨rf_mt_ok _ (List.mem_of_getElem? (i := 13) rfl), fun h => absurd h (by decide), fun _ => ⟨rf_mi_ok _ (List.mem_of_getElem? (i := 11) rfl), rf_mv_ok _ (List.mem_of_getElem? (i := 11) rfl)⟩, rf_mq_0 _ (List.mem_of_getElem? (i := 13) rfl)⟩
def f_X2_addRoom (p0 : Int32) (p1 : Int32) (σ : rf_S) : Option rf_S := (f_X2_hasSpaceForRoom σ).bind (fun q1 => if q1 = 0 then (some σ) else (if rf_ck ly0 0 19 (σ.1 18 6) = true then (if rf_ck ly0 0 20 ((rf_sI σ 19 (σ.1 18 6).toNatClampNeg p0).1 18 6) = true then ((some (rf_sI (rf_sI σ 19 (σ.1 18 6).toNatClampNeg p0) 20 ((rf_sI σ 19 (σ.1 18 6).toNatClampNeg p0).1 18 6).toNatClampNeg p1)).bind (fun σ6 => some (rf_sI σ6 18 6 ((σ6.1 18 6) + 1)))) else none) else none))
set_option maxHeartbeats 2000000 in
theorem ok_X2_addRoom (d : Nat) (p0 : Int32) (p1 : Int32) (σ : rf_S) (q : rf_S) (h : f_X2_addRoom p0 p1 σ = some q) : rf_Ex ly0 (d + 2) mX2_addRoom [.ref 18, .int p0, .int p1] σ none q := by
  unfold f_X2_addRoom at h
  refine rf_ex mw_X2_addRoom [some (.ref 18), some (.int p0), some (.int p1)] (Nat.le_of_ble_eq_true rfl) rfl ?_
  refine rf_b wf0 rc_X2_addRoom_ok 0 1 (1, [some (.ref 18), some (.int p0), some (.int p1)], [.ref 18], σ) rfl ?_
  obtain ⟨q1, h2, h⟩ := Option.bind_eq_some_iff.mp h
  refine rf_cv1 (Mt := mX2_hasSpaceForRoom) wf0 rc_X2_addRoom_ok 1 false rfl (List.mem_of_getElem? (i := 13) rfl) mw_X2_hasSpaceForRoom rfl 18 [] [] rfl rfl rfl (Nat.le_of_ble_eq_true rfl) (ok_X2_hasSpaceForRoom d  σ q1 h2) ?_
  show rf_G _ _ _ (4, [some (.ref 18), some (.int p0), some (.int p1)], [.int q1], σ) _ _
  by_cases c3 : q1 = 0
  · rw [if_pos c3] at h
    refine rf_t wf0 rc_X2_addRoom_ok 2 (37, [some (.ref 18), some (.int p0), some (.int p1)], [], σ) rfl rfl c3 rfl ?_
    obtain rfl := Option.some.inj h
    exact rf_rv rc_X2_addRoom_ok 21 rfl rfl
  · rw [if_neg c3] at h
    refine rf_f wf0 rc_X2_addRoom_ok 2 (7, [some (.ref 18), some (.int p0), some (.int p1)], [], σ) rfl rfl c3 rfl ?_
    refine rf_b wf0 rc_X2_addRoom_ok 3 5 (16, [some (.ref 18), some (.int p0), some (.int p1)], [.int p0, .int (σ.1 18 6), .ref 19], σ) rfl ?_
    obtain ⟨g4, h⟩ := rf_ifn h
    refine rf_gd wf0 rc_X2_addRoom_ok 8 (17, [some (.ref 18), some (.int p0), some (.int p1)], [], (rf_sI σ 19 (σ.1 18 6).toNatClampNeg p0)) rfl rfl g4 rfl ?_
    refine rf_b wf0 rc_X2_addRoom_ok 9 5 (26, [some (.ref 18), some (.int p0), some (.int p1)], [.int p1, .int ((rf_sI σ 19 (σ.1 18 6).toNatClampNeg p0).1 18 6), .ref 20], (rf_sI σ 19 (σ.1 18 6).toNatClampNeg p0)) rfl ?_
    obtain ⟨g5, h⟩ := rf_ifn h
    refine rf_gd wf0 rc_X2_addRoom_ok 14 (27, [some (.ref 18), some (.int p0), some (.int p1)], [], (rf_sI (rf_sI σ 19 (σ.1 18 6).toNatClampNeg p0) 20 ((rf_sI σ 19 (σ.1 18 6).toNatClampNeg p0).1 18 6).toNatClampNeg p1)) rfl rfl g5 rfl ?_
    obtain ⟨σ6, h7, h⟩ := Option.bind_eq_some_iff.mp h
    refine rf_sgb (Option.some.inj h7) ?_
    refine rf_b wf0 rc_X2_addRoom_ok 15 6 (37, [some (.ref 18), some (.int p0), some (.int p1)], [], (rf_sI σ6 18 6 ((σ6.1 18 6) + 1))) rfl ?_
    obtain rfl := Option.some.inj h
    exact rf_rv rc_X2_addRoom_ok 21 rfl rfl
def rc_X2_addMember : List rf_E := [(0, .aload_n 0, 1, 0), (1, .invokevirtual 41, 3, 0), (4, .ifCond .eq 54, 3, 58), (7, .aload_n 0, 1, 0), (8, .getfield 18, 3, 202), (11, .aload_n 0, 1, 0), (12, .getfield 34, 3, 207), (15, .iload_n 1, 1, 1), (16, .iastore, 1, 0), (17, .aload_n 0, 1, 0), (18, .getfield 21, 3, 203), (21, .aload_n 0, 1, 0), (22, .getfield 34, 3, 207), (25, .iload_n 2, 1, 2), (26, .iastore, 1, 0), (27, .aload_n 0, 1, 0), (28, .getfield 24, 3, 204), (31, .aload_n 0, 1, 0), (32, .getfield 34, 3, 207), (35, .iload_n 3, 1, 3), (36, .iastore, 1, 0), (37, .aload_n 0, 1, 0), (38, .getfield 27, 3, 205), (41, .aload_n 0, 1, 0), (42, .getfield 34, 3, 207), (45, .iload 4, 2, 4), (47, .iastore, 1, 0), (48, .aload_n 0, 1, 0), (49, .dup, 1, 0), (50, .getfield 34, 3, 207), (53, .iconst 1, 1, 0), (54, .iadd, 1, 0), (55, .putfield 34, 3, 207), (58, .return_, 1, 0)]
theorem rc_X2_addMember_ok : rf_rc mX2_addMember rc_X2_addMember = true := by decide +kernel
theorem mw_X2_addMember : rf_mw mX2_addMember := ⟨rf_mt_ok _ (List.mem_of_getElem? (i := 14) rfl), fun h => absurd h (by decide), fun _ => ⟨rf_mi_ok _ (List.mem_of_getElem? (i := 12) rfl), rf_mv_ok _ (List.mem_of_getElem? (i := 12) rfl)⟩, rf_mq_0 _ (List.mem_of_getElem? (i := 14) rfl)⟩
def f_X2_addMember (p0 : Int32) (p1 : Int32) (p2 : Int32) (p3 : Int32) (σ : rf_S) : Option rf_S := (f_X2_hasSpaceForMember σ).bind (fun q1 => if q1 = 0 then (some σ) else (if rf_ck ly0 0 21 (σ.1 18 7) = true then (if rf_ck ly0 0 22 ((rf_sI σ 21 (σ.1 18 7).toNatClampNeg p0).1 18 7) = true then ((some (rf_sI (rf_sI σ 21 (σ.1 18 7).toNatClampNeg p0) 22 ((rf_sI σ 21 (σ.1 18 7).toNatClampNeg p0).1 18 7).toNatClampNeg p1)).bind (fun σ6 => if rf_ck ly0 0 23 (σ6.1 18 7) = true then (if rf_ck ly0 0 24 ((rf_sI σ6 23 (σ6.1 18 7).toNatClampNeg p2).1 18 7) = true then ((some (rf_sI (rf_sI σ6 23 (σ6.1 18 7).toNatClampNeg p2) 24 ((rf_sI σ6 23 (σ6.1 18 7).toNatClampNeg p2).1 18 7).toNatClampNeg p3)).bind (fun σ10 => some (rf_sI σ10 18 7 ((σ10.1 18 7) + 1)))) else none) else none)) else none) else none))
set_option maxHeartbeats 2000000 in
theorem ok_X2_addMember (d : Nat) (p0 : Int32) (p1 : Int32) (p2 : Int32) (p3 : Int32) (σ : rf_S) (q : rf_S) (h : f_X2_addMember p0 p1 p2 p3 σ = some q) : rf_Ex ly0 (d + 2) mX2_addMember [.ref 18, .int p0, .int p1, .int p2, .int p3] σ none q := by
  unfold f_X2_addMember at h
  refine rf_ex mw_X2_addMember [some (.ref 18), some (.int p0), some (.int p1), some (.int p2), some (.int p3)] (Nat.le_of_ble_eq_true rfl) rfl ?_
  refine rf_b wf0 rc_X2_addMember_ok 0 1 (1, [some (.ref 18), some (.int p0), some (.int p1), some (.int p2), some (.int p3)], [.ref 18], σ) rfl ?_
  obtain ⟨q1, h2, h⟩ := Option.bind_eq_some_iff.mp h
  refine rf_cv1 (Mt := mX2_hasSpaceForMember) wf0 rc_X2_addMember_ok 1 false rfl (List.mem_of_getElem? (i := 14) rfl) mw_X2_hasSpaceForMember rfl 18 [] [] rfl rfl rfl (Nat.le_of_ble_eq_true rfl) (ok_X2_hasSpaceForMember d  σ q1 h2) ?_
  show rf_G _ _ _ (4, [some (.ref 18), some (.int p0), some (.int p1), some (.int p2), some (.int p3)], [.int q1], σ) _ _
  by_cases c3 : q1 = 0
  · rw [if_pos c3] at h
    refine rf_t wf0 rc_X2_addMember_ok 2 (58, [some (.ref 18), some (.int p0), some (.int p1), some (.int p2), some (.int p3)], [], σ) rfl rfl c3 rfl ?_
    obtain rfl := Option.some.inj h
    exact rf_rv rc_X2_addMember_ok 33 rfl rfl
  · rw [if_neg c3] at h
    refine rf_f wf0 rc_X2_addMember_ok 2 (7, [some (.ref 18), some (.int p0), some (.int p1), some (.int p2), some (.int p3)], [], σ) rfl rfl c3 rfl ?_
    refine rf_b wf0 rc_X2_addMember_ok 3 5 (16, [some (.ref 18), some (.int p0), some (.int p1), some (.int p2), some (.int p3)], [.int p0, .int (σ.1 18 7), .ref 21], σ) rfl ?_
    obtain ⟨g4, h⟩ := rf_ifn h
    refine rf_gd wf0 rc_X2_addMember_ok 8 (17, [some (.ref 18), some (.int p0), some (.int p1), some (.int p2), some (.int p3)], [], (rf_sI σ 21 (σ.1 18 7).toNatClampNeg p0)) rfl rfl g4 rfl ?_
    refine rf_b wf0 rc_X2_addMember_ok 9 5 (26, [some (.ref 18), some (.int p0), some (.int p1), some (.int p2), some (.int p3)], [.int p1, .int ((rf_sI σ 21 (σ.1 18 7).toNatClampNeg p0).1 18 7), .ref 22], (rf_sI σ 21 (σ.1 18 7).toNatClampNeg p0)) rfl ?_
    obtain ⟨g5, h⟩ := rf_ifn h
    refine rf_gd wf0 rc_X2_addMember_ok 14 (27, [some (.ref 18), some (.int p0), some (.int p1), some (.int p2), some (.int p3)], [], (rf_sI (rf_sI σ 21 (σ.1 18 7).toNatClampNeg p0) 22 ((rf_sI σ 21 (σ.1 18 7).toNatClampNeg p0).1 18 7).toNatClampNeg p1)) rfl rfl g5 rfl ?_
    obtain ⟨σ6, h7, h⟩ := Option.bind_eq_some_iff.mp h
    refine rf_sgb (Option.some.inj h7) ?_
    refine rf_b wf0 rc_X2_addMember_ok 15 5 (36, [some (.ref 18), some (.int p0), some (.int p1), some (.int p2), some (.int p3)], [.int p2, .int (σ6.1 18 7), .ref 23], σ6) rfl ?_
    obtain ⟨g8, h⟩ := rf_ifn h
    refine rf_gd wf0 rc_X2_addMember_ok 20 (37, [some (.ref 18), some (.int p0), some (.int p1), some (.int p2), some (.int p3)], [], (rf_sI σ6 23 (σ6.1 18 7).toNatClampNeg p2)) rfl rfl g8 rfl ?_
    refine rf_b wf0 rc_X2_addMember_ok 21 5 (47, [some (.ref 18), some (.int p0), some (.int p1), some (.int p2), some (.int p3)], [.int p3, .int ((rf_sI σ6 23 (σ6.1 18 7).toNatClampNeg p2).1 18 7), .ref 24], (rf_sI σ6 23 (σ6.1 18 7).toNatClampNeg p2)) rfl ?_
    obtain ⟨g9, h⟩ := rf_ifn h
    refine rf_gd wf0 rc_X2_addMember_ok 26 (48, [some (.ref 18), some (.int p0), some (.int p1), some (.int p2), some (.int p3)], [], (rf_sI (rf_sI σ6 23 (σ6.1 18 7).toNatClampNeg p2) 24 ((rf_sI σ6 23 (σ6.1 18 7).toNatClampNeg p2).1 18 7).toNatClampNeg p3)) rfl rfl g9 rfl ?_
    obtain ⟨σ10, h11, h⟩ := Option.bind_eq_some_iff.mp h
    refine rf_sgb (Option.some.inj h11) ?_
    refine rf_b wf0 rc_X2_addMember_ok 27 6 (58, [some (.ref 18), some (.int p0), some (.int p1), some (.int p2), some (.int p3)], [], (rf_sI σ10 18 7 ((σ10.1 18 7) + 1))) rfl ?_
    obtain rfl := Option.some.inj h
    exact rf_rv rc_X2_addMember_ok 33 rfl rfl
