def rc_X10_soups : List rf_E := [(0, .aload_n 0, 1, 0), (1, .getfield 75, 3, 1017), (4, .ifCond .ne 6, 3, 10), (7, .bipush (-4), 2, 0), (9, .ireturn, 1, 0), (10, .aload_n 0, 1, 0), (11, .iload_n 1, 1, 1), (12, .invokevirtual 169, 3, 0), (15, .ifCond .eq 22, 3, 37), (18, .iload_n 2, 1, 2), (19, .iconst 0, 1, 0), (20, .bipush 8, 2, 0), (22, .invokestatic 78, 3, 0), (25, .ifCond .eq 12, 3, 37), (28, .iload_n 3, 1, 3), (29, .iconst 0, 1, 0), (30, .iconst 1, 1, 0), (31, .invokestatic 78, 3, 0), (34, .ifCond .ne 5, 3, 39), (37, .iconst (-1), 1, 0), (38, .ireturn, 1, 0), (39, .iconst (-1), 1, 0), (40, .istore 4, 2, 4), (42, .iconst 0, 1, 0), (43, .istore 5, 2, 5), (45, .iload 5, 2, 5), (47, .iconst 1, 1, 0), (48, .iload_n 2, 1, 2), (49, .ishl, 1, 0), (50, .if_icmp .ge 57, 3, 107), (53, .iload 4, 2, 4), (55, .ifCond .lt 16, 3, 71), (58, .iload 5, 2, 5), (60, .invokestatic 192, 3, 0), (63, .iload 4, 2, 4), (65, .invokestatic 192, 3, 0), (68, .if_icmp .ge 29, 3, 97), (71, .aload_n 0, 1, 0), (72, .iload_n 1, 1, 1), (73, .iload_n 2, 1, 2), (74, .iload 5, 2, 5), (76, .iload_n 3, 1, 3), (77, .iconst 1, 1, 0), (78, .if_icmp .ne 7, 3, 85), (81, .iconst 1, 1, 0), (82, .goto 4, 3, 86), (85, .iconst 0, 1, 0), (86, .invokevirtual 256, 3, 0), (89, .ifCond .eq 8, 3, 97), (92, .iload 5, 2, 5), (94, .goto 5, 3, 99), (97, .iload 4, 2, 4), (99, .istore 4, 2, 4), (101, .iinc 5 1, 3, 5), (104, .goto (-59), 3, 45), (107, .iload 4, 2, 4), (109, .ifCond .ge 6, 3, 115), (112, .bipush (-9), 2, 0), (114, .ireturn, 1, 0), (115, .aload_n 0, 1, 0), (116, .iload 4, 2, 4), (118, .invokevirtual 93, 3, 0), (121, .pop, 1, 0), (122, .iload 4, 2, 4), (124, .invokestatic 192, 3, 0), (127, .ireturn, 1, 0)]
theorem rc_X10_soups_ok : rf_rc mX10_soups rc_X10_soups = true := by decide +kernel
theorem mw_X10_soups : rf_mw mX10_soups := ⟨rf_mt_ok _ (List.mem_of_getElem? (i := 230) rfl), fun h => absurd h (by decide), fun _ => ⟨rf_mi_ok _ (List.mem_of_getElem? (i := 208) rfl), rf_mv_ok _ (List.mem_of_getElem? (i := 208) rfl)⟩, rf_mq_9 _ (List.mem_of_getElem? (i := 5) rfl)⟩
def f_X10_soups_j99 (l1 : Int32) (l2 : Int32) (l3 : Int32) (l5 : Int32) (t0 : Int32) (σ : rf_S) : Option ((Int32 × Int32 × rf_S) ⊕ (Int32 × rf_S)) := some (.inl (t0, (l5 + 1), σ))
set_option maxHeartbeats 2000000 in
theorem ok_X10_soups_j99 (d : Nat) (l1 : Int32) (l2 : Int32) (l3 : Int32) (l5 : Int32) (t0 : Int32) (σ : rf_S) (o : ((Int32 × Int32 × rf_S) ⊕ (Int32 × rf_S))) (h : f_X10_soups_j99 l1 l2 l3 l5 t0 σ = some o) {r : Option Value} {σr : rf_S} (kl : ∀ s', o = .inl s' → rf_G ly1 (d + 4) mX10_soups (45, [some (.ref 0), some (.int l1), some (.int l2), some (.int l3), some (.int s'.1), some (.int s'.2.1)], [], s'.2.2) r σr) (kx : ∀ e, o = .inr e → rf_G ly1 (d + 4) mX10_soups (107, [some (.ref 0), none, none, none, some (.int e.1), none], [], e.2) r σr) : rf_G ly1 (d + 4) mX10_soups (99, [some (.ref 0), some (.int l1), some (.int l2), some (.int l3), none, some (.int l5)], [.int t0], σ) r σr := by
  unfold f_X10_soups_j99 at h
  refine rf_b wf1 rc_X10_soups_ok 52 3 (45, [some (.ref 0), some (.int l1), some (.int l2), some (.int l3), some (.int t0), some (.int (l5 + 1))], [], σ) rfl ?_
  exact kl (t0, (l5 + 1), σ) (Option.some.inj h).symm
def f_X10_soups_j97 (l1 : Int32) (l2 : Int32) (l3 : Int32) (l4 : Int32) (l5 : Int32) (σ : rf_S) : Option ((Int32 × Int32 × rf_S) ⊕ (Int32 × rf_S)) := f_X10_soups_j99 l1 l2 l3 l5 l4 σ
set_option maxHeartbeats 2000000 in
theorem ok_X10_soups_j97 (d : Nat) (l1 : Int32) (l2 : Int32) (l3 : Int32) (l4 : Int32) (l5 : Int32) (σ : rf_S) (o : ((Int32 × Int32 × rf_S) ⊕ (Int32 × rf_S))) (h : f_X10_soups_j97 l1 l2 l3 l4 l5 σ = some o) {r : Option Value} {σr : rf_S} (kl : ∀ s', o = .inl s' → rf_G ly1 (d + 4) mX10_soups (45, [some (.ref 0), some (.int l1), some (.int l2), some (.int l3), some (.int s'.1), some (.int s'.2.1)], [], s'.2.2) r σr) (kx : ∀ e, o = .inr e → rf_G ly1 (d + 4) mX10_soups (107, [some (.ref 0), none, none, none, some (.int e.1), none], [], e.2) r σr) : rf_G ly1 (d + 4) mX10_soups (97, [some (.ref 0), some (.int l1), some (.int l2), some (.int l3), some (.int l4), some (.int l5)], [], σ) r σr := by
  unfold f_X10_soups_j97 at h
  refine rf_b wf1 rc_X10_soups_ok 51 1 (99, [some (.ref 0), some (.int l1), some (.int l2), some (.int l3), some (.int l4), some (.int l5)], [.int l4], σ) rfl ?_
  refine rf_fg [true, true, true, true, false, true] [some (.ref 0), some (.int l1), some (.int l2), some (.int l3), none, some (.int l5)] rfl ?_
  exact ok_X10_soups_j99 d l1 l2 l3 l5 l4 σ o h kl kx
def f_X10_soups_j86 (l1 : Int32) (l2 : Int32) (l3 : Int32) (l4 : Int32) (l5 : Int32) (t0 : Int32) (t1 : Int32) (t2 : Int32) (t3 : Int32) (σ : rf_S) : Option ((Int32 × Int32 × rf_S) ⊕ (Int32 × rf_S)) := (f_X10_isServed t3 t2 t1 t0 σ).bind (fun q14 => if q14.1 = 0 then (f_X10_soups_j97 l1 l2 l3 l4 l5 q14.2) else (f_X10_soups_j99 l1 l2 l3 l5 l5 q14.2))
set_option maxHeartbeats 2000000 in
theorem ok_X10_soups_j86 (d : Nat) (l1 : Int32) (l2 : Int32) (l3 : Int32) (l4 : Int32) (l5 : Int32) (t0 : Int32) (t1 : Int32) (t2 : Int32) (t3 : Int32) (σ : rf_S) (o : ((Int32 × Int32 × rf_S) ⊕ (Int32 × rf_S))) (h : f_X10_soups_j86 l1 l2 l3 l4 l5 t0 t1 t2 t3 σ = some o) {r : Option Value} {σr : rf_S} (kl : ∀ s', o = .inl s' → rf_G ly1 (d + 4) mX10_soups (45, [some (.ref 0), some (.int l1), some (.int l2), some (.int l3), some (.int s'.1), some (.int s'.2.1)], [], s'.2.2) r σr) (kx : ∀ e, o = .inr e → rf_G ly1 (d + 4) mX10_soups (107, [some (.ref 0), none, none, none, some (.int e.1), none], [], e.2) r σr) : rf_G ly1 (d + 4) mX10_soups (86, [some (.ref 0), some (.int l1), some (.int l2), some (.int l3), some (.int l4), some (.int l5)], [.int t0, .int t1, .int t2, .int t3, .ref 0], σ) r σr := by
  unfold f_X10_soups_j86 at h
  obtain ⟨q14, h15, h⟩ := Option.bind_eq_some_iff.mp h
  refine rf_cv1 (Mt := mX10_isServed) wf1 rc_X10_soups_ok 47 false rfl (List.mem_of_getElem? (i := 190) rfl) mw_X10_isServed rfl 0 [.int t3, .int t2, .int t1, .int t0] [] rfl rfl rfl (Nat.le_of_ble_eq_true rfl) (ok_X10_isServed d t3 t2 t1 t0 σ q14 h15) ?_
  show rf_G _ _ _ (89, [some (.ref 0), some (.int l1), some (.int l2), some (.int l3), some (.int l4), some (.int l5)], [.int q14.1], q14.2) _ _
  by_cases c16 : q14.1 = 0
  · rw [if_pos c16] at h
    refine rf_t wf1 rc_X10_soups_ok 48 (97, [some (.ref 0), some (.int l1), some (.int l2), some (.int l3), some (.int l4), some (.int l5)], [], q14.2) rfl rfl c16 rfl ?_
    exact ok_X10_soups_j97 d l1 l2 l3 l4 l5 q14.2 o h kl kx
  · rw [if_neg c16] at h
    refine rf_f wf1 rc_X10_soups_ok 48 (92, [some (.ref 0), some (.int l1), some (.int l2), some (.int l3), some (.int l4), some (.int l5)], [], q14.2) rfl rfl c16 rfl ?_
    refine rf_b wf1 rc_X10_soups_ok 49 2 (99, [some (.ref 0), some (.int l1), some (.int l2), some (.int l3), some (.int l4), some (.int l5)], [.int l5], q14.2) rfl ?_
    refine rf_fg [true, true, true, true, false, true] [some (.ref 0), some (.int l1), some (.int l2), some (.int l3), none, some (.int l5)] rfl ?_
    exact ok_X10_soups_j99 d l1 l2 l3 l5 l5 q14.2 o h kl kx
def f_X10_soups_j71 (l1 : Int32) (l2 : Int32) (l3 : Int32) (l4 : Int32) (l5 : Int32) (σ : rf_S) : Option ((Int32 × Int32 × rf_S) ⊕ (Int32 × rf_S)) := if l3 ≠ 1 then (f_X10_soups_j86 l1 l2 l3 l4 l5 0 l5 l2 l1 σ) else (f_X10_soups_j86 l1 l2 l3 l4 l5 1 l5 l2 l1 σ)
set_option maxHeartbeats 2000000 in
theorem ok_X10_soups_j71 (d : Nat) (l1 : Int32) (l2 : Int32) (l3 : Int32) (l4 : Int32) (l5 : Int32) (σ : rf_S) (o : ((Int32 × Int32 × rf_S) ⊕ (Int32 × rf_S))) (h : f_X10_soups_j71 l1 l2 l3 l4 l5 σ = some o) {r : Option Value} {σr : rf_S} (kl : ∀ s', o = .inl s' → rf_G ly1 (d + 4) mX10_soups (45, [some (.ref 0), some (.int l1), some (.int l2), some (.int l3), some (.int s'.1), some (.int s'.2.1)], [], s'.2.2) r σr) (kx : ∀ e, o = .inr e → rf_G ly1 (d + 4) mX10_soups (107, [some (.ref 0), none, none, none, some (.int e.1), none], [], e.2) r σr) : rf_G ly1 (d + 4) mX10_soups (71, [some (.ref 0), some (.int l1), some (.int l2), some (.int l3), some (.int l4), some (.int l5)], [], σ) r σr := by
  unfold f_X10_soups_j71 at h
  refine rf_b wf1 rc_X10_soups_ok 37 6 (78, [some (.ref 0), some (.int l1), some (.int l2), some (.int l3), some (.int l4), some (.int l5)], [.int 1, .int l3, .int l5, .int l2, .int l1, .ref 0], σ) rfl ?_
  by_cases c13 : l3 ≠ 1
  · rw [if_pos c13] at h
    refine rf_t wf1 rc_X10_soups_ok 43 (85, [some (.ref 0), some (.int l1), some (.int l2), some (.int l3), some (.int l4), some (.int l5)], [.int l5, .int l2, .int l1, .ref 0], σ) rfl rfl c13 rfl ?_
    refine rf_b wf1 rc_X10_soups_ok 46 1 (86, [some (.ref 0), some (.int l1), some (.int l2), some (.int l3), some (.int l4), some (.int l5)], [.int 0, .int l5, .int l2, .int l1, .ref 0], σ) rfl ?_
    exact ok_X10_soups_j86 d l1 l2 l3 l4 l5 0 l5 l2 l1 σ o h kl kx
  · rw [if_neg c13] at h
    refine rf_f wf1 rc_X10_soups_ok 43 (81, [some (.ref 0), some (.int l1), some (.int l2), some (.int l3), some (.int l4), some (.int l5)], [.int l5, .int l2, .int l1, .ref 0], σ) rfl rfl c13 rfl ?_
    refine rf_b wf1 rc_X10_soups_ok 44 2 (86, [some (.ref 0), some (.int l1), some (.int l2), some (.int l3), some (.int l4), some (.int l5)], [.int 1, .int l5, .int l2, .int l1, .ref 0], σ) rfl ?_
    exact ok_X10_soups_j86 d l1 l2 l3 l4 l5 1 l5 l2 l1 σ o h kl kx
def f_X10_soups_b45 (l1 : Int32) (l2 : Int32) (l3 : Int32) (s45 : Int32 × Int32 × rf_S) : Option ((Int32 × Int32 × rf_S) ⊕ (Int32 × rf_S)) := if (1 <<< (l2 &&& 31)) ≤ s45.2.1 then (some (.inr (s45.1, s45.2.2))) else (if s45.1 < 0 then (f_X10_soups_j71 l1 l2 l3 s45.1 s45.2.1 s45.2.2) else ((f_X10_bits s45.2.1 s45.2.2).bind (fun q17 => (f_X10_bits s45.1 s45.2.2).bind (fun q19 => if q19 ≤ q17 then (f_X10_soups_j97 l1 l2 l3 s45.1 s45.2.1 s45.2.2) else (f_X10_soups_j71 l1 l2 l3 s45.1 s45.2.1 s45.2.2)))))
set_option maxHeartbeats 2000000 in
theorem ok_X10_soups_b45 (d : Nat) (l1 : Int32) (l2 : Int32) (l3 : Int32) (s45 : Int32 × Int32 × rf_S) (o : ((Int32 × Int32 × rf_S) ⊕ (Int32 × rf_S))) (h : f_X10_soups_b45 l1 l2 l3 s45 = some o) {r : Option Value} {σr : rf_S} (kl : ∀ s', o = .inl s' → rf_G ly1 (d + 4) mX10_soups (45, [some (.ref 0), some (.int l1), some (.int l2), some (.int l3), some (.int s'.1), some (.int s'.2.1)], [], s'.2.2) r σr) (kx : ∀ e, o = .inr e → rf_G ly1 (d + 4) mX10_soups (107, [some (.ref 0), none, none, none, some (.int e.1), none], [], e.2) r σr) : rf_G ly1 (d + 4) mX10_soups (45, [some (.ref 0), some (.int l1), some (.int l2), some (.int l3), some (.int s45.1), some (.int s45.2.1)], [], s45.2.2) r σr := by
  unfold f_X10_soups_b45 at h
  refine rf_b wf1 rc_X10_soups_ok 25 4 (50, [some (.ref 0), some (.int l1), some (.int l2), some (.int l3), some (.int s45.1), some (.int s45.2.1)], [.int (1 <<< (l2 &&& 31)), .int s45.2.1], s45.2.2) rfl ?_
  by_cases c11 : (1 <<< (l2 &&& 31)) ≤ s45.2.1
  · rw [if_pos c11] at h
    refine rf_t wf1 rc_X10_soups_ok 29 (107, [some (.ref 0), some (.int l1), some (.int l2), some (.int l3), some (.int s45.1), some (.int s45.2.1)], [], s45.2.2) rfl rfl c11 rfl ?_
    refine rf_fg [true, false, false, false, true, false] [some (.ref 0), none, none, none, some (.int s45.1), none] rfl ?_
    exact kx (s45.1, s45.2.2) (Option.some.inj h).symm
  · rw [if_neg c11] at h
    refine rf_f wf1 rc_X10_soups_ok 29 (53, [some (.ref 0), some (.int l1), some (.int l2), some (.int l3), some (.int s45.1), some (.int s45.2.1)], [], s45.2.2) rfl rfl c11 rfl ?_
    refine rf_b wf1 rc_X10_soups_ok 30 1 (55, [some (.ref 0), some (.int l1), some (.int l2), some (.int l3), some (.int s45.1), some (.int s45.2.1)], [.int s45.1], s45.2.2) rfl ?_
    by_cases c12 : s45.1 < 0
    · rw [if_pos c12] at h
      refine rf_t wf1 rc_X10_soups_ok 31 (71, [some (.ref 0), some (.int l1), some (.int l2), some (.int l3), some (.int s45.1), some (.int s45.2.1)], [], s45.2.2) rfl rfl c12 rfl ?_
      exact ok_X10_soups_j71 d l1 l2 l3 s45.1 s45.2.1 s45.2.2 o h kl kx
    · rw [if_neg c12] at h
      refine rf_f wf1 rc_X10_soups_ok 31 (58, [some (.ref 0), some (.int l1), some (.int l2), some (.int l3), some (.int s45.1), some (.int s45.2.1)], [], s45.2.2) rfl rfl c12 rfl ?_
      refine rf_b wf1 rc_X10_soups_ok 32 1 (60, [some (.ref 0), some (.int l1), some (.int l2), some (.int l3), some (.int s45.1), some (.int s45.2.1)], [.int s45.2.1], s45.2.2) rfl ?_
      obtain ⟨q17, h18, h⟩ := Option.bind_eq_some_iff.mp h
      refine rf_cs1 (Mt := mX10_bits) rc_X10_soups_ok 33 false rfl (List.mem_of_getElem? (i := 170) rfl) mw_X10_bits rfl [.int s45.2.1] [] rfl rfl (Nat.le_of_ble_eq_true rfl) (ok_X10_bits (d + 3) s45.2.1 s45.2.2 q17 h18) ?_
      show rf_G _ _ _ (63, [some (.ref 0), some (.int l1), some (.int l2), some (.int l3), some (.int s45.1), some (.int s45.2.1)], [.int q17], s45.2.2) _ _
      refine rf_b wf1 rc_X10_soups_ok 34 1 (65, [some (.ref 0), some (.int l1), some (.int l2), some (.int l3), some (.int s45.1), some (.int s45.2.1)], [.int s45.1, .int q17], s45.2.2) rfl ?_
      obtain ⟨q19, h20, h⟩ := Option.bind_eq_some_iff.mp h
      refine rf_cs1 (Mt := mX10_bits) rc_X10_soups_ok 35 false rfl (List.mem_of_getElem? (i := 170) rfl) mw_X10_bits rfl [.int s45.1] [.int q17] rfl rfl (Nat.le_of_ble_eq_true rfl) (ok_X10_bits (d + 3) s45.1 s45.2.2 q19 h20) ?_
      show rf_G _ _ _ (68, [some (.ref 0), some (.int l1), some (.int l2), some (.int l3), some (.int s45.1), some (.int s45.2.1)], [.int q19, .int q17], s45.2.2) _ _
      by_cases c21 : q19 ≤ q17
      · rw [if_pos c21] at h
        refine rf_t wf1 rc_X10_soups_ok 36 (97, [some (.ref 0), some (.int l1), some (.int l2), some (.int l3), some (.int s45.1), some (.int s45.2.1)], [], s45.2.2) rfl rfl c21 rfl ?_
        exact ok_X10_soups_j97 d l1 l2 l3 s45.1 s45.2.1 s45.2.2 o h kl kx
      · rw [if_neg c21] at h
        refine rf_f wf1 rc_X10_soups_ok 36 (71, [some (.ref 0), some (.int l1), some (.int l2), some (.int l3), some (.int s45.1), some (.int s45.2.1)], [], s45.2.2) rfl rfl c21 rfl ?_
        exact ok_X10_soups_j71 d l1 l2 l3 s45.1 s45.2.1 s45.2.2 o h kl kx
def f_X10_soups (p0 : Int32) (p1 : Int32) (p2 : Int32) (σ : rf_S) : Option (Int32 × rf_S) := if (σ.1 0 17) ≠ 0 then ((f_X10_isOne p0 σ).bind (fun q2 => if q2 = 0 then (some ((-1), σ)) else ((f_X10_in p1 0 8 σ).bind (fun q5 => if q5 = 0 then (some ((-1), σ)) else ((f_X10_in p2 0 1 σ).bind (fun q8 => if q8 ≠ 0 then ((rf_lp (f_X10_soups_b45 p0 p1 p2) 5000 ((-1), 0, σ)).bind (fun e22 => if 0 ≤ e22.1 then ((f_X10_tells e22.1 e22.2).bind (fun q25 => (f_X10_bits e22.1 q25.2).bind (fun q27 => some (q27, q25.2)))) else (some ((-9), e22.2)))) else (some ((-1), σ)))))))) else (some ((-4), σ))
set_option maxHeartbeats 2000000 in
theorem ok_X10_soups (d : Nat) (p0 : Int32) (p1 : Int32) (p2 : Int32) (σ : rf_S) (q : (Int32 × rf_S)) (h : f_X10_soups p0 p1 p2 σ = some q) : rf_Ex ly1 (d + 5) mX10_soups [.ref 0, .int p0, .int p1, .int p2] σ (some (.int q.1) : Option Value) q.2 := by
  unfold f_X10_soups at h
  refine rf_ex mw_X10_soups [some (.ref 0), some (.int p0), some (.int p1), some (.int p2), none, none] (Nat.le_of_ble_eq_true rfl) rfl ?_
  refine rf_b wf1 rc_X10_soups_ok 0 2 (4, [some (.ref 0), some (.int p0), some (.int p1), some (.int p2), none, none], [.int (σ.1 0 17)], σ) rfl ?_
  by_cases c1 : (σ.1 0 17) ≠ 0
  · rw [if_pos c1] at h
    refine rf_t wf1 rc_X10_soups_ok 2 (10, [some (.ref 0), some (.int p0), some (.int p1), some (.int p2), none, none], [], σ) rfl rfl c1 rfl ?_
    refine rf_b wf1 rc_X10_soups_ok 5 2 (12, [some (.ref 0), some (.int p0), some (.int p1), some (.int p2), none, none], [.int p0, .ref 0], σ) rfl ?_
    obtain ⟨q2, h3, h⟩ := Option.bind_eq_some_iff.mp h
    refine rf_cv1 (Mt := mX10_isOne) wf1 rc_X10_soups_ok 7 false rfl (List.mem_of_getElem? (i := 163) rfl) mw_X10_isOne rfl 0 [.int p0] [] rfl rfl rfl (Nat.le_of_ble_eq_true rfl) (ok_X10_isOne (d + 2) p0 σ q2 h3) ?_
    show rf_G _ _ _ (15, [some (.ref 0), some (.int p0), some (.int p1), some (.int p2), none, none], [.int q2], σ) _ _
    by_cases c4 : q2 = 0
    · rw [if_pos c4] at h
      refine rf_t wf1 rc_X10_soups_ok 8 (37, [some (.ref 0), some (.int p0), some (.int p1), some (.int p2), none, none], [], σ) rfl rfl c4 rfl ?_
      refine rf_b wf1 rc_X10_soups_ok 19 1 (38, [some (.ref 0), some (.int p0), some (.int p1), some (.int p2), none, none], [.int (-1)], σ) rfl ?_
      obtain rfl := Option.some.inj h
      exact rf_ri rc_X10_soups_ok 20 rfl rfl
    · rw [if_neg c4] at h
      refine rf_f wf1 rc_X10_soups_ok 8 (18, [some (.ref 0), some (.int p0), some (.int p1), some (.int p2), none, none], [], σ) rfl rfl c4 rfl ?_
      refine rf_b wf1 rc_X10_soups_ok 9 3 (22, [some (.ref 0), some (.int p0), some (.int p1), some (.int p2), none, none], [.int 8, .int 0, .int p1], σ) rfl ?_
      obtain ⟨q5, h6, h⟩ := Option.bind_eq_some_iff.mp h
      refine rf_cs1 (Mt := mX10_in) rc_X10_soups_ok 12 false rfl (List.mem_of_getElem? (i := 143) rfl) mw_X10_in rfl [.int p1, .int 0, .int 8] [] rfl rfl (Nat.le_of_ble_eq_true rfl) (ok_X10_in (d + 3) p1 0 8 σ q5 h6) ?_
      show rf_G _ _ _ (25, [some (.ref 0), some (.int p0), some (.int p1), some (.int p2), none, none], [.int q5], σ) _ _
      by_cases c7 : q5 = 0
      · rw [if_pos c7] at h
        refine rf_t wf1 rc_X10_soups_ok 13 (37, [some (.ref 0), some (.int p0), some (.int p1), some (.int p2), none, none], [], σ) rfl rfl c7 rfl ?_
        refine rf_b wf1 rc_X10_soups_ok 19 1 (38, [some (.ref 0), some (.int p0), some (.int p1), some (.int p2), none, none], [.int (-1)], σ) rfl ?_
        obtain rfl := Option.some.inj h
        exact rf_ri rc_X10_soups_ok 20 rfl rfl
      · rw [if_neg c7] at h
        refine rf_f wf1 rc_X10_soups_ok 13 (28, [some (.ref 0), some (.int p0), some (.int p1), some (.int p2), none, none], [], σ) rfl rfl c7 rfl ?_
        refine rf_b wf1 rc_X10_soups_ok 14 3 (31, [some (.ref 0), some (.int p0), some (.int p1), some (.int p2), none, none], [.int 1, .int 0, .int p2], σ) rfl ?_
        obtain ⟨q8, h9, h⟩ := Option.bind_eq_some_iff.mp h
        refine rf_cs1 (Mt := mX10_in) rc_X10_soups_ok 17 false rfl (List.mem_of_getElem? (i := 143) rfl) mw_X10_in rfl [.int p2, .int 0, .int 1] [] rfl rfl (Nat.le_of_ble_eq_true rfl) (ok_X10_in (d + 3) p2 0 1 σ q8 h9) ?_
        show rf_G _ _ _ (34, [some (.ref 0), some (.int p0), some (.int p1), some (.int p2), none, none], [.int q8], σ) _ _
        by_cases c10 : q8 ≠ 0
        · rw [if_pos c10] at h
          refine rf_t wf1 rc_X10_soups_ok 18 (39, [some (.ref 0), some (.int p0), some (.int p1), some (.int p2), none, none], [], σ) rfl rfl c10 rfl ?_
          refine rf_b wf1 rc_X10_soups_ok 21 4 (45, [some (.ref 0), some (.int p0), some (.int p1), some (.int p2), some (.int (-1)), some (.int 0)], [], σ) rfl ?_
          obtain ⟨e22, h23, h⟩ := Option.bind_eq_some_iff.mp h
          refine rf_lpG (b := f_X10_soups_b45 p0 p1 p2) (G := fun (s45 : Int32 × Int32 × rf_S) => rf_G ly1 (d + 4) mX10_soups (45, [some (.ref 0), some (.int p0), some (.int p1), some (.int p2), some (.int s45.1), some (.int s45.2.1)], [], s45.2.2) (some (.int q.1) : Option Value) q.2) (K := fun (e : (Int32 × rf_S)) => rf_G ly1 (d + 4) mX10_soups (107, [some (.ref 0), none, none, none, some (.int e.1), none], [], e.2) (some (.int q.1) : Option Value) q.2) (fun (s45 : Int32 × Int32 × rf_S) (o : (Int32 × Int32 × rf_S) ⊕ (Int32 × rf_S)) hb kl kx => ok_X10_soups_b45 d p0 p1 p2 s45 o hb kl kx) 5000 ((-1), 0, σ) e22 h23 ?_
          show rf_G _ _ _ (107, [some (.ref 0), none, none, none, some (.int e22.1), none], [], e22.2) _ _
          refine rf_b wf1 rc_X10_soups_ok 55 1 (109, [some (.ref 0), none, none, none, some (.int e22.1), none], [.int e22.1], e22.2) rfl ?_
          by_cases c24 : 0 ≤ e22.1
          · rw [if_pos c24] at h
            refine rf_t wf1 rc_X10_soups_ok 56 (115, [some (.ref 0), none, none, none, some (.int e22.1), none], [], e22.2) rfl rfl c24 rfl ?_
            refine rf_b wf1 rc_X10_soups_ok 59 2 (118, [some (.ref 0), none, none, none, some (.int e22.1), none], [.int e22.1, .ref 0], e22.2) rfl ?_
            obtain ⟨q25, h26, h⟩ := Option.bind_eq_some_iff.mp h
            refine rf_cv1 (Mt := mX10_tells) wf1 rc_X10_soups_ok 61 false rfl (List.mem_of_getElem? (i := 146) rfl) mw_X10_tells rfl 0 [.int e22.1] [] rfl rfl rfl (Nat.le_of_ble_eq_true rfl) (ok_X10_tells (d + 3) e22.1 e22.2 q25 h26) ?_
            show rf_G _ _ _ (121, [some (.ref 0), none, none, none, some (.int e22.1), none], [.int q25.1], q25.2) _ _
            refine rf_b wf1 rc_X10_soups_ok 62 2 (124, [some (.ref 0), none, none, none, some (.int e22.1), none], [.int e22.1], q25.2) rfl ?_
            obtain ⟨q27, h28, h⟩ := Option.bind_eq_some_iff.mp h
            refine rf_cs1 (Mt := mX10_bits) rc_X10_soups_ok 64 false rfl (List.mem_of_getElem? (i := 170) rfl) mw_X10_bits rfl [.int e22.1] [] rfl rfl (Nat.le_of_ble_eq_true rfl) (ok_X10_bits (d + 3) e22.1 q25.2 q27 h28) ?_
            show rf_G _ _ _ (127, [some (.ref 0), none, none, none, some (.int e22.1), none], [.int q27], q25.2) _ _
            obtain rfl := Option.some.inj h
            exact rf_ri rc_X10_soups_ok 65 rfl rfl
          · rw [if_neg c24] at h
            refine rf_f wf1 rc_X10_soups_ok 56 (112, [some (.ref 0), none, none, none, some (.int e22.1), none], [], e22.2) rfl rfl c24 rfl ?_
            refine rf_b wf1 rc_X10_soups_ok 57 1 (114, [some (.ref 0), none, none, none, some (.int e22.1), none], [.int (-9)], e22.2) rfl ?_
            obtain rfl := Option.some.inj h
            exact rf_ri rc_X10_soups_ok 58 rfl rfl
        · rw [if_neg c10] at h
          refine rf_f wf1 rc_X10_soups_ok 18 (37, [some (.ref 0), some (.int p0), some (.int p1), some (.int p2), none, none], [], σ) rfl rfl c10 rfl ?_
          refine rf_b wf1 rc_X10_soups_ok 19 1 (38, [some (.ref 0), some (.int p0), some (.int p1), some (.int p2), none, none], [.int (-1)], σ) rfl ?_
          obtain rfl := Option.some.inj h
          exact rf_ri rc_X10_soups_ok 20 rfl rfl
  · rw [if_neg c1] at h
    refine rf_f wf1 rc_X10_soups_ok 2 (7, [some (.ref 0), some (.int p0), some (.int p1), some (.int p2), none, none], [], σ) rfl rfl c1 rfl ?_
    refine rf_b wf1 rc_X10_soups_ok 3 1 (9, [some (.ref 0), some (.int p0), some (.int p1), some (.int p2), none, none], [.int (-4)], σ) rfl ?_
    obtain rfl := Option.some.inj h
    exact rf_ri rc_X10_soups_ok 4 rfl rfl
def rc_X10_tellsPart : List rf_E := [(0, .lload_n 1, 1, 1), (1, .lstore 5, 2, 5), (3, .lload_n 3, 1, 3), (4, .lstore 7, 2, 7), (6, .lload 7, 2, 7), (8, .lconst 0, 1, 0), (9, .lcmp, 1, 0), (10, .ifCond .le 21, 3, 31), (13, .lload 5, 2, 5), (15, .lload 7, 2, 7), (17, .lrem, 1, 0), (18, .lstore 9, 2, 9), (20, .lload 7, 2, 7), (22, .lstore 5, 2, 5), (24, .lload 9, 2, 9), (26, .lstore 7, 2, 7), (28, .goto (-22), 3, 6), (31, .aload_n 0, 1, 0), (32, .lload_n 1, 1, 1), (33, .lload 5, 2, 5), (35, .ldiv, 1, 0), (36, .putfield 260, 3, 1007), (39, .aload_n 0, 1, 0), (40, .lload_n 3, 1, 3), (41, .lload 5, 2, 5), (43, .ldiv, 1, 0), (44, .putfield 25, 3, 1008), (47, .return_, 1, 0)]
theorem rc_X10_tellsPart_ok : rf_rc mX10_tellsPart rc_X10_tellsPart = true := by decide +kernel
theorem mw_X10_tellsPart : rf_mw mX10_tellsPart := ⟨rf_mt_ok _ (List.mem_of_getElem? (i := 231) rfl), fun h => absurd h (by decide), fun _ => ⟨rf_mi_ok _ (List.mem_of_getElem? (i := 209) rfl), rf_mv_ok _ (List.mem_of_getElem? (i := 209) rfl)⟩, rf_mq_9 _ (List.mem_of_getElem? (i := 6) rfl)⟩
def f_X10_tellsPart_b6 (l1 : Int64) (l3 : Int64) (σ : rf_S) (s6 : Int64 × Int64) : Option ((Int64 × Int64) ⊕ (Int64)) := if (lg_cmp s6.2 0) ≤ 0 then (some (.inr s6.1)) else (if s6.2 = 0 then none else (some (.inl (s6.2, (s6.1 - s6.1 / s6.2 * s6.2)))))
set_option maxHeartbeats 2000000 in
theorem ok_X10_tellsPart_b6 (d : Nat) (l1 : Int64) (l3 : Int64) (σ : rf_S) (s6 : Int64 × Int64) (o : ((Int64 × Int64) ⊕ (Int64))) (h : f_X10_tellsPart_b6 l1 l3 σ s6 = some o) {r : Option Value} {σr : rf_S} (kl : ∀ s', o = .inl s' → rf_G ly1 (d) mX10_tellsPart (6, [some (.ref 0), some (.long l1), none, some (.long l3), none, some (.long s'.1), none, some (.long s'.2), none, none, none], [], σ) r σr) (kx : ∀ e, o = .inr e → rf_G ly1 (d) mX10_tellsPart (31, [some (.ref 0), some (.long l1), none, some (.long l3), none, some (.long e), none, none, none, none, none], [], σ) r σr) : rf_G ly1 (d) mX10_tellsPart (6, [some (.ref 0), some (.long l1), none, some (.long l3), none, some (.long s6.1), none, some (.long s6.2), none, none, none], [], σ) r σr := by
  unfold f_X10_tellsPart_b6 at h
  refine rf_b wf1 rc_X10_tellsPart_ok 4 3 (10, [some (.ref 0), some (.long l1), none, some (.long l3), none, some (.long s6.1), none, some (.long s6.2), none, none, none], [.int (lg_cmp s6.2 0)], σ) rfl ?_
  by_cases c1 : (lg_cmp s6.2 0) ≤ 0
  · rw [if_pos c1] at h
    refine rf_t wf1 rc_X10_tellsPart_ok 7 (31, [some (.ref 0), some (.long l1), none, some (.long l3), none, some (.long s6.1), none, some (.long s6.2), none, none, none], [], σ) rfl rfl c1 rfl ?_
    refine rf_fg [true, true, true, true, true, true, true, false, true, true, true] [some (.ref 0), some (.long l1), none, some (.long l3), none, some (.long s6.1), none, none, none, none, none] rfl ?_
    exact kx s6.1 (Option.some.inj h).symm
  · rw [if_neg c1] at h
    refine rf_f wf1 rc_X10_tellsPart_ok 7 (13, [some (.ref 0), some (.long l1), none, some (.long l3), none, some (.long s6.1), none, some (.long s6.2), none, none, none], [], σ) rfl rfl c1 rfl ?_
    refine rf_b wf1 rc_X10_tellsPart_ok 8 2 (17, [some (.ref 0), some (.long l1), none, some (.long l3), none, some (.long s6.1), none, some (.long s6.2), none, none, none], [.long s6.2, .long s6.1], σ) rfl ?_
    obtain ⟨g2, h⟩ := rf_ifz h
    refine rf_nz wf1 rc_X10_tellsPart_ok 10 (18, [some (.ref 0), some (.long l1), none, some (.long l3), none, some (.long s6.1), none, some (.long s6.2), none, none, none], [.long (s6.1 - s6.1 / s6.2 * s6.2)], σ) rfl rfl g2 rfl ?_
    refine rf_b wf1 rc_X10_tellsPart_ok 11 6 (6, [some (.ref 0), some (.long l1), none, some (.long l3), none, some (.long s6.2), none, some (.long (s6.1 - s6.1 / s6.2 * s6.2)), none, some (.long (s6.1 - s6.1 / s6.2 * s6.2)), none], [], σ) rfl ?_
    refine rf_fg [true, true, true, true, true, true, true, true, true, false, true] [some (.ref 0), some (.long l1), none, some (.long l3), none, some (.long s6.2), none, some (.long (s6.1 - s6.1 / s6.2 * s6.2)), none, none, none] rfl ?_
    exact kl (s6.2, (s6.1 - s6.1 / s6.2 * s6.2)) (Option.some.inj h).symm
def f_X10_tellsPart (p0 : Int64) (p1 : Int64) (σ : rf_S) : Option rf_S := (rf_lp (f_X10_tellsPart_b6 p0 p1 σ) 5000 (p0, p1)).bind (fun e3 => if e3 = 0 then none else (if e3 = 0 then none else (some (rf_sL (rf_sL σ 0 7 (p0 / e3)) 0 8 (p1 / e3)))))
set_option maxHeartbeats 2000000 in
theorem ok_X10_tellsPart (d : Nat) (p0 : Int64) (p1 : Int64) (σ : rf_S) (q : rf_S) (h : f_X10_tellsPart p0 p1 σ = some q) : rf_Ex ly1 (d + 1) mX10_tellsPart [.ref 0, .long p0, .long p1] σ none q := by
  unfold f_X10_tellsPart at h
  refine rf_ex mw_X10_tellsPart [some (.ref 0), some (.long p0), none, some (.long p1), none, none, none, none, none, none, none] (Nat.le_of_ble_eq_true rfl) rfl ?_
  refine rf_b wf1 rc_X10_tellsPart_ok 0 4 (6, [some (.ref 0), some (.long p0), none, some (.long p1), none, some (.long p0), none, some (.long p1), none, none, none], [], σ) rfl ?_
  obtain ⟨e3, h4, h⟩ := Option.bind_eq_some_iff.mp h
  refine rf_lpG (b := f_X10_tellsPart_b6 p0 p1 σ) (G := fun (s6 : Int64 × Int64) => rf_G ly1 (d) mX10_tellsPart (6, [some (.ref 0), some (.long p0), none, some (.long p1), none, some (.long s6.1), none, some (.long s6.2), none, none, none], [], σ) none q) (K := fun (e : (Int64)) => rf_G ly1 (d) mX10_tellsPart (31, [some (.ref 0), some (.long p0), none, some (.long p1), none, some (.long e), none, none, none, none, none], [], σ) none q) (fun (s6 : Int64 × Int64) (o : (Int64 × Int64) ⊕ (Int64)) hb kl kx => ok_X10_tellsPart_b6 d p0 p1 σ s6 o hb kl kx) 5000 (p0, p1) e3 h4 ?_
  show rf_G _ _ _ (31, [some (.ref 0), some (.long p0), none, some (.long p1), none, some (.long e3), none, none, none, none, none], [], σ) _ _
  refine rf_b wf1 rc_X10_tellsPart_ok 17 3 (35, [some (.ref 0), some (.long p0), none, some (.long p1), none, some (.long e3), none, none, none, none, none], [.long e3, .long p0, .ref 0], σ) rfl ?_
  obtain ⟨g5, h⟩ := rf_ifz h
  refine rf_nz wf1 rc_X10_tellsPart_ok 20 (36, [some (.ref 0), some (.long p0), none, some (.long p1), none, some (.long e3), none, none, none, none, none], [.long (p0 / e3), .ref 0], σ) rfl rfl g5 rfl ?_
  refine rf_b wf1 rc_X10_tellsPart_ok 21 4 (43, [some (.ref 0), some (.long p0), none, some (.long p1), none, some (.long e3), none, none, none, none, none], [.long e3, .long p1, .ref 0], (rf_sL σ 0 7 (p0 / e3))) rfl ?_
  obtain ⟨g6, h⟩ := rf_ifz h
  refine rf_nz wf1 rc_X10_tellsPart_ok 25 (44, [some (.ref 0), some (.long p0), none, some (.long p1), none, some (.long e3), none, none, none, none, none], [.long (p1 / e3), .ref 0], (rf_sL σ 0 7 (p0 / e3))) rfl rfl g6 rfl ?_
  refine rf_b wf1 rc_X10_tellsPart_ok 26 1 (47, [some (.ref 0), some (.long p0), none, some (.long p1), none, some (.long e3), none, none, none, none, none], [], (rf_sL (rf_sL σ 0 7 (p0 / e3)) 0 8 (p1 / e3))) rfl ?_
  obtain rfl := Option.some.inj h
  exact rf_rv rc_X10_tellsPart_ok 27 rfl rfl
def rc_X10_seems : List rf_E := [(0, .aload_n 0, 1, 0), (1, .iload_n 1, 1, 1), (2, .invokevirtual 175, 3, 0), (5, .ifCond .eq 13, 3, 18), (8, .iload_n 2, 1, 2), (9, .iconst 0, 1, 0), (10, .bipush 12, 2, 0), (12, .invokestatic 78, 3, 0), (15, .ifCond .ne 5, 3, 20), (18, .iconst (-1), 1, 0), (19, .ireturn, 1, 0), (20, .aload_n 0, 1, 0), (21, .aload_n 0, 1, 0), (22, .getfield 47, 3, 1022), (25, .iload_n 1, 1, 1), (26, .invokevirtual 178, 3, 0), (29, .istore 4, 2, 4), (31, .lconst 0, 1, 0), (32, .lstore 5, 2, 5), (34, .lconst 1, 1, 1), (35, .lstore 7, 2, 7), (37, .iconst 0, 1, 0), (38, .istore 9, 2, 9), (40, .iload 9, 2, 9), (42, .iload 4, 2, 4), (44, .invokestatic 192, 3, 0), (47, .if_icmp .ge 17, 3, 64), (50, .lload 7, 2, 7), (52, .ldc2_w 263, 3, 12), (55, .lmul, 1, 0), (56, .lstore 7, 2, 7), (58, .iinc 9 1, 3, 9), (61, .goto (-21), 3, 40), (64, .iconst 0, 1, 0), (65, .istore 9, 2, 9), (67, .iload 9, 2, 9), (69, .iconst 1, 1, 0), (70, .aload_n 0, 1, 0), (71, .getfield 75, 3, 1017), (74, .ishl, 1, 0), (75, .if_icmp .ge 166, 3, 241), (78, .iload 9, 2, 9), (80, .iload 4, 2, 4), (82, .iconst (-1), 1, 0), (83, .ixor, 1, 0), (84, .iand, 1, 0), (85, .ifCond .ne 150, 3, 235), (88, .iload 9, 2, 9), (90, .iload 4, 2, 4), (92, .aload_n 0, 1, 0), (93, .aload_n 0, 1, 0), (94, .getfield 47, 3, 1022), (97, .invokevirtual 181, 3, 0), (100, .iand, 1, 0), (101, .ixor, 1, 0), (102, .istore 10, 2, 10), (104, .lconst 1, 1, 1), (105, .lstore 11, 2, 11), (107, .iconst 0, 1, 0), (108, .istore 13, 2, 13), (110, .iload 13, 2, 13), (112, .aload_n 0, 1, 0), (113, .getfield 75, 3, 1017), (116, .if_icmp .ge 48, 3, 164), (119, .lload 11, 2, 11), (121, .iload 4, 2, 4), (123, .iload 13, 2, 13), (125, .invokestatic 206, 3, 0), (128, .ifCond .ne 7, 3, 135), (131, .lconst 1, 1, 1), (132, .goto 23, 3, 155), (135, .iload 10, 2, 10), (137, .iload 13, 2, 13), (139, .invokestatic 206, 3, 0), (142, .ifCond .eq 8, 3, 150), (145, .iload_n 2, 1, 2), (146, .i2l, 1, 0), (147, .goto 8, 3, 155), (150, .bipush 12, 2, 0), (152, .iload_n 2, 1, 2), (153, .isub, 1, 0), (154, .i2l, 1, 0), (155, .lmul, 1, 0), (156, .lstore 11, 2, 11), (158, .iinc 13 1, 3, 13), (161, .goto (-51), 3, 110), (164, .iconst 0, 1, 0), (165, .istore 13, 2, 13), (167, .iconst 0, 1, 0), (168, .istore 14, 2, 14), (170, .iload 14, 2, 14), (172, .bipush 31, 2, 0), (174, .if_icmp .ge 32, 3, 206), (177, .iload 13, 2, 13), (179, .aload_n 0, 1, 0), (180, .iload 4, 2, 4), (182, .iload 14, 2, 14), (184, .invokevirtual 238, 3, 0), (187, .iload 9, 2, 9), (189, .if_icmp .ne 7, 3, 196), (192, .iconst 1, 1, 0), (193, .goto 4, 3, 197), (196, .iconst 0, 1, 0), (197, .iadd, 1, 0), (198, .istore 13, 2, 13), (200, .iinc 14 1, 3, 14), (203, .goto (-33), 3, 170), (206, .lload 5, 2, 5), (208, .iload_n 3, 1, 3), (209, .ifCond .eq 12, 3, 221), (212, .lload 11, 2, 11), (214, .iload 13, 2, 13), (216, .i2l, 1, 0), (217, .lmul, 1, 0), (218, .goto 14, 3, 232), (221, .iload 13, 2, 13), (223, .ifCond .le 8, 3, 231), (226, .lload 11, 2, 11), (228, .goto 4, 3, 232), (231, .lconst 0, 1, 0), (232, .ladd, 1, 0), (233, .lstore 5, 2, 5), (235, .iinc 9 1, 3, 9), (238, .goto (-171), 3, 67), (241, .aload_n 0, 1, 0), (242, .lload 5, 2, 5), (244, .lload 7, 2, 7), (246, .invokevirtual 265, 3, 0), (249, .iconst 1, 1, 0), (250, .ireturn, 1, 0)]
theorem rc_X10_seems_ok : rf_rc mX10_seems rc_X10_seems = true := by decide +kernel
theorem mw_X10_seems : rf_mw mX10_seems := ⟨rf_mt_ok _ (List.mem_of_getElem? (i := 232) rfl), fun h => absurd h (by decide), fun _ => ⟨rf_mi_ok _ (List.mem_of_getElem? (i := 210) rfl), rf_mv_ok _ (List.mem_of_getElem? (i := 210) rfl)⟩, rf_mq_9 _ (List.mem_of_getElem? (i := 7) rfl)⟩
def f_X10_seems_b40 (l2 : Int32) (l3 : Int32) (l4 : Int32) (l5 : Int64) (σ : rf_S) (s40 : Int64 × Int32) : Option ((Int64 × Int32) ⊕ (Int64)) := (f_X10_bits l4 σ).bind (fun q9 => if q9 ≤ s40.2 then (some (.inr s40.1)) else (some (.inl ((s40.1 * 12), (s40.2 + 1)))))
set_option maxHeartbeats 2000000 in
theorem ok_X10_seems_b40 (d : Nat) (l2 : Int32) (l3 : Int32) (l4 : Int32) (l5 : Int64) (σ : rf_S) (s40 : Int64 × Int32) (o : ((Int64 × Int32) ⊕ (Int64))) (h : f_X10_seems_b40 l2 l3 l4 l5 σ s40 = some o) {r : Option Value} {σr : rf_S} (kl : ∀ s', o = .inl s' → rf_G ly1 (d + 6) mX10_seems (40, [some (.ref 0), none, some (.int l2), some (.int l3), some (.int l4), some (.long l5), none, some (.long s'.1), none, some (.int s'.2), none, none, none, none, none], [], σ) r σr) (kx : ∀ e, o = .inr e → rf_G ly1 (d + 6) mX10_seems (64, [some (.ref 0), none, some (.int l2), some (.int l3), some (.int l4), some (.long l5), none, some (.long e), none, none, none, none, none, none, none], [], σ) r σr) : rf_G ly1 (d + 6) mX10_seems (40, [some (.ref 0), none, some (.int l2), some (.int l3), some (.int l4), some (.long l5), none, some (.long s40.1), none, some (.int s40.2), none, none, none, none, none], [], σ) r σr := by
  unfold f_X10_seems_b40 at h
  refine rf_b wf1 rc_X10_seems_ok 23 2 (44, [some (.ref 0), none, some (.int l2), some (.int l3), some (.int l4), some (.long l5), none, some (.long s40.1), none, some (.int s40.2), none, none, none, none, none], [.int l4, .int s40.2], σ) rfl ?_
  obtain ⟨q9, h10, h⟩ := Option.bind_eq_some_iff.mp h
  refine rf_cs1 (Mt := mX10_bits) rc_X10_seems_ok 25 false rfl (List.mem_of_getElem? (i := 170) rfl) mw_X10_bits rfl [.int l4] [.int s40.2] rfl rfl (Nat.le_of_ble_eq_true rfl) (ok_X10_bits (d + 5) l4 σ q9 h10) ?_
  show rf_G _ _ _ (47, [some (.ref 0), none, some (.int l2), some (.int l3), some (.int l4), some (.long l5), none, some (.long s40.1), none, some (.int s40.2), none, none, none, none, none], [.int q9, .int s40.2], σ) _ _
  by_cases c11 : q9 ≤ s40.2
  · rw [if_pos c11] at h
    refine rf_t wf1 rc_X10_seems_ok 26 (64, [some (.ref 0), none, some (.int l2), some (.int l3), some (.int l4), some (.long l5), none, some (.long s40.1), none, some (.int s40.2), none, none, none, none, none], [], σ) rfl rfl c11 rfl ?_
    refine rf_fg [true, true, true, true, true, true, true, true, true, false, true, true, true, true, true] [some (.ref 0), none, some (.int l2), some (.int l3), some (.int l4), some (.long l5), none, some (.long s40.1), none, none, none, none, none, none, none] rfl ?_
    exact kx s40.1 (Option.some.inj h).symm
  · rw [if_neg c11] at h
    refine rf_f wf1 rc_X10_seems_ok 26 (50, [some (.ref 0), none, some (.int l2), some (.int l3), some (.int l4), some (.long l5), none, some (.long s40.1), none, some (.int s40.2), none, none, none, none, none], [], σ) rfl rfl c11 rfl ?_
    refine rf_b wf1 rc_X10_seems_ok 27 6 (40, [some (.ref 0), none, some (.int l2), some (.int l3), some (.int l4), some (.long l5), none, some (.long (s40.1 * 12)), none, some (.int (s40.2 + 1)), none, none, none, none, none], [], σ) rfl ?_
    exact kl ((s40.1 * 12), (s40.2 + 1)) (Option.some.inj h).symm
def f_X10_seems_j235 (l2 : Int32) (l3 : Int32) (l4 : Int32) (l5 : Int64) (l7 : Int64) (l9 : Int32) (σ : rf_S) : Option ((Int64 × Int32) ⊕ (Int64)) := some (.inl (l5, (l9 + 1)))
set_option maxHeartbeats 2000000 in
theorem ok_X10_seems_j235 (d : Nat) (l2 : Int32) (l3 : Int32) (l4 : Int32) (l5 : Int64) (l7 : Int64) (l9 : Int32) (σ : rf_S) (o : ((Int64 × Int32) ⊕ (Int64))) (h : f_X10_seems_j235 l2 l3 l4 l5 l7 l9 σ = some o) {r : Option Value} {σr : rf_S} (kl : ∀ s', o = .inl s' → rf_G ly1 (d + 6) mX10_seems (67, [some (.ref 0), none, some (.int l2), some (.int l3), some (.int l4), some (.long s'.1), none, some (.long l7), none, some (.int s'.2), none, none, none, none, none], [], σ) r σr) (kx : ∀ e, o = .inr e → rf_G ly1 (d + 6) mX10_seems (241, [some (.ref 0), none, none, none, none, some (.long e), none, some (.long l7), none, none, none, none, none, none, none], [], σ) r σr) : rf_G ly1 (d + 6) mX10_seems (235, [some (.ref 0), none, some (.int l2), some (.int l3), some (.int l4), some (.long l5), none, some (.long l7), none, some (.int l9), none, none, none, none, none], [], σ) r σr := by
  unfold f_X10_seems_j235 at h
  refine rf_b wf1 rc_X10_seems_ok 122 2 (67, [some (.ref 0), none, some (.int l2), some (.int l3), some (.int l4), some (.long l5), none, some (.long l7), none, some (.int (l9 + 1)), none, none, none, none, none], [], σ) rfl ?_
  exact kl (l5, (l9 + 1)) (Option.some.inj h).symm
def f_X10_seems_j155 (l2 : Int32) (l3 : Int32) (l4 : Int32) (l5 : Int64) (l7 : Int64) (l9 : Int32) (l10 : Int32) (l13 : Int32) (t0 : Int64) (t1 : Int64) (σ : rf_S) : Option ((Int64 × Int32) ⊕ (Int64)) := some (.inl ((t1 * t0), (l13 + 1)))
set_option maxHeartbeats 2000000 in
theorem ok_X10_seems_j155 (d : Nat) (l2 : Int32) (l3 : Int32) (l4 : Int32) (l5 : Int64) (l7 : Int64) (l9 : Int32) (l10 : Int32) (l13 : Int32) (t0 : Int64) (t1 : Int64) (σ : rf_S) (o : ((Int64 × Int32) ⊕ (Int64))) (h : f_X10_seems_j155 l2 l3 l4 l5 l7 l9 l10 l13 t0 t1 σ = some o) {r : Option Value} {σr : rf_S} (kl : ∀ s', o = .inl s' → rf_G ly1 (d + 6) mX10_seems (110, [some (.ref 0), none, some (.int l2), some (.int l3), some (.int l4), some (.long l5), none, some (.long l7), none, some (.int l9), some (.int l10), some (.long s'.1), none, some (.int s'.2), none], [], σ) r σr) (kx : ∀ e, o = .inr e → rf_G ly1 (d + 6) mX10_seems (164, [some (.ref 0), none, some (.int l2), some (.int l3), some (.int l4), some (.long l5), none, some (.long l7), none, some (.int l9), none, some (.long e), none, none, none], [], σ) r σr) : rf_G ly1 (d + 6) mX10_seems (155, [some (.ref 0), none, some (.int l2), some (.int l3), some (.int l4), some (.long l5), none, some (.long l7), none, some (.int l9), some (.int l10), none, none, some (.int l13), none], [.long t0, .long t1], σ) r σr := by
  unfold f_X10_seems_j155 at h
  refine rf_b wf1 rc_X10_seems_ok 82 4 (110, [some (.ref 0), none, some (.int l2), some (.int l3), some (.int l4), some (.long l5), none, some (.long l7), none, some (.int l9), some (.int l10), some (.long (t1 * t0)), none, some (.int (l13 + 1)), none], [], σ) rfl ?_
  exact kl ((t1 * t0), (l13 + 1)) (Option.some.inj h).symm
def f_X10_seems_b110 (l2 : Int32) (l3 : Int32) (l4 : Int32) (l5 : Int64) (l7 : Int64) (l9 : Int32) (l10 : Int32) (σ : rf_S) (s110 : Int64 × Int32) : Option ((Int64 × Int32) ⊕ (Int64)) := if (σ.1 0 17) ≤ s110.2 then (some (.inr s110.1)) else ((f_X10_has l4 s110.2 σ).bind (fun q19 => if q19 ≠ 0 then ((f_X10_has l10 s110.2 σ).bind (fun q22 => if q22 = 0 then (f_X10_seems_j155 l2 l3 l4 l5 l7 l9 l10 s110.2 ((12 - l2).toInt64) s110.1 σ) else (f_X10_seems_j155 l2 l3 l4 l5 l7 l9 l10 s110.2 l2.toInt64 s110.1 σ))) else (f_X10_seems_j155 l2 l3 l4 l5 l7 l9 l10 s110.2 1 s110.1 σ)))
set_option maxHeartbeats 2000000 in
theorem ok_X10_seems_b110 (d : Nat) (l2 : Int32) (l3 : Int32) (l4 : Int32) (l5 : Int64) (l7 : Int64) (l9 : Int32) (l10 : Int32) (σ : rf_S) (s110 : Int64 × Int32) (o : ((Int64 × Int32) ⊕ (Int64))) (h : f_X10_seems_b110 l2 l3 l4 l5 l7 l9 l10 σ s110 = some o) {r : Option Value} {σr : rf_S} (kl : ∀ s', o = .inl s' → rf_G ly1 (d + 6) mX10_seems (110, [some (.ref 0), none, some (.int l2), some (.int l3), some (.int l4), some (.long l5), none, some (.long l7), none, some (.int l9), some (.int l10), some (.long s'.1), none, some (.int s'.2), none], [], σ) r σr) (kx : ∀ e, o = .inr e → rf_G ly1 (d + 6) mX10_seems (164, [some (.ref 0), none, some (.int l2), some (.int l3), some (.int l4), some (.long l5), none, some (.long l7), none, some (.int l9), none, some (.long e), none, none, none], [], σ) r σr) : rf_G ly1 (d + 6) mX10_seems (110, [some (.ref 0), none, some (.int l2), some (.int l3), some (.int l4), some (.long l5), none, some (.long l7), none, some (.int l9), some (.int l10), some (.long s110.1), none, some (.int s110.2), none], [], σ) r σr := by
  unfold f_X10_seems_b110 at h
  refine rf_b wf1 rc_X10_seems_ok 60 3 (116, [some (.ref 0), none, some (.int l2), some (.int l3), some (.int l4), some (.long l5), none, some (.long l7), none, some (.int l9), some (.int l10), some (.long s110.1), none, some (.int s110.2), none], [.int (σ.1 0 17), .int s110.2], σ) rfl ?_
  by_cases c18 : (σ.1 0 17) ≤ s110.2
  · rw [if_pos c18] at h
    refine rf_t wf1 rc_X10_seems_ok 63 (164, [some (.ref 0), none, some (.int l2), some (.int l3), some (.int l4), some (.long l5), none, some (.long l7), none, some (.int l9), some (.int l10), some (.long s110.1), none, some (.int s110.2), none], [], σ) rfl rfl c18 rfl ?_
    refine rf_fg [true, true, true, true, true, true, true, true, true, true, false, true, true, false, true] [some (.ref 0), none, some (.int l2), some (.int l3), some (.int l4), some (.long l5), none, some (.long l7), none, some (.int l9), none, some (.long s110.1), none, none, none] rfl ?_
    exact kx s110.1 (Option.some.inj h).symm
  · rw [if_neg c18] at h
    refine rf_f wf1 rc_X10_seems_ok 63 (119, [some (.ref 0), none, some (.int l2), some (.int l3), some (.int l4), some (.long l5), none, some (.long l7), none, some (.int l9), some (.int l10), some (.long s110.1), none, some (.int s110.2), none], [], σ) rfl rfl c18 rfl ?_
    refine rf_b wf1 rc_X10_seems_ok 64 3 (125, [some (.ref 0), none, some (.int l2), some (.int l3), some (.int l4), some (.long l5), none, some (.long l7), none, some (.int l9), some (.int l10), some (.long s110.1), none, some (.int s110.2), none], [.int s110.2, .int l4, .long s110.1], σ) rfl ?_
    obtain ⟨q19, h20, h⟩ := Option.bind_eq_some_iff.mp h
    refine rf_cs1 (Mt := mX10_has) rc_X10_seems_ok 67 false rfl (List.mem_of_getElem? (i := 174) rfl) mw_X10_has rfl [.int l4, .int s110.2] [.long s110.1] rfl rfl (Nat.le_of_ble_eq_true rfl) (ok_X10_has (d + 5) l4 s110.2 σ q19 h20) ?_
    show rf_G _ _ _ (128, [some (.ref 0), none, some (.int l2), some (.int l3), some (.int l4), some (.long l5), none, some (.long l7), none, some (.int l9), some (.int l10), some (.long s110.1), none, some (.int s110.2), none], [.int q19, .long s110.1], σ) _ _
    by_cases c21 : q19 ≠ 0
    · rw [if_pos c21] at h
      refine rf_t wf1 rc_X10_seems_ok 68 (135, [some (.ref 0), none, some (.int l2), some (.int l3), some (.int l4), some (.long l5), none, some (.long l7), none, some (.int l9), some (.int l10), some (.long s110.1), none, some (.int s110.2), none], [.long s110.1], σ) rfl rfl c21 rfl ?_
      refine rf_b wf1 rc_X10_seems_ok 71 2 (139, [some (.ref 0), none, some (.int l2), some (.int l3), some (.int l4), some (.long l5), none, some (.long l7), none, some (.int l9), some (.int l10), some (.long s110.1), none, some (.int s110.2), none], [.int s110.2, .int l10, .long s110.1], σ) rfl ?_
      obtain ⟨q22, h23, h⟩ := Option.bind_eq_some_iff.mp h
      refine rf_cs1 (Mt := mX10_has) rc_X10_seems_ok 73 false rfl (List.mem_of_getElem? (i := 174) rfl) mw_X10_has rfl [.int l10, .int s110.2] [.long s110.1] rfl rfl (Nat.le_of_ble_eq_true rfl) (ok_X10_has (d + 5) l10 s110.2 σ q22 h23) ?_
      show rf_G _ _ _ (142, [some (.ref 0), none, some (.int l2), some (.int l3), some (.int l4), some (.long l5), none, some (.long l7), none, some (.int l9), some (.int l10), some (.long s110.1), none, some (.int s110.2), none], [.int q22, .long s110.1], σ) _ _
      by_cases c24 : q22 = 0
      · rw [if_pos c24] at h
        refine rf_t wf1 rc_X10_seems_ok 74 (150, [some (.ref 0), none, some (.int l2), some (.int l3), some (.int l4), some (.long l5), none, some (.long l7), none, some (.int l9), some (.int l10), some (.long s110.1), none, some (.int s110.2), none], [.long s110.1], σ) rfl rfl c24 rfl ?_
        refine rf_b wf1 rc_X10_seems_ok 78 4 (155, [some (.ref 0), none, some (.int l2), some (.int l3), some (.int l4), some (.long l5), none, some (.long l7), none, some (.int l9), some (.int l10), some (.long s110.1), none, some (.int s110.2), none], [.long ((12 - l2).toInt64), .long s110.1], σ) rfl ?_
        refine rf_fg [true, true, true, true, true, true, true, true, true, true, true, false, true, true, true] [some (.ref 0), none, some (.int l2), some (.int l3), some (.int l4), some (.long l5), none, some (.long l7), none, some (.int l9), some (.int l10), none, none, some (.int s110.2), none] rfl ?_
        exact ok_X10_seems_j155 d l2 l3 l4 l5 l7 l9 l10 s110.2 ((12 - l2).toInt64) s110.1 σ o h kl kx
      · rw [if_neg c24] at h
        refine rf_f wf1 rc_X10_seems_ok 74 (145, [some (.ref 0), none, some (.int l2), some (.int l3), some (.int l4), some (.long l5), none, some (.long l7), none, some (.int l9), some (.int l10), some (.long s110.1), none, some (.int s110.2), none], [.long s110.1], σ) rfl rfl c24 rfl ?_
        refine rf_b wf1 rc_X10_seems_ok 75 3 (155, [some (.ref 0), none, some (.int l2), some (.int l3), some (.int l4), some (.long l5), none, some (.long l7), none, some (.int l9), some (.int l10), some (.long s110.1), none, some (.int s110.2), none], [.long l2.toInt64, .long s110.1], σ) rfl ?_
        refine rf_fg [true, true, true, true, true, true, true, true, true, true, true, false, true, true, true] [some (.ref 0), none, some (.int l2), some (.int l3), some (.int l4), some (.long l5), none, some (.long l7), none, some (.int l9), some (.int l10), none, none, some (.int s110.2), none] rfl ?_
        exact ok_X10_seems_j155 d l2 l3 l4 l5 l7 l9 l10 s110.2 l2.toInt64 s110.1 σ o h kl kx
    · rw [if_neg c21] at h
      refine rf_f wf1 rc_X10_seems_ok 68 (131, [some (.ref 0), none, some (.int l2), some (.int l3), some (.int l4), some (.long l5), none, some (.long l7), none, some (.int l9), some (.int l10), some (.long s110.1), none, some (.int s110.2), none], [.long s110.1], σ) rfl rfl c21 rfl ?_
      refine rf_b wf1 rc_X10_seems_ok 69 2 (155, [some (.ref 0), none, some (.int l2), some (.int l3), some (.int l4), some (.long l5), none, some (.long l7), none, some (.int l9), some (.int l10), some (.long s110.1), none, some (.int s110.2), none], [.long 1, .long s110.1], σ) rfl ?_
      refine rf_fg [true, true, true, true, true, true, true, true, true, true, true, false, true, true, true] [some (.ref 0), none, some (.int l2), some (.int l3), some (.int l4), some (.long l5), none, some (.long l7), none, some (.int l9), some (.int l10), none, none, some (.int s110.2), none] rfl ?_
      exact ok_X10_seems_j155 d l2 l3 l4 l5 l7 l9 l10 s110.2 1 s110.1 σ o h kl kx
def f_X10_seems_j197 (l2 : Int32) (l3 : Int32) (l4 : Int32) (l5 : Int64) (l7 : Int64) (l9 : Int32) (l11 : Int64) (l14 : Int32) (t0 : Int32) (t1 : Int32) (σ : rf_S) : Option ((Int32 × Int32) ⊕ (Int32)) := some (.inl ((t1 + t0), (l14 + 1)))
set_option maxHeartbeats 2000000 in
theorem ok_X10_seems_j197 (d : Nat) (l2 : Int32) (l3 : Int32) (l4 : Int32) (l5 : Int64) (l7 : Int64) (l9 : Int32) (l11 : Int64) (l14 : Int32) (t0 : Int32) (t1 : Int32) (σ : rf_S) (o : ((Int32 × Int32) ⊕ (Int32))) (h : f_X10_seems_j197 l2 l3 l4 l5 l7 l9 l11 l14 t0 t1 σ = some o) {r : Option Value} {σr : rf_S} (kl : ∀ s', o = .inl s' → rf_G ly1 (d + 6) mX10_seems (170, [some (.ref 0), none, some (.int l2), some (.int l3), some (.int l4), some (.long l5), none, some (.long l7), none, some (.int l9), none, some (.long l11), none, some (.int s'.1), some (.int s'.2)], [], σ) r σr) (kx : ∀ e, o = .inr e → rf_G ly1 (d + 6) mX10_seems (206, [some (.ref 0), none, some (.int l2), some (.int l3), some (.int l4), some (.long l5), none, some (.long l7), none, some (.int l9), none, some (.long l11), none, some (.int e), none], [], σ) r σr) : rf_G ly1 (d + 6) mX10_seems (197, [some (.ref 0), none, some (.int l2), some (.int l3), some (.int l4), some (.long l5), none, some (.long l7), none, some (.int l9), none, some (.long l11), none, none, some (.int l14)], [.int t0, .int t1], σ) r σr := by
  unfold f_X10_seems_j197 at h
  refine rf_b wf1 rc_X10_seems_ok 103 4 (170, [some (.ref 0), none, some (.int l2), some (.int l3), some (.int l4), some (.long l5), none, some (.long l7), none, some (.int l9), none, some (.long l11), none, some (.int (t1 + t0)), some (.int (l14 + 1))], [], σ) rfl ?_
  exact kl ((t1 + t0), (l14 + 1)) (Option.some.inj h).symm
def f_X10_seems_b170 (l2 : Int32) (l3 : Int32) (l4 : Int32) (l5 : Int64) (l7 : Int64) (l9 : Int32) (l11 : Int64) (σ : rf_S) (s170 : Int32 × Int32) : Option ((Int32 × Int32) ⊕ (Int32)) := if 31 ≤ s170.2 then (some (.inr s170.1)) else ((f_X10_doingAt l4 s170.2 σ).bind (fun q28 => if q28 ≠ l9 then (f_X10_seems_j197 l2 l3 l4 l5 l7 l9 l11 s170.2 0 s170.1 σ) else (f_X10_seems_j197 l2 l3 l4 l5 l7 l9 l11 s170.2 1 s170.1 σ)))
set_option maxHeartbeats 2000000 in
theorem ok_X10_seems_b170 (d : Nat) (l2 : Int32) (l3 : Int32) (l4 : Int32) (l5 : Int64) (l7 : Int64) (l9 : Int32) (l11 : Int64) (σ : rf_S) (s170 : Int32 × Int32) (o : ((Int32 × Int32) ⊕ (Int32))) (h : f_X10_seems_b170 l2 l3 l4 l5 l7 l9 l11 σ s170 = some o) {r : Option Value} {σr : rf_S} (kl : ∀ s', o = .inl s' → rf_G ly1 (d + 6) mX10_seems (170, [some (.ref 0), none, some (.int l2), some (.int l3), some (.int l4), some (.long l5), none, some (.long l7), none, some (.int l9), none, some (.long l11), none, some (.int s'.1), some (.int s'.2)], [], σ) r σr) (kx : ∀ e, o = .inr e → rf_G ly1 (d + 6) mX10_seems (206, [some (.ref 0), none, some (.int l2), some (.int l3), some (.int l4), some (.long l5), none, some (.long l7), none, some (.int l9), none, some (.long l11), none, some (.int e), none], [], σ) r σr) : rf_G ly1 (d + 6) mX10_seems (170, [some (.ref 0), none, some (.int l2), some (.int l3), some (.int l4), some (.long l5), none, some (.long l7), none, some (.int l9), none, some (.long l11), none, some (.int s170.1), some (.int s170.2)], [], σ) r σr := by
  unfold f_X10_seems_b170 at h
  refine rf_b wf1 rc_X10_seems_ok 90 2 (174, [some (.ref 0), none, some (.int l2), some (.int l3), some (.int l4), some (.long l5), none, some (.long l7), none, some (.int l9), none, some (.long l11), none, some (.int s170.1), some (.int s170.2)], [.int 31, .int s170.2], σ) rfl ?_
  by_cases c27 : 31 ≤ s170.2
  · rw [if_pos c27] at h
    refine rf_t wf1 rc_X10_seems_ok 92 (206, [some (.ref 0), none, some (.int l2), some (.int l3), some (.int l4), some (.long l5), none, some (.long l7), none, some (.int l9), none, some (.long l11), none, some (.int s170.1), some (.int s170.2)], [], σ) rfl rfl c27 rfl ?_
    refine rf_fg [true, true, true, true, true, true, true, true, true, true, true, true, true, true, false] [some (.ref 0), none, some (.int l2), some (.int l3), some (.int l4), some (.long l5), none, some (.long l7), none, some (.int l9), none, some (.long l11), none, some (.int s170.1), none] rfl ?_
    exact kx s170.1 (Option.some.inj h).symm
  · rw [if_neg c27] at h
    refine rf_f wf1 rc_X10_seems_ok 92 (177, [some (.ref 0), none, some (.int l2), some (.int l3), some (.int l4), some (.long l5), none, some (.long l7), none, some (.int l9), none, some (.long l11), none, some (.int s170.1), some (.int s170.2)], [], σ) rfl rfl c27 rfl ?_
    refine rf_b wf1 rc_X10_seems_ok 93 4 (184, [some (.ref 0), none, some (.int l2), some (.int l3), some (.int l4), some (.long l5), none, some (.long l7), none, some (.int l9), none, some (.long l11), none, some (.int s170.1), some (.int s170.2)], [.int s170.2, .int l4, .ref 0, .int s170.1], σ) rfl ?_
    obtain ⟨q28, h29, h⟩ := Option.bind_eq_some_iff.mp h
    refine rf_cv1 (Mt := mX10_doingAt) wf1 rc_X10_seems_ok 97 false rfl (List.mem_of_getElem? (i := 184) rfl) mw_X10_doingAt rfl 0 [.int l4, .int s170.2] [.int s170.1] rfl rfl rfl (Nat.le_of_ble_eq_true rfl) (ok_X10_doingAt (d + 1) l4 s170.2 σ q28 h29) ?_
    show rf_G _ _ _ (187, [some (.ref 0), none, some (.int l2), some (.int l3), some (.int l4), some (.long l5), none, some (.long l7), none, some (.int l9), none, some (.long l11), none, some (.int s170.1), some (.int s170.2)], [.int q28, .int s170.1], σ) _ _
    refine rf_b wf1 rc_X10_seems_ok 98 1 (189, [some (.ref 0), none, some (.int l2), some (.int l3), some (.int l4), some (.long l5), none, some (.long l7), none, some (.int l9), none, some (.long l11), none, some (.int s170.1), some (.int s170.2)], [.int l9, .int q28, .int s170.1], σ) rfl ?_
    by_cases c30 : q28 ≠ l9
    · rw [if_pos c30] at h
      refine rf_t wf1 rc_X10_seems_ok 99 (196, [some (.ref 0), none, some (.int l2), some (.int l3), some (.int l4), some (.long l5), none, some (.long l7), none, some (.int l9), none, some (.long l11), none, some (.int s170.1), some (.int s170.2)], [.int s170.1], σ) rfl rfl c30 rfl ?_
      refine rf_b wf1 rc_X10_seems_ok 102 1 (197, [some (.ref 0), none, some (.int l2), some (.int l3), some (.int l4), some (.long l5), none, some (.long l7), none, some (.int l9), none, some (.long l11), none, some (.int s170.1), some (.int s170.2)], [.int 0, .int s170.1], σ) rfl ?_
      refine rf_fg [true, true, true, true, true, true, true, true, true, true, true, true, true, false, true] [some (.ref 0), none, some (.int l2), some (.int l3), some (.int l4), some (.long l5), none, some (.long l7), none, some (.int l9), none, some (.long l11), none, none, some (.int s170.2)] rfl ?_
      exact ok_X10_seems_j197 d l2 l3 l4 l5 l7 l9 l11 s170.2 0 s170.1 σ o h kl kx
    · rw [if_neg c30] at h
      refine rf_f wf1 rc_X10_seems_ok 99 (192, [some (.ref 0), none, some (.int l2), some (.int l3), some (.int l4), some (.long l5), none, some (.long l7), none, some (.int l9), none, some (.long l11), none, some (.int s170.1), some (.int s170.2)], [.int s170.1], σ) rfl rfl c30 rfl ?_
      refine rf_b wf1 rc_X10_seems_ok 100 2 (197, [some (.ref 0), none, some (.int l2), some (.int l3), some (.int l4), some (.long l5), none, some (.long l7), none, some (.int l9), none, some (.long l11), none, some (.int s170.1), some (.int s170.2)], [.int 1, .int s170.1], σ) rfl ?_
      refine rf_fg [true, true, true, true, true, true, true, true, true, true, true, true, true, false, true] [some (.ref 0), none, some (.int l2), some (.int l3), some (.int l4), some (.long l5), none, some (.long l7), none, some (.int l9), none, some (.long l11), none, none, some (.int s170.2)] rfl ?_
      exact ok_X10_seems_j197 d l2 l3 l4 l5 l7 l9 l11 s170.2 1 s170.1 σ o h kl kx
def f_X10_seems_j232 (l2 : Int32) (l3 : Int32) (l4 : Int32) (l7 : Int64) (l9 : Int32) (t0 : Int64) (t1 : Int64) (σ : rf_S) : Option ((Int64 × Int32) ⊕ (Int64)) := f_X10_seems_j235 l2 l3 l4 (t1 + t0) l7 l9 σ
set_option maxHeartbeats 2000000 in
theorem ok_X10_seems_j232 (d : Nat) (l2 : Int32) (l3 : Int32) (l4 : Int32) (l7 : Int64) (l9 : Int32) (t0 : Int64) (t1 : Int64) (σ : rf_S) (o : ((Int64 × Int32) ⊕ (Int64))) (h : f_X10_seems_j232 l2 l3 l4 l7 l9 t0 t1 σ = some o) {r : Option Value} {σr : rf_S} (kl : ∀ s', o = .inl s' → rf_G ly1 (d + 6) mX10_seems (67, [some (.ref 0), none, some (.int l2), some (.int l3), some (.int l4), some (.long s'.1), none, some (.long l7), none, some (.int s'.2), none, none, none, none, none], [], σ) r σr) (kx : ∀ e, o = .inr e → rf_G ly1 (d + 6) mX10_seems (241, [some (.ref 0), none, none, none, none, some (.long e), none, some (.long l7), none, none, none, none, none, none, none], [], σ) r σr) : rf_G ly1 (d + 6) mX10_seems (232, [some (.ref 0), none, some (.int l2), some (.int l3), some (.int l4), none, none, some (.long l7), none, some (.int l9), none, none, none, none, none], [.long t0, .long t1], σ) r σr := by
  unfold f_X10_seems_j232 at h
  refine rf_b wf1 rc_X10_seems_ok 120 2 (235, [some (.ref 0), none, some (.int l2), some (.int l3), some (.int l4), some (.long (t1 + t0)), none, some (.long l7), none, some (.int l9), none, none, none, none, none], [], σ) rfl ?_
  exact ok_X10_seems_j235 d l2 l3 l4 (t1 + t0) l7 l9 σ o h kl kx
def f_X10_seems_b67 (l2 : Int32) (l3 : Int32) (l4 : Int32) (l7 : Int64) (σ : rf_S) (s67 : Int64 × Int32) : Option ((Int64 × Int32) ⊕ (Int64)) := if (1 <<< ((σ.1 0 17) &&& 31)) ≤ s67.2 then (some (.inr s67.1)) else (if (s67.2 &&& (l4 ^^^ (-1))) ≠ 0 then (f_X10_seems_j235 l2 l3 l4 s67.1 l7 s67.2 σ) else ((f_X10_doing 12 σ).bind (fun q16 => (rf_lp (f_X10_seems_b110 l2 l3 l4 s67.1 l7 s67.2 (s67.2 ^^^ (l4 &&& q16)) σ) 5000 (1, 0)).bind (fun e25 => (rf_lp (f_X10_seems_b170 l2 l3 l4 s67.1 l7 s67.2 e25 σ) 5000 (0, 0)).bind (fun e31 => if l3 = 0 then (if e31 ≤ 0 then (f_X10_seems_j232 l2 l3 l4 l7 s67.2 0 s67.1 σ) else (f_X10_seems_j232 l2 l3 l4 l7 s67.2 e25 s67.1 σ)) else (f_X10_seems_j232 l2 l3 l4 l7 s67.2 (e25 * e31.toInt64) s67.1 σ))))))
set_option maxHeartbeats 2000000 in
theorem ok_X10_seems_b67 (d : Nat) (l2 : Int32) (l3 : Int32) (l4 : Int32) (l7 : Int64) (σ : rf_S) (s67 : Int64 × Int32) (o : ((Int64 × Int32) ⊕ (Int64))) (h : f_X10_seems_b67 l2 l3 l4 l7 σ s67 = some o) {r : Option Value} {σr : rf_S} (kl : ∀ s', o = .inl s' → rf_G ly1 (d + 6) mX10_seems (67, [some (.ref 0), none, some (.int l2), some (.int l3), some (.int l4), some (.long s'.1), none, some (.long l7), none, some (.int s'.2), none, none, none, none, none], [], σ) r σr) (kx : ∀ e, o = .inr e → rf_G ly1 (d + 6) mX10_seems (241, [some (.ref 0), none, none, none, none, some (.long e), none, some (.long l7), none, none, none, none, none, none, none], [], σ) r σr) : rf_G ly1 (d + 6) mX10_seems (67, [some (.ref 0), none, some (.int l2), some (.int l3), some (.int l4), some (.long s67.1), none, some (.long l7), none, some (.int s67.2), none, none, none, none, none], [], σ) r σr := by
  unfold f_X10_seems_b67 at h
  refine rf_b wf1 rc_X10_seems_ok 35 5 (75, [some (.ref 0), none, some (.int l2), some (.int l3), some (.int l4), some (.long s67.1), none, some (.long l7), none, some (.int s67.2), none, none, none, none, none], [.int (1 <<< ((σ.1 0 17) &&& 31)), .int s67.2], σ) rfl ?_
  by_cases c14 : (1 <<< ((σ.1 0 17) &&& 31)) ≤ s67.2
  · rw [if_pos c14] at h
    refine rf_t wf1 rc_X10_seems_ok 40 (241, [some (.ref 0), none, some (.int l2), some (.int l3), some (.int l4), some (.long s67.1), none, some (.long l7), none, some (.int s67.2), none, none, none, none, none], [], σ) rfl rfl c14 rfl ?_
    refine rf_fg [true, true, false, false, false, true, true, true, true, false, true, true, true, true, true] [some (.ref 0), none, none, none, none, some (.long s67.1), none, some (.long l7), none, none, none, none, none, none, none] rfl ?_
    exact kx s67.1 (Option.some.inj h).symm
  · rw [if_neg c14] at h
    refine rf_f wf1 rc_X10_seems_ok 40 (78, [some (.ref 0), none, some (.int l2), some (.int l3), some (.int l4), some (.long s67.1), none, some (.long l7), none, some (.int s67.2), none, none, none, none, none], [], σ) rfl rfl c14 rfl ?_
    refine rf_b wf1 rc_X10_seems_ok 41 5 (85, [some (.ref 0), none, some (.int l2), some (.int l3), some (.int l4), some (.long s67.1), none, some (.long l7), none, some (.int s67.2), none, none, none, none, none], [.int (s67.2 &&& (l4 ^^^ (-1)))], σ) rfl ?_
    by_cases c15 : (s67.2 &&& (l4 ^^^ (-1))) ≠ 0
    · rw [if_pos c15] at h
      refine rf_t wf1 rc_X10_seems_ok 46 (235, [some (.ref 0), none, some (.int l2), some (.int l3), some (.int l4), some (.long s67.1), none, some (.long l7), none, some (.int s67.2), none, none, none, none, none], [], σ) rfl rfl c15 rfl ?_
      exact ok_X10_seems_j235 d l2 l3 l4 s67.1 l7 s67.2 σ o h kl kx
    · rw [if_neg c15] at h
      refine rf_f wf1 rc_X10_seems_ok 46 (88, [some (.ref 0), none, some (.int l2), some (.int l3), some (.int l4), some (.long s67.1), none, some (.long l7), none, some (.int s67.2), none, none, none, none, none], [], σ) rfl rfl c15 rfl ?_
      refine rf_b wf1 rc_X10_seems_ok 47 5 (97, [some (.ref 0), none, some (.int l2), some (.int l3), some (.int l4), some (.long s67.1), none, some (.long l7), none, some (.int s67.2), none, none, none, none, none], [.ref 12, .ref 0, .int l4, .int s67.2], σ) rfl ?_
      obtain ⟨q16, h17, h⟩ := Option.bind_eq_some_iff.mp h
      refine rf_cv1 (Mt := mX10_doing) wf1 rc_X10_seems_ok 52 false rfl (List.mem_of_getElem? (i := 167) rfl) mw_X10_doing rfl 0 [.ref 12] [.int l4, .int s67.2] rfl rfl rfl (Nat.le_of_ble_eq_true rfl) (ok_X10_doing d 12 σ q16 h17) ?_
      show rf_G _ _ _ (100, [some (.ref 0), none, some (.int l2), some (.int l3), some (.int l4), some (.long s67.1), none, some (.long l7), none, some (.int s67.2), none, none, none, none, none], [.int q16, .int l4, .int s67.2], σ) _ _
      refine rf_b wf1 rc_X10_seems_ok 53 7 (110, [some (.ref 0), none, some (.int l2), some (.int l3), some (.int l4), some (.long s67.1), none, some (.long l7), none, some (.int s67.2), some (.int (s67.2 ^^^ (l4 &&& q16))), some (.long 1), none, some (.int 0), none], [], σ) rfl ?_
      obtain ⟨e25, h26, h⟩ := Option.bind_eq_some_iff.mp h
      refine rf_lpG (b := f_X10_seems_b110 l2 l3 l4 s67.1 l7 s67.2 (s67.2 ^^^ (l4 &&& q16)) σ) (G := fun (s110 : Int64 × Int32) => rf_G ly1 (d + 6) mX10_seems (110, [some (.ref 0), none, some (.int l2), some (.int l3), some (.int l4), some (.long s67.1), none, some (.long l7), none, some (.int s67.2), some (.int (s67.2 ^^^ (l4 &&& q16))), some (.long s110.1), none, some (.int s110.2), none], [], σ) r σr) (K := fun (e : (Int64)) => rf_G ly1 (d + 6) mX10_seems (164, [some (.ref 0), none, some (.int l2), some (.int l3), some (.int l4), some (.long s67.1), none, some (.long l7), none, some (.int s67.2), none, some (.long e), none, none, none], [], σ) r σr) (fun (s110 : Int64 × Int32) (o : (Int64 × Int32) ⊕ (Int64)) hb kl kx => ok_X10_seems_b110 d l2 l3 l4 s67.1 l7 s67.2 (s67.2 ^^^ (l4 &&& q16)) σ s110 o hb kl kx) 5000 (1, 0) e25 h26 ?_
      show rf_G _ _ _ (164, [some (.ref 0), none, some (.int l2), some (.int l3), some (.int l4), some (.long s67.1), none, some (.long l7), none, some (.int s67.2), none, some (.long e25), none, none, none], [], σ) _ _
      refine rf_b wf1 rc_X10_seems_ok 86 4 (170, [some (.ref 0), none, some (.int l2), some (.int l3), some (.int l4), some (.long s67.1), none, some (.long l7), none, some (.int s67.2), none, some (.long e25), none, some (.int 0), some (.int 0)], [], σ) rfl ?_
      obtain ⟨e31, h32, h⟩ := Option.bind_eq_some_iff.mp h
      refine rf_lpG (b := f_X10_seems_b170 l2 l3 l4 s67.1 l7 s67.2 e25 σ) (G := fun (s170 : Int32 × Int32) => rf_G ly1 (d + 6) mX10_seems (170, [some (.ref 0), none, some (.int l2), some (.int l3), some (.int l4), some (.long s67.1), none, some (.long l7), none, some (.int s67.2), none, some (.long e25), none, some (.int s170.1), some (.int s170.2)], [], σ) r σr) (K := fun (e : (Int32)) => rf_G ly1 (d + 6) mX10_seems (206, [some (.ref 0), none, some (.int l2), some (.int l3), some (.int l4), some (.long s67.1), none, some (.long l7), none, some (.int s67.2), none, some (.long e25), none, some (.int e), none], [], σ) r σr) (fun (s170 : Int32 × Int32) (o : (Int32 × Int32) ⊕ (Int32)) hb kl kx => ok_X10_seems_b170 d l2 l3 l4 s67.1 l7 s67.2 e25 σ s170 o hb kl kx) 5000 (0, 0) e31 h32 ?_
      show rf_G _ _ _ (206, [some (.ref 0), none, some (.int l2), some (.int l3), some (.int l4), some (.long s67.1), none, some (.long l7), none, some (.int s67.2), none, some (.long e25), none, some (.int e31), none], [], σ) _ _
      refine rf_b wf1 rc_X10_seems_ok 107 2 (209, [some (.ref 0), none, some (.int l2), some (.int l3), some (.int l4), some (.long s67.1), none, some (.long l7), none, some (.int s67.2), none, some (.long e25), none, some (.int e31), none], [.int l3, .long s67.1], σ) rfl ?_
      by_cases c33 : l3 = 0
      · rw [if_pos c33] at h
        refine rf_t wf1 rc_X10_seems_ok 109 (221, [some (.ref 0), none, some (.int l2), some (.int l3), some (.int l4), some (.long s67.1), none, some (.long l7), none, some (.int s67.2), none, some (.long e25), none, some (.int e31), none], [.long s67.1], σ) rfl rfl c33 rfl ?_
        refine rf_b wf1 rc_X10_seems_ok 115 1 (223, [some (.ref 0), none, some (.int l2), some (.int l3), some (.int l4), some (.long s67.1), none, some (.long l7), none, some (.int s67.2), none, some (.long e25), none, some (.int e31), none], [.int e31, .long s67.1], σ) rfl ?_
        by_cases c34 : e31 ≤ 0
        · rw [if_pos c34] at h
          refine rf_t wf1 rc_X10_seems_ok 116 (231, [some (.ref 0), none, some (.int l2), some (.int l3), some (.int l4), some (.long s67.1), none, some (.long l7), none, some (.int s67.2), none, some (.long e25), none, some (.int e31), none], [.long s67.1], σ) rfl rfl c34 rfl ?_
          refine rf_b wf1 rc_X10_seems_ok 119 1 (232, [some (.ref 0), none, some (.int l2), some (.int l3), some (.int l4), some (.long s67.1), none, some (.long l7), none, some (.int s67.2), none, some (.long e25), none, some (.int e31), none], [.long 0, .long s67.1], σ) rfl ?_
          refine rf_fg [true, true, true, true, true, false, true, true, true, true, true, false, true, false, true] [some (.ref 0), none, some (.int l2), some (.int l3), some (.int l4), none, none, some (.long l7), none, some (.int s67.2), none, none, none, none, none] rfl ?_
          exact ok_X10_seems_j232 d l2 l3 l4 l7 s67.2 0 s67.1 σ o h kl kx
        · rw [if_neg c34] at h
          refine rf_f wf1 rc_X10_seems_ok 116 (226, [some (.ref 0), none, some (.int l2), some (.int l3), some (.int l4), some (.long s67.1), none, some (.long l7), none, some (.int s67.2), none, some (.long e25), none, some (.int e31), none], [.long s67.1], σ) rfl rfl c34 rfl ?_
          refine rf_b wf1 rc_X10_seems_ok 117 2 (232, [some (.ref 0), none, some (.int l2), some (.int l3), some (.int l4), some (.long s67.1), none, some (.long l7), none, some (.int s67.2), none, some (.long e25), none, some (.int e31), none], [.long e25, .long s67.1], σ) rfl ?_
          refine rf_fg [true, true, true, true, true, false, true, true, true, true, true, false, true, false, true] [some (.ref 0), none, some (.int l2), some (.int l3), some (.int l4), none, none, some (.long l7), none, some (.int s67.2), none, none, none, none, none] rfl ?_
          exact ok_X10_seems_j232 d l2 l3 l4 l7 s67.2 e25 s67.1 σ o h kl kx
      · rw [if_neg c33] at h
        refine rf_f wf1 rc_X10_seems_ok 109 (212, [some (.ref 0), none, some (.int l2), some (.int l3), some (.int l4), some (.long s67.1), none, some (.long l7), none, some (.int s67.2), none, some (.long e25), none, some (.int e31), none], [.long s67.1], σ) rfl rfl c33 rfl ?_
        refine rf_b wf1 rc_X10_seems_ok 110 5 (232, [some (.ref 0), none, some (.int l2), some (.int l3), some (.int l4), some (.long s67.1), none, some (.long l7), none, some (.int s67.2), none, some (.long e25), none, some (.int e31), none], [.long (e25 * e31.toInt64), .long s67.1], σ) rfl ?_
        refine rf_fg [true, true, true, true, true, false, true, true, true, true, true, false, true, false, true] [some (.ref 0), none, some (.int l2), some (.int l3), some (.int l4), none, none, some (.long l7), none, some (.int s67.2), none, none, none, none, none] rfl ?_
        exact ok_X10_seems_j232 d l2 l3 l4 l7 s67.2 (e25 * e31.toInt64) s67.1 σ o h kl kx
def f_X10_seems (p0 : Int32) (p1 : Int32) (p2 : Int32) (σ : rf_S) : Option (Int32 × rf_S) := (f_X10_isRoom p0 σ).bind (fun q1 => if q1 = 0 then (some ((-1), σ)) else ((f_X10_in p1 0 12 σ).bind (fun q4 => if q4 ≠ 0 then ((f_X10_thereIn 12 p0 σ).bind (fun q7 => (rf_lp (f_X10_seems_b40 p1 p2 q7 0 σ) 5000 (1, 0)).bind (fun e12 => (rf_lp (f_X10_seems_b67 p1 p2 q7 e12 σ) 5000 (0, 0)).bind (fun e35 => (f_X10_tellsPart e35 e12 σ).bind (fun q37 => some (1, q37)))))) else (some ((-1), σ)))))
set_option maxHeartbeats 2000000 in
theorem ok_X10_seems (d : Nat) (p0 : Int32) (p1 : Int32) (p2 : Int32) (σ : rf_S) (q : (Int32 × rf_S)) (h : f_X10_seems p0 p1 p2 σ = some q) : rf_Ex ly1 (d + 7) mX10_seems [.ref 0, .int p0, .int p1, .int p2] σ (some (.int q.1) : Option Value) q.2 := by
  unfold f_X10_seems at h
  refine rf_ex mw_X10_seems [some (.ref 0), some (.int p0), some (.int p1), some (.int p2), none, none, none, none, none, none, none, none, none, none, none] (Nat.le_of_ble_eq_true rfl) rfl ?_
  refine rf_b wf1 rc_X10_seems_ok 0 2 (2, [some (.ref 0), some (.int p0), some (.int p1), some (.int p2), none, none, none, none, none, none, none, none, none, none, none], [.int p0, .ref 0], σ) rfl ?_
  obtain ⟨q1, h2, h⟩ := Option.bind_eq_some_iff.mp h
  refine rf_cv1 (Mt := mX10_isRoom) wf1 rc_X10_seems_ok 2 false rfl (List.mem_of_getElem? (i := 165) rfl) mw_X10_isRoom rfl 0 [.int p0] [] rfl rfl rfl (Nat.le_of_ble_eq_true rfl) (ok_X10_isRoom (d + 4) p0 σ q1 h2) ?_
  show rf_G _ _ _ (5, [some (.ref 0), some (.int p0), some (.int p1), some (.int p2), none, none, none, none, none, none, none, none, none, none, none], [.int q1], σ) _ _
  by_cases c3 : q1 = 0
  · rw [if_pos c3] at h
    refine rf_t wf1 rc_X10_seems_ok 3 (18, [some (.ref 0), some (.int p0), some (.int p1), some (.int p2), none, none, none, none, none, none, none, none, none, none, none], [], σ) rfl rfl c3 rfl ?_
    refine rf_b wf1 rc_X10_seems_ok 9 1 (19, [some (.ref 0), some (.int p0), some (.int p1), some (.int p2), none, none, none, none, none, none, none, none, none, none, none], [.int (-1)], σ) rfl ?_
    obtain rfl := Option.some.inj h
    exact rf_ri rc_X10_seems_ok 10 rfl rfl
  · rw [if_neg c3] at h
    refine rf_f wf1 rc_X10_seems_ok 3 (8, [some (.ref 0), some (.int p0), some (.int p1), some (.int p2), none, none, none, none, none, none, none, none, none, none, none], [], σ) rfl rfl c3 rfl ?_
    refine rf_b wf1 rc_X10_seems_ok 4 3 (12, [some (.ref 0), some (.int p0), some (.int p1), some (.int p2), none, none, none, none, none, none, none, none, none, none, none], [.int 12, .int 0, .int p1], σ) rfl ?_
    obtain ⟨q4, h5, h⟩ := Option.bind_eq_some_iff.mp h
    refine rf_cs1 (Mt := mX10_in) rc_X10_seems_ok 7 false rfl (List.mem_of_getElem? (i := 143) rfl) mw_X10_in rfl [.int p1, .int 0, .int 12] [] rfl rfl (Nat.le_of_ble_eq_true rfl) (ok_X10_in (d + 5) p1 0 12 σ q4 h5) ?_
    show rf_G _ _ _ (15, [some (.ref 0), some (.int p0), some (.int p1), some (.int p2), none, none, none, none, none, none, none, none, none, none, none], [.int q4], σ) _ _
    by_cases c6 : q4 ≠ 0
    · rw [if_pos c6] at h
      refine rf_t wf1 rc_X10_seems_ok 8 (20, [some (.ref 0), some (.int p0), some (.int p1), some (.int p2), none, none, none, none, none, none, none, none, none, none, none], [], σ) rfl rfl c6 rfl ?_
      refine rf_b wf1 rc_X10_seems_ok 11 4 (26, [some (.ref 0), some (.int p0), some (.int p1), some (.int p2), none, none, none, none, none, none, none, none, none, none, none], [.int p0, .ref 12, .ref 0], σ) rfl ?_
      obtain ⟨q7, h8, h⟩ := Option.bind_eq_some_iff.mp h
      refine rf_cv1 (Mt := mX10_thereIn) wf1 rc_X10_seems_ok 15 false rfl (List.mem_of_getElem? (i := 166) rfl) mw_X10_thereIn rfl 0 [.ref 12, .int p0] [] rfl rfl rfl (Nat.le_of_ble_eq_true rfl) (ok_X10_thereIn (d + 5) 12 p0 σ q7 h8) ?_
      show rf_G _ _ _ (29, [some (.ref 0), some (.int p0), some (.int p1), some (.int p2), none, none, none, none, none, none, none, none, none, none, none], [.int q7], σ) _ _
      refine rf_b wf1 rc_X10_seems_ok 16 7 (40, [some (.ref 0), some (.int p0), some (.int p1), some (.int p2), some (.int q7), some (.long 0), none, some (.long 1), none, some (.int 0), none, none, none, none, none], [], σ) rfl ?_
      refine rf_fg [true, false, true, true, true, true, true, true, true, true, true, true, true, true, true] [some (.ref 0), none, some (.int p1), some (.int p2), some (.int q7), some (.long 0), none, some (.long 1), none, some (.int 0), none, none, none, none, none] rfl ?_
      obtain ⟨e12, h13, h⟩ := Option.bind_eq_some_iff.mp h
      refine rf_lpG (b := f_X10_seems_b40 p1 p2 q7 0 σ) (G := fun (s40 : Int64 × Int32) => rf_G ly1 (d + 6) mX10_seems (40, [some (.ref 0), none, some (.int p1), some (.int p2), some (.int q7), some (.long 0), none, some (.long s40.1), none, some (.int s40.2), none, none, none, none, none], [], σ) (some (.int q.1) : Option Value) q.2) (K := fun (e : (Int64)) => rf_G ly1 (d + 6) mX10_seems (64, [some (.ref 0), none, some (.int p1), some (.int p2), some (.int q7), some (.long 0), none, some (.long e), none, none, none, none, none, none, none], [], σ) (some (.int q.1) : Option Value) q.2) (fun (s40 : Int64 × Int32) (o : (Int64 × Int32) ⊕ (Int64)) hb kl kx => ok_X10_seems_b40 d p1 p2 q7 0 σ s40 o hb kl kx) 5000 (1, 0) e12 h13 ?_
      show rf_G _ _ _ (64, [some (.ref 0), none, some (.int p1), some (.int p2), some (.int q7), some (.long 0), none, some (.long e12), none, none, none, none, none, none, none], [], σ) _ _
      refine rf_b wf1 rc_X10_seems_ok 33 2 (67, [some (.ref 0), none, some (.int p1), some (.int p2), some (.int q7), some (.long 0), none, some (.long e12), none, some (.int 0), none, none, none, none, none], [], σ) rfl ?_
      obtain ⟨e35, h36, h⟩ := Option.bind_eq_some_iff.mp h
      refine rf_lpG (b := f_X10_seems_b67 p1 p2 q7 e12 σ) (G := fun (s67 : Int64 × Int32) => rf_G ly1 (d + 6) mX10_seems (67, [some (.ref 0), none, some (.int p1), some (.int p2), some (.int q7), some (.long s67.1), none, some (.long e12), none, some (.int s67.2), none, none, none, none, none], [], σ) (some (.int q.1) : Option Value) q.2) (K := fun (e : (Int64)) => rf_G ly1 (d + 6) mX10_seems (241, [some (.ref 0), none, none, none, none, some (.long e), none, some (.long e12), none, none, none, none, none, none, none], [], σ) (some (.int q.1) : Option Value) q.2) (fun (s67 : Int64 × Int32) (o : (Int64 × Int32) ⊕ (Int64)) hb kl kx => ok_X10_seems_b67 d p1 p2 q7 e12 σ s67 o hb kl kx) 5000 (0, 0) e35 h36 ?_
      show rf_G _ _ _ (241, [some (.ref 0), none, none, none, none, some (.long e35), none, some (.long e12), none, none, none, none, none, none, none], [], σ) _ _
      refine rf_b wf1 rc_X10_seems_ok 124 3 (246, [some (.ref 0), none, none, none, none, some (.long e35), none, some (.long e12), none, none, none, none, none, none, none], [.long e12, .long e35, .ref 0], σ) rfl ?_
      obtain ⟨q37, h38, h⟩ := Option.bind_eq_some_iff.mp h
      refine rf_cv1 (Mt := mX10_tellsPart) wf1 rc_X10_seems_ok 127 false rfl (List.mem_of_getElem? (i := 191) rfl) mw_X10_tellsPart rfl 0 [.long e35, .long e12] [] rfl rfl rfl (Nat.le_of_ble_eq_true rfl) (ok_X10_tellsPart (d + 5) e35 e12 σ q37 h38) ?_
      show rf_G _ _ _ (249, [some (.ref 0), none, none, none, none, some (.long e35), none, some (.long e12), none, none, none, none, none, none, none], [], q37) _ _
      refine rf_b wf1 rc_X10_seems_ok 128 1 (250, [some (.ref 0), none, none, none, none, some (.long e35), none, some (.long e12), none, none, none, none, none, none, none], [.int 1], q37) rfl ?_
      obtain rfl := Option.some.inj h
      exact rf_ri rc_X10_seems_ok 129 rfl rfl
    · rw [if_neg c6] at h
      refine rf_f wf1 rc_X10_seems_ok 8 (18, [some (.ref 0), some (.int p0), some (.int p1), some (.int p2), none, none, none, none, none, none, none, none, none, none, none], [], σ) rfl rfl c6 rfl ?_
      refine rf_b wf1 rc_X10_seems_ok 9 1 (19, [some (.ref 0), some (.int p0), some (.int p1), some (.int p2), none, none, none, none, none, none, none, none, none, none, none], [.int (-1)], σ) rfl ?_
      obtain rfl := Option.some.inj h
      exact rf_ri rc_X10_seems_ok 10 rfl rfl
def rc_X10_odds : List rf_E := [(0, .aload_n 0, 1, 0), (1, .iload_n 1, 1, 1), (2, .iload_n 2, 1, 2), (3, .iconst 0, 1, 0), (4, .invokevirtual 269, 3, 0), (7, .ireturn, 1, 0)]
theorem rc_X10_odds_ok : rf_rc mX10_odds rc_X10_odds = true := by decide +kernel
theorem mw_X10_odds : rf_mw mX10_odds := ⟨rf_mt_ok _ (List.mem_of_getElem? (i := 233) rfl), fun h => absurd h (by decide), fun _ => ⟨rf_mi_ok _ (List.mem_of_getElem? (i := 211) rfl), rf_mv_ok _ (List.mem_of_getElem? (i := 211) rfl)⟩, rf_mq_9 _ (List.mem_of_getElem? (i := 8) rfl)⟩
def f_X10_odds (p0 : Int32) (p1 : Int32) (σ : rf_S) : Option (Int32 × rf_S) := (f_X10_seems p0 p1 0 σ).bind (fun q1 => some (q1.1, q1.2))
set_option maxHeartbeats 2000000 in
theorem ok_X10_odds (d : Nat) (p0 : Int32) (p1 : Int32) (σ : rf_S) (q : (Int32 × rf_S)) (h : f_X10_odds p0 p1 σ = some q) : rf_Ex ly1 (d + 8) mX10_odds [.ref 0, .int p0, .int p1] σ (some (.int q.1) : Option Value) q.2 := by
  unfold f_X10_odds at h
  refine rf_ex mw_X10_odds [some (.ref 0), some (.int p0), some (.int p1)] (Nat.le_of_ble_eq_true rfl) rfl ?_
  refine rf_b wf1 rc_X10_odds_ok 0 4 (4, [some (.ref 0), some (.int p0), some (.int p1)], [.int 0, .int p1, .int p0, .ref 0], σ) rfl ?_
  obtain ⟨q1, h2, h⟩ := Option.bind_eq_some_iff.mp h
  refine rf_cv1 (Mt := mX10_seems) wf1 rc_X10_odds_ok 4 false rfl (List.mem_of_getElem? (i := 192) rfl) mw_X10_seems rfl 0 [.int p0, .int p1, .int 0] [] rfl rfl rfl (Nat.le_of_ble_eq_true rfl) (ok_X10_seems d p0 p1 0 σ q1 h2) ?_
  show rf_G _ _ _ (7, [some (.ref 0), some (.int p0), some (.int p1)], [.int q1.1], q1.2) _ _
  obtain rfl := Option.some.inj h
  exact rf_ri rc_X10_odds_ok 5 rfl rfl
def rc_X10_mid : List rf_E := [(0, .aload_n 0, 1, 0), (1, .iload_n 1, 1, 1), (2, .iload_n 2, 1, 2), (3, .iconst 1, 1, 0), (4, .invokevirtual 269, 3, 0), (7, .ireturn, 1, 0)]
theorem rc_X10_mid_ok : rf_rc mX10_mid rc_X10_mid = true := by decide +kernel
theorem mw_X10_mid : rf_mw mX10_mid := ⟨rf_mt_ok _ (List.mem_of_getElem? (i := 234) rfl), fun h => absurd h (by decide), fun _ => ⟨rf_mi_ok _ (List.mem_of_getElem? (i := 212) rfl), rf_mv_ok _ (List.mem_of_getElem? (i := 212) rfl)⟩, rf_mq_9 _ (List.mem_of_getElem? (i := 9) rfl)⟩
def f_X10_mid (p0 : Int32) (p1 : Int32) (σ : rf_S) : Option (Int32 × rf_S) := (f_X10_seems p0 p1 1 σ).bind (fun q1 => some (q1.1, q1.2))
set_option maxHeartbeats 2000000 in
theorem ok_X10_mid (d : Nat) (p0 : Int32) (p1 : Int32) (σ : rf_S) (q : (Int32 × rf_S)) (h : f_X10_mid p0 p1 σ = some q) : rf_Ex ly1 (d + 8) mX10_mid [.ref 0, .int p0, .int p1] σ (some (.int q.1) : Option Value) q.2 := by
  unfold f_X10_mid at h
  refine rf_ex mw_X10_mid [some (.ref 0), some (.int p0), some (.int p1)] (Nat.le_of_ble_eq_true rfl) rfl ?_
  refine rf_b wf1 rc_X10_mid_ok 0 4 (4, [some (.ref 0), some (.int p0), some (.int p1)], [.int 1, .int p1, .int p0, .ref 0], σ) rfl ?_
  obtain ⟨q1, h2, h⟩ := Option.bind_eq_some_iff.mp h
  refine rf_cv1 (Mt := mX10_seems) wf1 rc_X10_mid_ok 4 false rfl (List.mem_of_getElem? (i := 192) rfl) mw_X10_seems rfl 0 [.int p0, .int p1, .int 1] [] rfl rfl rfl (Nat.le_of_ble_eq_true rfl) (ok_X10_seems d p0 p1 1 σ q1 h2) ?_
  show rf_G _ _ _ (7, [some (.ref 0), some (.int p0), some (.int p1)], [.int q1.1], q1.2) _ _
  obtain rfl := Option.some.inj h
  exact rf_ri rc_X10_mid_ok 5 rfl rfl
def rc_X10_lots : List rf_E := [(0, .iload_n 1, 1, 1), (1, .iconst 1, 1, 0), (2, .bipush 20, 2, 0), (4, .invokestatic 78, 3, 0), (7, .ifCond .eq 14, 3, 21), (10, .iload_n 2, 1, 2), (11, .iconst 1, 1, 0), (12, .ldc_w 273, 3, 2147483646), (15, .invokestatic 78, 3, 0), (18, .ifCond .ne 5, 3, 23), (21, .iconst (-1), 1, 0), (22, .ireturn, 1, 0), (23, .aload_n 0, 1, 0), (24, .getfield 75, 3, 1017), (27, .ifCond .ne 6, 3, 33), (30, .bipush (-4), 2, 0), (32, .ireturn, 1, 0), (33, .aload_n 0, 1, 0), (34, .getfield 143, 3, 1025), (37, .iload_n 1, 1, 1), (38, .iadd, 1, 0), (39, .bipush 40, 2, 0), (41, .if_icmp .le 6, 3, 47), (44, .bipush (-2), 2, 0), (46, .ireturn, 1, 0), (47, .iload_n 2, 1, 2), (48, .i2l, 1, 0), (49, .lstore_n 3, 1, 3), (50, .iconst 0, 1, 0), (51, .istore 5, 2, 5), (53, .iload 5, 2, 5), (55, .iload_n 1, 1, 1), (56, .if_icmp .ge 109, 3, 165), (59, .lload_n 3, 1, 3), (60, .ldc2_w 274, 3, 48271), (63, .lmul, 1, 0), (64, .ldc2_w 276, 3, 2147483647), (67, .lrem, 1, 0), (68, .lstore_n 3, 1, 3), (69, .aload_n 0, 1, 0), (70, .invokevirtual 199, 3, 0), (73, .lload_n 3, 1, 3), (74, .ldc2_w 278, 3, 4), (77, .lrem, 1, 0), (78, .l2i, 1, 0), (79, .istore 6, 2, 6), (81, .lload_n 3, 1, 3), (82, .ldc2_w 280, 3, 8), (85, .ldiv, 1, 0), (86, .aload_n 0, 1, 0), (87, .getfield 75, 3, 1017), (90, .i2l, 1, 0), (91, .lrem, 1, 0), (92, .l2i, 1, 0), (93, .istore 7, 2, 7), (95, .iload 6, 2, 6), (97, .iconst 2, 1, 0), (98, .if_icmp .ge 15, 3, 113), (101, .aload_n 0, 1, 0), (102, .aload_n 0, 1, 0), (103, .getfield 47, 3, 1022), (106, .invokevirtual 213, 3, 0), (109, .pop, 1, 0), (110, .goto 49, 3, 159), (113, .iload 6, 2, 6), (115, .iconst 2, 1, 0), (116, .if_icmp .ne 32, 3, 148), (119, .aload_n 0, 1, 0), (120, .aload_n 0, 1, 0), (121, .getfield 47, 3, 1022), (124, .iload 7, 2, 7), (126, .aload_n 0, 1, 0), (127, .getfield 47, 3, 1022), (130, .iconst 4, 1, 0), (131, .iload 7, 2, 7), (133, .iadd, 1, 0), (134, .iaload, 1, 0), (135, .iconst 1, 1, 0), (136, .iadd, 1, 0), (137, .aload_n 0, 1, 0), (138, .getfield 82, 3, 1016), (141, .irem, 1, 0), (142, .invokevirtual 202, 3, 0), (145, .goto 14, 3, 159), (148, .aload_n 0, 1, 0), (149, .getfield 47, 3, 1022), (152, .bipush 10, 2, 0), (154, .iload 7, 2, 7), (156, .iadd, 1, 0), (157, .iconst 2, 1, 0), (158, .iastore, 1, 0), (159, .iinc 5 1, 3, 5), (162, .goto (-109), 3, 53), (165, .aload_n 0, 1, 0), (166, .getfield 47, 3, 1022), (169, .bipush 24, 2, 0), (171, .iaload, 1, 0), (172, .ireturn, 1, 0)]
theorem rc_X10_lots_ok : rf_rc mX10_lots rc_X10_lots = true := by decide +kernel
theorem mw_X10_lots : rf_mw mX10_lots := ⟨rf_mt_ok _ (List.mem_of_getElem? (i := 235) rfl), fun h => absurd h (by decide), fun _ => ⟨rf_mi_ok _ (List.mem_of_getElem? (i := 213) rfl), rf_mv_ok _ (List.mem_of_getElem? (i := 213) rfl)⟩, rf_mq_9 _ (List.mem_of_getElem? (i := 10) rfl)⟩
def f_X10_lots_j159 (l1 : Int32) (l3 : Int64) (l5 : Int32) (σ : rf_S) : Option ((Int64 × Int32 × rf_S) ⊕ (rf_S)) := some (.inl (l3, (l5 + 1), σ))
set_option maxHeartbeats 2000000 in
theorem ok_X10_lots_j159 (d : Nat) (l1 : Int32) (l3 : Int64) (l5 : Int32) (σ : rf_S) (o : ((Int64 × Int32 × rf_S) ⊕ (rf_S))) (h : f_X10_lots_j159 l1 l3 l5 σ = some o) {r : Option Value} {σr : rf_S} (kl : ∀ s', o = .inl s' → rf_G ly1 (d + 2) mX10_lots (53, [some (.ref 0), some (.int l1), none, some (.long s'.1), none, some (.int s'.2.1), none, none], [], s'.2.2) r σr) (kx : ∀ e, o = .inr e → rf_G ly1 (d + 2) mX10_lots (165, [some (.ref 0), none, none, none, none, none, none, none], [], e) r σr) : rf_G ly1 (d + 2) mX10_lots (159, [some (.ref 0), some (.int l1), none, some (.long l3), none, some (.int l5), none, none], [], σ) r σr := by
  unfold f_X10_lots_j159 at h
  refine rf_b wf1 rc_X10_lots_ok 91 2 (53, [some (.ref 0), some (.int l1), none, some (.long l3), none, some (.int (l5 + 1)), none, none], [], σ) rfl ?_
  exact kl (l3, (l5 + 1), σ) (Option.some.inj h).symm
def f_X10_lots_b53 (l1 : Int32) (s53 : Int64 × Int32 × rf_S) : Option ((Int64 × Int32 × rf_S) ⊕ (rf_S)) := if l1 ≤ s53.2.1 then (some (.inr s53.2.2)) else ((f_X10_note s53.2.2).bind (fun q11 => if ((q11.1 0 17).toInt64) = 0 then none else (if 2 ≤ ((((s53.1 * 48271) - (s53.1 * 48271) / 2147483647 * 2147483647) - ((s53.1 * 48271) - (s53.1 * 48271) / 2147483647 * 2147483647) / 4 * 4).toInt32) then (if ((((s53.1 * 48271) - (s53.1 * 48271) / 2147483647 * 2147483647) - ((s53.1 * 48271) - (s53.1 * 48271) / 2147483647 * 2147483647) / 4 * 4).toInt32) ≠ 2 then (if rf_ck ly1 0 12 (10 + (((((s53.1 * 48271) - (s53.1 * 48271) / 2147483647 * 2147483647) / 8) - (((s53.1 * 48271) - (s53.1 * 48271) / 2147483647 * 2147483647) / 8) / ((q11.1 0 17).toInt64) * ((q11.1 0 17).toInt64)).toInt32)) = true then (f_X10_lots_j159 l1 ((s53.1 * 48271) - (s53.1 * 48271) / 2147483647 * 2147483647) s53.2.1 (rf_sI q11 12 (10 + (((((s53.1 * 48271) - (s53.1 * 48271) / 2147483647 * 2147483647) / 8) - (((s53.1 * 48271) - (s53.1 * 48271) / 2147483647 * 2147483647) / 8) / ((q11.1 0 17).toInt64) * ((q11.1 0 17).toInt64)).toInt32)).toNatClampNeg 2)) else none) else (if rf_ck ly1 0 12 (4 + (((((s53.1 * 48271) - (s53.1 * 48271) / 2147483647 * 2147483647) / 8) - (((s53.1 * 48271) - (s53.1 * 48271) / 2147483647 * 2147483647) / 8) / ((q11.1 0 17).toInt64) * ((q11.1 0 17).toInt64)).toInt32)) = true then (if (q11.1 0 16) = 0 then none else ((f_X10_step 12 (((((s53.1 * 48271) - (s53.1 * 48271) / 2147483647 * 2147483647) / 8) - (((s53.1 * 48271) - (s53.1 * 48271) / 2147483647 * 2147483647) / 8) / ((q11.1 0 17).toInt64) * ((q11.1 0 17).toInt64)).toInt32) (((q11.1 12 (4 + (((((s53.1 * 48271) - (s53.1 * 48271) / 2147483647 * 2147483647) / 8) - (((s53.1 * 48271) - (s53.1 * 48271) / 2147483647 * 2147483647) / 8) / ((q11.1 0 17).toInt64) * ((q11.1 0 17).toInt64)).toInt32)).toNatClampNeg) + 1) - ((q11.1 12 (4 + (((((s53.1 * 48271) - (s53.1 * 48271) / 2147483647 * 2147483647) / 8) - (((s53.1 * 48271) - (s53.1 * 48271) / 2147483647 * 2147483647) / 8) / ((q11.1 0 17).toInt64) * ((q11.1 0 17).toInt64)).toInt32)).toNatClampNeg) + 1) / (q11.1 0 16) * (q11.1 0 16)) q11).bind (fun q21 => f_X10_lots_j159 l1 ((s53.1 * 48271) - (s53.1 * 48271) / 2147483647 * 2147483647) s53.2.1 q21))) else none)) else ((f_X10_pass 12 q11).bind (fun q23 => f_X10_lots_j159 l1 ((s53.1 * 48271) - (s53.1 * 48271) / 2147483647 * 2147483647) s53.2.1 q23.2)))))
set_option maxHeartbeats 2000000 in
theorem ok_X10_lots_b53 (d : Nat) (l1 : Int32) (s53 : Int64 × Int32 × rf_S) (o : ((Int64 × Int32 × rf_S) ⊕ (rf_S))) (h : f_X10_lots_b53 l1 s53 = some o) {r : Option Value} {σr : rf_S} (kl : ∀ s', o = .inl s' → rf_G ly1 (d + 2) mX10_lots (53, [some (.ref 0), some (.int l1), none, some (.long s'.1), none, some (.int s'.2.1), none, none], [], s'.2.2) r σr) (kx : ∀ e, o = .inr e → rf_G ly1 (d + 2) mX10_lots (165, [some (.ref 0), none, none, none, none, none, none, none], [], e) r σr) : rf_G ly1 (d + 2) mX10_lots (53, [some (.ref 0), some (.int l1), none, some (.long s53.1), none, some (.int s53.2.1), none, none], [], s53.2.2) r σr := by
  unfold f_X10_lots_b53 at h
  refine rf_b wf1 rc_X10_lots_ok 30 2 (56, [some (.ref 0), some (.int l1), none, some (.long s53.1), none, some (.int s53.2.1), none, none], [.int l1, .int s53.2.1], s53.2.2) rfl ?_
  by_cases c9 : l1 ≤ s53.2.1
  · rw [if_pos c9] at h
    refine rf_t wf1 rc_X10_lots_ok 32 (165, [some (.ref 0), some (.int l1), none, some (.long s53.1), none, some (.int s53.2.1), none, none], [], s53.2.2) rfl rfl c9 rfl ?_
    refine rf_fg [true, false, true, false, true, false, true, true] [some (.ref 0), none, none, none, none, none, none, none] rfl ?_
    exact kx s53.2.2 (Option.some.inj h).symm
  · rw [if_neg c9] at h
    refine rf_f wf1 rc_X10_lots_ok 32 (59, [some (.ref 0), some (.int l1), none, some (.long s53.1), none, some (.int s53.2.1), none, none], [], s53.2.2) rfl rfl c9 rfl ?_
    refine rf_b wf1 rc_X10_lots_ok 33 4 (67, [some (.ref 0), some (.int l1), none, some (.long s53.1), none, some (.int s53.2.1), none, none], [.long 2147483647, .long (s53.1 * 48271)], s53.2.2) rfl ?_
    refine rf_nz wf1 rc_X10_lots_ok 37 (68, [some (.ref 0), some (.int l1), none, some (.long s53.1), none, some (.int s53.2.1), none, none], [.long ((s53.1 * 48271) - (s53.1 * 48271) / 2147483647 * 2147483647)], s53.2.2) rfl rfl (c := (2147483647 : Int64) = 0) (by decide) rfl ?_
    refine rf_b wf1 rc_X10_lots_ok 38 2 (70, [some (.ref 0), some (.int l1), none, some (.long ((s53.1 * 48271) - (s53.1 * 48271) / 2147483647 * 2147483647)), none, some (.int s53.2.1), none, none], [.ref 0], s53.2.2) rfl ?_
    obtain ⟨q11, h12, h⟩ := Option.bind_eq_some_iff.mp h
    refine rf_cv1 (Mt := mX10_note) wf1 rc_X10_lots_ok 40 false rfl (List.mem_of_getElem? (i := 172) rfl) mw_X10_note rfl 0 [] [] rfl rfl rfl (Nat.le_of_ble_eq_true rfl) (ok_X10_note d  s53.2.2 q11 h12) ?_
    show rf_G _ _ _ (73, [some (.ref 0), some (.int l1), none, some (.long ((s53.1 * 48271) - (s53.1 * 48271) / 2147483647 * 2147483647)), none, some (.int s53.2.1), none, none], [], q11) _ _
    refine rf_b wf1 rc_X10_lots_ok 41 2 (77, [some (.ref 0), some (.int l1), none, some (.long ((s53.1 * 48271) - (s53.1 * 48271) / 2147483647 * 2147483647)), none, some (.int s53.2.1), none, none], [.long 4, .long ((s53.1 * 48271) - (s53.1 * 48271) / 2147483647 * 2147483647)], q11) rfl ?_
    refine rf_nz wf1 rc_X10_lots_ok 43 (78, [some (.ref 0), some (.int l1), none, some (.long ((s53.1 * 48271) - (s53.1 * 48271) / 2147483647 * 2147483647)), none, some (.int s53.2.1), none, none], [.long (((s53.1 * 48271) - (s53.1 * 48271) / 2147483647 * 2147483647) - ((s53.1 * 48271) - (s53.1 * 48271) / 2147483647 * 2147483647) / 4 * 4)], q11) rfl rfl (c := (4 : Int64) = 0) (by decide) rfl ?_
    refine rf_b wf1 rc_X10_lots_ok 44 4 (85, [some (.ref 0), some (.int l1), none, some (.long ((s53.1 * 48271) - (s53.1 * 48271) / 2147483647 * 2147483647)), none, some (.int s53.2.1), some (.int ((((s53.1 * 48271) - (s53.1 * 48271) / 2147483647 * 2147483647) - ((s53.1 * 48271) - (s53.1 * 48271) / 2147483647 * 2147483647) / 4 * 4).toInt32)), none], [.long 8, .long ((s53.1 * 48271) - (s53.1 * 48271) / 2147483647 * 2147483647)], q11) rfl ?_
    refine rf_nz wf1 rc_X10_lots_ok 48 (86, [some (.ref 0), some (.int l1), none, some (.long ((s53.1 * 48271) - (s53.1 * 48271) / 2147483647 * 2147483647)), none, some (.int s53.2.1), some (.int ((((s53.1 * 48271) - (s53.1 * 48271) / 2147483647 * 2147483647) - ((s53.1 * 48271) - (s53.1 * 48271) / 2147483647 * 2147483647) / 4 * 4).toInt32)), none], [.long (((s53.1 * 48271) - (s53.1 * 48271) / 2147483647 * 2147483647) / 8)], q11) rfl rfl (c := (8 : Int64) = 0) (by decide) rfl ?_
    refine rf_b wf1 rc_X10_lots_ok 49 3 (91, [some (.ref 0), some (.int l1), none, some (.long ((s53.1 * 48271) - (s53.1 * 48271) / 2147483647 * 2147483647)), none, some (.int s53.2.1), some (.int ((((s53.1 * 48271) - (s53.1 * 48271) / 2147483647 * 2147483647) - ((s53.1 * 48271) - (s53.1 * 48271) / 2147483647 * 2147483647) / 4 * 4).toInt32)), none], [.long ((q11.1 0 17).toInt64), .long (((s53.1 * 48271) - (s53.1 * 48271) / 2147483647 * 2147483647) / 8)], q11) rfl ?_
    obtain ⟨g15, h⟩ := rf_ifz h
    refine rf_nz wf1 rc_X10_lots_ok 52 (92, [some (.ref 0), some (.int l1), none, some (.long ((s53.1 * 48271) - (s53.1 * 48271) / 2147483647 * 2147483647)), none, some (.int s53.2.1), some (.int ((((s53.1 * 48271) - (s53.1 * 48271) / 2147483647 * 2147483647) - ((s53.1 * 48271) - (s53.1 * 48271) / 2147483647 * 2147483647) / 4 * 4).toInt32)), none], [.long ((((s53.1 * 48271) - (s53.1 * 48271) / 2147483647 * 2147483647) / 8) - (((s53.1 * 48271) - (s53.1 * 48271) / 2147483647 * 2147483647) / 8) / ((q11.1 0 17).toInt64) * ((q11.1 0 17).toInt64))], q11) rfl rfl g15 rfl ?_
    refine rf_b wf1 rc_X10_lots_ok 53 4 (98, [some (.ref 0), some (.int l1), none, some (.long ((s53.1 * 48271) - (s53.1 * 48271) / 2147483647 * 2147483647)), none, some (.int s53.2.1), some (.int ((((s53.1 * 48271) - (s53.1 * 48271) / 2147483647 * 2147483647) - ((s53.1 * 48271) - (s53.1 * 48271) / 2147483647 * 2147483647) / 4 * 4).toInt32)), some (.int (((((s53.1 * 48271) - (s53.1 * 48271) / 2147483647 * 2147483647) / 8) - (((s53.1 * 48271) - (s53.1 * 48271) / 2147483647 * 2147483647) / 8) / ((q11.1 0 17).toInt64) * ((q11.1 0 17).toInt64)).toInt32))], [.int 2, .int ((((s53.1 * 48271) - (s53.1 * 48271) / 2147483647 * 2147483647) - ((s53.1 * 48271) - (s53.1 * 48271) / 2147483647 * 2147483647) / 4 * 4).toInt32)], q11) rfl ?_
    by_cases c16 : 2 ≤ ((((s53.1 * 48271) - (s53.1 * 48271) / 2147483647 * 2147483647) - ((s53.1 * 48271) - (s53.1 * 48271) / 2147483647 * 2147483647) / 4 * 4).toInt32)
    · rw [if_pos c16] at h
      refine rf_t wf1 rc_X10_lots_ok 57 (113, [some (.ref 0), some (.int l1), none, some (.long ((s53.1 * 48271) - (s53.1 * 48271) / 2147483647 * 2147483647)), none, some (.int s53.2.1), some (.int ((((s53.1 * 48271) - (s53.1 * 48271) / 2147483647 * 2147483647) - ((s53.1 * 48271) - (s53.1 * 48271) / 2147483647 * 2147483647) / 4 * 4).toInt32)), some (.int (((((s53.1 * 48271) - (s53.1 * 48271) / 2147483647 * 2147483647) / 8) - (((s53.1 * 48271) - (s53.1 * 48271) / 2147483647 * 2147483647) / 8) / ((q11.1 0 17).toInt64) * ((q11.1 0 17).toInt64)).toInt32))], [], q11) rfl rfl c16 rfl ?_
      refine rf_b wf1 rc_X10_lots_ok 64 2 (116, [some (.ref 0), some (.int l1), none, some (.long ((s53.1 * 48271) - (s53.1 * 48271) / 2147483647 * 2147483647)), none, some (.int s53.2.1), some (.int ((((s53.1 * 48271) - (s53.1 * 48271) / 2147483647 * 2147483647) - ((s53.1 * 48271) - (s53.1 * 48271) / 2147483647 * 2147483647) / 4 * 4).toInt32)), some (.int (((((s53.1 * 48271) - (s53.1 * 48271) / 2147483647 * 2147483647) / 8) - (((s53.1 * 48271) - (s53.1 * 48271) / 2147483647 * 2147483647) / 8) / ((q11.1 0 17).toInt64) * ((q11.1 0 17).toInt64)).toInt32))], [.int 2, .int ((((s53.1 * 48271) - (s53.1 * 48271) / 2147483647 * 2147483647) - ((s53.1 * 48271) - (s53.1 * 48271) / 2147483647 * 2147483647) / 4 * 4).toInt32)], q11) rfl ?_
      by_cases c17 : ((((s53.1 * 48271) - (s53.1 * 48271) / 2147483647 * 2147483647) - ((s53.1 * 48271) - (s53.1 * 48271) / 2147483647 * 2147483647) / 4 * 4).toInt32) ≠ 2
      · rw [if_pos c17] at h
        refine rf_t wf1 rc_X10_lots_ok 66 (148, [some (.ref 0), some (.int l1), none, some (.long ((s53.1 * 48271) - (s53.1 * 48271) / 2147483647 * 2147483647)), none, some (.int s53.2.1), some (.int ((((s53.1 * 48271) - (s53.1 * 48271) / 2147483647 * 2147483647) - ((s53.1 * 48271) - (s53.1 * 48271) / 2147483647 * 2147483647) / 4 * 4).toInt32)), some (.int (((((s53.1 * 48271) - (s53.1 * 48271) / 2147483647 * 2147483647) / 8) - (((s53.1 * 48271) - (s53.1 * 48271) / 2147483647 * 2147483647) / 8) / ((q11.1 0 17).toInt64) * ((q11.1 0 17).toInt64)).toInt32))], [], q11) rfl rfl c17 rfl ?_
        refine rf_b wf1 rc_X10_lots_ok 84 6 (158, [some (.ref 0), some (.int l1), none, some (.long ((s53.1 * 48271) - (s53.1 * 48271) / 2147483647 * 2147483647)), none, some (.int s53.2.1), some (.int ((((s53.1 * 48271) - (s53.1 * 48271) / 2147483647 * 2147483647) - ((s53.1 * 48271) - (s53.1 * 48271) / 2147483647 * 2147483647) / 4 * 4).toInt32)), some (.int (((((s53.1 * 48271) - (s53.1 * 48271) / 2147483647 * 2147483647) / 8) - (((s53.1 * 48271) - (s53.1 * 48271) / 2147483647 * 2147483647) / 8) / ((q11.1 0 17).toInt64) * ((q11.1 0 17).toInt64)).toInt32))], [.int 2, .int (10 + (((((s53.1 * 48271) - (s53.1 * 48271) / 2147483647 * 2147483647) / 8) - (((s53.1 * 48271) - (s53.1 * 48271) / 2147483647 * 2147483647) / 8) / ((q11.1 0 17).toInt64) * ((q11.1 0 17).toInt64)).toInt32)), .ref 12], q11) rfl ?_
        obtain ⟨g18, h⟩ := rf_ifn h
        refine rf_gd wf1 rc_X10_lots_ok 90 (159, [some (.ref 0), some (.int l1), none, some (.long ((s53.1 * 48271) - (s53.1 * 48271) / 2147483647 * 2147483647)), none, some (.int s53.2.1), some (.int ((((s53.1 * 48271) - (s53.1 * 48271) / 2147483647 * 2147483647) - ((s53.1 * 48271) - (s53.1 * 48271) / 2147483647 * 2147483647) / 4 * 4).toInt32)), some (.int (((((s53.1 * 48271) - (s53.1 * 48271) / 2147483647 * 2147483647) / 8) - (((s53.1 * 48271) - (s53.1 * 48271) / 2147483647 * 2147483647) / 8) / ((q11.1 0 17).toInt64) * ((q11.1 0 17).toInt64)).toInt32))], [], (rf_sI q11 12 (10 + (((((s53.1 * 48271) - (s53.1 * 48271) / 2147483647 * 2147483647) / 8) - (((s53.1 * 48271) - (s53.1 * 48271) / 2147483647 * 2147483647) / 8) / ((q11.1 0 17).toInt64) * ((q11.1 0 17).toInt64)).toInt32)).toNatClampNeg 2)) rfl rfl g18 rfl ?_
        refine rf_fg [true, true, true, true, true, true, false, false] [some (.ref 0), some (.int l1), none, some (.long ((s53.1 * 48271) - (s53.1 * 48271) / 2147483647 * 2147483647)), none, some (.int s53.2.1), none, none] rfl ?_
        exact ok_X10_lots_j159 d l1 ((s53.1 * 48271) - (s53.1 * 48271) / 2147483647 * 2147483647) s53.2.1 (rf_sI q11 12 (10 + (((((s53.1 * 48271) - (s53.1 * 48271) / 2147483647 * 2147483647) / 8) - (((s53.1 * 48271) - (s53.1 * 48271) / 2147483647 * 2147483647) / 8) / ((q11.1 0 17).toInt64) * ((q11.1 0 17).toInt64)).toInt32)).toNatClampNeg 2) o h kl kx
      · rw [if_neg c17] at h
        refine rf_f wf1 rc_X10_lots_ok 66 (119, [some (.ref 0), some (.int l1), none, some (.long ((s53.1 * 48271) - (s53.1 * 48271) / 2147483647 * 2147483647)), none, some (.int s53.2.1), some (.int ((((s53.1 * 48271) - (s53.1 * 48271) / 2147483647 * 2147483647) - ((s53.1 * 48271) - (s53.1 * 48271) / 2147483647 * 2147483647) / 4 * 4).toInt32)), some (.int (((((s53.1 * 48271) - (s53.1 * 48271) / 2147483647 * 2147483647) / 8) - (((s53.1 * 48271) - (s53.1 * 48271) / 2147483647 * 2147483647) / 8) / ((q11.1 0 17).toInt64) * ((q11.1 0 17).toInt64)).toInt32))], [], q11) rfl rfl c17 rfl ?_
        refine rf_b wf1 rc_X10_lots_ok 67 9 (134, [some (.ref 0), some (.int l1), none, some (.long ((s53.1 * 48271) - (s53.1 * 48271) / 2147483647 * 2147483647)), none, some (.int s53.2.1), some (.int ((((s53.1 * 48271) - (s53.1 * 48271) / 2147483647 * 2147483647) - ((s53.1 * 48271) - (s53.1 * 48271) / 2147483647 * 2147483647) / 4 * 4).toInt32)), some (.int (((((s53.1 * 48271) - (s53.1 * 48271) / 2147483647 * 2147483647) / 8) - (((s53.1 * 48271) - (s53.1 * 48271) / 2147483647 * 2147483647) / 8) / ((q11.1 0 17).toInt64) * ((q11.1 0 17).toInt64)).toInt32))], [.int (4 + (((((s53.1 * 48271) - (s53.1 * 48271) / 2147483647 * 2147483647) / 8) - (((s53.1 * 48271) - (s53.1 * 48271) / 2147483647 * 2147483647) / 8) / ((q11.1 0 17).toInt64) * ((q11.1 0 17).toInt64)).toInt32)), .ref 12, .int (((((s53.1 * 48271) - (s53.1 * 48271) / 2147483647 * 2147483647) / 8) - (((s53.1 * 48271) - (s53.1 * 48271) / 2147483647 * 2147483647) / 8) / ((q11.1 0 17).toInt64) * ((q11.1 0 17).toInt64)).toInt32), .ref 12, .ref 0], q11) rfl ?_
        obtain ⟨g19, h⟩ := rf_ifn h
        refine rf_gd wf1 rc_X10_lots_ok 76 (135, [some (.ref 0), some (.int l1), none, some (.long ((s53.1 * 48271) - (s53.1 * 48271) / 2147483647 * 2147483647)), none, some (.int s53.2.1), some (.int ((((s53.1 * 48271) - (s53.1 * 48271) / 2147483647 * 2147483647) - ((s53.1 * 48271) - (s53.1 * 48271) / 2147483647 * 2147483647) / 4 * 4).toInt32)), some (.int (((((s53.1 * 48271) - (s53.1 * 48271) / 2147483647 * 2147483647) / 8) - (((s53.1 * 48271) - (s53.1 * 48271) / 2147483647 * 2147483647) / 8) / ((q11.1 0 17).toInt64) * ((q11.1 0 17).toInt64)).toInt32))], [.int (q11.1 12 (4 + (((((s53.1 * 48271) - (s53.1 * 48271) / 2147483647 * 2147483647) / 8) - (((s53.1 * 48271) - (s53.1 * 48271) / 2147483647 * 2147483647) / 8) / ((q11.1 0 17).toInt64) * ((q11.1 0 17).toInt64)).toInt32)).toNatClampNeg), .int (((((s53.1 * 48271) - (s53.1 * 48271) / 2147483647 * 2147483647) / 8) - (((s53.1 * 48271) - (s53.1 * 48271) / 2147483647 * 2147483647) / 8) / ((q11.1 0 17).toInt64) * ((q11.1 0 17).toInt64)).toInt32), .ref 12, .ref 0], q11) rfl rfl g19 rfl ?_
        refine rf_b wf1 rc_X10_lots_ok 77 4 (141, [some (.ref 0), some (.int l1), none, some (.long ((s53.1 * 48271) - (s53.1 * 48271) / 2147483647 * 2147483647)), none, some (.int s53.2.1), some (.int ((((s53.1 * 48271) - (s53.1 * 48271) / 2147483647 * 2147483647) - ((s53.1 * 48271) - (s53.1 * 48271) / 2147483647 * 2147483647) / 4 * 4).toInt32)), some (.int (((((s53.1 * 48271) - (s53.1 * 48271) / 2147483647 * 2147483647) / 8) - (((s53.1 * 48271) - (s53.1 * 48271) / 2147483647 * 2147483647) / 8) / ((q11.1 0 17).toInt64) * ((q11.1 0 17).toInt64)).toInt32))], [.int (q11.1 0 16), .int ((q11.1 12 (4 + (((((s53.1 * 48271) - (s53.1 * 48271) / 2147483647 * 2147483647) / 8) - (((s53.1 * 48271) - (s53.1 * 48271) / 2147483647 * 2147483647) / 8) / ((q11.1 0 17).toInt64) * ((q11.1 0 17).toInt64)).toInt32)).toNatClampNeg) + 1), .int (((((s53.1 * 48271) - (s53.1 * 48271) / 2147483647 * 2147483647) / 8) - (((s53.1 * 48271) - (s53.1 * 48271) / 2147483647 * 2147483647) / 8) / ((q11.1 0 17).toInt64) * ((q11.1 0 17).toInt64)).toInt32), .ref 12, .ref 0], q11) rfl ?_
        obtain ⟨g20, h⟩ := rf_ifz h
        refine rf_nz wf1 rc_X10_lots_ok 81 (142, [some (.ref 0), some (.int l1), none, some (.long ((s53.1 * 48271) - (s53.1 * 48271) / 2147483647 * 2147483647)), none, some (.int s53.2.1), some (.int ((((s53.1 * 48271) - (s53.1 * 48271) / 2147483647 * 2147483647) - ((s53.1 * 48271) - (s53.1 * 48271) / 2147483647 * 2147483647) / 4 * 4).toInt32)), some (.int (((((s53.1 * 48271) - (s53.1 * 48271) / 2147483647 * 2147483647) / 8) - (((s53.1 * 48271) - (s53.1 * 48271) / 2147483647 * 2147483647) / 8) / ((q11.1 0 17).toInt64) * ((q11.1 0 17).toInt64)).toInt32))], [.int (((q11.1 12 (4 + (((((s53.1 * 48271) - (s53.1 * 48271) / 2147483647 * 2147483647) / 8) - (((s53.1 * 48271) - (s53.1 * 48271) / 2147483647 * 2147483647) / 8) / ((q11.1 0 17).toInt64) * ((q11.1 0 17).toInt64)).toInt32)).toNatClampNeg) + 1) - ((q11.1 12 (4 + (((((s53.1 * 48271) - (s53.1 * 48271) / 2147483647 * 2147483647) / 8) - (((s53.1 * 48271) - (s53.1 * 48271) / 2147483647 * 2147483647) / 8) / ((q11.1 0 17).toInt64) * ((q11.1 0 17).toInt64)).toInt32)).toNatClampNeg) + 1) / (q11.1 0 16) * (q11.1 0 16)), .int (((((s53.1 * 48271) - (s53.1 * 48271) / 2147483647 * 2147483647) / 8) - (((s53.1 * 48271) - (s53.1 * 48271) / 2147483647 * 2147483647) / 8) / ((q11.1 0 17).toInt64) * ((q11.1 0 17).toInt64)).toInt32), .ref 12, .ref 0], q11) rfl rfl g20 rfl ?_
        obtain ⟨q21, h22, h⟩ := Option.bind_eq_some_iff.mp h
        refine rf_cv1 (Mt := mX10_step) wf1 rc_X10_lots_ok 82 false rfl (List.mem_of_getElem? (i := 173) rfl) mw_X10_step rfl 0 [.ref 12, .int (((((s53.1 * 48271) - (s53.1 * 48271) / 2147483647 * 2147483647) / 8) - (((s53.1 * 48271) - (s53.1 * 48271) / 2147483647 * 2147483647) / 8) / ((q11.1 0 17).toInt64) * ((q11.1 0 17).toInt64)).toInt32), .int (((q11.1 12 (4 + (((((s53.1 * 48271) - (s53.1 * 48271) / 2147483647 * 2147483647) / 8) - (((s53.1 * 48271) - (s53.1 * 48271) / 2147483647 * 2147483647) / 8) / ((q11.1 0 17).toInt64) * ((q11.1 0 17).toInt64)).toInt32)).toNatClampNeg) + 1) - ((q11.1 12 (4 + (((((s53.1 * 48271) - (s53.1 * 48271) / 2147483647 * 2147483647) / 8) - (((s53.1 * 48271) - (s53.1 * 48271) / 2147483647 * 2147483647) / 8) / ((q11.1 0 17).toInt64) * ((q11.1 0 17).toInt64)).toInt32)).toNatClampNeg) + 1) / (q11.1 0 16) * (q11.1 0 16))] [] rfl rfl rfl (Nat.le_of_ble_eq_true rfl) (ok_X10_step (d + 1) 12 (((((s53.1 * 48271) - (s53.1 * 48271) / 2147483647 * 2147483647) / 8) - (((s53.1 * 48271) - (s53.1 * 48271) / 2147483647 * 2147483647) / 8) / ((q11.1 0 17).toInt64) * ((q11.1 0 17).toInt64)).toInt32) (((q11.1 12 (4 + (((((s53.1 * 48271) - (s53.1 * 48271) / 2147483647 * 2147483647) / 8) - (((s53.1 * 48271) - (s53.1 * 48271) / 2147483647 * 2147483647) / 8) / ((q11.1 0 17).toInt64) * ((q11.1 0 17).toInt64)).toInt32)).toNatClampNeg) + 1) - ((q11.1 12 (4 + (((((s53.1 * 48271) - (s53.1 * 48271) / 2147483647 * 2147483647) / 8) - (((s53.1 * 48271) - (s53.1 * 48271) / 2147483647 * 2147483647) / 8) / ((q11.1 0 17).toInt64) * ((q11.1 0 17).toInt64)).toInt32)).toNatClampNeg) + 1) / (q11.1 0 16) * (q11.1 0 16)) q11 q21 h22) ?_
        show rf_G _ _ _ (145, [some (.ref 0), some (.int l1), none, some (.long ((s53.1 * 48271) - (s53.1 * 48271) / 2147483647 * 2147483647)), none, some (.int s53.2.1), some (.int ((((s53.1 * 48271) - (s53.1 * 48271) / 2147483647 * 2147483647) - ((s53.1 * 48271) - (s53.1 * 48271) / 2147483647 * 2147483647) / 4 * 4).toInt32)), some (.int (((((s53.1 * 48271) - (s53.1 * 48271) / 2147483647 * 2147483647) / 8) - (((s53.1 * 48271) - (s53.1 * 48271) / 2147483647 * 2147483647) / 8) / ((q11.1 0 17).toInt64) * ((q11.1 0 17).toInt64)).toInt32))], [], q21) _ _
        refine rf_b wf1 rc_X10_lots_ok 83 1 (159, [some (.ref 0), some (.int l1), none, some (.long ((s53.1 * 48271) - (s53.1 * 48271) / 2147483647 * 2147483647)), none, some (.int s53.2.1), some (.int ((((s53.1 * 48271) - (s53.1 * 48271) / 2147483647 * 2147483647) - ((s53.1 * 48271) - (s53.1 * 48271) / 2147483647 * 2147483647) / 4 * 4).toInt32)), some (.int (((((s53.1 * 48271) - (s53.1 * 48271) / 2147483647 * 2147483647) / 8) - (((s53.1 * 48271) - (s53.1 * 48271) / 2147483647 * 2147483647) / 8) / ((q11.1 0 17).toInt64) * ((q11.1 0 17).toInt64)).toInt32))], [], q21) rfl ?_
        refine rf_fg [true, true, true, true, true, true, false, false] [some (.ref 0), some (.int l1), none, some (.long ((s53.1 * 48271) - (s53.1 * 48271) / 2147483647 * 2147483647)), none, some (.int s53.2.1), none, none] rfl ?_
        exact ok_X10_lots_j159 d l1 ((s53.1 * 48271) - (s53.1 * 48271) / 2147483647 * 2147483647) s53.2.1 q21 o h kl kx
    · rw [if_neg c16] at h
      refine rf_f wf1 rc_X10_lots_ok 57 (101, [some (.ref 0), some (.int l1), none, some (.long ((s53.1 * 48271) - (s53.1 * 48271) / 2147483647 * 2147483647)), none, some (.int s53.2.1), some (.int ((((s53.1 * 48271) - (s53.1 * 48271) / 2147483647 * 2147483647) - ((s53.1 * 48271) - (s53.1 * 48271) / 2147483647 * 2147483647) / 4 * 4).toInt32)), some (.int (((((s53.1 * 48271) - (s53.1 * 48271) / 2147483647 * 2147483647) / 8) - (((s53.1 * 48271) - (s53.1 * 48271) / 2147483647 * 2147483647) / 8) / ((q11.1 0 17).toInt64) * ((q11.1 0 17).toInt64)).toInt32))], [], q11) rfl rfl c16 rfl ?_
      refine rf_b wf1 rc_X10_lots_ok 58 3 (106, [some (.ref 0), some (.int l1), none, some (.long ((s53.1 * 48271) - (s53.1 * 48271) / 2147483647 * 2147483647)), none, some (.int s53.2.1), some (.int ((((s53.1 * 48271) - (s53.1 * 48271) / 2147483647 * 2147483647) - ((s53.1 * 48271) - (s53.1 * 48271) / 2147483647 * 2147483647) / 4 * 4).toInt32)), some (.int (((((s53.1 * 48271) - (s53.1 * 48271) / 2147483647 * 2147483647) / 8) - (((s53.1 * 48271) - (s53.1 * 48271) / 2147483647 * 2147483647) / 8) / ((q11.1 0 17).toInt64) * ((q11.1 0 17).toInt64)).toInt32))], [.ref 12, .ref 0], q11) rfl ?_
      obtain ⟨q23, h24, h⟩ := Option.bind_eq_some_iff.mp h
      refine rf_cv1 (Mt := mX10_pass) wf1 rc_X10_lots_ok 61 false rfl (List.mem_of_getElem? (i := 176) rfl) mw_X10_pass rfl 0 [.ref 12] [] rfl rfl rfl (Nat.le_of_ble_eq_true rfl) (ok_X10_pass d 12 q11 q23 h24) ?_
      show rf_G _ _ _ (109, [some (.ref 0), some (.int l1), none, some (.long ((s53.1 * 48271) - (s53.1 * 48271) / 2147483647 * 2147483647)), none, some (.int s53.2.1), some (.int ((((s53.1 * 48271) - (s53.1 * 48271) / 2147483647 * 2147483647) - ((s53.1 * 48271) - (s53.1 * 48271) / 2147483647 * 2147483647) / 4 * 4).toInt32)), some (.int (((((s53.1 * 48271) - (s53.1 * 48271) / 2147483647 * 2147483647) / 8) - (((s53.1 * 48271) - (s53.1 * 48271) / 2147483647 * 2147483647) / 8) / ((q11.1 0 17).toInt64) * ((q11.1 0 17).toInt64)).toInt32))], [.int q23.1], q23.2) _ _
      refine rf_b wf1 rc_X10_lots_ok 62 2 (159, [some (.ref 0), some (.int l1), none, some (.long ((s53.1 * 48271) - (s53.1 * 48271) / 2147483647 * 2147483647)), none, some (.int s53.2.1), some (.int ((((s53.1 * 48271) - (s53.1 * 48271) / 2147483647 * 2147483647) - ((s53.1 * 48271) - (s53.1 * 48271) / 2147483647 * 2147483647) / 4 * 4).toInt32)), some (.int (((((s53.1 * 48271) - (s53.1 * 48271) / 2147483647 * 2147483647) / 8) - (((s53.1 * 48271) - (s53.1 * 48271) / 2147483647 * 2147483647) / 8) / ((q11.1 0 17).toInt64) * ((q11.1 0 17).toInt64)).toInt32))], [], q23.2) rfl ?_
      refine rf_fg [true, true, true, true, true, true, false, false] [some (.ref 0), some (.int l1), none, some (.long ((s53.1 * 48271) - (s53.1 * 48271) / 2147483647 * 2147483647)), none, some (.int s53.2.1), none, none] rfl ?_
      exact ok_X10_lots_j159 d l1 ((s53.1 * 48271) - (s53.1 * 48271) / 2147483647 * 2147483647) s53.2.1 q23.2 o h kl kx
def f_X10_lots (p0 : Int32) (p1 : Int32) (σ : rf_S) : Option (Int32 × rf_S) := (f_X10_in p0 1 20 σ).bind (fun q1 => if q1 = 0 then (some ((-1), σ)) else ((f_X10_in p1 1 2147483646 σ).bind (fun q4 => if q4 ≠ 0 then (if (σ.1 0 17) ≠ 0 then (if ((σ.1 0 25) + p0) ≤ 40 then ((rf_lp (f_X10_lots_b53 p0) 5000 (p1.toInt64, 0, σ)).bind (fun e25 => if rf_ck ly1 0 12 24 = true then (some ((e25.1 12 (24 : Int32).toNatClampNeg), e25)) else none)) else (some ((-2), σ))) else (some ((-4), σ))) else (some ((-1), σ)))))
set_option maxHeartbeats 2000000 in
theorem ok_X10_lots (d : Nat) (p0 : Int32) (p1 : Int32) (σ : rf_S) (q : (Int32 × rf_S)) (h : f_X10_lots p0 p1 σ = some q) : rf_Ex ly1 (d + 3) mX10_lots [.ref 0, .int p0, .int p1] σ (some (.int q.1) : Option Value) q.2 := by
  unfold f_X10_lots at h
  refine rf_ex mw_X10_lots [some (.ref 0), some (.int p0), some (.int p1), none, none, none, none, none] (Nat.le_of_ble_eq_true rfl) rfl ?_
  refine rf_b wf1 rc_X10_lots_ok 0 3 (4, [some (.ref 0), some (.int p0), some (.int p1), none, none, none, none, none], [.int 20, .int 1, .int p0], σ) rfl ?_
  obtain ⟨q1, h2, h⟩ := Option.bind_eq_some_iff.mp h
  refine rf_cs1 (Mt := mX10_in) rc_X10_lots_ok 3 false rfl (List.mem_of_getElem? (i := 143) rfl) mw_X10_in rfl [.int p0, .int 1, .int 20] [] rfl rfl (Nat.le_of_ble_eq_true rfl) (ok_X10_in (d + 1) p0 1 20 σ q1 h2) ?_
  show rf_G _ _ _ (7, [some (.ref 0), some (.int p0), some (.int p1), none, none, none, none, none], [.int q1], σ) _ _
  by_cases c3 : q1 = 0
  · rw [if_pos c3] at h
    refine rf_t wf1 rc_X10_lots_ok 4 (21, [some (.ref 0), some (.int p0), some (.int p1), none, none, none, none, none], [], σ) rfl rfl c3 rfl ?_
    refine rf_b wf1 rc_X10_lots_ok 10 1 (22, [some (.ref 0), some (.int p0), some (.int p1), none, none, none, none, none], [.int (-1)], σ) rfl ?_
    obtain rfl := Option.some.inj h
    exact rf_ri rc_X10_lots_ok 11 rfl rfl
  · rw [if_neg c3] at h
    refine rf_f wf1 rc_X10_lots_ok 4 (10, [some (.ref 0), some (.int p0), some (.int p1), none, none, none, none, none], [], σ) rfl rfl c3 rfl ?_
    refine rf_b wf1 rc_X10_lots_ok 5 3 (15, [some (.ref 0), some (.int p0), some (.int p1), none, none, none, none, none], [.int 2147483646, .int 1, .int p1], σ) rfl ?_
    obtain ⟨q4, h5, h⟩ := Option.bind_eq_some_iff.mp h
    refine rf_cs1 (Mt := mX10_in) rc_X10_lots_ok 8 false rfl (List.mem_of_getElem? (i := 143) rfl) mw_X10_in rfl [.int p1, .int 1, .int 2147483646] [] rfl rfl (Nat.le_of_ble_eq_true rfl) (ok_X10_in (d + 1) p1 1 2147483646 σ q4 h5) ?_
    show rf_G _ _ _ (18, [some (.ref 0), some (.int p0), some (.int p1), none, none, none, none, none], [.int q4], σ) _ _
    by_cases c6 : q4 ≠ 0
    · rw [if_pos c6] at h
      refine rf_t wf1 rc_X10_lots_ok 9 (23, [some (.ref 0), some (.int p0), some (.int p1), none, none, none, none, none], [], σ) rfl rfl c6 rfl ?_
      refine rf_b wf1 rc_X10_lots_ok 12 2 (27, [some (.ref 0), some (.int p0), some (.int p1), none, none, none, none, none], [.int (σ.1 0 17)], σ) rfl ?_
      by_cases c7 : (σ.1 0 17) ≠ 0
      · rw [if_pos c7] at h
        refine rf_t wf1 rc_X10_lots_ok 14 (33, [some (.ref 0), some (.int p0), some (.int p1), none, none, none, none, none], [], σ) rfl rfl c7 rfl ?_
        refine rf_b wf1 rc_X10_lots_ok 17 5 (41, [some (.ref 0), some (.int p0), some (.int p1), none, none, none, none, none], [.int 40, .int ((σ.1 0 25) + p0)], σ) rfl ?_
        by_cases c8 : ((σ.1 0 25) + p0) ≤ 40
        · rw [if_pos c8] at h
          refine rf_t wf1 rc_X10_lots_ok 22 (47, [some (.ref 0), some (.int p0), some (.int p1), none, none, none, none, none], [], σ) rfl rfl c8 rfl ?_
          refine rf_b wf1 rc_X10_lots_ok 25 5 (53, [some (.ref 0), some (.int p0), some (.int p1), some (.long p1.toInt64), none, some (.int 0), none, none], [], σ) rfl ?_
          refine rf_fg [true, true, false, true, true, true, true, true] [some (.ref 0), some (.int p0), none, some (.long p1.toInt64), none, some (.int 0), none, none] rfl ?_
          obtain ⟨e25, h26, h⟩ := Option.bind_eq_some_iff.mp h
          refine rf_lpG (b := f_X10_lots_b53 p0) (G := fun (s53 : Int64 × Int32 × rf_S) => rf_G ly1 (d + 2) mX10_lots (53, [some (.ref 0), some (.int p0), none, some (.long s53.1), none, some (.int s53.2.1), none, none], [], s53.2.2) (some (.int q.1) : Option Value) q.2) (K := fun (e : (rf_S)) => rf_G ly1 (d + 2) mX10_lots (165, [some (.ref 0), none, none, none, none, none, none, none], [], e) (some (.int q.1) : Option Value) q.2) (fun (s53 : Int64 × Int32 × rf_S) (o : (Int64 × Int32 × rf_S) ⊕ (rf_S)) hb kl kx => ok_X10_lots_b53 d p0 s53 o hb kl kx) 5000 (p1.toInt64, 0, σ) e25 h26 ?_
          show rf_G _ _ _ (165, [some (.ref 0), none, none, none, none, none, none, none], [], e25) _ _
          refine rf_b wf1 rc_X10_lots_ok 93 3 (171, [some (.ref 0), none, none, none, none, none, none, none], [.int 24, .ref 12], e25) rfl ?_
          obtain ⟨g27, h⟩ := rf_ifn h
          refine rf_gd wf1 rc_X10_lots_ok 96 (172, [some (.ref 0), none, none, none, none, none, none, none], [.int (e25.1 12 (24 : Int32).toNatClampNeg)], e25) rfl rfl g27 rfl ?_
          obtain rfl := Option.some.inj h
          exact rf_ri rc_X10_lots_ok 97 rfl rfl
        · rw [if_neg c8] at h
          refine rf_f wf1 rc_X10_lots_ok 22 (44, [some (.ref 0), some (.int p0), some (.int p1), none, none, none, none, none], [], σ) rfl rfl c8 rfl ?_
          refine rf_b wf1 rc_X10_lots_ok 23 1 (46, [some (.ref 0), some (.int p0), some (.int p1), none, none, none, none, none], [.int (-2)], σ) rfl ?_
          obtain rfl := Option.some.inj h
          exact rf_ri rc_X10_lots_ok 24 rfl rfl
      · rw [if_neg c7] at h
        refine rf_f wf1 rc_X10_lots_ok 14 (30, [some (.ref 0), some (.int p0), some (.int p1), none, none, none, none, none], [], σ) rfl rfl c7 rfl ?_
        refine rf_b wf1 rc_X10_lots_ok 15 1 (32, [some (.ref 0), some (.int p0), some (.int p1), none, none, none, none, none], [.int (-4)], σ) rfl ?_
        obtain rfl := Option.some.inj h
        exact rf_ri rc_X10_lots_ok 16 rfl rfl
    · rw [if_neg c6] at h
      refine rf_f wf1 rc_X10_lots_ok 9 (21, [some (.ref 0), some (.int p0), some (.int p1), none, none, none, none, none], [], σ) rfl rfl c6 rfl ?_
      refine rf_b wf1 rc_X10_lots_ok 10 1 (22, [some (.ref 0), some (.int p0), some (.int p1), none, none, none, none, none], [.int (-1)], σ) rfl ?_
      obtain rfl := Option.some.inj h
      exact rf_ri rc_X10_lots_ok 11 rfl rfl
def rc_X10_asked : List rf_E := [(0, .aload_n 0, 1, 0), (1, .getfield 72, 3, 1006), (4, .ireturn, 1, 0)]
theorem rc_X10_asked_ok : rf_rc mX10_asked rc_X10_asked = true := by decide +kernel
theorem mw_X10_asked : rf_mw mX10_asked := ⟨rf_mt_ok _ (List.mem_of_getElem? (i := 236) rfl), fun h => absurd h (by decide), fun _ => ⟨rf_mi_ok _ (List.mem_of_getElem? (i := 214) rfl), rf_mv_ok _ (List.mem_of_getElem? (i := 214) rfl)⟩, rf_mq_9 _ (List.mem_of_getElem? (i := 11) rfl)⟩
def f_X10_asked (σ : rf_S) : Option Int32 := some (σ.1 0 6)
set_option maxHeartbeats 2000000 in
theorem ok_X10_asked (d : Nat) (σ : rf_S) (q : Int32) (h : f_X10_asked σ = some q) : rf_Ex ly1 (d + 1) mX10_asked [.ref 0] σ (some (.int q) : Option Value) σ := by
  unfold f_X10_asked at h
  refine rf_ex mw_X10_asked [some (.ref 0)] (Nat.le_of_ble_eq_true rfl) rfl ?_
  refine rf_b wf1 rc_X10_asked_ok 0 2 (4, [some (.ref 0)], [.int (σ.1 0 6)], σ) rfl ?_
  obtain rfl := Option.some.inj h
  exact rf_ri rc_X10_asked_ok 2 rfl rfl
def rc_X10_upper : List rf_E := [(0, .aload_n 0, 1, 0), (1, .getfield 260, 3, 1007), (4, .lreturn, 1, 0)]
theorem rc_X10_upper_ok : rf_rc mX10_upper rc_X10_upper = true := by decide +kernel
theorem mw_X10_upper : rf_mw mX10_upper := ⟨rf_mt_ok _ (List.mem_of_getElem? (i := 237) rfl), fun h => absurd h (by decide), fun _ => ⟨rf_mi_ok _ (List.mem_of_getElem? (i := 215) rfl), rf_mv_ok _ (List.mem_of_getElem? (i := 215) rfl)⟩, rf_mq_9 _ (List.mem_of_getElem? (i := 12) rfl)⟩
def f_X10_upper (σ : rf_S) : Option Int64 := some (σ.2 0 7)
set_option maxHeartbeats 2000000 in
theorem ok_X10_upper (d : Nat) (σ : rf_S) (q : Int64) (h : f_X10_upper σ = some q) : rf_Ex ly1 (d + 1) mX10_upper [.ref 0] σ (some (.long q) : Option Value) σ := by
  unfold f_X10_upper at h
  refine rf_ex mw_X10_upper [some (.ref 0)] (Nat.le_of_ble_eq_true rfl) rfl ?_
  refine rf_b wf1 rc_X10_upper_ok 0 2 (4, [some (.ref 0)], [.long (σ.2 0 7)], σ) rfl ?_
  obtain rfl := Option.some.inj h
  exact rf_rl rc_X10_upper_ok 2 rfl rfl
def rc_X10_lower : List rf_E := [(0, .aload_n 0, 1, 0), (1, .getfield 25, 3, 1008), (4, .lreturn, 1, 0)]
theorem rc_X10_lower_ok : rf_rc mX10_lower rc_X10_lower = true := by decide +kernel
theorem mw_X10_lower : rf_mw mX10_lower := ⟨rf_mt_ok _ (List.mem_of_getElem? (i := 238) rfl), fun h => absurd h (by decide), fun _ => ⟨rf_mi_ok _ (List.mem_of_getElem? (i := 216) rfl), rf_mv_ok _ (List.mem_of_getElem? (i := 216) rfl)⟩, rf_mq_9 _ (List.mem_of_getElem? (i := 13) rfl)⟩
def f_X10_lower (σ : rf_S) : Option Int64 := some (σ.2 0 8)
set_option maxHeartbeats 2000000 in
theorem ok_X10_lower (d : Nat) (σ : rf_S) (q : Int64) (h : f_X10_lower σ = some q) : rf_Ex ly1 (d + 1) mX10_lower [.ref 0] σ (some (.long q) : Option Value) σ := by
  unfold f_X10_lower at h
  refine rf_ex mw_X10_lower [some (.ref 0)] (Nat.le_of_ble_eq_true rfl) rfl ?_
  refine rf_b wf1 rc_X10_lower_ok 0 2 (4, [some (.ref 0)], [.long (σ.2 0 8)], σ) rfl ?_
  obtain rfl := Option.some.inj h
  exact rf_rl rc_X10_lower_ok 2 rfl rfl
def rc_X10_thereOf : List rf_E := [(0, .iconst 0, 1, 0), (1, .istore_n 1, 1, 1), (2, .aload_n 0, 1, 0), (3, .astore_n 2, 1, 2), (4, .aload_n 2, 1, 2), (5, .arraylength, 1, 0), (6, .istore_n 3, 1, 3), (7, .iconst 0, 1, 0), (8, .istore 4, 2, 4), (10, .iload 4, 2, 4), (12, .iload_n 3, 1, 3), (13, .if_icmp .ge 28, 3, 41), (16, .aload_n 2, 1, 2), (17, .iload 4, 2, 4), (19, .iaload, 1, 0), (20, .istore 5, 2, 5), (22, .iload_n 1, 1, 1), (23, .iload 5, 2, 5), (25, .ifCond .ge 7, 3, 32), (28, .iconst 0, 1, 0), (29, .goto 4, 3, 33), (32, .iconst 1, 1, 0), (33, .iadd, 1, 0), (34, .istore_n 1, 1, 1), (35, .iinc 4 1, 3, 4), (38, .goto (-28), 3, 10), (41, .iload_n 1, 1, 1), (42, .ireturn, 1, 0)]
theorem rc_X10_thereOf_ok : rf_rc mX10_thereOf rc_X10_thereOf = true := by decide +kernel
theorem mw_X10_thereOf : rf_mw mX10_thereOf := ⟨rf_mt_ok _ (List.mem_of_getElem? (i := 239) rfl), fun _ => rf_ms_ok _ (List.mem_of_getElem? (i := 22) rfl), fun h => absurd h (by decide), rf_mq_9 _ (List.mem_of_getElem? (i := 14) rfl)⟩
def f_X10_thereOf_j33 (l2 : Nat) (l3 : Int32) (l4 : Int32) (t0 : Int32) (t1 : Int32) (σ : rf_S) : Option ((Int32 × Int32) ⊕ (Int32)) := some (.inl ((t1 + t0), (l4 + 1)))
set_option maxHeartbeats 2000000 in
theorem ok_X10_thereOf_j33 (d : Nat) (l2 : Nat) (l3 : Int32) (l4 : Int32) (t0 : Int32) (t1 : Int32) (σ : rf_S) (o : ((Int32 × Int32) ⊕ (Int32))) (h : f_X10_thereOf_j33 l2 l3 l4 t0 t1 σ = some o) {r : Option Value} {σr : rf_S} (kl : ∀ s', o = .inl s' → rf_G ly1 (d) mX10_thereOf (10, [none, some (.int s'.1), some (.ref l2), some (.int l3), some (.int s'.2), none], [], σ) r σr) (kx : ∀ e, o = .inr e → rf_G ly1 (d) mX10_thereOf (41, [none, some (.int e), none, none, none, none], [], σ) r σr) : rf_G ly1 (d) mX10_thereOf (33, [none, none, some (.ref l2), some (.int l3), some (.int l4), none], [.int t0, .int t1], σ) r σr := by
  unfold f_X10_thereOf_j33 at h
  refine rf_b wf1 rc_X10_thereOf_ok 22 4 (10, [none, some (.int (t1 + t0)), some (.ref l2), some (.int l3), some (.int (l4 + 1)), none], [], σ) rfl ?_
  exact kl ((t1 + t0), (l4 + 1)) (Option.some.inj h).symm
def f_X10_thereOf_b10 (l2 : Nat) (l3 : Int32) (σ : rf_S) (s10 : Int32 × Int32) : Option ((Int32 × Int32) ⊕ (Int32)) := if l3 ≤ s10.2 then (some (.inr s10.1)) else (if rf_ck ly1 0 l2 s10.2 = true then (if 0 ≤ (σ.1 l2 s10.2.toNatClampNeg) then (f_X10_thereOf_j33 l2 l3 s10.2 1 s10.1 σ) else (f_X10_thereOf_j33 l2 l3 s10.2 0 s10.1 σ)) else none)
set_option maxHeartbeats 2000000 in
theorem ok_X10_thereOf_b10 (d : Nat) (l2 : Nat) (l3 : Int32) (σ : rf_S) (s10 : Int32 × Int32) (o : ((Int32 × Int32) ⊕ (Int32))) (h : f_X10_thereOf_b10 l2 l3 σ s10 = some o) {r : Option Value} {σr : rf_S} (kl : ∀ s', o = .inl s' → rf_G ly1 (d) mX10_thereOf (10, [none, some (.int s'.1), some (.ref l2), some (.int l3), some (.int s'.2), none], [], σ) r σr) (kx : ∀ e, o = .inr e → rf_G ly1 (d) mX10_thereOf (41, [none, some (.int e), none, none, none, none], [], σ) r σr) : rf_G ly1 (d) mX10_thereOf (10, [none, some (.int s10.1), some (.ref l2), some (.int l3), some (.int s10.2), none], [], σ) r σr := by
  unfold f_X10_thereOf_b10 at h
  refine rf_b wf1 rc_X10_thereOf_ok 9 2 (13, [none, some (.int s10.1), some (.ref l2), some (.int l3), some (.int s10.2), none], [.int l3, .int s10.2], σ) rfl ?_
  by_cases c2 : l3 ≤ s10.2
  · rw [if_pos c2] at h
    refine rf_t wf1 rc_X10_thereOf_ok 11 (41, [none, some (.int s10.1), some (.ref l2), some (.int l3), some (.int s10.2), none], [], σ) rfl rfl c2 rfl ?_
    refine rf_fg [true, true, false, false, false, true] [none, some (.int s10.1), none, none, none, none] rfl ?_
    exact kx s10.1 (Option.some.inj h).symm
  · rw [if_neg c2] at h
    refine rf_f wf1 rc_X10_thereOf_ok 11 (16, [none, some (.int s10.1), some (.ref l2), some (.int l3), some (.int s10.2), none], [], σ) rfl rfl c2 rfl ?_
    refine rf_b wf1 rc_X10_thereOf_ok 12 2 (19, [none, some (.int s10.1), some (.ref l2), some (.int l3), some (.int s10.2), none], [.int s10.2, .ref l2], σ) rfl ?_
    obtain ⟨g3, h⟩ := rf_ifn h
    refine rf_gd wf1 rc_X10_thereOf_ok 14 (20, [none, some (.int s10.1), some (.ref l2), some (.int l3), some (.int s10.2), none], [.int (σ.1 l2 s10.2.toNatClampNeg)], σ) rfl rfl g3 rfl ?_
    refine rf_b wf1 rc_X10_thereOf_ok 15 3 (25, [none, some (.int s10.1), some (.ref l2), some (.int l3), some (.int s10.2), some (.int (σ.1 l2 s10.2.toNatClampNeg))], [.int (σ.1 l2 s10.2.toNatClampNeg), .int s10.1], σ) rfl ?_
    by_cases c4 : 0 ≤ (σ.1 l2 s10.2.toNatClampNeg)
    · rw [if_pos c4] at h
      refine rf_t wf1 rc_X10_thereOf_ok 18 (32, [none, some (.int s10.1), some (.ref l2), some (.int l3), some (.int s10.2), some (.int (σ.1 l2 s10.2.toNatClampNeg))], [.int s10.1], σ) rfl rfl c4 rfl ?_
      refine rf_b wf1 rc_X10_thereOf_ok 21 1 (33, [none, some (.int s10.1), some (.ref l2), some (.int l3), some (.int s10.2), some (.int (σ.1 l2 s10.2.toNatClampNeg))], [.int 1, .int s10.1], σ) rfl ?_
      refine rf_fg [true, false, true, true, true, false] [none, none, some (.ref l2), some (.int l3), some (.int s10.2), none] rfl ?_
      exact ok_X10_thereOf_j33 d l2 l3 s10.2 1 s10.1 σ o h kl kx
    · rw [if_neg c4] at h
      refine rf_f wf1 rc_X10_thereOf_ok 18 (28, [none, some (.int s10.1), some (.ref l2), some (.int l3), some (.int s10.2), some (.int (σ.1 l2 s10.2.toNatClampNeg))], [.int s10.1], σ) rfl rfl c4 rfl ?_
      refine rf_b wf1 rc_X10_thereOf_ok 19 2 (33, [none, some (.int s10.1), some (.ref l2), some (.int l3), some (.int s10.2), some (.int (σ.1 l2 s10.2.toNatClampNeg))], [.int 0, .int s10.1], σ) rfl ?_
      refine rf_fg [true, false, true, true, true, false] [none, none, some (.ref l2), some (.int l3), some (.int s10.2), none] rfl ?_
      exact ok_X10_thereOf_j33 d l2 l3 s10.2 0 s10.1 σ o h kl kx
def f_X10_thereOf (p0 : Nat) (σ : rf_S) : Option Int32 := if rf_isA ly1 p0 = true then ((rf_lp (f_X10_thereOf_b10 p0 (Int32.ofNat (rf_len ly1 p0)) σ) 5000 (0, 0)).bind (fun e5 => some e5)) else none
set_option maxHeartbeats 2000000 in
theorem ok_X10_thereOf (d : Nat) (p0 : Nat) (σ : rf_S) (q : Int32) (h : f_X10_thereOf p0 σ = some q) : rf_Ex ly1 (d + 1) mX10_thereOf [.ref p0] σ (some (.int q) : Option Value) σ := by
  unfold f_X10_thereOf at h
  refine rf_ex mw_X10_thereOf [some (.ref p0), none, none, none, none, none] (Nat.le_of_ble_eq_true rfl) rfl ?_
  refine rf_b wf1 rc_X10_thereOf_ok 0 5 (5, [some (.ref p0), some (.int 0), some (.ref p0), none, none, none], [.ref p0], σ) rfl ?_
  obtain ⟨g1, h⟩ := rf_ifn h
  refine rf_gd wf1 rc_X10_thereOf_ok 5 (6, [some (.ref p0), some (.int 0), some (.ref p0), none, none, none], [.int (Int32.ofNat (rf_len ly1 p0))], σ) rfl rfl g1 rfl ?_
  refine rf_b wf1 rc_X10_thereOf_ok 6 3 (10, [some (.ref p0), some (.int 0), some (.ref p0), some (.int (Int32.ofNat (rf_len ly1 p0))), some (.int 0), none], [], σ) rfl ?_
  refine rf_fg [false, true, true, true, true, true] [none, some (.int 0), some (.ref p0), some (.int (Int32.ofNat (rf_len ly1 p0))), some (.int 0), none] rfl ?_
  obtain ⟨e5, h6, h⟩ := Option.bind_eq_some_iff.mp h
  refine rf_lpG (b := f_X10_thereOf_b10 p0 (Int32.ofNat (rf_len ly1 p0)) σ) (G := fun (s10 : Int32 × Int32) => rf_G ly1 (d) mX10_thereOf (10, [none, some (.int s10.1), some (.ref p0), some (.int (Int32.ofNat (rf_len ly1 p0))), some (.int s10.2), none], [], σ) (some (.int q) : Option Value) σ) (K := fun (e : (Int32)) => rf_G ly1 (d) mX10_thereOf (41, [none, some (.int e), none, none, none, none], [], σ) (some (.int q) : Option Value) σ) (fun (s10 : Int32 × Int32) (o : (Int32 × Int32) ⊕ (Int32)) hb kl kx => ok_X10_thereOf_b10 d p0 (Int32.ofNat (rf_len ly1 p0)) σ s10 o hb kl kx) 5000 (0, 0) e5 h6 ?_
  show rf_G _ _ _ (41, [none, some (.int e5), none, none, none, none], [], σ) _ _
  refine rf_b wf1 rc_X10_thereOf_ok 26 1 (42, [none, some (.int e5), none, none, none, none], [.int e5], σ) rfl ?_
  obtain rfl := Option.some.inj h
  exact rf_ri rc_X10_thereOf_ok 27 rfl rfl
def rc_X10_count : List rf_E := [(0, .iconst 0, 1, 0), (1, .istore_n 2, 1, 2), (2, .iconst 0, 1, 0), (3, .istore_n 3, 1, 3), (4, .iload_n 3, 1, 3), (5, .aload_n 0, 1, 0), (6, .getfield 75, 3, 1017), (9, .if_icmp .ge 30, 3, 39), (12, .iload_n 2, 1, 2), (13, .aload_n 0, 1, 0), (14, .getfield 38, 3, 1019), (17, .iload_n 3, 1, 3), (18, .iaload, 1, 0), (19, .iconst 1, 1, 0), (20, .invokestatic 185, 3, 0), (23, .ifCond .eq 7, 3, 30), (26, .iconst 1, 1, 0), (27, .goto 4, 3, 31), (30, .iconst 0, 1, 0), (31, .iadd, 1, 0), (32, .istore_n 2, 1, 2), (33, .iinc 3 1, 3, 3), (36, .goto (-32), 3, 4), (39, .iload_n 1, 1, 1), (40, .tableswitch 134 0 10 #[60, 65, 70, 78, 83, 91, 99, 108, 110, 118, 126], 60, 0), (100, .aload_n 0, 1, 0), (101, .getfield 75, 3, 1017), (104, .ireturn, 1, 0), (105, .aload_n 0, 1, 0), (106, .getfield 82, 3, 1016), (109, .ireturn, 1, 0), (110, .aload_n 0, 1, 0), (111, .getfield 47, 3, 1022), (114, .bipush 22, 2, 0), (116, .iaload, 1, 0), (117, .ireturn, 1, 0), (118, .aload_n 0, 1, 0), (119, .getfield 143, 3, 1025), (122, .ireturn, 1, 0), (123, .aload_n 0, 1, 0), (124, .getfield 47, 3, 1022), (127, .bipush 24, 2, 0), (129, .iaload, 1, 0), (130, .ireturn, 1, 0), (131, .aload_n 0, 1, 0), (132, .getfield 47, 3, 1022), (135, .bipush 23, 2, 0), (137, .iaload, 1, 0), (138, .ireturn, 1, 0), (139, .aload_n 0, 1, 0), (140, .aload_n 0, 1, 0), (141, .getfield 47, 3, 1022), (144, .invokevirtual 181, 3, 0), (147, .ireturn, 1, 0), (148, .iload_n 2, 1, 2), (149, .ireturn, 1, 0), (150, .aload_n 0, 1, 0), (151, .getfield 7, 3, 1000), (154, .invokestatic 282, 3, 0), (157, .ireturn, 1, 0), (158, .aload_n 0, 1, 0), (159, .getfield 16, 3, 1002), (162, .invokestatic 282, 3, 0), (165, .ireturn, 1, 0), (166, .aload_n 0, 1, 0), (167, .getfield 62, 3, 1028), (170, .invokestatic 282, 3, 0), (173, .ireturn, 1, 0), (174, .iconst (-1), 1, 0), (175, .ireturn, 1, 0)]
theorem rc_X10_count_ok : rf_rc mX10_count rc_X10_count = true := by decide +kernel
theorem mw_X10_count : rf_mw mX10_count := ⟨rf_mt_ok _ (List.mem_of_getElem? (i := 240) rfl), fun h => absurd h (by decide), fun _ => ⟨rf_mi_ok _ (List.mem_of_getElem? (i := 217) rfl), rf_mv_ok _ (List.mem_of_getElem? (i := 217) rfl)⟩, rf_mq_9 _ (List.mem_of_getElem? (i := 15) rfl)⟩
def f_X10_count_j31 (l1 : Int32) (l3 : Int32) (t0 : Int32) (t1 : Int32) (σ : rf_S) : Option ((Int32 × Int32) ⊕ (Int32)) := some (.inl ((t1 + t0), (l3 + 1)))
set_option maxHeartbeats 2000000 in
theorem ok_X10_count_j31 (d : Nat) (l1 : Int32) (l3 : Int32) (t0 : Int32) (t1 : Int32) (σ : rf_S) (o : ((Int32 × Int32) ⊕ (Int32))) (h : f_X10_count_j31 l1 l3 t0 t1 σ = some o) {r : Option Value} {σr : rf_S} (kl : ∀ s', o = .inl s' → rf_G ly1 (d + 6) mX10_count (4, [some (.ref 0), some (.int l1), some (.int s'.1), some (.int s'.2)], [], σ) r σr) (kx : ∀ e, o = .inr e → rf_G ly1 (d + 6) mX10_count (39, [some (.ref 0), some (.int l1), some (.int e), none], [], σ) r σr) : rf_G ly1 (d + 6) mX10_count (31, [some (.ref 0), some (.int l1), none, some (.int l3)], [.int t0, .int t1], σ) r σr := by
  unfold f_X10_count_j31 at h
  refine rf_b wf1 rc_X10_count_ok 19 4 (4, [some (.ref 0), some (.int l1), some (.int (t1 + t0)), some (.int (l3 + 1))], [], σ) rfl ?_
  exact kl ((t1 + t0), (l3 + 1)) (Option.some.inj h).symm
def f_X10_count_b4 (l1 : Int32) (σ : rf_S) (s4 : Int32 × Int32) : Option ((Int32 × Int32) ⊕ (Int32)) := if (σ.1 0 17) ≤ s4.2 then (some (.inr s4.1)) else (if rf_ck ly1 0 9 s4.2 = true then ((f_X10_is (σ.1 9 s4.2.toNatClampNeg) 1 σ).bind (fun q3 => if q3 = 0 then (f_X10_count_j31 l1 s4.2 0 s4.1 σ) else (f_X10_count_j31 l1 s4.2 1 s4.1 σ))) else none)
set_option maxHeartbeats 2000000 in
theorem ok_X10_count_b4 (d : Nat) (l1 : Int32) (σ : rf_S) (s4 : Int32 × Int32) (o : ((Int32 × Int32) ⊕ (Int32))) (h : f_X10_count_b4 l1 σ s4 = some o) {r : Option Value} {σr : rf_S} (kl : ∀ s', o = .inl s' → rf_G ly1 (d + 6) mX10_count (4, [some (.ref 0), some (.int l1), some (.int s'.1), some (.int s'.2)], [], σ) r σr) (kx : ∀ e, o = .inr e → rf_G ly1 (d + 6) mX10_count (39, [some (.ref 0), some (.int l1), some (.int e), none], [], σ) r σr) : rf_G ly1 (d + 6) mX10_count (4, [some (.ref 0), some (.int l1), some (.int s4.1), some (.int s4.2)], [], σ) r σr := by
  unfold f_X10_count_b4 at h
  refine rf_b wf1 rc_X10_count_ok 4 3 (9, [some (.ref 0), some (.int l1), some (.int s4.1), some (.int s4.2)], [.int (σ.1 0 17), .int s4.2], σ) rfl ?_
  by_cases c1 : (σ.1 0 17) ≤ s4.2
  · rw [if_pos c1] at h
    refine rf_t wf1 rc_X10_count_ok 7 (39, [some (.ref 0), some (.int l1), some (.int s4.1), some (.int s4.2)], [], σ) rfl rfl c1 rfl ?_
    refine rf_fg [true, true, true, false] [some (.ref 0), some (.int l1), some (.int s4.1), none] rfl ?_
    exact kx s4.1 (Option.some.inj h).symm
  · rw [if_neg c1] at h
    refine rf_f wf1 rc_X10_count_ok 7 (12, [some (.ref 0), some (.int l1), some (.int s4.1), some (.int s4.2)], [], σ) rfl rfl c1 rfl ?_
    refine rf_b wf1 rc_X10_count_ok 8 4 (18, [some (.ref 0), some (.int l1), some (.int s4.1), some (.int s4.2)], [.int s4.2, .ref 9, .int s4.1], σ) rfl ?_
    obtain ⟨g2, h⟩ := rf_ifn h
    refine rf_gd wf1 rc_X10_count_ok 12 (19, [some (.ref 0), some (.int l1), some (.int s4.1), some (.int s4.2)], [.int (σ.1 9 s4.2.toNatClampNeg), .int s4.1], σ) rfl rfl g2 rfl ?_
    refine rf_b wf1 rc_X10_count_ok 13 1 (20, [some (.ref 0), some (.int l1), some (.int s4.1), some (.int s4.2)], [.int 1, .int (σ.1 9 s4.2.toNatClampNeg), .int s4.1], σ) rfl ?_
    obtain ⟨q3, h4, h⟩ := Option.bind_eq_some_iff.mp h
    refine rf_cs1 (Mt := mX10_is) rc_X10_count_ok 14 false rfl (List.mem_of_getElem? (i := 168) rfl) mw_X10_is rfl [.int (σ.1 9 s4.2.toNatClampNeg), .int 1] [.int s4.1] rfl rfl (Nat.le_of_ble_eq_true rfl) (ok_X10_is (d + 5) (σ.1 9 s4.2.toNatClampNeg) 1 σ q3 h4) ?_
    show rf_G _ _ _ (23, [some (.ref 0), some (.int l1), some (.int s4.1), some (.int s4.2)], [.int q3, .int s4.1], σ) _ _
    by_cases c5 : q3 = 0
    · rw [if_pos c5] at h
      refine rf_t wf1 rc_X10_count_ok 15 (30, [some (.ref 0), some (.int l1), some (.int s4.1), some (.int s4.2)], [.int s4.1], σ) rfl rfl c5 rfl ?_
      refine rf_b wf1 rc_X10_count_ok 18 1 (31, [some (.ref 0), some (.int l1), some (.int s4.1), some (.int s4.2)], [.int 0, .int s4.1], σ) rfl ?_
      refine rf_fg [true, true, false, true] [some (.ref 0), some (.int l1), none, some (.int s4.2)] rfl ?_
      exact ok_X10_count_j31 d l1 s4.2 0 s4.1 σ o h kl kx
    · rw [if_neg c5] at h
      refine rf_f wf1 rc_X10_count_ok 15 (26, [some (.ref 0), some (.int l1), some (.int s4.1), some (.int s4.2)], [.int s4.1], σ) rfl rfl c5 rfl ?_
      refine rf_b wf1 rc_X10_count_ok 16 2 (31, [some (.ref 0), some (.int l1), some (.int s4.1), some (.int s4.2)], [.int 1, .int s4.1], σ) rfl ?_
      refine rf_fg [true, true, false, true] [some (.ref 0), some (.int l1), none, some (.int s4.2)] rfl ?_
      exact ok_X10_count_j31 d l1 s4.2 1 s4.1 σ o h kl kx
def f_X10_count (p0 : Int32) (σ : rf_S) : Option Int32 := (rf_lp (f_X10_count_b4 p0 σ) 5000 (0, 0)).bind (fun e6 => if p0 = 0 then (some (σ.1 0 17)) else (if p0 = 1 then (some (σ.1 0 16)) else (if p0 = 2 then (if rf_ck ly1 0 12 22 = true then (some (σ.1 12 (22 : Int32).toNatClampNeg)) else none) else (if p0 = 3 then (some (σ.1 0 25)) else (if p0 = 4 then (if rf_ck ly1 0 12 24 = true then (some (σ.1 12 (24 : Int32).toNatClampNeg)) else none) else (if p0 = 5 then (if rf_ck ly1 0 12 23 = true then (some (σ.1 12 (23 : Int32).toNatClampNeg)) else none) else (if p0 = 6 then ((f_X10_doing 12 σ).bind (fun q18 => some q18)) else (if p0 = 7 then (some e6) else (if p0 = 8 then ((f_X10_thereOf 1 σ).bind (fun q22 => some q22)) else (if p0 = 9 then ((f_X10_thereOf 3 σ).bind (fun q25 => some q25)) else (if p0 = 10 then ((f_X10_thereOf 17 σ).bind (fun q28 => some q28)) else (some (-1)))))))))))))
set_option maxHeartbeats 2000000 in
theorem ok_X10_count (d : Nat) (p0 : Int32) (σ : rf_S) (q : Int32) (h : f_X10_count p0 σ = some q) : rf_Ex ly1 (d + 7) mX10_count [.ref 0, .int p0] σ (some (.int q) : Option Value) σ := by
  unfold f_X10_count at h
  refine rf_ex mw_X10_count [some (.ref 0), some (.int p0), none, none] (Nat.le_of_ble_eq_true rfl) rfl ?_
  refine rf_b wf1 rc_X10_count_ok 0 4 (4, [some (.ref 0), some (.int p0), some (.int 0), some (.int 0)], [], σ) rfl ?_
  obtain ⟨e6, h7, h⟩ := Option.bind_eq_some_iff.mp h
  refine rf_lpG (b := f_X10_count_b4 p0 σ) (G := fun (s4 : Int32 × Int32) => rf_G ly1 (d + 6) mX10_count (4, [some (.ref 0), some (.int p0), some (.int s4.1), some (.int s4.2)], [], σ) (some (.int q) : Option Value) σ) (K := fun (e : (Int32)) => rf_G ly1 (d + 6) mX10_count (39, [some (.ref 0), some (.int p0), some (.int e), none], [], σ) (some (.int q) : Option Value) σ) (fun (s4 : Int32 × Int32) (o : (Int32 × Int32) ⊕ (Int32)) hb kl kx => ok_X10_count_b4 d p0 σ s4 o hb kl kx) 5000 (0, 0) e6 h7 ?_
  show rf_G _ _ _ (39, [some (.ref 0), some (.int p0), some (.int e6), none], [], σ) _ _
  refine rf_b wf1 rc_X10_count_ok 23 1 (40, [some (.ref 0), some (.int p0), some (.int e6), none], [.int p0], σ) rfl ?_
  by_cases c8 : p0 = 0
  · rw [if_pos c8] at h
    refine rf_sw rc_X10_count_ok 24 100 rfl c8 (by decide) (by decide) rfl (by decide) ?_
    refine rf_b wf1 rc_X10_count_ok 25 2 (104, [some (.ref 0), some (.int p0), some (.int e6), none], [.int (σ.1 0 17)], σ) rfl ?_
    obtain rfl := Option.some.inj h
    exact rf_ri rc_X10_count_ok 27 rfl rfl
  · rw [if_neg c8] at h
    by_cases c9 : p0 = 1
    · rw [if_pos c9] at h
      refine rf_sw rc_X10_count_ok 24 105 rfl c9 (by decide) (by decide) rfl (by decide) ?_
      refine rf_b wf1 rc_X10_count_ok 28 2 (109, [some (.ref 0), some (.int p0), some (.int e6), none], [.int (σ.1 0 16)], σ) rfl ?_
      obtain rfl := Option.some.inj h
      exact rf_ri rc_X10_count_ok 30 rfl rfl
    · rw [if_neg c9] at h
      by_cases c10 : p0 = 2
      · rw [if_pos c10] at h
        refine rf_sw rc_X10_count_ok 24 110 rfl c10 (by decide) (by decide) rfl (by decide) ?_
        refine rf_b wf1 rc_X10_count_ok 31 3 (116, [some (.ref 0), some (.int p0), some (.int e6), none], [.int 22, .ref 12], σ) rfl ?_
        obtain ⟨g11, h⟩ := rf_ifn h
        refine rf_gd wf1 rc_X10_count_ok 34 (117, [some (.ref 0), some (.int p0), some (.int e6), none], [.int (σ.1 12 (22 : Int32).toNatClampNeg)], σ) rfl rfl g11 rfl ?_
        obtain rfl := Option.some.inj h
        exact rf_ri rc_X10_count_ok 35 rfl rfl
      · rw [if_neg c10] at h
        by_cases c12 : p0 = 3
        · rw [if_pos c12] at h
          refine rf_sw rc_X10_count_ok 24 118 rfl c12 (by decide) (by decide) rfl (by decide) ?_
          refine rf_b wf1 rc_X10_count_ok 36 2 (122, [some (.ref 0), some (.int p0), some (.int e6), none], [.int (σ.1 0 25)], σ) rfl ?_
          obtain rfl := Option.some.inj h
          exact rf_ri rc_X10_count_ok 38 rfl rfl
        · rw [if_neg c12] at h
          by_cases c13 : p0 = 4
          · rw [if_pos c13] at h
            refine rf_sw rc_X10_count_ok 24 123 rfl c13 (by decide) (by decide) rfl (by decide) ?_
            refine rf_b wf1 rc_X10_count_ok 39 3 (129, [some (.ref 0), some (.int p0), some (.int e6), none], [.int 24, .ref 12], σ) rfl ?_
            obtain ⟨g14, h⟩ := rf_ifn h
            refine rf_gd wf1 rc_X10_count_ok 42 (130, [some (.ref 0), some (.int p0), some (.int e6), none], [.int (σ.1 12 (24 : Int32).toNatClampNeg)], σ) rfl rfl g14 rfl ?_
            obtain rfl := Option.some.inj h
            exact rf_ri rc_X10_count_ok 43 rfl rfl
          · rw [if_neg c13] at h
            by_cases c15 : p0 = 5
            · rw [if_pos c15] at h
              refine rf_sw rc_X10_count_ok 24 131 rfl c15 (by decide) (by decide) rfl (by decide) ?_
              refine rf_b wf1 rc_X10_count_ok 44 3 (137, [some (.ref 0), some (.int p0), some (.int e6), none], [.int 23, .ref 12], σ) rfl ?_
              obtain ⟨g16, h⟩ := rf_ifn h
              refine rf_gd wf1 rc_X10_count_ok 47 (138, [some (.ref 0), some (.int p0), some (.int e6), none], [.int (σ.1 12 (23 : Int32).toNatClampNeg)], σ) rfl rfl g16 rfl ?_
              obtain rfl := Option.some.inj h
              exact rf_ri rc_X10_count_ok 48 rfl rfl
            · rw [if_neg c15] at h
              by_cases c17 : p0 = 6
              · rw [if_pos c17] at h
                refine rf_sw rc_X10_count_ok 24 139 rfl c17 (by decide) (by decide) rfl (by decide) ?_
                refine rf_b wf1 rc_X10_count_ok 49 3 (144, [some (.ref 0), some (.int p0), some (.int e6), none], [.ref 12, .ref 0], σ) rfl ?_
                obtain ⟨q18, h19, h⟩ := Option.bind_eq_some_iff.mp h
                refine rf_cv1 (Mt := mX10_doing) wf1 rc_X10_count_ok 52 false rfl (List.mem_of_getElem? (i := 167) rfl) mw_X10_doing rfl 0 [.ref 12] [] rfl rfl rfl (Nat.le_of_ble_eq_true rfl) (ok_X10_doing d 12 σ q18 h19) ?_
                show rf_G _ _ _ (147, [some (.ref 0), some (.int p0), some (.int e6), none], [.int q18], σ) _ _
                obtain rfl := Option.some.inj h
                exact rf_ri rc_X10_count_ok 53 rfl rfl
              · rw [if_neg c17] at h
                by_cases c20 : p0 = 7
                · rw [if_pos c20] at h
                  refine rf_sw rc_X10_count_ok 24 148 rfl c20 (by decide) (by decide) rfl (by decide) ?_
                  refine rf_b wf1 rc_X10_count_ok 54 1 (149, [some (.ref 0), some (.int p0), some (.int e6), none], [.int e6], σ) rfl ?_
                  obtain rfl := Option.some.inj h
                  exact rf_ri rc_X10_count_ok 55 rfl rfl
                · rw [if_neg c20] at h
                  by_cases c21 : p0 = 8
                  · rw [if_pos c21] at h
                    refine rf_sw rc_X10_count_ok 24 150 rfl c21 (by decide) (by decide) rfl (by decide) ?_
                    refine rf_b wf1 rc_X10_count_ok 56 2 (154, [some (.ref 0), some (.int p0), some (.int e6), none], [.ref 1], σ) rfl ?_
                    obtain ⟨q22, h23, h⟩ := Option.bind_eq_some_iff.mp h
                    refine rf_cs1 (Mt := mX10_thereOf) rc_X10_count_ok 58 false rfl (List.mem_of_getElem? (i := 193) rfl) mw_X10_thereOf rfl [.ref 1] [] rfl rfl (Nat.le_of_ble_eq_true rfl) (ok_X10_thereOf (d + 5) 1 σ q22 h23) ?_
                    show rf_G _ _ _ (157, [some (.ref 0), some (.int p0), some (.int e6), none], [.int q22], σ) _ _
                    obtain rfl := Option.some.inj h
                    exact rf_ri rc_X10_count_ok 59 rfl rfl
                  · rw [if_neg c21] at h
                    by_cases c24 : p0 = 9
                    · rw [if_pos c24] at h
                      refine rf_sw rc_X10_count_ok 24 158 rfl c24 (by decide) (by decide) rfl (by decide) ?_
                      refine rf_b wf1 rc_X10_count_ok 60 2 (162, [some (.ref 0), some (.int p0), some (.int e6), none], [.ref 3], σ) rfl ?_
                      obtain ⟨q25, h26, h⟩ := Option.bind_eq_some_iff.mp h
                      refine rf_cs1 (Mt := mX10_thereOf) rc_X10_count_ok 62 false rfl (List.mem_of_getElem? (i := 193) rfl) mw_X10_thereOf rfl [.ref 3] [] rfl rfl (Nat.le_of_ble_eq_true rfl) (ok_X10_thereOf (d + 5) 3 σ q25 h26) ?_
                      show rf_G _ _ _ (165, [some (.ref 0), some (.int p0), some (.int e6), none], [.int q25], σ) _ _
                      obtain rfl := Option.some.inj h
                      exact rf_ri rc_X10_count_ok 63 rfl rfl
                    · rw [if_neg c24] at h
                      by_cases c27 : p0 = 10
                      · rw [if_pos c27] at h
                        refine rf_sw rc_X10_count_ok 24 166 rfl c27 (by decide) (by decide) rfl (by decide) ?_
                        refine rf_b wf1 rc_X10_count_ok 64 2 (170, [some (.ref 0), some (.int p0), some (.int e6), none], [.ref 17], σ) rfl ?_
                        obtain ⟨q28, h29, h⟩ := Option.bind_eq_some_iff.mp h
                        refine rf_cs1 (Mt := mX10_thereOf) rc_X10_count_ok 66 false rfl (List.mem_of_getElem? (i := 193) rfl) mw_X10_thereOf rfl [.ref 17] [] rfl rfl (Nat.le_of_ble_eq_true rfl) (ok_X10_thereOf (d + 5) 17 σ q28 h29) ?_
                        show rf_G _ _ _ (173, [some (.ref 0), some (.int p0), some (.int e6), none], [.int q28], σ) _ _
                        obtain rfl := Option.some.inj h
                        exact rf_ri rc_X10_count_ok 67 rfl rfl
                      · rw [if_neg c27] at h
                        refine rf_sd rc_X10_count_ok 24 [0, 1, 2, 3, 4, 5, 6, 7, 8, 9, 10] 174 rfl (by intro k hk; simp only [List.mem_cons, List.not_mem_nil, or_false] at hk; rcases hk with rfl | rfl | rfl | rfl | rfl | rfl | rfl | rfl | rfl | rfl | rfl <;> assumption) (by decide) (by decide) ?_
                        refine rf_b wf1 rc_X10_count_ok 68 1 (175, [some (.ref 0), some (.int p0), some (.int e6), none], [.int (-1)], σ) rfl ?_
                        obtain rfl := Option.some.inj h
                        exact rf_ri rc_X10_count_ok 69 rfl rfl
def rc_X10_finding : List rf_E := [(0, .aload_n 0, 1, 0), (1, .getfield 68, 3, 1004), (4, .ireturn, 1, 0)]
theorem rc_X10_finding_ok : rf_rc mX10_finding rc_X10_finding = true := by decide +kernel
theorem mw_X10_finding : rf_mw mX10_finding := ⟨rf_mt_ok _ (List.mem_of_getElem? (i := 241) rfl), fun h => absurd h (by decide), fun _ => ⟨rf_mi_ok _ (List.mem_of_getElem? (i := 218) rfl), rf_mv_ok _ (List.mem_of_getElem? (i := 218) rfl)⟩, rf_mq_9 _ (List.mem_of_getElem? (i := 16) rfl)⟩
def f_X10_finding (σ : rf_S) : Option Int32 := some (σ.1 0 4)
set_option maxHeartbeats 2000000 in
theorem ok_X10_finding (d : Nat) (σ : rf_S) (q : Int32) (h : f_X10_finding σ = some q) : rf_Ex ly1 (d + 1) mX10_finding [.ref 0] σ (some (.int q) : Option Value) σ := by
  unfold f_X10_finding at h
  refine rf_ex mw_X10_finding [some (.ref 0)] (Nat.le_of_ble_eq_true rfl) rfl ?_
  refine rf_b wf1 rc_X10_finding_ok 0 2 (4, [some (.ref 0)], [.int (σ.1 0 4)], σ) rfl ?_
  obtain rfl := Option.some.inj h
  exact rf_ri rc_X10_finding_ok 2 rfl rfl
def rc_X10_findings : List rf_E := [(0, .iload_n 1, 1, 1), (1, .iconst 1, 1, 0), (2, .iconst 5, 1, 0), (3, .invokestatic 78, 3, 0), (6, .ifCond .eq 12, 3, 18), (9, .aload_n 0, 1, 0), (10, .getfield 22, 3, 1005), (13, .iload_n 1, 1, 1), (14, .iaload, 1, 0), (15, .goto 4, 3, 19), (18, .iconst (-1), 1, 0), (19, .ireturn, 1, 0)]
theorem rc_X10_findings_ok : rf_rc mX10_findings rc_X10_findings = true := by decide +kernel
theorem mw_X10_findings : rf_mw mX10_findings := ⟨rf_mt_ok _ (List.mem_of_getElem? (i := 242) rfl), fun h => absurd h (by decide), fun _ => ⟨rf_mi_ok _ (List.mem_of_getElem? (i := 219) rfl), rf_mv_ok _ (List.mem_of_getElem? (i := 219) rfl)⟩, rf_mq_9 _ (List.mem_of_getElem? (i := 17) rfl)⟩
def f_X10_findings (p0 : Int32) (σ : rf_S) : Option Int32 := (f_X10_in p0 1 5 σ).bind (fun q1 => if q1 = 0 then (some (-1)) else (if rf_ck ly1 0 5 p0 = true then (some (σ.1 5 p0.toNatClampNeg)) else none))
set_option maxHeartbeats 2000000 in
theorem ok_X10_findings (d : Nat) (p0 : Int32) (σ : rf_S) (q : Int32) (h : f_X10_findings p0 σ = some q) : rf_Ex ly1 (d + 2) mX10_findings [.ref 0, .int p0] σ (some (.int q) : Option Value) σ := by
  unfold f_X10_findings at h
  refine rf_ex mw_X10_findings [some (.ref 0), some (.int p0)] (Nat.le_of_ble_eq_true rfl) rfl ?_
  refine rf_b wf1 rc_X10_findings_ok 0 3 (3, [some (.ref 0), some (.int p0)], [.int 5, .int 1, .int p0], σ) rfl ?_
  obtain ⟨q1, h2, h⟩ := Option.bind_eq_some_iff.mp h
  refine rf_cs1 (Mt := mX10_in) rc_X10_findings_ok 3 false rfl (List.mem_of_getElem? (i := 143) rfl) mw_X10_in rfl [.int p0, .int 1, .int 5] [] rfl rfl (Nat.le_of_ble_eq_true rfl) (ok_X10_in d p0 1 5 σ q1 h2) ?_
  show rf_G _ _ _ (6, [some (.ref 0), some (.int p0)], [.int q1], σ) _ _
  by_cases c3 : q1 = 0
  · rw [if_pos c3] at h
    refine rf_t wf1 rc_X10_findings_ok 4 (18, [some (.ref 0), some (.int p0)], [], σ) rfl rfl c3 rfl ?_
    refine rf_b wf1 rc_X10_findings_ok 10 1 (19, [some (.ref 0), some (.int p0)], [.int (-1)], σ) rfl ?_
    obtain rfl := Option.some.inj h
    exact rf_ri rc_X10_findings_ok 11 rfl rfl
  · rw [if_neg c3] at h
    refine rf_f wf1 rc_X10_findings_ok 4 (9, [some (.ref 0), some (.int p0)], [], σ) rfl rfl c3 rfl ?_
    refine rf_b wf1 rc_X10_findings_ok 5 3 (14, [some (.ref 0), some (.int p0)], [.int p0, .ref 5], σ) rfl ?_
    obtain ⟨g4, h⟩ := rf_ifn h
    refine rf_gd wf1 rc_X10_findings_ok 8 (15, [some (.ref 0), some (.int p0)], [.int (σ.1 5 p0.toNatClampNeg)], σ) rfl rfl g4 rfl ?_
    refine rf_b wf1 rc_X10_findings_ok 9 1 (19, [some (.ref 0), some (.int p0)], [.int (σ.1 5 p0.toNatClampNeg)], σ) rfl ?_
    obtain rfl := Option.some.inj h
    exact rf_ri rc_X10_findings_ok 11 rfl rfl
def rc_X10_digest : List rf_E := [(0, .ldc2_w 285, 3, 17), (3, .lstore_n 1, 1, 1), (4, .iconst 0, 1, 0), (5, .istore_n 3, 1, 3), (6, .iload_n 3, 1, 3), (7, .bipush 11, 2, 0), (9, .if_icmp .ge 22, 3, 31), (12, .ldc2_w 287, 3, 31), (15, .lload_n 1, 1, 1), (16, .lmul, 1, 0), (17, .aload_n 0, 1, 0), (18, .iload_n 3, 1, 3), (19, .invokevirtual 289, 3, 0), (22, .i2l, 1, 0), (23, .ladd, 1, 0), (24, .lstore_n 1, 1, 1), (25, .iinc 3 1, 3, 3), (28, .goto (-22), 3, 6), (31, .iconst 0, 1, 0), (32, .istore_n 3, 1, 3), (33, .iload_n 3, 1, 3), (34, .aload_n 0, 1, 0), (35, .getfield 82, 3, 1016), (38, .if_icmp .ge 39, 3, 77), (41, .iconst 0, 1, 0), (42, .istore 4, 2, 4), (44, .iload 4, 2, 4), (46, .iconst 4, 1, 0), (47, .if_icmp .ge 24, 3, 71), (50, .ldc2_w 287, 3, 31), (53, .lload_n 1, 1, 1), (54, .lmul, 1, 0), (55, .aload_n 0, 1, 0), (56, .iload_n 3, 1, 3), (57, .iload 4, 2, 4), (59, .invokevirtual 292, 3, 0), (62, .i2l, 1, 0), (63, .ladd, 1, 0), (64, .lstore_n 1, 1, 1), (65, .iinc 4 1, 3, 4), (68, .goto (-24), 3, 44), (71, .iinc 3 1, 3, 3), (74, .goto (-41), 3, 33), (77, .iconst 0, 1, 0), (78, .istore_n 3, 1, 3), (79, .iload_n 3, 1, 3), (80, .aload_n 0, 1, 0), (81, .getfield 75, 3, 1017), (84, .if_icmp .ge 40, 3, 124), (87, .iconst 0, 1, 0), (88, .istore 4, 2, 4), (90, .iload 4, 2, 4), (92, .bipush 8, 2, 0), (94, .if_icmp .ge 24, 3, 118), (97, .ldc2_w 287, 3, 31), (100, .lload_n 1, 1, 1), (101, .lmul, 1, 0), (102, .aload_n 0, 1, 0), (103, .iload_n 3, 1, 3), (104, .iload 4, 2, 4), (106, .invokevirtual 172, 3, 0), (109, .i2l, 1, 0), (110, .ladd, 1, 0), (111, .lstore_n 1, 1, 1), (112, .iinc 4 1, 3, 4), (115, .goto (-25), 3, 90), (118, .iinc 3 1, 3, 3), (121, .goto (-42), 3, 79), (124, .iconst 0, 1, 0), (125, .istore_n 3, 1, 3), (126, .iload_n 3, 1, 3), (127, .iconst 3, 1, 0), (128, .if_icmp .ge 23, 3, 151), (131, .ldc2_w 287, 3, 31), (134, .lload_n 1, 1, 1), (135, .lmul, 1, 0), (136, .aload_n 0, 1, 0), (137, .getfield 62, 3, 1028), (140, .iload_n 3, 1, 3), (141, .iaload, 1, 0), (142, .i2l, 1, 0), (143, .ladd, 1, 0), (144, .lstore_n 1, 1, 1), (145, .iinc 3 1, 3, 3), (148, .goto (-22), 3, 126), (151, .iconst 0, 1, 0), (152, .istore_n 3, 1, 3), (153, .iload_n 3, 1, 3), (154, .bipush 6, 2, 0), (156, .if_icmp .ge 63, 3, 219), (159, .ldc2_w 287, 3, 31), (162, .lload_n 1, 1, 1), (163, .lmul, 1, 0), (164, .aload_n 0, 1, 0), (165, .getfield 7, 3, 1000), (168, .iload_n 3, 1, 3), (169, .iaload, 1, 0), (170, .i2l, 1, 0), (171, .ladd, 1, 0), (172, .lstore_n 1, 1, 1), (173, .iconst 0, 1, 0), (174, .istore 4, 2, 4), (176, .iload 4, 2, 4), (178, .aload_n 0, 1, 0), (179, .getfield 7, 3, 1000), (182, .iload_n 3, 1, 3), (183, .iaload, 1, 0), (184, .if_icmp .ge 29, 3, 213), (187, .ldc2_w 287, 3, 31), (190, .lload_n 1, 1, 1), (191, .lmul, 1, 0), (192, .aload_n 0, 1, 0), (193, .getfield 13, 3, 1001), (196, .bipush 40, 2, 0), (198, .iload_n 3, 1, 3), (199, .imul, 1, 0), (200, .iload 4, 2, 4), (202, .iadd, 1, 0), (203, .iaload, 1, 0), (204, .i2l, 1, 0), (205, .ladd, 1, 0), (206, .lstore_n 1, 1, 1), (207, .iinc 4 1, 3, 4), (210, .goto (-34), 3, 176), (213, .iinc 3 1, 3, 3), (216, .goto (-63), 3, 153), (219, .iconst 0, 1, 0), (220, .istore_n 3, 1, 3), (221, .iload_n 3, 1, 3), (222, .iconst 4, 1, 0), (223, .if_icmp .ge 63, 3, 286), (226, .ldc2_w 287, 3, 31), (229, .lload_n 1, 1, 1), (230, .lmul, 1, 0), (231, .aload_n 0, 1, 0), (232, .getfield 16, 3, 1002), (235, .iload_n 3, 1, 3), (236, .iaload, 1, 0), (237, .i2l, 1, 0), (238, .ladd, 1, 0), (239, .lstore_n 1, 1, 1), (240, .iconst 0, 1, 0), (241, .istore 4, 2, 4), (243, .iload 4, 2, 4), (245, .aload_n 0, 1, 0), (246, .getfield 16, 3, 1002), (249, .iload_n 3, 1, 3), (250, .iaload, 1, 0), (251, .if_icmp .ge 29, 3, 280), (254, .ldc2_w 287, 3, 31), (257, .lload_n 1, 1, 1), (258, .lmul, 1, 0), (259, .aload_n 0, 1, 0), (260, .getfield 19, 3, 1003), (263, .bipush 60, 2, 0), (265, .iload_n 3, 1, 3), (266, .imul, 1, 0), (267, .iload 4, 2, 4), (269, .iadd, 1, 0), (270, .iaload, 1, 0), (271, .i2l, 1, 0), (272, .ladd, 1, 0), (273, .lstore_n 1, 1, 1), (274, .iinc 4 1, 3, 4), (277, .goto (-34), 3, 243), (280, .iinc 3 1, 3, 3), (283, .goto (-62), 3, 221), (286, .lload_n 1, 1, 1), (287, .lreturn, 1, 0)]
theorem rc_X10_digest_ok : rf_rc mX10_digest rc_X10_digest = true := by decide +kernel
theorem mw_X10_digest : rf_mw mX10_digest := ⟨rf_mt_ok _ (List.mem_of_getElem? (i := 243) rfl), fun h => absurd h (by decide), fun _ => ⟨rf_mi_ok _ (List.mem_of_getElem? (i := 220) rfl), rf_mv_ok _ (List.mem_of_getElem? (i := 220) rfl)⟩, rf_mq_9 _ (List.mem_of_getElem? (i := 18) rfl)⟩
def f_X10_digest_b6 (σ : rf_S) (s6 : Int64 × Int32) : Option ((Int64 × Int32) ⊕ (Int64)) := if 11 ≤ s6.2 then (some (.inr s6.1)) else ((f_X10_count s6.2 σ).bind (fun q2 => some (.inl (((31 * s6.1) + q2.toInt64), (s6.2 + 1)))))
set_option maxHeartbeats 2000000 in
theorem ok_X10_digest_b6 (d : Nat) (σ : rf_S) (s6 : Int64 × Int32) (o : ((Int64 × Int32) ⊕ (Int64))) (h : f_X10_digest_b6 σ s6 = some o) {r : Option Value} {σr : rf_S} (kl : ∀ s', o = .inl s' → rf_G ly1 (d + 7) mX10_digest (6, [some (.ref 0), some (.long s'.1), none, some (.int s'.2), none], [], σ) r σr) (kx : ∀ e, o = .inr e → rf_G ly1 (d + 7) mX10_digest (31, [some (.ref 0), some (.long e), none, none, none], [], σ) r σr) : rf_G ly1 (d + 7) mX10_digest (6, [some (.ref 0), some (.long s6.1), none, some (.int s6.2), none], [], σ) r σr := by
  unfold f_X10_digest_b6 at h
  refine rf_b wf1 rc_X10_digest_ok 4 2 (9, [some (.ref 0), some (.long s6.1), none, some (.int s6.2), none], [.int 11, .int s6.2], σ) rfl ?_
  by_cases c1 : 11 ≤ s6.2
  · rw [if_pos c1] at h
    refine rf_t wf1 rc_X10_digest_ok 6 (31, [some (.ref 0), some (.long s6.1), none, some (.int s6.2), none], [], σ) rfl rfl c1 rfl ?_
    refine rf_fg [true, true, true, false, true] [some (.ref 0), some (.long s6.1), none, none, none] rfl ?_
    exact kx s6.1 (Option.some.inj h).symm
  · rw [if_neg c1] at h
    refine rf_f wf1 rc_X10_digest_ok 6 (12, [some (.ref 0), some (.long s6.1), none, some (.int s6.2), none], [], σ) rfl rfl c1 rfl ?_
    refine rf_b wf1 rc_X10_digest_ok 7 5 (19, [some (.ref 0), some (.long s6.1), none, some (.int s6.2), none], [.int s6.2, .ref 0, .long (31 * s6.1)], σ) rfl ?_
    obtain ⟨q2, h3, h⟩ := Option.bind_eq_some_iff.mp h
    refine rf_cv1 (Mt := mX10_count) wf1 rc_X10_digest_ok 12 false rfl (List.mem_of_getElem? (i := 194) rfl) mw_X10_count rfl 0 [.int s6.2] [.long (31 * s6.1)] rfl rfl rfl (Nat.le_of_ble_eq_true rfl) (ok_X10_count d s6.2 σ q2 h3) ?_
    show rf_G _ _ _ (22, [some (.ref 0), some (.long s6.1), none, some (.int s6.2), none], [.int q2, .long (31 * s6.1)], σ) _ _
    refine rf_b wf1 rc_X10_digest_ok 13 5 (6, [some (.ref 0), some (.long ((31 * s6.1) + q2.toInt64)), none, some (.int (s6.2 + 1)), none], [], σ) rfl ?_
    exact kl (((31 * s6.1) + q2.toInt64), (s6.2 + 1)) (Option.some.inj h).symm
def f_X10_digest_b44 (l3 : Int32) (σ : rf_S) (s44 : Int64 × Int32) : Option ((Int64 × Int32) ⊕ (Int64)) := if 4 ≤ s44.2 then (some (.inr s44.1)) else ((f_X10_room l3 s44.2 σ).bind (fun q8 => some (.inl (((31 * s44.1) + q8.toInt64), (s44.2 + 1)))))
set_option maxHeartbeats 2000000 in
theorem ok_X10_digest_b44 (d : Nat) (l3 : Int32) (σ : rf_S) (s44 : Int64 × Int32) (o : ((Int64 × Int32) ⊕ (Int64))) (h : f_X10_digest_b44 l3 σ s44 = some o) {r : Option Value} {σr : rf_S} (kl : ∀ s', o = .inl s' → rf_G ly1 (d + 7) mX10_digest (44, [some (.ref 0), some (.long s'.1), none, some (.int l3), some (.int s'.2)], [], σ) r σr) (kx : ∀ e, o = .inr e → rf_G ly1 (d + 7) mX10_digest (71, [some (.ref 0), some (.long e), none, some (.int l3), none], [], σ) r σr) : rf_G ly1 (d + 7) mX10_digest (44, [some (.ref 0), some (.long s44.1), none, some (.int l3), some (.int s44.2)], [], σ) r σr := by
  unfold f_X10_digest_b44 at h
  refine rf_b wf1 rc_X10_digest_ok 26 2 (47, [some (.ref 0), some (.long s44.1), none, some (.int l3), some (.int s44.2)], [.int 4, .int s44.2], σ) rfl ?_
  by_cases c7 : 4 ≤ s44.2
  · rw [if_pos c7] at h
    refine rf_t wf1 rc_X10_digest_ok 28 (71, [some (.ref 0), some (.long s44.1), none, some (.int l3), some (.int s44.2)], [], σ) rfl rfl c7 rfl ?_
    refine rf_fg [true, true, true, true, false] [some (.ref 0), some (.long s44.1), none, some (.int l3), none] rfl ?_
    exact kx s44.1 (Option.some.inj h).symm
  · rw [if_neg c7] at h
    refine rf_f wf1 rc_X10_digest_ok 28 (50, [some (.ref 0), some (.long s44.1), none, some (.int l3), some (.int s44.2)], [], σ) rfl rfl c7 rfl ?_
    refine rf_b wf1 rc_X10_digest_ok 29 6 (59, [some (.ref 0), some (.long s44.1), none, some (.int l3), some (.int s44.2)], [.int s44.2, .int l3, .ref 0, .long (31 * s44.1)], σ) rfl ?_
    obtain ⟨q8, h9, h⟩ := Option.bind_eq_some_iff.mp h
    refine rf_cv1 (Mt := mX10_room) wf1 rc_X10_digest_ok 35 false rfl (List.mem_of_getElem? (i := 195) rfl) mw_X10_room rfl 0 [.int l3, .int s44.2] [.long (31 * s44.1)] rfl rfl rfl (Nat.le_of_ble_eq_true rfl) (ok_X10_room d l3 s44.2 σ q8 h9) ?_
    show rf_G _ _ _ (62, [some (.ref 0), some (.long s44.1), none, some (.int l3), some (.int s44.2)], [.int q8, .long (31 * s44.1)], σ) _ _
    refine rf_b wf1 rc_X10_digest_ok 36 5 (44, [some (.ref 0), some (.long ((31 * s44.1) + q8.toInt64)), none, some (.int l3), some (.int (s44.2 + 1))], [], σ) rfl ?_
    exact kl (((31 * s44.1) + q8.toInt64), (s44.2 + 1)) (Option.some.inj h).symm
def f_X10_digest_b33 (σ : rf_S) (s33 : Int64 × Int32) : Option ((Int64 × Int32) ⊕ (Int64)) := if (σ.1 0 16) ≤ s33.2 then (some (.inr s33.1)) else ((rf_lp (f_X10_digest_b44 s33.2 σ) 5000 (s33.1, 0)).bind (fun e10 => some (.inl (e10, (s33.2 + 1)))))
set_option maxHeartbeats 2000000 in
theorem ok_X10_digest_b33 (d : Nat) (σ : rf_S) (s33 : Int64 × Int32) (o : ((Int64 × Int32) ⊕ (Int64))) (h : f_X10_digest_b33 σ s33 = some o) {r : Option Value} {σr : rf_S} (kl : ∀ s', o = .inl s' → rf_G ly1 (d + 7) mX10_digest (33, [some (.ref 0), some (.long s'.1), none, some (.int s'.2), none], [], σ) r σr) (kx : ∀ e, o = .inr e → rf_G ly1 (d + 7) mX10_digest (77, [some (.ref 0), some (.long e), none, none, none], [], σ) r σr) : rf_G ly1 (d + 7) mX10_digest (33, [some (.ref 0), some (.long s33.1), none, some (.int s33.2), none], [], σ) r σr := by
  unfold f_X10_digest_b33 at h
  refine rf_b wf1 rc_X10_digest_ok 20 3 (38, [some (.ref 0), some (.long s33.1), none, some (.int s33.2), none], [.int (σ.1 0 16), .int s33.2], σ) rfl ?_
  by_cases c6 : (σ.1 0 16) ≤ s33.2
  · rw [if_pos c6] at h
    refine rf_t wf1 rc_X10_digest_ok 23 (77, [some (.ref 0), some (.long s33.1), none, some (.int s33.2), none], [], σ) rfl rfl c6 rfl ?_
    refine rf_fg [true, true, true, false, true] [some (.ref 0), some (.long s33.1), none, none, none] rfl ?_
    exact kx s33.1 (Option.some.inj h).symm
  · rw [if_neg c6] at h
    refine rf_f wf1 rc_X10_digest_ok 23 (41, [some (.ref 0), some (.long s33.1), none, some (.int s33.2), none], [], σ) rfl rfl c6 rfl ?_
    refine rf_b wf1 rc_X10_digest_ok 24 2 (44, [some (.ref 0), some (.long s33.1), none, some (.int s33.2), some (.int 0)], [], σ) rfl ?_
    obtain ⟨e10, h11, h⟩ := Option.bind_eq_some_iff.mp h
    refine rf_lpG (b := f_X10_digest_b44 s33.2 σ) (G := fun (s44 : Int64 × Int32) => rf_G ly1 (d + 7) mX10_digest (44, [some (.ref 0), some (.long s44.1), none, some (.int s33.2), some (.int s44.2)], [], σ) r σr) (K := fun (e : (Int64)) => rf_G ly1 (d + 7) mX10_digest (71, [some (.ref 0), some (.long e), none, some (.int s33.2), none], [], σ) r σr) (fun (s44 : Int64 × Int32) (o : (Int64 × Int32) ⊕ (Int64)) hb kl kx => ok_X10_digest_b44 d s33.2 σ s44 o hb kl kx) 5000 (s33.1, 0) e10 h11 ?_
    show rf_G _ _ _ (71, [some (.ref 0), some (.long e10), none, some (.int s33.2), none], [], σ) _ _
    refine rf_b wf1 rc_X10_digest_ok 41 2 (33, [some (.ref 0), some (.long e10), none, some (.int (s33.2 + 1)), none], [], σ) rfl ?_
    exact kl (e10, (s33.2 + 1)) (Option.some.inj h).symm
def f_X10_digest_b90 (l3 : Int32) (σ : rf_S) (s90 : Int64 × Int32) : Option ((Int64 × Int32) ⊕ (Int64)) := if 8 ≤ s90.2 then (some (.inr s90.1)) else ((f_X10_memberTells l3 s90.2 σ).bind (fun q16 => some (.inl (((31 * s90.1) + q16.toInt64), (s90.2 + 1)))))
set_option maxHeartbeats 2000000 in
theorem ok_X10_digest_b90 (d : Nat) (l3 : Int32) (σ : rf_S) (s90 : Int64 × Int32) (o : ((Int64 × Int32) ⊕ (Int64))) (h : f_X10_digest_b90 l3 σ s90 = some o) {r : Option Value} {σr : rf_S} (kl : ∀ s', o = .inl s' → rf_G ly1 (d + 7) mX10_digest (90, [some (.ref 0), some (.long s'.1), none, some (.int l3), some (.int s'.2)], [], σ) r σr) (kx : ∀ e, o = .inr e → rf_G ly1 (d + 7) mX10_digest (118, [some (.ref 0), some (.long e), none, some (.int l3), none], [], σ) r σr) : rf_G ly1 (d + 7) mX10_digest (90, [some (.ref 0), some (.long s90.1), none, some (.int l3), some (.int s90.2)], [], σ) r σr := by
  unfold f_X10_digest_b90 at h
  refine rf_b wf1 rc_X10_digest_ok 51 2 (94, [some (.ref 0), some (.long s90.1), none, some (.int l3), some (.int s90.2)], [.int 8, .int s90.2], σ) rfl ?_
  by_cases c15 : 8 ≤ s90.2
  · rw [if_pos c15] at h
    refine rf_t wf1 rc_X10_digest_ok 53 (118, [some (.ref 0), some (.long s90.1), none, some (.int l3), some (.int s90.2)], [], σ) rfl rfl c15 rfl ?_
    refine rf_fg [true, true, true, true, false] [some (.ref 0), some (.long s90.1), none, some (.int l3), none] rfl ?_
    exact kx s90.1 (Option.some.inj h).symm
  · rw [if_neg c15] at h
    refine rf_f wf1 rc_X10_digest_ok 53 (97, [some (.ref 0), some (.long s90.1), none, some (.int l3), some (.int s90.2)], [], σ) rfl rfl c15 rfl ?_
    refine rf_b wf1 rc_X10_digest_ok 54 6 (106, [some (.ref 0), some (.long s90.1), none, some (.int l3), some (.int s90.2)], [.int s90.2, .int l3, .ref 0, .long (31 * s90.1)], σ) rfl ?_
    obtain ⟨q16, h17, h⟩ := Option.bind_eq_some_iff.mp h
    refine rf_cv1 (Mt := mX10_memberTells) wf1 rc_X10_digest_ok 60 false rfl (List.mem_of_getElem? (i := 164) rfl) mw_X10_memberTells rfl 0 [.int l3, .int s90.2] [.long (31 * s90.1)] rfl rfl rfl (Nat.le_of_ble_eq_true rfl) (ok_X10_memberTells (d + 1) l3 s90.2 σ q16 h17) ?_
    show rf_G _ _ _ (109, [some (.ref 0), some (.long s90.1), none, some (.int l3), some (.int s90.2)], [.int q16, .long (31 * s90.1)], σ) _ _
    refine rf_b wf1 rc_X10_digest_ok 61 5 (90, [some (.ref 0), some (.long ((31 * s90.1) + q16.toInt64)), none, some (.int l3), some (.int (s90.2 + 1))], [], σ) rfl ?_
    exact kl (((31 * s90.1) + q16.toInt64), (s90.2 + 1)) (Option.some.inj h).symm
def f_X10_digest_b79 (σ : rf_S) (s79 : Int64 × Int32) : Option ((Int64 × Int32) ⊕ (Int64)) := if (σ.1 0 17) ≤ s79.2 then (some (.inr s79.1)) else ((rf_lp (f_X10_digest_b90 s79.2 σ) 5000 (s79.1, 0)).bind (fun e18 => some (.inl (e18, (s79.2 + 1)))))
set_option maxHeartbeats 2000000 in
theorem ok_X10_digest_b79 (d : Nat) (σ : rf_S) (s79 : Int64 × Int32) (o : ((Int64 × Int32) ⊕ (Int64))) (h : f_X10_digest_b79 σ s79 = some o) {r : Option Value} {σr : rf_S} (kl : ∀ s', o = .inl s' → rf_G ly1 (d + 7) mX10_digest (79, [some (.ref 0), some (.long s'.1), none, some (.int s'.2), none], [], σ) r σr) (kx : ∀ e, o = .inr e → rf_G ly1 (d + 7) mX10_digest (124, [some (.ref 0), some (.long e), none, none, none], [], σ) r σr) : rf_G ly1 (d + 7) mX10_digest (79, [some (.ref 0), some (.long s79.1), none, some (.int s79.2), none], [], σ) r σr := by
  unfold f_X10_digest_b79 at h
  refine rf_b wf1 rc_X10_digest_ok 45 3 (84, [some (.ref 0), some (.long s79.1), none, some (.int s79.2), none], [.int (σ.1 0 17), .int s79.2], σ) rfl ?_
  by_cases c14 : (σ.1 0 17) ≤ s79.2
  · rw [if_pos c14] at h
    refine rf_t wf1 rc_X10_digest_ok 48 (124, [some (.ref 0), some (.long s79.1), none, some (.int s79.2), none], [], σ) rfl rfl c14 rfl ?_
    refine rf_fg [true, true, true, false, true] [some (.ref 0), some (.long s79.1), none, none, none] rfl ?_
    exact kx s79.1 (Option.some.inj h).symm
  · rw [if_neg c14] at h
    refine rf_f wf1 rc_X10_digest_ok 48 (87, [some (.ref 0), some (.long s79.1), none, some (.int s79.2), none], [], σ) rfl rfl c14 rfl ?_
    refine rf_b wf1 rc_X10_digest_ok 49 2 (90, [some (.ref 0), some (.long s79.1), none, some (.int s79.2), some (.int 0)], [], σ) rfl ?_
    obtain ⟨e18, h19, h⟩ := Option.bind_eq_some_iff.mp h
    refine rf_lpG (b := f_X10_digest_b90 s79.2 σ) (G := fun (s90 : Int64 × Int32) => rf_G ly1 (d + 7) mX10_digest (90, [some (.ref 0), some (.long s90.1), none, some (.int s79.2), some (.int s90.2)], [], σ) r σr) (K := fun (e : (Int64)) => rf_G ly1 (d + 7) mX10_digest (118, [some (.ref 0), some (.long e), none, some (.int s79.2), none], [], σ) r σr) (fun (s90 : Int64 × Int32) (o : (Int64 × Int32) ⊕ (Int64)) hb kl kx => ok_X10_digest_b90 d s79.2 σ s90 o hb kl kx) 5000 (s79.1, 0) e18 h19 ?_
    show rf_G _ _ _ (118, [some (.ref 0), some (.long e18), none, some (.int s79.2), none], [], σ) _ _
    refine rf_b wf1 rc_X10_digest_ok 66 2 (79, [some (.ref 0), some (.long e18), none, some (.int (s79.2 + 1)), none], [], σ) rfl ?_
    exact kl (e18, (s79.2 + 1)) (Option.some.inj h).symm
def f_X10_digest_b126 (σ : rf_S) (s126 : Int64 × Int32) : Option ((Int64 × Int32) ⊕ (Int64)) := if 3 ≤ s126.2 then (some (.inr s126.1)) else (if rf_ck ly1 0 17 s126.2 = true then (some (.inl (((31 * s126.1) + ((σ.1 17 s126.2.toNatClampNeg).toInt64)), (s126.2 + 1)))) else none)
set_option maxHeartbeats 2000000 in
theorem ok_X10_digest_b126 (d : Nat) (σ : rf_S) (s126 : Int64 × Int32) (o : ((Int64 × Int32) ⊕ (Int64))) (h : f_X10_digest_b126 σ s126 = some o) {r : Option Value} {σr : rf_S} (kl : ∀ s', o = .inl s' → rf_G ly1 (d + 7) mX10_digest (126, [some (.ref 0), some (.long s'.1), none, some (.int s'.2), none], [], σ) r σr) (kx : ∀ e, o = .inr e → rf_G ly1 (d + 7) mX10_digest (151, [some (.ref 0), some (.long e), none, none, none], [], σ) r σr) : rf_G ly1 (d + 7) mX10_digest (126, [some (.ref 0), some (.long s126.1), none, some (.int s126.2), none], [], σ) r σr := by
  unfold f_X10_digest_b126 at h
  refine rf_b wf1 rc_X10_digest_ok 70 2 (128, [some (.ref 0), some (.long s126.1), none, some (.int s126.2), none], [.int 3, .int s126.2], σ) rfl ?_
  by_cases c22 : 3 ≤ s126.2
  · rw [if_pos c22] at h
    refine rf_t wf1 rc_X10_digest_ok 72 (151, [some (.ref 0), some (.long s126.1), none, some (.int s126.2), none], [], σ) rfl rfl c22 rfl ?_
    refine rf_fg [true, true, true, false, true] [some (.ref 0), some (.long s126.1), none, none, none] rfl ?_
    exact kx s126.1 (Option.some.inj h).symm
  · rw [if_neg c22] at h
    refine rf_f wf1 rc_X10_digest_ok 72 (131, [some (.ref 0), some (.long s126.1), none, some (.int s126.2), none], [], σ) rfl rfl c22 rfl ?_
    refine rf_b wf1 rc_X10_digest_ok 73 6 (141, [some (.ref 0), some (.long s126.1), none, some (.int s126.2), none], [.int s126.2, .ref 17, .long (31 * s126.1)], σ) rfl ?_
    obtain ⟨g23, h⟩ := rf_ifn h
    refine rf_gd wf1 rc_X10_digest_ok 79 (142, [some (.ref 0), some (.long s126.1), none, some (.int s126.2), none], [.int (σ.1 17 s126.2.toNatClampNeg), .long (31 * s126.1)], σ) rfl rfl g23 rfl ?_
    refine rf_b wf1 rc_X10_digest_ok 80 5 (126, [some (.ref 0), some (.long ((31 * s126.1) + ((σ.1 17 s126.2.toNatClampNeg).toInt64))), none, some (.int (s126.2 + 1)), none], [], σ) rfl ?_
    exact kl (((31 * s126.1) + ((σ.1 17 s126.2.toNatClampNeg).toInt64)), (s126.2 + 1)) (Option.some.inj h).symm
def f_X10_digest_b176 (l3 : Int32) (σ : rf_S) (s176 : Int64 × Int32) : Option ((Int64 × Int32) ⊕ (Int64)) := if rf_ck ly1 0 1 l3 = true then (if (σ.1 1 l3.toNatClampNeg) ≤ s176.2 then (some (.inr s176.1)) else (if rf_ck ly1 0 2 ((40 * l3) + s176.2) = true then (some (.inl (((31 * s176.1) + ((σ.1 2 ((40 * l3) + s176.2).toNatClampNeg).toInt64)), (s176.2 + 1)))) else none)) else none
set_option maxHeartbeats 2000000 in
theorem ok_X10_digest_b176 (d : Nat) (l3 : Int32) (σ : rf_S) (s176 : Int64 × Int32) (o : ((Int64 × Int32) ⊕ (Int64))) (h : f_X10_digest_b176 l3 σ s176 = some o) {r : Option Value} {σr : rf_S} (kl : ∀ s', o = .inl s' → rf_G ly1 (d + 7) mX10_digest (176, [some (.ref 0), some (.long s'.1), none, some (.int l3), some (.int s'.2)], [], σ) r σr) (kx : ∀ e, o = .inr e → rf_G ly1 (d + 7) mX10_digest (213, [some (.ref 0), some (.long e), none, some (.int l3), none], [], σ) r σr) : rf_G ly1 (d + 7) mX10_digest (176, [some (.ref 0), some (.long s176.1), none, some (.int l3), some (.int s176.2)], [], σ) r σr := by
  unfold f_X10_digest_b176 at h
  refine rf_b wf1 rc_X10_digest_ok 102 4 (183, [some (.ref 0), some (.long s176.1), none, some (.int l3), some (.int s176.2)], [.int l3, .ref 1, .int s176.2], σ) rfl ?_
  obtain ⟨g28, h⟩ := rf_ifn h
  refine rf_gd wf1 rc_X10_digest_ok 106 (184, [some (.ref 0), some (.long s176.1), none, some (.int l3), some (.int s176.2)], [.int (σ.1 1 l3.toNatClampNeg), .int s176.2], σ) rfl rfl g28 rfl ?_
  by_cases c29 : (σ.1 1 l3.toNatClampNeg) ≤ s176.2
  · rw [if_pos c29] at h
    refine rf_t wf1 rc_X10_digest_ok 107 (213, [some (.ref 0), some (.long s176.1), none, some (.int l3), some (.int s176.2)], [], σ) rfl rfl c29 rfl ?_
    refine rf_fg [true, true, true, true, false] [some (.ref 0), some (.long s176.1), none, some (.int l3), none] rfl ?_
    exact kx s176.1 (Option.some.inj h).symm
  · rw [if_neg c29] at h
    refine rf_f wf1 rc_X10_digest_ok 107 (187, [some (.ref 0), some (.long s176.1), none, some (.int l3), some (.int s176.2)], [], σ) rfl rfl c29 rfl ?_
    refine rf_b wf1 rc_X10_digest_ok 108 10 (203, [some (.ref 0), some (.long s176.1), none, some (.int l3), some (.int s176.2)], [.int ((40 * l3) + s176.2), .ref 2, .long (31 * s176.1)], σ) rfl ?_
    obtain ⟨g30, h⟩ := rf_ifn h
    refine rf_gd wf1 rc_X10_digest_ok 118 (204, [some (.ref 0), some (.long s176.1), none, some (.int l3), some (.int s176.2)], [.int (σ.1 2 ((40 * l3) + s176.2).toNatClampNeg), .long (31 * s176.1)], σ) rfl rfl g30 rfl ?_
    refine rf_b wf1 rc_X10_digest_ok 119 5 (176, [some (.ref 0), some (.long ((31 * s176.1) + ((σ.1 2 ((40 * l3) + s176.2).toNatClampNeg).toInt64))), none, some (.int l3), some (.int (s176.2 + 1))], [], σ) rfl ?_
    exact kl (((31 * s176.1) + ((σ.1 2 ((40 * l3) + s176.2).toNatClampNeg).toInt64)), (s176.2 + 1)) (Option.some.inj h).symm
def f_X10_digest_b153 (σ : rf_S) (s153 : Int64 × Int32) : Option ((Int64 × Int32) ⊕ (Int64)) := if 6 ≤ s153.2 then (some (.inr s153.1)) else (if rf_ck ly1 0 1 s153.2 = true then ((rf_lp (f_X10_digest_b176 s153.2 σ) 5000 (((31 * s153.1) + ((σ.1 1 s153.2.toNatClampNeg).toInt64)), 0)).bind (fun e31 => some (.inl (e31, (s153.2 + 1))))) else none)
set_option maxHeartbeats 2000000 in
theorem ok_X10_digest_b153 (d : Nat) (σ : rf_S) (s153 : Int64 × Int32) (o : ((Int64 × Int32) ⊕ (Int64))) (h : f_X10_digest_b153 σ s153 = some o) {r : Option Value} {σr : rf_S} (kl : ∀ s', o = .inl s' → rf_G ly1 (d + 7) mX10_digest (153, [some (.ref 0), some (.long s'.1), none, some (.int s'.2), none], [], σ) r σr) (kx : ∀ e, o = .inr e → rf_G ly1 (d + 7) mX10_digest (219, [some (.ref 0), some (.long e), none, none, none], [], σ) r σr) : rf_G ly1 (d + 7) mX10_digest (153, [some (.ref 0), some (.long s153.1), none, some (.int s153.2), none], [], σ) r σr := by
  unfold f_X10_digest_b153 at h
  refine rf_b wf1 rc_X10_digest_ok 87 2 (156, [some (.ref 0), some (.long s153.1), none, some (.int s153.2), none], [.int 6, .int s153.2], σ) rfl ?_
  by_cases c26 : 6 ≤ s153.2
  · rw [if_pos c26] at h
    refine rf_t wf1 rc_X10_digest_ok 89 (219, [some (.ref 0), some (.long s153.1), none, some (.int s153.2), none], [], σ) rfl rfl c26 rfl ?_
    refine rf_fg [true, true, true, false, true] [some (.ref 0), some (.long s153.1), none, none, none] rfl ?_
    exact kx s153.1 (Option.some.inj h).symm
  · rw [if_neg c26] at h
    refine rf_f wf1 rc_X10_digest_ok 89 (159, [some (.ref 0), some (.long s153.1), none, some (.int s153.2), none], [], σ) rfl rfl c26 rfl ?_
    refine rf_b wf1 rc_X10_digest_ok 90 6 (169, [some (.ref 0), some (.long s153.1), none, some (.int s153.2), none], [.int s153.2, .ref 1, .long (31 * s153.1)], σ) rfl ?_
    obtain ⟨g27, h⟩ := rf_ifn h
    refine rf_gd wf1 rc_X10_digest_ok 96 (170, [some (.ref 0), some (.long s153.1), none, some (.int s153.2), none], [.int (σ.1 1 s153.2.toNatClampNeg), .long (31 * s153.1)], σ) rfl rfl g27 rfl ?_
    refine rf_b wf1 rc_X10_digest_ok 97 5 (176, [some (.ref 0), some (.long ((31 * s153.1) + ((σ.1 1 s153.2.toNatClampNeg).toInt64))), none, some (.int s153.2), some (.int 0)], [], σ) rfl ?_
    obtain ⟨e31, h32, h⟩ := Option.bind_eq_some_iff.mp h
    refine rf_lpG (b := f_X10_digest_b176 s153.2 σ) (G := fun (s176 : Int64 × Int32) => rf_G ly1 (d + 7) mX10_digest (176, [some (.ref 0), some (.long s176.1), none, some (.int s153.2), some (.int s176.2)], [], σ) r σr) (K := fun (e : (Int64)) => rf_G ly1 (d + 7) mX10_digest (213, [some (.ref 0), some (.long e), none, some (.int s153.2), none], [], σ) r σr) (fun (s176 : Int64 × Int32) (o : (Int64 × Int32) ⊕ (Int64)) hb kl kx => ok_X10_digest_b176 d s153.2 σ s176 o hb kl kx) 5000 (((31 * s153.1) + ((σ.1 1 s153.2.toNatClampNeg).toInt64)), 0) e31 h32 ?_
    show rf_G _ _ _ (213, [some (.ref 0), some (.long e31), none, some (.int s153.2), none], [], σ) _ _
    refine rf_b wf1 rc_X10_digest_ok 124 2 (153, [some (.ref 0), some (.long e31), none, some (.int (s153.2 + 1)), none], [], σ) rfl ?_
    exact kl (e31, (s153.2 + 1)) (Option.some.inj h).symm
def f_X10_digest_b243 (l3 : Int32) (σ : rf_S) (s243 : Int64 × Int32) : Option ((Int64 × Int32) ⊕ (Int64)) := if rf_ck ly1 0 3 l3 = true then (if (σ.1 3 l3.toNatClampNeg) ≤ s243.2 then (some (.inr s243.1)) else (if rf_ck ly1 0 4 ((60 * l3) + s243.2) = true then (some (.inl (((31 * s243.1) + ((σ.1 4 ((60 * l3) + s243.2).toNatClampNeg).toInt64)), (s243.2 + 1)))) else none)) else none
set_option maxHeartbeats 2000000 in
theorem ok_X10_digest_b243 (d : Nat) (l3 : Int32) (σ : rf_S) (s243 : Int64 × Int32) (o : ((Int64 × Int32) ⊕ (Int64))) (h : f_X10_digest_b243 l3 σ s243 = some o) {r : Option Value} {σr : rf_S} (kl : ∀ s', o = .inl s' → rf_G ly1 (d + 7) mX10_digest (243, [some (.ref 0), some (.long s'.1), none, some (.int l3), some (.int s'.2)], [], σ) r σr) (kx : ∀ e, o = .inr e → rf_G ly1 (d + 7) mX10_digest (280, [some (.ref 0), some (.long e), none, some (.int l3), none], [], σ) r σr) : rf_G ly1 (d + 7) mX10_digest (243, [some (.ref 0), some (.long s243.1), none, some (.int l3), some (.int s243.2)], [], σ) r σr := by
  unfold f_X10_digest_b243 at h
  refine rf_b wf1 rc_X10_digest_ok 143 4 (250, [some (.ref 0), some (.long s243.1), none, some (.int l3), some (.int s243.2)], [.int l3, .ref 3, .int s243.2], σ) rfl ?_
  obtain ⟨g37, h⟩ := rf_ifn h
  refine rf_gd wf1 rc_X10_digest_ok 147 (251, [some (.ref 0), some (.long s243.1), none, some (.int l3), some (.int s243.2)], [.int (σ.1 3 l3.toNatClampNeg), .int s243.2], σ) rfl rfl g37 rfl ?_
  by_cases c38 : (σ.1 3 l3.toNatClampNeg) ≤ s243.2
  · rw [if_pos c38] at h
    refine rf_t wf1 rc_X10_digest_ok 148 (280, [some (.ref 0), some (.long s243.1), none, some (.int l3), some (.int s243.2)], [], σ) rfl rfl c38 rfl ?_
    refine rf_fg [true, true, true, true, false] [some (.ref 0), some (.long s243.1), none, some (.int l3), none] rfl ?_
    exact kx s243.1 (Option.some.inj h).symm
  · rw [if_neg c38] at h
    refine rf_f wf1 rc_X10_digest_ok 148 (254, [some (.ref 0), some (.long s243.1), none, some (.int l3), some (.int s243.2)], [], σ) rfl rfl c38 rfl ?_
    refine rf_b wf1 rc_X10_digest_ok 149 10 (270, [some (.ref 0), some (.long s243.1), none, some (.int l3), some (.int s243.2)], [.int ((60 * l3) + s243.2), .ref 4, .long (31 * s243.1)], σ) rfl ?_
    obtain ⟨g39, h⟩ := rf_ifn h
    refine rf_gd wf1 rc_X10_digest_ok 159 (271, [some (.ref 0), some (.long s243.1), none, some (.int l3), some (.int s243.2)], [.int (σ.1 4 ((60 * l3) + s243.2).toNatClampNeg), .long (31 * s243.1)], σ) rfl rfl g39 rfl ?_
    refine rf_b wf1 rc_X10_digest_ok 160 5 (243, [some (.ref 0), some (.long ((31 * s243.1) + ((σ.1 4 ((60 * l3) + s243.2).toNatClampNeg).toInt64))), none, some (.int l3), some (.int (s243.2 + 1))], [], σ) rfl ?_
    exact kl (((31 * s243.1) + ((σ.1 4 ((60 * l3) + s243.2).toNatClampNeg).toInt64)), (s243.2 + 1)) (Option.some.inj h).symm
def f_X10_digest_b221 (σ : rf_S) (s221 : Int64 × Int32) : Option ((Int64 × Int32) ⊕ (Int64)) := if 4 ≤ s221.2 then (some (.inr s221.1)) else (if rf_ck ly1 0 3 s221.2 = true then ((rf_lp (f_X10_digest_b243 s221.2 σ) 5000 (((31 * s221.1) + ((σ.1 3 s221.2.toNatClampNeg).toInt64)), 0)).bind (fun e40 => some (.inl (e40, (s221.2 + 1))))) else none)
set_option maxHeartbeats 2000000 in
theorem ok_X10_digest_b221 (d : Nat) (σ : rf_S) (s221 : Int64 × Int32) (o : ((Int64 × Int32) ⊕ (Int64))) (h : f_X10_digest_b221 σ s221 = some o) {r : Option Value} {σr : rf_S} (kl : ∀ s', o = .inl s' → rf_G ly1 (d + 7) mX10_digest (221, [some (.ref 0), some (.long s'.1), none, some (.int s'.2), none], [], σ) r σr) (kx : ∀ e, o = .inr e → rf_G ly1 (d + 7) mX10_digest (286, [none, some (.long e), none, none, none], [], σ) r σr) : rf_G ly1 (d + 7) mX10_digest (221, [some (.ref 0), some (.long s221.1), none, some (.int s221.2), none], [], σ) r σr := by
  unfold f_X10_digest_b221 at h
  refine rf_b wf1 rc_X10_digest_ok 128 2 (223, [some (.ref 0), some (.long s221.1), none, some (.int s221.2), none], [.int 4, .int s221.2], σ) rfl ?_
  by_cases c35 : 4 ≤ s221.2
  · rw [if_pos c35] at h
    refine rf_t wf1 rc_X10_digest_ok 130 (286, [some (.ref 0), some (.long s221.1), none, some (.int s221.2), none], [], σ) rfl rfl c35 rfl ?_
    refine rf_fg [false, true, true, false, true] [none, some (.long s221.1), none, none, none] rfl ?_
    exact kx s221.1 (Option.some.inj h).symm
  · rw [if_neg c35] at h
    refine rf_f wf1 rc_X10_digest_ok 130 (226, [some (.ref 0), some (.long s221.1), none, some (.int s221.2), none], [], σ) rfl rfl c35 rfl ?_
    refine rf_b wf1 rc_X10_digest_ok 131 6 (236, [some (.ref 0), some (.long s221.1), none, some (.int s221.2), none], [.int s221.2, .ref 3, .long (31 * s221.1)], σ) rfl ?_
    obtain ⟨g36, h⟩ := rf_ifn h
    refine rf_gd wf1 rc_X10_digest_ok 137 (237, [some (.ref 0), some (.long s221.1), none, some (.int s221.2), none], [.int (σ.1 3 s221.2.toNatClampNeg), .long (31 * s221.1)], σ) rfl rfl g36 rfl ?_
    refine rf_b wf1 rc_X10_digest_ok 138 5 (243, [some (.ref 0), some (.long ((31 * s221.1) + ((σ.1 3 s221.2.toNatClampNeg).toInt64))), none, some (.int s221.2), some (.int 0)], [], σ) rfl ?_
    obtain ⟨e40, h41, h⟩ := Option.bind_eq_some_iff.mp h
    refine rf_lpG (b := f_X10_digest_b243 s221.2 σ) (G := fun (s243 : Int64 × Int32) => rf_G ly1 (d + 7) mX10_digest (243, [some (.ref 0), some (.long s243.1), none, some (.int s221.2), some (.int s243.2)], [], σ) r σr) (K := fun (e : (Int64)) => rf_G ly1 (d + 7) mX10_digest (280, [some (.ref 0), some (.long e), none, some (.int s221.2), none], [], σ) r σr) (fun (s243 : Int64 × Int32) (o : (Int64 × Int32) ⊕ (Int64)) hb kl kx => ok_X10_digest_b243 d s221.2 σ s243 o hb kl kx) 5000 (((31 * s221.1) + ((σ.1 3 s221.2.toNatClampNeg).toInt64)), 0) e40 h41 ?_
    show rf_G _ _ _ (280, [some (.ref 0), some (.long e40), none, some (.int s221.2), none], [], σ) _ _
    refine rf_b wf1 rc_X10_digest_ok 165 2 (221, [some (.ref 0), some (.long e40), none, some (.int (s221.2 + 1)), none], [], σ) rfl ?_
    exact kl (e40, (s221.2 + 1)) (Option.some.inj h).symm
def f_X10_digest (σ : rf_S) : Option Int64 := (rf_lp (f_X10_digest_b6 σ) 5000 (17, 0)).bind (fun e4 => (rf_lp (f_X10_digest_b33 σ) 5000 (e4, 0)).bind (fun e12 => (rf_lp (f_X10_digest_b79 σ) 5000 (e12, 0)).bind (fun e20 => (rf_lp (f_X10_digest_b126 σ) 5000 (e20, 0)).bind (fun e24 => (rf_lp (f_X10_digest_b153 σ) 5000 (e24, 0)).bind (fun e33 => (rf_lp (f_X10_digest_b221 σ) 5000 (e33, 0)).bind (fun e42 => some e42))))))
set_option maxHeartbeats 2000000 in
theorem ok_X10_digest (d : Nat) (σ : rf_S) (q : Int64) (h : f_X10_digest σ = some q) : rf_Ex ly1 (d + 8) mX10_digest [.ref 0] σ (some (.long q) : Option Value) σ := by
  unfold f_X10_digest at h
  refine rf_ex mw_X10_digest [some (.ref 0), none, none, none, none] (Nat.le_of_ble_eq_true rfl) rfl ?_
  refine rf_b wf1 rc_X10_digest_ok 0 4 (6, [some (.ref 0), some (.long 17), none, some (.int 0), none], [], σ) rfl ?_
  obtain ⟨e4, h5, h⟩ := Option.bind_eq_some_iff.mp h
  refine rf_lpG (b := f_X10_digest_b6 σ) (G := fun (s6 : Int64 × Int32) => rf_G ly1 (d + 7) mX10_digest (6, [some (.ref 0), some (.long s6.1), none, some (.int s6.2), none], [], σ) (some (.long q) : Option Value) σ) (K := fun (e : (Int64)) => rf_G ly1 (d + 7) mX10_digest (31, [some (.ref 0), some (.long e), none, none, none], [], σ) (some (.long q) : Option Value) σ) (fun (s6 : Int64 × Int32) (o : (Int64 × Int32) ⊕ (Int64)) hb kl kx => ok_X10_digest_b6 d σ s6 o hb kl kx) 5000 (17, 0) e4 h5 ?_
  show rf_G _ _ _ (31, [some (.ref 0), some (.long e4), none, none, none], [], σ) _ _
  refine rf_b wf1 rc_X10_digest_ok 18 2 (33, [some (.ref 0), some (.long e4), none, some (.int 0), none], [], σ) rfl ?_
  obtain ⟨e12, h13, h⟩ := Option.bind_eq_some_iff.mp h
  refine rf_lpG (b := f_X10_digest_b33 σ) (G := fun (s33 : Int64 × Int32) => rf_G ly1 (d + 7) mX10_digest (33, [some (.ref 0), some (.long s33.1), none, some (.int s33.2), none], [], σ) (some (.long q) : Option Value) σ) (K := fun (e : (Int64)) => rf_G ly1 (d + 7) mX10_digest (77, [some (.ref 0), some (.long e), none, none, none], [], σ) (some (.long q) : Option Value) σ) (fun (s33 : Int64 × Int32) (o : (Int64 × Int32) ⊕ (Int64)) hb kl kx => ok_X10_digest_b33 d σ s33 o hb kl kx) 5000 (e4, 0) e12 h13 ?_
  show rf_G _ _ _ (77, [some (.ref 0), some (.long e12), none, none, none], [], σ) _ _
  refine rf_b wf1 rc_X10_digest_ok 43 2 (79, [some (.ref 0), some (.long e12), none, some (.int 0), none], [], σ) rfl ?_
  obtain ⟨e20, h21, h⟩ := Option.bind_eq_some_iff.mp h
  refine rf_lpG (b := f_X10_digest_b79 σ) (G := fun (s79 : Int64 × Int32) => rf_G ly1 (d + 7) mX10_digest (79, [some (.ref 0), some (.long s79.1), none, some (.int s79.2), none], [], σ) (some (.long q) : Option Value) σ) (K := fun (e : (Int64)) => rf_G ly1 (d + 7) mX10_digest (124, [some (.ref 0), some (.long e), none, none, none], [], σ) (some (.long q) : Option Value) σ) (fun (s79 : Int64 × Int32) (o : (Int64 × Int32) ⊕ (Int64)) hb kl kx => ok_X10_digest_b79 d σ s79 o hb kl kx) 5000 (e12, 0) e20 h21 ?_
  show rf_G _ _ _ (124, [some (.ref 0), some (.long e20), none, none, none], [], σ) _ _
  refine rf_b wf1 rc_X10_digest_ok 68 2 (126, [some (.ref 0), some (.long e20), none, some (.int 0), none], [], σ) rfl ?_
  obtain ⟨e24, h25, h⟩ := Option.bind_eq_some_iff.mp h
  refine rf_lpG (b := f_X10_digest_b126 σ) (G := fun (s126 : Int64 × Int32) => rf_G ly1 (d + 7) mX10_digest (126, [some (.ref 0), some (.long s126.1), none, some (.int s126.2), none], [], σ) (some (.long q) : Option Value) σ) (K := fun (e : (Int64)) => rf_G ly1 (d + 7) mX10_digest (151, [some (.ref 0), some (.long e), none, none, none], [], σ) (some (.long q) : Option Value) σ) (fun (s126 : Int64 × Int32) (o : (Int64 × Int32) ⊕ (Int64)) hb kl kx => ok_X10_digest_b126 d σ s126 o hb kl kx) 5000 (e20, 0) e24 h25 ?_
  show rf_G _ _ _ (151, [some (.ref 0), some (.long e24), none, none, none], [], σ) _ _
  refine rf_b wf1 rc_X10_digest_ok 85 2 (153, [some (.ref 0), some (.long e24), none, some (.int 0), none], [], σ) rfl ?_
  obtain ⟨e33, h34, h⟩ := Option.bind_eq_some_iff.mp h
  refine rf_lpG (b := f_X10_digest_b153 σ) (G := fun (s153 : Int64 × Int32) => rf_G ly1 (d + 7) mX10_digest (153, [some (.ref 0), some (.long s153.1), none, some (.int s153.2), none], [], σ) (some (.long q) : Option Value) σ) (K := fun (e : (Int64)) => rf_G ly1 (d + 7) mX10_digest (219, [some (.ref 0), some (.long e), none, none, none], [], σ) (some (.long q) : Option Value) σ) (fun (s153 : Int64 × Int32) (o : (Int64 × Int32) ⊕ (Int64)) hb kl kx => ok_X10_digest_b153 d σ s153 o hb kl kx) 5000 (e24, 0) e33 h34 ?_
  show rf_G _ _ _ (219, [some (.ref 0), some (.long e33), none, none, none], [], σ) _ _
  refine rf_b wf1 rc_X10_digest_ok 126 2 (221, [some (.ref 0), some (.long e33), none, some (.int 0), none], [], σ) rfl ?_
  obtain ⟨e42, h43, h⟩ := Option.bind_eq_some_iff.mp h
  refine rf_lpG (b := f_X10_digest_b221 σ) (G := fun (s221 : Int64 × Int32) => rf_G ly1 (d + 7) mX10_digest (221, [some (.ref 0), some (.long s221.1), none, some (.int s221.2), none], [], σ) (some (.long q) : Option Value) σ) (K := fun (e : (Int64)) => rf_G ly1 (d + 7) mX10_digest (286, [none, some (.long e), none, none, none], [], σ) (some (.long q) : Option Value) σ) (fun (s221 : Int64 × Int32) (o : (Int64 × Int32) ⊕ (Int64)) hb kl kx => ok_X10_digest_b221 d σ s221 o hb kl kx) 5000 (e33, 0) e42 h43 ?_
  show rf_G _ _ _ (286, [none, some (.long e42), none, none, none], [], σ) _ _
  refine rf_b wf1 rc_X10_digest_ok 167 1 (287, [none, some (.long e42), none, none, none], [.long e42], σ) rfl ?_
  obtain rfl := Option.some.inj h
  exact rf_rl rc_X10_digest_ok 168 rfl rfl
