def rc_X9_fits : List rf_E := [(0, .aload_n 0, 1, 0), (1, .iload_n 1, 1, 1), (2, .invokevirtual 302, 3, 0), (5, .istore_n 2, 1, 2), (6, .iload_n 2, 1, 2), (7, .ifCond .eq 5, 3, 12), (10, .iload_n 2, 1, 2), (11, .ireturn, 1, 0), (12, .aload_n 0, 1, 0), (13, .iload_n 1, 1, 1), (14, .bipush (-9), 2, 0), (16, .invokevirtual 305, 3, 0), (19, .istore_n 3, 1, 3), (20, .aload_n 0, 1, 0), (21, .iload_n 3, 1, 3), (22, .invokestatic 185, 3, 0), (25, .putfield 88, 3, 910), (28, .iload_n 3, 1, 3), (29, .ireturn, 1, 0)]
theorem rc_X9_fits_ok : rf_rc mX9_fits rc_X9_fits = true := by decide +kernel
theorem mw_X9_fits : rf_mw mX9_fits := ⟨rf_mt_ok _ (List.mem_of_getElem? (i := 106) rfl), fun h => absurd h (by decide), fun _ => ⟨rf_mi_ok _ (List.mem_of_getElem? (i := 101) rfl), rf_mv_ok _ (List.mem_of_getElem? (i := 101) rfl)⟩, rf_mq_4 _ (List.mem_of_getElem? (i := 6) rfl)⟩
def f_X9_fits (p0 : Int32) (σ : rf_S) : Option (Int32 × rf_S) := (f_X9_refusedRecord p0 σ).bind (fun q1 => if q1.1 = 0 then ((f_X9_fitting p0 (-9) q1.2).bind (fun q4 => (f_J_bitCount q4 q1.2).bind (fun q6 => some (q4, (rf_sI q1.2 0 10 q6))))) else (some (q1.1, q1.2)))
set_option maxHeartbeats 2000000 in
theorem ok_X9_fits (d : Nat) (p0 : Int32) (σ : rf_S) (q : (Int32 × rf_S)) (h : f_X9_fits p0 σ = some q) : rf_Ex ly0 (d + 5) mX9_fits [.ref 0, .int p0] σ (some (.int q.1) : Option Value) q.2 := by
  unfold f_X9_fits at h
  refine rf_ex mw_X9_fits [some (.ref 0), some (.int p0), none, none] (Nat.le_of_ble_eq_true rfl) rfl ?_
  refine rf_b wf0 rc_X9_fits_ok 0 2 (2, [some (.ref 0), some (.int p0), none, none], [.int p0, .ref 0], σ) rfl ?_
  obtain ⟨q1, h2, h⟩ := Option.bind_eq_some_iff.mp h
  refine rf_cv1 (Mt := mX9_refusedRecord) wf0 rc_X9_fits_ok 2 false rfl (List.mem_of_getElem? (i := 119) rfl) mw_X9_refusedRecord rfl 0 [.int p0] [] rfl rfl rfl (Nat.le_of_ble_eq_true rfl) (ok_X9_refusedRecord (d + 1) p0 σ q1 h2) ?_
  show rf_G _ _ _ (5, [some (.ref 0), some (.int p0), none, none], [.int q1.1], q1.2) _ _
  refine rf_b wf0 rc_X9_fits_ok 3 2 (7, [some (.ref 0), some (.int p0), some (.int q1.1), none], [.int q1.1], q1.2) rfl ?_
  by_cases c3 : q1.1 = 0
  · rw [if_pos c3] at h
    refine rf_t wf0 rc_X9_fits_ok 5 (12, [some (.ref 0), some (.int p0), some (.int q1.1), none], [], q1.2) rfl rfl c3 rfl ?_
    refine rf_b wf0 rc_X9_fits_ok 8 3 (16, [some (.ref 0), some (.int p0), some (.int q1.1), none], [.int (-9), .int p0, .ref 0], q1.2) rfl ?_
    obtain ⟨q4, h5, h⟩ := Option.bind_eq_some_iff.mp h
    refine rf_cv1 (Mt := mX9_fitting) wf0 rc_X9_fits_ok 11 false rfl (List.mem_of_getElem? (i := 120) rfl) mw_X9_fitting rfl 0 [.int p0, .int (-9)] [] rfl rfl rfl (Nat.le_of_ble_eq_true rfl) (ok_X9_fitting d p0 (-9) q1.2 q4 h5) ?_
    show rf_G _ _ _ (19, [some (.ref 0), some (.int p0), some (.int q1.1), none], [.int q4], q1.2) _ _
    refine rf_b wf0 rc_X9_fits_ok 12 3 (22, [some (.ref 0), some (.int p0), some (.int q1.1), some (.int q4)], [.int q4, .ref 0], q1.2) rfl ?_
    obtain ⟨q6, h7, h⟩ := Option.bind_eq_some_iff.mp h
    refine rf_cs1 (Mt := mJ6_bitCount_0f7a4) rc_X9_fits_ok 15 false rfl (List.mem_of_getElem? (i := 95) rfl) mw_J_bitCount rfl [.int q4] [.ref 0] rfl rfl (Nat.le_of_ble_eq_true rfl) (ok_J_bitCount (d + 3) q4 q1.2 q6 h7) ?_
    show rf_G _ _ _ (25, [some (.ref 0), some (.int p0), some (.int q1.1), some (.int q4)], [.int q6, .ref 0], q1.2) _ _
    refine rf_b wf0 rc_X9_fits_ok 16 2 (29, [some (.ref 0), some (.int p0), some (.int q1.1), some (.int q4)], [.int q4], (rf_sI q1.2 0 10 q6)) rfl ?_
    obtain rfl := Option.some.inj h
    exact rf_ri rc_X9_fits_ok 18 rfl rfl
  · rw [if_neg c3] at h
    refine rf_f wf0 rc_X9_fits_ok 5 (10, [some (.ref 0), some (.int p0), some (.int q1.1), none], [], q1.2) rfl rfl c3 rfl ?_
    refine rf_b wf0 rc_X9_fits_ok 6 1 (11, [some (.ref 0), some (.int p0), some (.int q1.1), none], [.int q1.1], q1.2) rfl ?_
    obtain rfl := Option.some.inj h
    exact rf_ri rc_X9_fits_ok 7 rfl rfl
def rc_X9_tickled : List rf_E := [(0, .aload_n 0, 1, 0), (1, .iload_n 1, 1, 1), (2, .invokevirtual 302, 3, 0), (5, .istore_n 2, 1, 2), (6, .iload_n 2, 1, 2), (7, .ifCond .eq 5, 3, 12), (10, .iload_n 2, 1, 2), (11, .ireturn, 1, 0), (12, .iconst 0, 1, 0), (13, .istore_n 3, 1, 3), (14, .iconst 0, 1, 0), (15, .istore 4, 2, 4), (17, .iload 4, 2, 4), (19, .iconst 1, 1, 0), (20, .iadd, 1, 0), (21, .aload_n 0, 1, 0), (22, .getfield 10, 3, 900), (25, .iload_n 1, 1, 1), (26, .invokevirtual 114, 3, 0), (29, .if_icmp .ge 34, 3, 63), (32, .aload_n 0, 1, 0), (33, .iload_n 1, 1, 1), (34, .iload 4, 2, 4), (36, .invokevirtual 305, 3, 0), (39, .ifCond .eq 18, 3, 57), (42, .iload_n 3, 1, 3), (43, .iconst 1, 1, 0), (44, .aload_n 0, 1, 0), (45, .getfield 10, 3, 900), (48, .iload_n 1, 1, 1), (49, .iload 4, 2, 4), (51, .invokevirtual 85, 3, 0), (54, .ishl, 1, 0), (55, .ior, 1, 0), (56, .istore_n 3, 1, 3), (57, .iinc 4 2, 3, 4), (60, .goto (-43), 3, 17), (63, .iload_n 3, 1, 3), (64, .ireturn, 1, 0)]
theorem rc_X9_tickled_ok : rf_rc mX9_tickled rc_X9_tickled = true := by decide +kernel
theorem mw_X9_tickled : rf_mw mX9_tickled := ⟨rf_mt_ok _ (List.mem_of_getElem? (i := 107) rfl), fun h => absurd h (by decide), fun _ => ⟨rf_mi_ok _ (List.mem_of_getElem? (i := 102) rfl), rf_mv_ok _ (List.mem_of_getElem? (i := 102) rfl)⟩, rf_mq_4 _ (List.mem_of_getElem? (i := 7) rfl)⟩
def f_X9_tickled_j57 (l1 : Int32) (l3 : Int32) (l4 : Int32) (σ : rf_S) : Option ((Int32 × Int32) ⊕ (Int32)) := some (.inl (l3, (l4 + 2)))
set_option maxHeartbeats 2000000 in
theorem ok_X9_tickled_j57 (d : Nat) (l1 : Int32) (l3 : Int32) (l4 : Int32) (σ : rf_S) (o : ((Int32 × Int32) ⊕ (Int32))) (h : f_X9_tickled_j57 l1 l3 l4 σ = some o) {r : Option Value} {σr : rf_S} (kl : ∀ s', o = .inl s' → rf_G ly0 (d + 4) mX9_tickled (17, [some (.ref 0), some (.int l1), none, some (.int s'.1), some (.int s'.2)], [], σ) r σr) (kx : ∀ e, o = .inr e → rf_G ly0 (d + 4) mX9_tickled (63, [none, none, none, some (.int e), none], [], σ) r σr) : rf_G ly0 (d + 4) mX9_tickled (57, [some (.ref 0), some (.int l1), none, some (.int l3), some (.int l4)], [], σ) r σr := by
  unfold f_X9_tickled_j57 at h
  refine rf_b wf0 rc_X9_tickled_ok 35 2 (17, [some (.ref 0), some (.int l1), none, some (.int l3), some (.int (l4 + 2))], [], σ) rfl ?_
  exact kl (l3, (l4 + 2)) (Option.some.inj h).symm
def f_X9_tickled_b17 (l1 : Int32) (σ : rf_S) (s17 : Int32 × Int32) : Option ((Int32 × Int32) ⊕ (Int32)) := (f_X4_sizeOf l1 σ).bind (fun q4 => if q4 ≤ (s17.2 + 1) then (some (.inr s17.1)) else ((f_X9_fitting l1 s17.2 σ).bind (fun q7 => if q7 = 0 then (f_X9_tickled_j57 l1 s17.1 s17.2 σ) else ((f_X4_get l1 s17.2 σ).bind (fun q10 => f_X9_tickled_j57 l1 (s17.1 ||| (1 <<< (q10 &&& 31))) s17.2 σ)))))
set_option maxHeartbeats 2000000 in
theorem ok_X9_tickled_b17 (d : Nat) (l1 : Int32) (σ : rf_S) (s17 : Int32 × Int32) (o : ((Int32 × Int32) ⊕ (Int32))) (h : f_X9_tickled_b17 l1 σ s17 = some o) {r : Option Value} {σr : rf_S} (kl : ∀ s', o = .inl s' → rf_G ly0 (d + 4) mX9_tickled (17, [some (.ref 0), some (.int l1), none, some (.int s'.1), some (.int s'.2)], [], σ) r σr) (kx : ∀ e, o = .inr e → rf_G ly0 (d + 4) mX9_tickled (63, [none, none, none, some (.int e), none], [], σ) r σr) : rf_G ly0 (d + 4) mX9_tickled (17, [some (.ref 0), some (.int l1), none, some (.int s17.1), some (.int s17.2)], [], σ) r σr := by
  unfold f_X9_tickled_b17 at h
  refine rf_b wf0 rc_X9_tickled_ok 12 6 (26, [some (.ref 0), some (.int l1), none, some (.int s17.1), some (.int s17.2)], [.int l1, .ref 1, .int (s17.2 + 1)], σ) rfl ?_
  obtain ⟨q4, h5, h⟩ := Option.bind_eq_some_iff.mp h
  refine rf_cv1 (Mt := mX4_sizeOf) wf0 rc_X9_tickled_ok 18 false rfl (List.mem_of_getElem? (i := 74) rfl) mw_X4_sizeOf rfl 1 [.int l1] [.int (s17.2 + 1)] rfl rfl rfl (Nat.le_of_ble_eq_true rfl) (ok_X4_sizeOf (d + 3) l1 σ q4 h5) ?_
  show rf_G _ _ _ (29, [some (.ref 0), some (.int l1), none, some (.int s17.1), some (.int s17.2)], [.int q4, .int (s17.2 + 1)], σ) _ _
  by_cases c6 : q4 ≤ (s17.2 + 1)
  · rw [if_pos c6] at h
    refine rf_t wf0 rc_X9_tickled_ok 19 (63, [some (.ref 0), some (.int l1), none, some (.int s17.1), some (.int s17.2)], [], σ) rfl rfl c6 rfl ?_
    refine rf_fg [false, false, true, true, false] [none, none, none, some (.int s17.1), none] rfl ?_
    exact kx s17.1 (Option.some.inj h).symm
  · rw [if_neg c6] at h
    refine rf_f wf0 rc_X9_tickled_ok 19 (32, [some (.ref 0), some (.int l1), none, some (.int s17.1), some (.int s17.2)], [], σ) rfl rfl c6 rfl ?_
    refine rf_b wf0 rc_X9_tickled_ok 20 3 (36, [some (.ref 0), some (.int l1), none, some (.int s17.1), some (.int s17.2)], [.int s17.2, .int l1, .ref 0], σ) rfl ?_
    obtain ⟨q7, h8, h⟩ := Option.bind_eq_some_iff.mp h
    refine rf_cv1 (Mt := mX9_fitting) wf0 rc_X9_tickled_ok 23 false rfl (List.mem_of_getElem? (i := 120) rfl) mw_X9_fitting rfl 0 [.int l1, .int s17.2] [] rfl rfl rfl (Nat.le_of_ble_eq_true rfl) (ok_X9_fitting d l1 s17.2 σ q7 h8) ?_
    show rf_G _ _ _ (39, [some (.ref 0), some (.int l1), none, some (.int s17.1), some (.int s17.2)], [.int q7], σ) _ _
    by_cases c9 : q7 = 0
    · rw [if_pos c9] at h
      refine rf_t wf0 rc_X9_tickled_ok 24 (57, [some (.ref 0), some (.int l1), none, some (.int s17.1), some (.int s17.2)], [], σ) rfl rfl c9 rfl ?_
      exact ok_X9_tickled_j57 d l1 s17.1 s17.2 σ o h kl kx
    · rw [if_neg c9] at h
      refine rf_f wf0 rc_X9_tickled_ok 24 (42, [some (.ref 0), some (.int l1), none, some (.int s17.1), some (.int s17.2)], [], σ) rfl rfl c9 rfl ?_
      refine rf_b wf0 rc_X9_tickled_ok 25 6 (51, [some (.ref 0), some (.int l1), none, some (.int s17.1), some (.int s17.2)], [.int s17.2, .int l1, .ref 1, .int 1, .int s17.1], σ) rfl ?_
      obtain ⟨q10, h11, h⟩ := Option.bind_eq_some_iff.mp h
      refine rf_cv1 (Mt := mX4_get) wf0 rc_X9_tickled_ok 31 false rfl (List.mem_of_getElem? (i := 67) rfl) mw_X4_get rfl 1 [.int l1, .int s17.2] [.int 1, .int s17.1] rfl rfl rfl (Nat.le_of_ble_eq_true rfl) (ok_X4_get (d + 3) l1 s17.2 σ q10 h11) ?_
      show rf_G _ _ _ (54, [some (.ref 0), some (.int l1), none, some (.int s17.1), some (.int s17.2)], [.int q10, .int 1, .int s17.1], σ) _ _
      refine rf_b wf0 rc_X9_tickled_ok 32 3 (57, [some (.ref 0), some (.int l1), none, some (.int (s17.1 ||| (1 <<< (q10 &&& 31)))), some (.int s17.2)], [], σ) rfl ?_
      exact ok_X9_tickled_j57 d l1 (s17.1 ||| (1 <<< (q10 &&& 31))) s17.2 σ o h kl kx
def f_X9_tickled (p0 : Int32) (σ : rf_S) : Option (Int32 × rf_S) := (f_X9_refusedRecord p0 σ).bind (fun q1 => if q1.1 = 0 then ((rf_lp (f_X9_tickled_b17 p0 q1.2) 5000 (0, 0)).bind (fun e12 => some (e12, q1.2))) else (some (q1.1, q1.2)))
set_option maxHeartbeats 2000000 in
theorem ok_X9_tickled (d : Nat) (p0 : Int32) (σ : rf_S) (q : (Int32 × rf_S)) (h : f_X9_tickled p0 σ = some q) : rf_Ex ly0 (d + 5) mX9_tickled [.ref 0, .int p0] σ (some (.int q.1) : Option Value) q.2 := by
  unfold f_X9_tickled at h
  refine rf_ex mw_X9_tickled [some (.ref 0), some (.int p0), none, none, none] (Nat.le_of_ble_eq_true rfl) rfl ?_
  refine rf_b wf0 rc_X9_tickled_ok 0 2 (2, [some (.ref 0), some (.int p0), none, none, none], [.int p0, .ref 0], σ) rfl ?_
  obtain ⟨q1, h2, h⟩ := Option.bind_eq_some_iff.mp h
  refine rf_cv1 (Mt := mX9_refusedRecord) wf0 rc_X9_tickled_ok 2 false rfl (List.mem_of_getElem? (i := 119) rfl) mw_X9_refusedRecord rfl 0 [.int p0] [] rfl rfl rfl (Nat.le_of_ble_eq_true rfl) (ok_X9_refusedRecord (d + 1) p0 σ q1 h2) ?_
  show rf_G _ _ _ (5, [some (.ref 0), some (.int p0), none, none, none], [.int q1.1], q1.2) _ _
  refine rf_b wf0 rc_X9_tickled_ok 3 2 (7, [some (.ref 0), some (.int p0), some (.int q1.1), none, none], [.int q1.1], q1.2) rfl ?_
  by_cases c3 : q1.1 = 0
  · rw [if_pos c3] at h
    refine rf_t wf0 rc_X9_tickled_ok 5 (12, [some (.ref 0), some (.int p0), some (.int q1.1), none, none], [], q1.2) rfl rfl c3 rfl ?_
    refine rf_b wf0 rc_X9_tickled_ok 8 4 (17, [some (.ref 0), some (.int p0), some (.int q1.1), some (.int 0), some (.int 0)], [], q1.2) rfl ?_
    refine rf_fg [true, true, false, true, true] [some (.ref 0), some (.int p0), none, some (.int 0), some (.int 0)] rfl ?_
    obtain ⟨e12, h13, h⟩ := Option.bind_eq_some_iff.mp h
    refine rf_lpG (b := f_X9_tickled_b17 p0 q1.2) (G := fun (s17 : Int32 × Int32) => rf_G ly0 (d + 4) mX9_tickled (17, [some (.ref 0), some (.int p0), none, some (.int s17.1), some (.int s17.2)], [], q1.2) (some (.int q.1) : Option Value) q.2) (K := fun (e : (Int32)) => rf_G ly0 (d + 4) mX9_tickled (63, [none, none, none, some (.int e), none], [], q1.2) (some (.int q.1) : Option Value) q.2) (fun (s17 : Int32 × Int32) (o : (Int32 × Int32) ⊕ (Int32)) hb kl kx => ok_X9_tickled_b17 d p0 q1.2 s17 o hb kl kx) 5000 (0, 0) e12 h13 ?_
    show rf_G _ _ _ (63, [none, none, none, some (.int e12), none], [], q1.2) _ _
    refine rf_b wf0 rc_X9_tickled_ok 37 1 (64, [none, none, none, some (.int e12), none], [.int e12], q1.2) rfl ?_
    obtain rfl := Option.some.inj h
    exact rf_ri rc_X9_tickled_ok 38 rfl rfl
  · rw [if_neg c3] at h
    refine rf_f wf0 rc_X9_tickled_ok 5 (10, [some (.ref 0), some (.int p0), some (.int q1.1), none, none], [], q1.2) rfl rfl c3 rfl ?_
    refine rf_b wf0 rc_X9_tickled_ok 6 1 (11, [some (.ref 0), some (.int p0), some (.int q1.1), none, none], [.int q1.1], q1.2) rfl ?_
    obtain rfl := Option.some.inj h
    exact rf_ri rc_X9_tickled_ok 7 rfl rfl
def rc_X9_refusedDays : List rf_E := [(0, .aload_n 0, 1, 0), (1, .iload_n 1, 1, 1), (2, .invokevirtual 155, 3, 0), (5, .ifCond .eq 10, 3, 15), (8, .iload_n 2, 1, 2), (9, .invokestatic 69, 3, 0), (12, .ifCond .ne 5, 3, 17), (15, .iconst (-1), 1, 0), (16, .ireturn, 1, 0), (17, .aload_n 0, 1, 0), (18, .iload_n 2, 1, 2), (19, .bipush 31, 2, 0), (21, .invokevirtual 388, 3, 0), (24, .ireturn, 1, 0)]
theorem rc_X9_refusedDays_ok : rf_rc mX9_refusedDays rc_X9_refusedDays = true := by decide +kernel
theorem mw_X9_refusedDays : rf_mw mX9_refusedDays := ⟨rf_mt_ok _ (List.mem_of_getElem? (i := 137) rfl), fun h => absurd h (by decide), fun _ => ⟨rf_mi_ok _ (List.mem_of_getElem? (i := 128) rfl), rf_mv_ok _ (List.mem_of_getElem? (i := 128) rfl)⟩, rf_mq_5 _ (List.mem_of_getElem? (i := 12) rfl)⟩
def f_X9_refusedDays (p0 : Int32) (p1 : Int32) (σ : rf_S) : Option (Int32 × rf_S) := (f_X9_isMember p0 σ).bind (fun q1 => if q1 = 0 then (some ((-1), σ)) else ((f_X9_isRow p1 σ).bind (fun q4 => if q4 ≠ 0 then ((f_X9_refusedPairs p1 31 σ).bind (fun q7 => some (q7.1, q7.2))) else (some ((-1), σ)))))
set_option maxHeartbeats 2000000 in
theorem ok_X9_refusedDays (d : Nat) (p0 : Int32) (p1 : Int32) (σ : rf_S) (q : (Int32 × rf_S)) (h : f_X9_refusedDays p0 p1 σ = some q) : rf_Ex ly0 (d + 3) mX9_refusedDays [.ref 0, .int p0, .int p1] σ (some (.int q.1) : Option Value) q.2 := by
  unfold f_X9_refusedDays at h
  refine rf_ex mw_X9_refusedDays [some (.ref 0), some (.int p0), some (.int p1)] (Nat.le_of_ble_eq_true rfl) rfl ?_
  refine rf_b wf0 rc_X9_refusedDays_ok 0 2 (2, [some (.ref 0), some (.int p0), some (.int p1)], [.int p0, .ref 0], σ) rfl ?_
  obtain ⟨q1, h2, h⟩ := Option.bind_eq_some_iff.mp h
  refine rf_cv1 (Mt := mX9_isMember) wf0 rc_X9_refusedDays_ok 2 false rfl (List.mem_of_getElem? (i := 86) rfl) mw_X9_isMember rfl 0 [.int p0] [] rfl rfl rfl (Nat.le_of_ble_eq_true rfl) (ok_X9_isMember d p0 σ q1 h2) ?_
  show rf_G _ _ _ (5, [some (.ref 0), some (.int p0), some (.int p1)], [.int q1], σ) _ _
  by_cases c3 : q1 = 0
  · rw [if_pos c3] at h
    refine rf_t wf0 rc_X9_refusedDays_ok 3 (15, [some (.ref 0), some (.int p0), some (.int p1)], [], σ) rfl rfl c3 rfl ?_
    refine rf_b wf0 rc_X9_refusedDays_ok 7 1 (16, [some (.ref 0), some (.int p0), some (.int p1)], [.int (-1)], σ) rfl ?_
    obtain rfl := Option.some.inj h
    exact rf_ri rc_X9_refusedDays_ok 8 rfl rfl
  · rw [if_neg c3] at h
    refine rf_f wf0 rc_X9_refusedDays_ok 3 (8, [some (.ref 0), some (.int p0), some (.int p1)], [], σ) rfl rfl c3 rfl ?_
    refine rf_b wf0 rc_X9_refusedDays_ok 4 1 (9, [some (.ref 0), some (.int p0), some (.int p1)], [.int p1], σ) rfl ?_
    obtain ⟨q4, h5, h⟩ := Option.bind_eq_some_iff.mp h
    refine rf_cs1 (Mt := mX9_isRow) rc_X9_refusedDays_ok 5 false rfl (List.mem_of_getElem? (i := 63) rfl) mw_X9_isRow rfl [.int p1] [] rfl rfl (Nat.le_of_ble_eq_true rfl) (ok_X9_isRow (d + 1) p1 σ q4 h5) ?_
    show rf_G _ _ _ (12, [some (.ref 0), some (.int p0), some (.int p1)], [.int q4], σ) _ _
    by_cases c6 : q4 ≠ 0
    · rw [if_pos c6] at h
      refine rf_t wf0 rc_X9_refusedDays_ok 6 (17, [some (.ref 0), some (.int p0), some (.int p1)], [], σ) rfl rfl c6 rfl ?_
      refine rf_b wf0 rc_X9_refusedDays_ok 9 3 (21, [some (.ref 0), some (.int p0), some (.int p1)], [.int 31, .int p1, .ref 0], σ) rfl ?_
      obtain ⟨q7, h8, h⟩ := Option.bind_eq_some_iff.mp h
      refine rf_cv1 (Mt := mX9_refusedPairs) wf0 rc_X9_refusedDays_ok 12 false rfl (List.mem_of_getElem? (i := 139) rfl) mw_X9_refusedPairs rfl 0 [.int p1, .int 31] [] rfl rfl rfl (Nat.le_of_ble_eq_true rfl) (ok_X9_refusedPairs d p1 31 σ q7 h8) ?_
      show rf_G _ _ _ (24, [some (.ref 0), some (.int p0), some (.int p1)], [.int q7.1], q7.2) _ _
      obtain rfl := Option.some.inj h
      exact rf_ri rc_X9_refusedDays_ok 13 rfl rfl
    · rw [if_neg c6] at h
      refine rf_f wf0 rc_X9_refusedDays_ok 6 (15, [some (.ref 0), some (.int p0), some (.int p1)], [], σ) rfl rfl c6 rfl ?_
      refine rf_b wf0 rc_X9_refusedDays_ok 7 1 (16, [some (.ref 0), some (.int p0), some (.int p1)], [.int (-1)], σ) rfl ?_
      obtain rfl := Option.some.inj h
      exact rf_ri rc_X9_refusedDays_ok 8 rfl rfl
def rc_X9_agreesWithDays : List rf_E := [(0, .iconst 1, 1, 0), (1, .istore_n 3, 1, 3), (2, .iconst 0, 1, 0), (3, .istore 4, 2, 4), (5, .iload 4, 2, 4), (7, .iconst 1, 1, 0), (8, .iadd, 1, 0), (9, .aload_n 0, 1, 0), (10, .getfield 10, 3, 900), (13, .iload_n 2, 1, 2), (14, .invokevirtual 114, 3, 0), (17, .if_icmp .ge 48, 3, 65), (20, .iload_n 3, 1, 3), (21, .ifCond .eq 36, 3, 57), (24, .iload_n 1, 1, 1), (25, .aload_n 0, 1, 0), (26, .getfield 10, 3, 900), (29, .iload_n 2, 1, 2), (30, .iload 4, 2, 4), (32, .invokevirtual 85, 3, 0), (35, .ishr, 1, 0), (36, .iconst 1, 1, 0), (37, .iand, 1, 0), (38, .aload_n 0, 1, 0), (39, .getfield 10, 3, 900), (42, .iload_n 2, 1, 2), (43, .iload 4, 2, 4), (45, .iconst 1, 1, 0), (46, .iadd, 1, 0), (47, .invokevirtual 85, 3, 0), (50, .if_icmp .ne 7, 3, 57), (53, .iconst 1, 1, 0), (54, .goto 4, 3, 58), (57, .iconst 0, 1, 0), (58, .istore_n 3, 1, 3), (59, .iinc 4 2, 3, 4), (62, .goto (-57), 3, 5), (65, .iload_n 3, 1, 3), (66, .ireturn, 1, 0)]
theorem rc_X9_agreesWithDays_ok : rf_rc mX9_agreesWithDays rc_X9_agreesWithDays = true := by decide +kernel
theorem mw_X9_agreesWithDays : rf_mw mX9_agreesWithDays := ⟨rf_mt_ok _ (List.mem_of_getElem? (i := 140) rfl), fun h => absurd h (by decide), fun _ => ⟨rf_mi_ok _ (List.mem_of_getElem? (i := 131) rfl), rf_mv_ok _ (List.mem_of_getElem? (i := 131) rfl)⟩, rf_mq_5 _ (List.mem_of_getElem? (i := 15) rfl)⟩
def f_X9_agreesWithDays_j58 (l1 : Int32) (l2 : Int32) (l4 : Int32) (t0 : Int32) (σ : rf_S) : Option ((Int32 × Int32) ⊕ (Int32)) := some (.inl (t0, (l4 + 2)))
set_option maxHeartbeats 2000000 in
theorem ok_X9_agreesWithDays_j58 (d : Nat) (l1 : Int32) (l2 : Int32) (l4 : Int32) (t0 : Int32) (σ : rf_S) (o : ((Int32 × Int32) ⊕ (Int32))) (h : f_X9_agreesWithDays_j58 l1 l2 l4 t0 σ = some o) {r : Option Value} {σr : rf_S} (kl : ∀ s', o = .inl s' → rf_G ly0 (d + 1) mX9_agreesWithDays (5, [some (.ref 0), some (.int l1), some (.int l2), some (.int s'.1), some (.int s'.2)], [], σ) r σr) (kx : ∀ e, o = .inr e → rf_G ly0 (d + 1) mX9_agreesWithDays (65, [none, none, none, some (.int e), none], [], σ) r σr) : rf_G ly0 (d + 1) mX9_agreesWithDays (58, [some (.ref 0), some (.int l1), some (.int l2), none, some (.int l4)], [.int t0], σ) r σr := by
  unfold f_X9_agreesWithDays_j58 at h
  refine rf_b wf0 rc_X9_agreesWithDays_ok 34 3 (5, [some (.ref 0), some (.int l1), some (.int l2), some (.int t0), some (.int (l4 + 2))], [], σ) rfl ?_
  exact kl (t0, (l4 + 2)) (Option.some.inj h).symm
def f_X9_agreesWithDays_j57 (l1 : Int32) (l2 : Int32) (l4 : Int32) (σ : rf_S) : Option ((Int32 × Int32) ⊕ (Int32)) := f_X9_agreesWithDays_j58 l1 l2 l4 0 σ
set_option maxHeartbeats 2000000 in
theorem ok_X9_agreesWithDays_j57 (d : Nat) (l1 : Int32) (l2 : Int32) (l4 : Int32) (σ : rf_S) (o : ((Int32 × Int32) ⊕ (Int32))) (h : f_X9_agreesWithDays_j57 l1 l2 l4 σ = some o) {r : Option Value} {σr : rf_S} (kl : ∀ s', o = .inl s' → rf_G ly0 (d + 1) mX9_agreesWithDays (5, [some (.ref 0), some (.int l1), some (.int l2), some (.int s'.1), some (.int s'.2)], [], σ) r σr) (kx : ∀ e, o = .inr e → rf_G ly0 (d + 1) mX9_agreesWithDays (65, [none, none, none, some (.int e), none], [], σ) r σr) : rf_G ly0 (d + 1) mX9_agreesWithDays (57, [some (.ref 0), some (.int l1), some (.int l2), none, some (.int l4)], [], σ) r σr := by
  unfold f_X9_agreesWithDays_j57 at h
  refine rf_b wf0 rc_X9_agreesWithDays_ok 33 1 (58, [some (.ref 0), some (.int l1), some (.int l2), none, some (.int l4)], [.int 0], σ) rfl ?_
  exact ok_X9_agreesWithDays_j58 d l1 l2 l4 0 σ o h kl kx
def f_X9_agreesWithDays_b5 (l1 : Int32) (l2 : Int32) (σ : rf_S) (s5 : Int32 × Int32) : Option ((Int32 × Int32) ⊕ (Int32)) := (f_X4_sizeOf l2 σ).bind (fun q1 => if q1 ≤ (s5.2 + 1) then (some (.inr s5.1)) else (if s5.1 = 0 then (f_X9_agreesWithDays_j57 l1 l2 s5.2 σ) else ((f_X4_get l2 s5.2 σ).bind (fun q5 => (f_X4_get l2 (s5.2 + 1) σ).bind (fun q7 => if ((l1 >>> (q5 &&& 31)) &&& 1) ≠ q7 then (f_X9_agreesWithDays_j57 l1 l2 s5.2 σ) else (f_X9_agreesWithDays_j58 l1 l2 s5.2 1 σ))))))
set_option maxHeartbeats 2000000 in
theorem ok_X9_agreesWithDays_b5 (d : Nat) (l1 : Int32) (l2 : Int32) (σ : rf_S) (s5 : Int32 × Int32) (o : ((Int32 × Int32) ⊕ (Int32))) (h : f_X9_agreesWithDays_b5 l1 l2 σ s5 = some o) {r : Option Value} {σr : rf_S} (kl : ∀ s', o = .inl s' → rf_G ly0 (d + 1) mX9_agreesWithDays (5, [some (.ref 0), some (.int l1), some (.int l2), some (.int s'.1), some (.int s'.2)], [], σ) r σr) (kx : ∀ e, o = .inr e → rf_G ly0 (d + 1) mX9_agreesWithDays (65, [none, none, none, some (.int e), none], [], σ) r σr) : rf_G ly0 (d + 1) mX9_agreesWithDays (5, [some (.ref 0), some (.int l1), some (.int l2), some (.int s5.1), some (.int s5.2)], [], σ) r σr := by
  unfold f_X9_agreesWithDays_b5 at h
  refine rf_b wf0 rc_X9_agreesWithDays_ok 4 6 (14, [some (.ref 0), some (.int l1), some (.int l2), some (.int s5.1), some (.int s5.2)], [.int l2, .ref 1, .int (s5.2 + 1)], σ) rfl ?_
  obtain ⟨q1, h2, h⟩ := Option.bind_eq_some_iff.mp h
  refine rf_cv1 (Mt := mX4_sizeOf) wf0 rc_X9_agreesWithDays_ok 10 false rfl (List.mem_of_getElem? (i := 74) rfl) mw_X4_sizeOf rfl 1 [.int l2] [.int (s5.2 + 1)] rfl rfl rfl (Nat.le_of_ble_eq_true rfl) (ok_X4_sizeOf d l2 σ q1 h2) ?_
  show rf_G _ _ _ (17, [some (.ref 0), some (.int l1), some (.int l2), some (.int s5.1), some (.int s5.2)], [.int q1, .int (s5.2 + 1)], σ) _ _
  by_cases c3 : q1 ≤ (s5.2 + 1)
  · rw [if_pos c3] at h
    refine rf_t wf0 rc_X9_agreesWithDays_ok 11 (65, [some (.ref 0), some (.int l1), some (.int l2), some (.int s5.1), some (.int s5.2)], [], σ) rfl rfl c3 rfl ?_
    refine rf_fg [false, false, false, true, false] [none, none, none, some (.int s5.1), none] rfl ?_
    exact kx s5.1 (Option.some.inj h).symm
  · rw [if_neg c3] at h
    refine rf_f wf0 rc_X9_agreesWithDays_ok 11 (20, [some (.ref 0), some (.int l1), some (.int l2), some (.int s5.1), some (.int s5.2)], [], σ) rfl rfl c3 rfl ?_
    refine rf_b wf0 rc_X9_agreesWithDays_ok 12 1 (21, [some (.ref 0), some (.int l1), some (.int l2), some (.int s5.1), some (.int s5.2)], [.int s5.1], σ) rfl ?_
    by_cases c4 : s5.1 = 0
    · rw [if_pos c4] at h
      refine rf_t wf0 rc_X9_agreesWithDays_ok 13 (57, [some (.ref 0), some (.int l1), some (.int l2), some (.int s5.1), some (.int s5.2)], [], σ) rfl rfl c4 rfl ?_
      refine rf_fg [true, true, true, false, true] [some (.ref 0), some (.int l1), some (.int l2), none, some (.int s5.2)] rfl ?_
      exact ok_X9_agreesWithDays_j57 d l1 l2 s5.2 σ o h kl kx
    · rw [if_neg c4] at h
      refine rf_f wf0 rc_X9_agreesWithDays_ok 13 (24, [some (.ref 0), some (.int l1), some (.int l2), some (.int s5.1), some (.int s5.2)], [], σ) rfl rfl c4 rfl ?_
      refine rf_b wf0 rc_X9_agreesWithDays_ok 14 5 (32, [some (.ref 0), some (.int l1), some (.int l2), some (.int s5.1), some (.int s5.2)], [.int s5.2, .int l2, .ref 1, .int l1], σ) rfl ?_
      obtain ⟨q5, h6, h⟩ := Option.bind_eq_some_iff.mp h
      refine rf_cv1 (Mt := mX4_get) wf0 rc_X9_agreesWithDays_ok 19 false rfl (List.mem_of_getElem? (i := 67) rfl) mw_X4_get rfl 1 [.int l2, .int s5.2] [.int l1] rfl rfl rfl (Nat.le_of_ble_eq_true rfl) (ok_X4_get d l2 s5.2 σ q5 h6) ?_
      show rf_G _ _ _ (35, [some (.ref 0), some (.int l1), some (.int l2), some (.int s5.1), some (.int s5.2)], [.int q5, .int l1], σ) _ _
      refine rf_b wf0 rc_X9_agreesWithDays_ok 20 9 (47, [some (.ref 0), some (.int l1), some (.int l2), some (.int s5.1), some (.int s5.2)], [.int (s5.2 + 1), .int l2, .ref 1, .int ((l1 >>> (q5 &&& 31)) &&& 1)], σ) rfl ?_
      obtain ⟨q7, h8, h⟩ := Option.bind_eq_some_iff.mp h
      refine rf_cv1 (Mt := mX4_get) wf0 rc_X9_agreesWithDays_ok 29 false rfl (List.mem_of_getElem? (i := 67) rfl) mw_X4_get rfl 1 [.int l2, .int (s5.2 + 1)] [.int ((l1 >>> (q5 &&& 31)) &&& 1)] rfl rfl rfl (Nat.le_of_ble_eq_true rfl) (ok_X4_get d l2 (s5.2 + 1) σ q7 h8) ?_
      show rf_G _ _ _ (50, [some (.ref 0), some (.int l1), some (.int l2), some (.int s5.1), some (.int s5.2)], [.int q7, .int ((l1 >>> (q5 &&& 31)) &&& 1)], σ) _ _
      by_cases c9 : ((l1 >>> (q5 &&& 31)) &&& 1) ≠ q7
      · rw [if_pos c9] at h
        refine rf_t wf0 rc_X9_agreesWithDays_ok 30 (57, [some (.ref 0), some (.int l1), some (.int l2), some (.int s5.1), some (.int s5.2)], [], σ) rfl rfl c9 rfl ?_
        refine rf_fg [true, true, true, false, true] [some (.ref 0), some (.int l1), some (.int l2), none, some (.int s5.2)] rfl ?_
        exact ok_X9_agreesWithDays_j57 d l1 l2 s5.2 σ o h kl kx
      · rw [if_neg c9] at h
        refine rf_f wf0 rc_X9_agreesWithDays_ok 30 (53, [some (.ref 0), some (.int l1), some (.int l2), some (.int s5.1), some (.int s5.2)], [], σ) rfl rfl c9 rfl ?_
        refine rf_b wf0 rc_X9_agreesWithDays_ok 31 2 (58, [some (.ref 0), some (.int l1), some (.int l2), some (.int s5.1), some (.int s5.2)], [.int 1], σ) rfl ?_
        refine rf_fg [true, true, true, false, true] [some (.ref 0), some (.int l1), some (.int l2), none, some (.int s5.2)] rfl ?_
        exact ok_X9_agreesWithDays_j58 d l1 l2 s5.2 1 σ o h kl kx
def f_X9_agreesWithDays (p0 : Int32) (p1 : Int32) (σ : rf_S) : Option Int32 := (rf_lp (f_X9_agreesWithDays_b5 p0 p1 σ) 5000 (1, 0)).bind (fun e10 => if e10 = 0 ∨ e10 = 1 then some e10 else none)
set_option maxHeartbeats 2000000 in
theorem ok_X9_agreesWithDays (d : Nat) (p0 : Int32) (p1 : Int32) (σ : rf_S) (q : Int32) (h : f_X9_agreesWithDays p0 p1 σ = some q) : rf_Ex ly0 (d + 2) mX9_agreesWithDays [.ref 0, .int p0, .int p1] σ (some (.int q) : Option Value) σ := by
  unfold f_X9_agreesWithDays at h
  refine rf_ex mw_X9_agreesWithDays [some (.ref 0), some (.int p0), some (.int p1), none, none] (Nat.le_of_ble_eq_true rfl) rfl ?_
  refine rf_b wf0 rc_X9_agreesWithDays_ok 0 4 (5, [some (.ref 0), some (.int p0), some (.int p1), some (.int 1), some (.int 0)], [], σ) rfl ?_
  obtain ⟨e10, h11, h⟩ := Option.bind_eq_some_iff.mp h
  refine rf_lpG (b := f_X9_agreesWithDays_b5 p0 p1 σ) (G := fun (s5 : Int32 × Int32) => rf_G ly0 (d + 1) mX9_agreesWithDays (5, [some (.ref 0), some (.int p0), some (.int p1), some (.int s5.1), some (.int s5.2)], [], σ) (some (.int q) : Option Value) σ) (K := fun (e : (Int32)) => rf_G ly0 (d + 1) mX9_agreesWithDays (65, [none, none, none, some (.int e), none], [], σ) (some (.int q) : Option Value) σ) (fun (s5 : Int32 × Int32) (o : (Int32 × Int32) ⊕ (Int32)) hb kl kx => ok_X9_agreesWithDays_b5 d p0 p1 σ s5 o hb kl kx) 5000 (1, 0) e10 h11 ?_
  show rf_G _ _ _ (65, [none, none, none, some (.int e10), none], [], σ) _ _
  refine rf_b wf0 rc_X9_agreesWithDays_ok 37 1 (66, [none, none, none, some (.int e10), none], [.int e10], σ) rfl ?_
  obtain ⟨g12, h⟩ := rf_ifn h
  obtain rfl := Option.some.inj h
  exact rf_rz rc_X9_agreesWithDays_ok 38 rfl rfl g12
def rc_X9_shifts : List rf_E := [(0, .aload_n 0, 1, 0), (1, .iload_n 1, 1, 1), (2, .iload_n 2, 1, 2), (3, .invokevirtual 308, 3, 0), (6, .istore_n 3, 1, 3), (7, .iload_n 3, 1, 3), (8, .ifCond .eq 5, 3, 13), (11, .iload_n 3, 1, 3), (12, .ireturn, 1, 0), (13, .iconst 0, 1, 0), (14, .istore 4, 2, 4), (16, .bipush (-5), 2, 0), (18, .istore 5, 2, 5), (20, .iload 5, 2, 5), (22, .iconst 5, 1, 0), (23, .if_icmp .gt 50, 3, 73), (26, .aload_n 0, 1, 0), (27, .getfield 33, 3, 903), (30, .iload_n 1, 1, 1), (31, .aload_n 0, 1, 0), (32, .getfield 33, 3, 903), (35, .iload_n 1, 1, 1), (36, .invokevirtual 176, 3, 0), (39, .iload 5, 2, 5), (41, .invokevirtual 311, 3, 0), (44, .istore 6, 2, 6), (46, .aload_n 0, 1, 0), (47, .iload 6, 2, 6), (49, .iload_n 2, 1, 2), (50, .invokevirtual 315, 3, 0), (53, .ifCond .eq 14, 3, 67), (56, .iload 4, 2, 4), (58, .iconst 1, 1, 0), (59, .iload 5, 2, 5), (61, .iconst 5, 1, 0), (62, .iadd, 1, 0), (63, .ishl, 1, 0), (64, .ior, 1, 0), (65, .istore 4, 2, 4), (67, .iinc 5 1, 3, 5), (70, .goto (-50), 3, 20), (73, .iload 4, 2, 4), (75, .ireturn, 1, 0)]
theorem rc_X9_shifts_ok : rf_rc mX9_shifts rc_X9_shifts = true := by decide +kernel
theorem mw_X9_shifts : rf_mw mX9_shifts := ⟨rf_mt_ok _ (List.mem_of_getElem? (i := 108) rfl), fun h => absurd h (by decide), fun _ => ⟨rf_mi_ok _ (List.mem_of_getElem? (i := 103) rfl), rf_mv_ok _ (List.mem_of_getElem? (i := 103) rfl)⟩, rf_mq_4 _ (List.mem_of_getElem? (i := 8) rfl)⟩
def f_X9_shifts_j67 (l1 : Int32) (l2 : Int32) (l4 : Int32) (l5 : Int32) (σ : rf_S) : Option ((Int32 × Int32) ⊕ (Int32)) := some (.inl (l4, (l5 + 1)))
set_option maxHeartbeats 2000000 in
theorem ok_X9_shifts_j67 (d : Nat) (l1 : Int32) (l2 : Int32) (l4 : Int32) (l5 : Int32) (σ : rf_S) (o : ((Int32 × Int32) ⊕ (Int32))) (h : f_X9_shifts_j67 l1 l2 l4 l5 σ = some o) {r : Option Value} {σr : rf_S} (kl : ∀ s', o = .inl s' → rf_G ly0 (d + 3) mX9_shifts (20, [some (.ref 0), some (.int l1), some (.int l2), none, some (.int s'.1), some (.int s'.2), none], [], σ) r σr) (kx : ∀ e, o = .inr e → rf_G ly0 (d + 3) mX9_shifts (73, [none, none, none, none, some (.int e), none, none], [], σ) r σr) : rf_G ly0 (d + 3) mX9_shifts (67, [some (.ref 0), some (.int l1), some (.int l2), none, some (.int l4), some (.int l5), none], [], σ) r σr := by
  unfold f_X9_shifts_j67 at h
  refine rf_b wf0 rc_X9_shifts_ok 39 2 (20, [some (.ref 0), some (.int l1), some (.int l2), none, some (.int l4), some (.int (l5 + 1)), none], [], σ) rfl ?_
  exact kl (l4, (l5 + 1)) (Option.some.inj h).symm
def f_X9_shifts_b20 (l1 : Int32) (l2 : Int32) (σ : rf_S) (s20 : Int32 × Int32) : Option ((Int32 × Int32) ⊕ (Int32)) := if 5 < s20.2 then (some (.inr s20.1)) else ((f_X8_kindOf l1 σ).bind (fun q5 => (f_X8_wouldAs l1 q5 s20.2 σ).bind (fun q7 => (f_X9_agreesWithDays q7 l2 σ).bind (fun q9 => if q9 = 0 then (f_X9_shifts_j67 l1 l2 s20.1 s20.2 σ) else (f_X9_shifts_j67 l1 l2 (s20.1 ||| (1 <<< ((s20.2 + 5) &&& 31))) s20.2 σ)))))
set_option maxHeartbeats 2000000 in
theorem ok_X9_shifts_b20 (d : Nat) (l1 : Int32) (l2 : Int32) (σ : rf_S) (s20 : Int32 × Int32) (o : ((Int32 × Int32) ⊕ (Int32))) (h : f_X9_shifts_b20 l1 l2 σ s20 = some o) {r : Option Value} {σr : rf_S} (kl : ∀ s', o = .inl s' → rf_G ly0 (d + 3) mX9_shifts (20, [some (.ref 0), some (.int l1), some (.int l2), none, some (.int s'.1), some (.int s'.2), none], [], σ) r σr) (kx : ∀ e, o = .inr e → rf_G ly0 (d + 3) mX9_shifts (73, [none, none, none, none, some (.int e), none, none], [], σ) r σr) : rf_G ly0 (d + 3) mX9_shifts (20, [some (.ref 0), some (.int l1), some (.int l2), none, some (.int s20.1), some (.int s20.2), none], [], σ) r σr := by
  unfold f_X9_shifts_b20 at h
  refine rf_b wf0 rc_X9_shifts_ok 13 2 (23, [some (.ref 0), some (.int l1), some (.int l2), none, some (.int s20.1), some (.int s20.2), none], [.int 5, .int s20.2], σ) rfl ?_
  by_cases c4 : 5 < s20.2
  · rw [if_pos c4] at h
    refine rf_t wf0 rc_X9_shifts_ok 15 (73, [some (.ref 0), some (.int l1), some (.int l2), none, some (.int s20.1), some (.int s20.2), none], [], σ) rfl rfl c4 rfl ?_
    refine rf_fg [false, false, false, true, true, false, true] [none, none, none, none, some (.int s20.1), none, none] rfl ?_
    exact kx s20.1 (Option.some.inj h).symm
  · rw [if_neg c4] at h
    refine rf_f wf0 rc_X9_shifts_ok 15 (26, [some (.ref 0), some (.int l1), some (.int l2), none, some (.int s20.1), some (.int s20.2), none], [], σ) rfl rfl c4 rfl ?_
    refine rf_b wf0 rc_X9_shifts_ok 16 6 (36, [some (.ref 0), some (.int l1), some (.int l2), none, some (.int s20.1), some (.int s20.2), none], [.int l1, .ref 25, .int l1, .ref 25], σ) rfl ?_
    obtain ⟨q5, h6, h⟩ := Option.bind_eq_some_iff.mp h
    refine rf_cv1 (Mt := mX8_kindOf) wf0 rc_X9_shifts_ok 22 false rfl (List.mem_of_getElem? (i := 92) rfl) mw_X8_kindOf rfl 25 [.int l1] [.int l1, .ref 25] rfl rfl rfl (Nat.le_of_ble_eq_true rfl) (ok_X8_kindOf (d + 2) l1 σ q5 h6) ?_
    show rf_G _ _ _ (39, [some (.ref 0), some (.int l1), some (.int l2), none, some (.int s20.1), some (.int s20.2), none], [.int q5, .int l1, .ref 25], σ) _ _
    refine rf_b wf0 rc_X9_shifts_ok 23 1 (41, [some (.ref 0), some (.int l1), some (.int l2), none, some (.int s20.1), some (.int s20.2), none], [.int s20.2, .int q5, .int l1, .ref 25], σ) rfl ?_
    obtain ⟨q7, h8, h⟩ := Option.bind_eq_some_iff.mp h
    refine rf_cv1 (Mt := mX8_wouldAs) wf0 rc_X9_shifts_ok 24 false rfl (List.mem_of_getElem? (i := 122) rfl) mw_X8_wouldAs rfl 25 [.int l1, .int q5, .int s20.2] [] rfl rfl rfl (Nat.le_of_ble_eq_true rfl) (ok_X8_wouldAs (d + 1) l1 q5 s20.2 σ q7 h8) ?_
    show rf_G _ _ _ (44, [some (.ref 0), some (.int l1), some (.int l2), none, some (.int s20.1), some (.int s20.2), none], [.int q7], σ) _ _
    refine rf_b wf0 rc_X9_shifts_ok 25 4 (50, [some (.ref 0), some (.int l1), some (.int l2), none, some (.int s20.1), some (.int s20.2), some (.int q7)], [.int l2, .int q7, .ref 0], σ) rfl ?_
    obtain ⟨q9, h10, h⟩ := Option.bind_eq_some_iff.mp h
    refine rf_cv1 (Mt := mX9_agreesWithDays) wf0 rc_X9_shifts_ok 29 false rfl (List.mem_of_getElem? (i := 123) rfl) mw_X9_agreesWithDays rfl 0 [.int q7, .int l2] [] rfl rfl rfl (Nat.le_of_ble_eq_true rfl) (ok_X9_agreesWithDays (d + 1) q7 l2 σ q9 h10) ?_
    show rf_G _ _ _ (53, [some (.ref 0), some (.int l1), some (.int l2), none, some (.int s20.1), some (.int s20.2), some (.int q7)], [.int q9], σ) _ _
    by_cases c11 : q9 = 0
    · rw [if_pos c11] at h
      refine rf_t wf0 rc_X9_shifts_ok 30 (67, [some (.ref 0), some (.int l1), some (.int l2), none, some (.int s20.1), some (.int s20.2), some (.int q7)], [], σ) rfl rfl c11 rfl ?_
      refine rf_fg [true, true, true, true, true, true, false] [some (.ref 0), some (.int l1), some (.int l2), none, some (.int s20.1), some (.int s20.2), none] rfl ?_
      exact ok_X9_shifts_j67 d l1 l2 s20.1 s20.2 σ o h kl kx
    · rw [if_neg c11] at h
      refine rf_f wf0 rc_X9_shifts_ok 30 (56, [some (.ref 0), some (.int l1), some (.int l2), none, some (.int s20.1), some (.int s20.2), some (.int q7)], [], σ) rfl rfl c11 rfl ?_
      refine rf_b wf0 rc_X9_shifts_ok 31 8 (67, [some (.ref 0), some (.int l1), some (.int l2), none, some (.int (s20.1 ||| (1 <<< ((s20.2 + 5) &&& 31)))), some (.int s20.2), some (.int q7)], [], σ) rfl ?_
      refine rf_fg [true, true, true, true, true, true, false] [some (.ref 0), some (.int l1), some (.int l2), none, some (.int (s20.1 ||| (1 <<< ((s20.2 + 5) &&& 31)))), some (.int s20.2), none] rfl ?_
      exact ok_X9_shifts_j67 d l1 l2 (s20.1 ||| (1 <<< ((s20.2 + 5) &&& 31))) s20.2 σ o h kl kx
def f_X9_shifts (p0 : Int32) (p1 : Int32) (σ : rf_S) : Option (Int32 × rf_S) := (f_X9_refusedDays p0 p1 σ).bind (fun q1 => if q1.1 = 0 then ((rf_lp (f_X9_shifts_b20 p0 p1 q1.2) 5000 (0, (-5))).bind (fun e12 => some (e12, q1.2))) else (some (q1.1, q1.2)))
set_option maxHeartbeats 2000000 in
theorem ok_X9_shifts (d : Nat) (p0 : Int32) (p1 : Int32) (σ : rf_S) (q : (Int32 × rf_S)) (h : f_X9_shifts p0 p1 σ = some q) : rf_Ex ly0 (d + 4) mX9_shifts [.ref 0, .int p0, .int p1] σ (some (.int q.1) : Option Value) q.2 := by
  unfold f_X9_shifts at h
  refine rf_ex mw_X9_shifts [some (.ref 0), some (.int p0), some (.int p1), none, none, none, none] (Nat.le_of_ble_eq_true rfl) rfl ?_
  refine rf_b wf0 rc_X9_shifts_ok 0 3 (3, [some (.ref 0), some (.int p0), some (.int p1), none, none, none, none], [.int p1, .int p0, .ref 0], σ) rfl ?_
  obtain ⟨q1, h2, h⟩ := Option.bind_eq_some_iff.mp h
  refine rf_cv1 (Mt := mX9_refusedDays) wf0 rc_X9_shifts_ok 3 false rfl (List.mem_of_getElem? (i := 121) rfl) mw_X9_refusedDays rfl 0 [.int p0, .int p1] [] rfl rfl rfl (Nat.le_of_ble_eq_true rfl) (ok_X9_refusedDays d p0 p1 σ q1 h2) ?_
  show rf_G _ _ _ (6, [some (.ref 0), some (.int p0), some (.int p1), none, none, none, none], [.int q1.1], q1.2) _ _
  refine rf_b wf0 rc_X9_shifts_ok 4 2 (8, [some (.ref 0), some (.int p0), some (.int p1), some (.int q1.1), none, none, none], [.int q1.1], q1.2) rfl ?_
  by_cases c3 : q1.1 = 0
  · rw [if_pos c3] at h
    refine rf_t wf0 rc_X9_shifts_ok 6 (13, [some (.ref 0), some (.int p0), some (.int p1), some (.int q1.1), none, none, none], [], q1.2) rfl rfl c3 rfl ?_
    refine rf_b wf0 rc_X9_shifts_ok 9 4 (20, [some (.ref 0), some (.int p0), some (.int p1), some (.int q1.1), some (.int 0), some (.int (-5)), none], [], q1.2) rfl ?_
    refine rf_fg [true, true, true, false, true, true, true] [some (.ref 0), some (.int p0), some (.int p1), none, some (.int 0), some (.int (-5)), none] rfl ?_
    obtain ⟨e12, h13, h⟩ := Option.bind_eq_some_iff.mp h
    refine rf_lpG (b := f_X9_shifts_b20 p0 p1 q1.2) (G := fun (s20 : Int32 × Int32) => rf_G ly0 (d + 3) mX9_shifts (20, [some (.ref 0), some (.int p0), some (.int p1), none, some (.int s20.1), some (.int s20.2), none], [], q1.2) (some (.int q.1) : Option Value) q.2) (K := fun (e : (Int32)) => rf_G ly0 (d + 3) mX9_shifts (73, [none, none, none, none, some (.int e), none, none], [], q1.2) (some (.int q.1) : Option Value) q.2) (fun (s20 : Int32 × Int32) (o : (Int32 × Int32) ⊕ (Int32)) hb kl kx => ok_X9_shifts_b20 d p0 p1 q1.2 s20 o hb kl kx) 5000 (0, (-5)) e12 h13 ?_
    show rf_G _ _ _ (73, [none, none, none, none, some (.int e12), none, none], [], q1.2) _ _
    refine rf_b wf0 rc_X9_shifts_ok 41 1 (75, [none, none, none, none, some (.int e12), none, none], [.int e12], q1.2) rfl ?_
    obtain rfl := Option.some.inj h
    exact rf_ri rc_X9_shifts_ok 42 rfl rfl
  · rw [if_neg c3] at h
    refine rf_f wf0 rc_X9_shifts_ok 6 (11, [some (.ref 0), some (.int p0), some (.int p1), some (.int q1.1), none, none, none], [], q1.2) rfl rfl c3 rfl ?_
    refine rf_b wf0 rc_X9_shifts_ok 7 1 (12, [some (.ref 0), some (.int p0), some (.int p1), some (.int q1.1), none, none, none], [.int q1.1], q1.2) rfl ?_
    obtain rfl := Option.some.inj h
    exact rf_ri rc_X9_shifts_ok 8 rfl rfl
def rc_X9_kinds : List rf_E := [(0, .aload_n 0, 1, 0), (1, .iload_n 1, 1, 1), (2, .iload_n 2, 1, 2), (3, .invokevirtual 308, 3, 0), (6, .istore_n 3, 1, 3), (7, .iload_n 3, 1, 3), (8, .ifCond .eq 5, 3, 13), (11, .iload_n 3, 1, 3), (12, .ireturn, 1, 0), (13, .iconst 0, 1, 0), (14, .istore 4, 2, 4), (16, .iconst 0, 1, 0), (17, .istore 5, 2, 5), (19, .iload 5, 2, 5), (21, .iconst 5, 1, 0), (22, .if_icmp .gt 49, 3, 71), (25, .aload_n 0, 1, 0), (26, .getfield 33, 3, 903), (29, .iload_n 1, 1, 1), (30, .iload 5, 2, 5), (32, .aload_n 0, 1, 0), (33, .getfield 33, 3, 903), (36, .getfield 199, 3, 804), (39, .iload_n 1, 1, 1), (40, .iaload, 1, 0), (41, .invokevirtual 311, 3, 0), (44, .istore 6, 2, 6), (46, .aload_n 0, 1, 0), (47, .iload 6, 2, 6), (49, .iload_n 2, 1, 2), (50, .invokevirtual 315, 3, 0), (53, .ifCond .eq 12, 3, 65), (56, .iload 4, 2, 4), (58, .iconst 1, 1, 0), (59, .iload 5, 2, 5), (61, .ishl, 1, 0), (62, .ior, 1, 0), (63, .istore 4, 2, 4), (65, .iinc 5 1, 3, 5), (68, .goto (-49), 3, 19), (71, .iload 4, 2, 4), (73, .ireturn, 1, 0)]
theorem rc_X9_kinds_ok : rf_rc mX9_kinds rc_X9_kinds = true := by decide +kernel
theorem mw_X9_kinds : rf_mw mX9_kinds := ⟨rf_mt_ok _ (List.mem_of_getElem? (i := 109) rfl), fun h => absurd h (by decide), fun _ => ⟨rf_mi_ok _ (List.mem_of_getElem? (i := 104) rfl), rf_mv_ok _ (List.mem_of_getElem? (i := 104) rfl)⟩, rf_mq_4 _ (List.mem_of_getElem? (i := 9) rfl)⟩
def f_X9_kinds_j65 (l1 : Int32) (l2 : Int32) (l4 : Int32) (l5 : Int32) (σ : rf_S) : Option ((Int32 × Int32) ⊕ (Int32)) := some (.inl (l4, (l5 + 1)))
set_option maxHeartbeats 2000000 in
theorem ok_X9_kinds_j65 (d : Nat) (l1 : Int32) (l2 : Int32) (l4 : Int32) (l5 : Int32) (σ : rf_S) (o : ((Int32 × Int32) ⊕ (Int32))) (h : f_X9_kinds_j65 l1 l2 l4 l5 σ = some o) {r : Option Value} {σr : rf_S} (kl : ∀ s', o = .inl s' → rf_G ly0 (d + 3) mX9_kinds (19, [some (.ref 0), some (.int l1), some (.int l2), none, some (.int s'.1), some (.int s'.2), none], [], σ) r σr) (kx : ∀ e, o = .inr e → rf_G ly0 (d + 3) mX9_kinds (71, [none, none, none, none, some (.int e), none, none], [], σ) r σr) : rf_G ly0 (d + 3) mX9_kinds (65, [some (.ref 0), some (.int l1), some (.int l2), none, some (.int l4), some (.int l5), none], [], σ) r σr := by
  unfold f_X9_kinds_j65 at h
  refine rf_b wf0 rc_X9_kinds_ok 38 2 (19, [some (.ref 0), some (.int l1), some (.int l2), none, some (.int l4), some (.int (l5 + 1)), none], [], σ) rfl ?_
  exact kl (l4, (l5 + 1)) (Option.some.inj h).symm
def f_X9_kinds_b19 (l1 : Int32) (l2 : Int32) (σ : rf_S) (s19 : Int32 × Int32) : Option ((Int32 × Int32) ⊕ (Int32)) := if 5 < s19.2 then (some (.inr s19.1)) else (if rf_ck ly0 0 36 l1 = true then ((f_X8_wouldAs l1 s19.2 (σ.1 36 l1.toNatClampNeg) σ).bind (fun q6 => (f_X9_agreesWithDays q6 l2 σ).bind (fun q8 => if q8 = 0 then (f_X9_kinds_j65 l1 l2 s19.1 s19.2 σ) else (f_X9_kinds_j65 l1 l2 (s19.1 ||| (1 <<< (s19.2 &&& 31))) s19.2 σ)))) else none)
set_option maxHeartbeats 2000000 in
theorem ok_X9_kinds_b19 (d : Nat) (l1 : Int32) (l2 : Int32) (σ : rf_S) (s19 : Int32 × Int32) (o : ((Int32 × Int32) ⊕ (Int32))) (h : f_X9_kinds_b19 l1 l2 σ s19 = some o) {r : Option Value} {σr : rf_S} (kl : ∀ s', o = .inl s' → rf_G ly0 (d + 3) mX9_kinds (19, [some (.ref 0), some (.int l1), some (.int l2), none, some (.int s'.1), some (.int s'.2), none], [], σ) r σr) (kx : ∀ e, o = .inr e → rf_G ly0 (d + 3) mX9_kinds (71, [none, none, none, none, some (.int e), none, none], [], σ) r σr) : rf_G ly0 (d + 3) mX9_kinds (19, [some (.ref 0), some (.int l1), some (.int l2), none, some (.int s19.1), some (.int s19.2), none], [], σ) r σr := by
  unfold f_X9_kinds_b19 at h
  refine rf_b wf0 rc_X9_kinds_ok 13 2 (22, [some (.ref 0), some (.int l1), some (.int l2), none, some (.int s19.1), some (.int s19.2), none], [.int 5, .int s19.2], σ) rfl ?_
  by_cases c4 : 5 < s19.2
  · rw [if_pos c4] at h
    refine rf_t wf0 rc_X9_kinds_ok 15 (71, [some (.ref 0), some (.int l1), some (.int l2), none, some (.int s19.1), some (.int s19.2), none], [], σ) rfl rfl c4 rfl ?_
    refine rf_fg [false, false, false, true, true, false, true] [none, none, none, none, some (.int s19.1), none, none] rfl ?_
    exact kx s19.1 (Option.some.inj h).symm
  · rw [if_neg c4] at h
    refine rf_f wf0 rc_X9_kinds_ok 15 (25, [some (.ref 0), some (.int l1), some (.int l2), none, some (.int s19.1), some (.int s19.2), none], [], σ) rfl rfl c4 rfl ?_
    refine rf_b wf0 rc_X9_kinds_ok 16 8 (40, [some (.ref 0), some (.int l1), some (.int l2), none, some (.int s19.1), some (.int s19.2), none], [.int l1, .ref 36, .int s19.2, .int l1, .ref 25], σ) rfl ?_
    obtain ⟨g5, h⟩ := rf_ifn h
    refine rf_gd wf0 rc_X9_kinds_ok 24 (41, [some (.ref 0), some (.int l1), some (.int l2), none, some (.int s19.1), some (.int s19.2), none], [.int (σ.1 36 l1.toNatClampNeg), .int s19.2, .int l1, .ref 25], σ) rfl rfl g5 rfl ?_
    obtain ⟨q6, h7, h⟩ := Option.bind_eq_some_iff.mp h
    refine rf_cv1 (Mt := mX8_wouldAs) wf0 rc_X9_kinds_ok 25 false rfl (List.mem_of_getElem? (i := 122) rfl) mw_X8_wouldAs rfl 25 [.int l1, .int s19.2, .int (σ.1 36 l1.toNatClampNeg)] [] rfl rfl rfl (Nat.le_of_ble_eq_true rfl) (ok_X8_wouldAs (d + 1) l1 s19.2 (σ.1 36 l1.toNatClampNeg) σ q6 h7) ?_
    show rf_G _ _ _ (44, [some (.ref 0), some (.int l1), some (.int l2), none, some (.int s19.1), some (.int s19.2), none], [.int q6], σ) _ _
    refine rf_b wf0 rc_X9_kinds_ok 26 4 (50, [some (.ref 0), some (.int l1), some (.int l2), none, some (.int s19.1), some (.int s19.2), some (.int q6)], [.int l2, .int q6, .ref 0], σ) rfl ?_
    obtain ⟨q8, h9, h⟩ := Option.bind_eq_some_iff.mp h
    refine rf_cv1 (Mt := mX9_agreesWithDays) wf0 rc_X9_kinds_ok 30 false rfl (List.mem_of_getElem? (i := 123) rfl) mw_X9_agreesWithDays rfl 0 [.int q6, .int l2] [] rfl rfl rfl (Nat.le_of_ble_eq_true rfl) (ok_X9_agreesWithDays (d + 1) q6 l2 σ q8 h9) ?_
    show rf_G _ _ _ (53, [some (.ref 0), some (.int l1), some (.int l2), none, some (.int s19.1), some (.int s19.2), some (.int q6)], [.int q8], σ) _ _
    by_cases c10 : q8 = 0
    · rw [if_pos c10] at h
      refine rf_t wf0 rc_X9_kinds_ok 31 (65, [some (.ref 0), some (.int l1), some (.int l2), none, some (.int s19.1), some (.int s19.2), some (.int q6)], [], σ) rfl rfl c10 rfl ?_
      refine rf_fg [true, true, true, true, true, true, false] [some (.ref 0), some (.int l1), some (.int l2), none, some (.int s19.1), some (.int s19.2), none] rfl ?_
      exact ok_X9_kinds_j65 d l1 l2 s19.1 s19.2 σ o h kl kx
    · rw [if_neg c10] at h
      refine rf_f wf0 rc_X9_kinds_ok 31 (56, [some (.ref 0), some (.int l1), some (.int l2), none, some (.int s19.1), some (.int s19.2), some (.int q6)], [], σ) rfl rfl c10 rfl ?_
      refine rf_b wf0 rc_X9_kinds_ok 32 6 (65, [some (.ref 0), some (.int l1), some (.int l2), none, some (.int (s19.1 ||| (1 <<< (s19.2 &&& 31)))), some (.int s19.2), some (.int q6)], [], σ) rfl ?_
      refine rf_fg [true, true, true, true, true, true, false] [some (.ref 0), some (.int l1), some (.int l2), none, some (.int (s19.1 ||| (1 <<< (s19.2 &&& 31)))), some (.int s19.2), none] rfl ?_
      exact ok_X9_kinds_j65 d l1 l2 (s19.1 ||| (1 <<< (s19.2 &&& 31))) s19.2 σ o h kl kx
def f_X9_kinds (p0 : Int32) (p1 : Int32) (σ : rf_S) : Option (Int32 × rf_S) := (f_X9_refusedDays p0 p1 σ).bind (fun q1 => if q1.1 = 0 then ((rf_lp (f_X9_kinds_b19 p0 p1 q1.2) 5000 (0, 0)).bind (fun e11 => some (e11, q1.2))) else (some (q1.1, q1.2)))
set_option maxHeartbeats 2000000 in
theorem ok_X9_kinds (d : Nat) (p0 : Int32) (p1 : Int32) (σ : rf_S) (q : (Int32 × rf_S)) (h : f_X9_kinds p0 p1 σ = some q) : rf_Ex ly0 (d + 4) mX9_kinds [.ref 0, .int p0, .int p1] σ (some (.int q.1) : Option Value) q.2 := by
  unfold f_X9_kinds at h
  refine rf_ex mw_X9_kinds [some (.ref 0), some (.int p0), some (.int p1), none, none, none, none] (Nat.le_of_ble_eq_true rfl) rfl ?_
  refine rf_b wf0 rc_X9_kinds_ok 0 3 (3, [some (.ref 0), some (.int p0), some (.int p1), none, none, none, none], [.int p1, .int p0, .ref 0], σ) rfl ?_
  obtain ⟨q1, h2, h⟩ := Option.bind_eq_some_iff.mp h
  refine rf_cv1 (Mt := mX9_refusedDays) wf0 rc_X9_kinds_ok 3 false rfl (List.mem_of_getElem? (i := 121) rfl) mw_X9_refusedDays rfl 0 [.int p0, .int p1] [] rfl rfl rfl (Nat.le_of_ble_eq_true rfl) (ok_X9_refusedDays d p0 p1 σ q1 h2) ?_
  show rf_G _ _ _ (6, [some (.ref 0), some (.int p0), some (.int p1), none, none, none, none], [.int q1.1], q1.2) _ _
  refine rf_b wf0 rc_X9_kinds_ok 4 2 (8, [some (.ref 0), some (.int p0), some (.int p1), some (.int q1.1), none, none, none], [.int q1.1], q1.2) rfl ?_
  by_cases c3 : q1.1 = 0
  · rw [if_pos c3] at h
    refine rf_t wf0 rc_X9_kinds_ok 6 (13, [some (.ref 0), some (.int p0), some (.int p1), some (.int q1.1), none, none, none], [], q1.2) rfl rfl c3 rfl ?_
    refine rf_b wf0 rc_X9_kinds_ok 9 4 (19, [some (.ref 0), some (.int p0), some (.int p1), some (.int q1.1), some (.int 0), some (.int 0), none], [], q1.2) rfl ?_
    refine rf_fg [true, true, true, false, true, true, true] [some (.ref 0), some (.int p0), some (.int p1), none, some (.int 0), some (.int 0), none] rfl ?_
    obtain ⟨e11, h12, h⟩ := Option.bind_eq_some_iff.mp h
    refine rf_lpG (b := f_X9_kinds_b19 p0 p1 q1.2) (G := fun (s19 : Int32 × Int32) => rf_G ly0 (d + 3) mX9_kinds (19, [some (.ref 0), some (.int p0), some (.int p1), none, some (.int s19.1), some (.int s19.2), none], [], q1.2) (some (.int q.1) : Option Value) q.2) (K := fun (e : (Int32)) => rf_G ly0 (d + 3) mX9_kinds (71, [none, none, none, none, some (.int e), none, none], [], q1.2) (some (.int q.1) : Option Value) q.2) (fun (s19 : Int32 × Int32) (o : (Int32 × Int32) ⊕ (Int32)) hb kl kx => ok_X9_kinds_b19 d p0 p1 q1.2 s19 o hb kl kx) 5000 (0, 0) e11 h12 ?_
    show rf_G _ _ _ (71, [none, none, none, none, some (.int e11), none, none], [], q1.2) _ _
    refine rf_b wf0 rc_X9_kinds_ok 40 1 (73, [none, none, none, none, some (.int e11), none, none], [.int e11], q1.2) rfl ?_
    obtain rfl := Option.some.inj h
    exact rf_ri rc_X9_kinds_ok 41 rfl rfl
  · rw [if_neg c3] at h
    refine rf_f wf0 rc_X9_kinds_ok 6 (11, [some (.ref 0), some (.int p0), some (.int p1), some (.int q1.1), none, none, none], [], q1.2) rfl rfl c3 rfl ?_
    refine rf_b wf0 rc_X9_kinds_ok 7 1 (12, [some (.ref 0), some (.int p0), some (.int p1), some (.int q1.1), none, none, none], [.int q1.1], q1.2) rfl ?_
    obtain rfl := Option.some.inj h
    exact rf_ri rc_X9_kinds_ok 8 rfl rfl
def rc_X9_spreads : List rf_E := [(0, .iload_n 1, 1, 1), (1, .ifCond .lt 9, 3, 10), (4, .iload_n 1, 1, 1), (5, .bipush 12, 2, 0), (7, .if_icmp .le 5, 3, 12), (10, .iconst (-1), 1, 0), (11, .ireturn, 1, 0), (12, .aload_n 0, 1, 0), (13, .getfield 33, 3, 903), (16, .invokevirtual 252, 3, 0), (19, .ifCond .eq 6, 3, 25), (22, .bipush (-4), 2, 0), (24, .ireturn, 1, 0), (25, .aload_n 0, 1, 0), (26, .getfield 33, 3, 903), (29, .invokevirtual 318, 3, 0), (32, .astore_n 2, 1, 2), (33, .aload_n 2, 1, 2), (34, .invokestatic 213, 3, 0), (37, .istore_n 3, 1, 3), (38, .iconst 0, 1, 0), (39, .istore 4, 2, 4), (41, .iload 4, 2, 4), (43, .iload_n 1, 1, 1), (44, .if_icmp .ge 24, 3, 68), (47, .aload_n 0, 1, 0), (48, .getfield 33, 3, 903), (51, .aload_n 2, 1, 2), (52, .invokevirtual 322, 3, 0), (55, .iload_n 3, 1, 3), (56, .aload_n 2, 1, 2), (57, .invokestatic 213, 3, 0), (60, .ior, 1, 0), (61, .istore_n 3, 1, 3), (62, .iinc 4 1, 3, 4), (65, .goto (-24), 3, 41), (68, .aload_n 0, 1, 0), (69, .iload_n 3, 1, 3), (70, .putfield 88, 3, 910), (73, .aload_n 2, 1, 2), (74, .invokestatic 213, 3, 0), (77, .ireturn, 1, 0)]
theorem rc_X9_spreads_ok : rf_rc mX9_spreads rc_X9_spreads = true := by decide +kernel
theorem mw_X9_spreads : rf_mw mX9_spreads := ⟨rf_mt_ok _ (List.mem_of_getElem? (i := 110) rfl), fun h => absurd h (by decide), fun _ => ⟨rf_mi_ok _ (List.mem_of_getElem? (i := 105) rfl), rf_mv_ok _ (List.mem_of_getElem? (i := 105) rfl)⟩, rf_mq_4 _ (List.mem_of_getElem? (i := 10) rfl)⟩
def f_X9_spreads_b41 (l1 : Int32) (l2 : Nat) (s41 : Int32 × Int32 × rf_S) : Option ((Int32 × Int32 × rf_S) ⊕ (Int32 × rf_S)) := if l1 ≤ s41.2.1 then (some (.inr (s41.1, s41.2.2))) else ((f_X8_passColds l2 s41.2.2).bind (fun q11 => (f_X9_sick l2 q11).bind (fun q13 => some (.inl ((s41.1 ||| q13), (s41.2.1 + 1), q11)))))
set_option maxHeartbeats 2000000 in
theorem ok_X9_spreads_b41 (d : Nat) (l1 : Int32) (l2 : Nat) (s41 : Int32 × Int32 × rf_S) (o : ((Int32 × Int32 × rf_S) ⊕ (Int32 × rf_S))) (h : f_X9_spreads_b41 l1 l2 s41 = some o) {r : Option Value} {σr : rf_S} (kl : ∀ s', o = .inl s' → rf_G ly0 (d + 3) mX9_spreads (41, [some (.ref 0), some (.int l1), some (.ref l2), some (.int s'.1), some (.int s'.2.1)], [], s'.2.2) r σr) (kx : ∀ e, o = .inr e → rf_G ly0 (d + 3) mX9_spreads (68, [some (.ref 0), none, some (.ref l2), some (.int e.1), none], [], e.2) r σr) : rf_G ly0 (d + 3) mX9_spreads (41, [some (.ref 0), some (.int l1), some (.ref l2), some (.int s41.1), some (.int s41.2.1)], [], s41.2.2) r σr := by
  unfold f_X9_spreads_b41 at h
  refine rf_b wf0 rc_X9_spreads_ok 22 2 (44, [some (.ref 0), some (.int l1), some (.ref l2), some (.int s41.1), some (.int s41.2.1)], [.int l1, .int s41.2.1], s41.2.2) rfl ?_
  by_cases c10 : l1 ≤ s41.2.1
  · rw [if_pos c10] at h
    refine rf_t wf0 rc_X9_spreads_ok 24 (68, [some (.ref 0), some (.int l1), some (.ref l2), some (.int s41.1), some (.int s41.2.1)], [], s41.2.2) rfl rfl c10 rfl ?_
    refine rf_fg [true, false, true, true, false] [some (.ref 0), none, some (.ref l2), some (.int s41.1), none] rfl ?_
    exact kx (s41.1, s41.2.2) (Option.some.inj h).symm
  · rw [if_neg c10] at h
    refine rf_f wf0 rc_X9_spreads_ok 24 (47, [some (.ref 0), some (.int l1), some (.ref l2), some (.int s41.1), some (.int s41.2.1)], [], s41.2.2) rfl rfl c10 rfl ?_
    refine rf_b wf0 rc_X9_spreads_ok 25 3 (52, [some (.ref 0), some (.int l1), some (.ref l2), some (.int s41.1), some (.int s41.2.1)], [.ref l2, .ref 25], s41.2.2) rfl ?_
    obtain ⟨q11, h12, h⟩ := Option.bind_eq_some_iff.mp h
    refine rf_cv1 (Mt := mX8_passColds) wf0 rc_X9_spreads_ok 28 false rfl (List.mem_of_getElem? (i := 125) rfl) mw_X8_passColds rfl 25 [.ref l2] [] rfl rfl rfl (Nat.le_of_ble_eq_true rfl) (ok_X8_passColds d l2 s41.2.2 q11 h12) ?_
    show rf_G _ _ _ (55, [some (.ref 0), some (.int l1), some (.ref l2), some (.int s41.1), some (.int s41.2.1)], [], q11) _ _
    refine rf_b wf0 rc_X9_spreads_ok 29 2 (57, [some (.ref 0), some (.int l1), some (.ref l2), some (.int s41.1), some (.int s41.2.1)], [.ref l2, .int s41.1], q11) rfl ?_
    obtain ⟨q13, h14, h⟩ := Option.bind_eq_some_iff.mp h
    refine rf_cs1 (Mt := mX9_sick) rc_X9_spreads_ok 31 false rfl (List.mem_of_getElem? (i := 99) rfl) mw_X9_sick rfl [.ref l2] [.int s41.1] rfl rfl (Nat.le_of_ble_eq_true rfl) (ok_X9_sick (d + 2) l2 q11 q13 h14) ?_
    show rf_G _ _ _ (60, [some (.ref 0), some (.int l1), some (.ref l2), some (.int s41.1), some (.int s41.2.1)], [.int q13, .int s41.1], q11) _ _
    refine rf_b wf0 rc_X9_spreads_ok 32 4 (41, [some (.ref 0), some (.int l1), some (.ref l2), some (.int (s41.1 ||| q13)), some (.int (s41.2.1 + 1))], [], q11) rfl ?_
    exact kl ((s41.1 ||| q13), (s41.2.1 + 1), q11) (Option.some.inj h).symm
def f_X9_spreads (p0 : Int32) (σ : rf_S) : Option (Int32 × rf_S) := if p0 < 0 then (some ((-1), σ)) else (if p0 ≤ 12 then ((f_X8_isEmpty σ).bind (fun q3 => if q3 = 0 then ((f_X8_copyOfColds σ).bind (fun q6 => (f_X9_sick q6.1 q6.2).bind (fun q8 => (rf_lp (f_X9_spreads_b41 p0 q6.1) 5000 (q8, 0, q6.2)).bind (fun e15 => (f_X9_sick q6.1 (rf_sI e15.2 0 10 e15.1)).bind (fun q17 => some (q17, (rf_sI e15.2 0 10 e15.1))))))) else (some ((-4), σ)))) else (some ((-1), σ)))
set_option maxHeartbeats 2000000 in
theorem ok_X9_spreads (d : Nat) (p0 : Int32) (σ : rf_S) (q : (Int32 × rf_S)) (h : f_X9_spreads p0 σ = some q) : rf_Ex ly0 (d + 4) mX9_spreads [.ref 0, .int p0] σ (some (.int q.1) : Option Value) q.2 := by
  unfold f_X9_spreads at h
  refine rf_ex mw_X9_spreads [some (.ref 0), some (.int p0), none, none, none] (Nat.le_of_ble_eq_true rfl) rfl ?_
  refine rf_b wf0 rc_X9_spreads_ok 0 1 (1, [some (.ref 0), some (.int p0), none, none, none], [.int p0], σ) rfl ?_
  by_cases c1 : p0 < 0
  · rw [if_pos c1] at h
    refine rf_t wf0 rc_X9_spreads_ok 1 (10, [some (.ref 0), some (.int p0), none, none, none], [], σ) rfl rfl c1 rfl ?_
    refine rf_b wf0 rc_X9_spreads_ok 5 1 (11, [some (.ref 0), some (.int p0), none, none, none], [.int (-1)], σ) rfl ?_
    obtain rfl := Option.some.inj h
    exact rf_ri rc_X9_spreads_ok 6 rfl rfl
  · rw [if_neg c1] at h
    refine rf_f wf0 rc_X9_spreads_ok 1 (4, [some (.ref 0), some (.int p0), none, none, none], [], σ) rfl rfl c1 rfl ?_
    refine rf_b wf0 rc_X9_spreads_ok 2 2 (7, [some (.ref 0), some (.int p0), none, none, none], [.int 12, .int p0], σ) rfl ?_
    by_cases c2 : p0 ≤ 12
    · rw [if_pos c2] at h
      refine rf_t wf0 rc_X9_spreads_ok 4 (12, [some (.ref 0), some (.int p0), none, none, none], [], σ) rfl rfl c2 rfl ?_
      refine rf_b wf0 rc_X9_spreads_ok 7 2 (16, [some (.ref 0), some (.int p0), none, none, none], [.ref 25], σ) rfl ?_
      obtain ⟨q3, h4, h⟩ := Option.bind_eq_some_iff.mp h
      refine rf_cv1 (Mt := mX8_isEmpty) wf0 rc_X9_spreads_ok 9 false rfl (List.mem_of_getElem? (i := 108) rfl) mw_X8_isEmpty rfl 25 [] [] rfl rfl rfl (Nat.le_of_ble_eq_true rfl) (ok_X8_isEmpty (d + 2)  σ q3 h4) ?_
      show rf_G _ _ _ (19, [some (.ref 0), some (.int p0), none, none, none], [.int q3], σ) _ _
      by_cases c5 : q3 = 0
      · rw [if_pos c5] at h
        refine rf_t wf0 rc_X9_spreads_ok 10 (25, [some (.ref 0), some (.int p0), none, none, none], [], σ) rfl rfl c5 rfl ?_
        refine rf_b wf0 rc_X9_spreads_ok 13 2 (29, [some (.ref 0), some (.int p0), none, none, none], [.ref 25], σ) rfl ?_
        obtain ⟨q6, h7, h⟩ := Option.bind_eq_some_iff.mp h
        refine rf_cv1 (Mt := mX8_copyOfColds) wf0 rc_X9_spreads_ok 15 false rfl (List.mem_of_getElem? (i := 124) rfl) mw_X8_copyOfColds rfl 25 [] [] rfl rfl rfl (Nat.le_of_ble_eq_true rfl) (ok_X8_copyOfColds (d + 2)  σ q6 h7) ?_
        show rf_G _ _ _ (32, [some (.ref 0), some (.int p0), none, none, none], [.ref q6.1], q6.2) _ _
        refine rf_b wf0 rc_X9_spreads_ok 16 2 (34, [some (.ref 0), some (.int p0), some (.ref q6.1), none, none], [.ref q6.1], q6.2) rfl ?_
        obtain ⟨q8, h9, h⟩ := Option.bind_eq_some_iff.mp h
        refine rf_cs1 (Mt := mX9_sick) rc_X9_spreads_ok 18 false rfl (List.mem_of_getElem? (i := 99) rfl) mw_X9_sick rfl [.ref q6.1] [] rfl rfl (Nat.le_of_ble_eq_true rfl) (ok_X9_sick (d + 2) q6.1 q6.2 q8 h9) ?_
        show rf_G _ _ _ (37, [some (.ref 0), some (.int p0), some (.ref q6.1), none, none], [.int q8], q6.2) _ _
        refine rf_b wf0 rc_X9_spreads_ok 19 3 (41, [some (.ref 0), some (.int p0), some (.ref q6.1), some (.int q8), some (.int 0)], [], q6.2) rfl ?_
        obtain ⟨e15, h16, h⟩ := Option.bind_eq_some_iff.mp h
        refine rf_lpG (b := f_X9_spreads_b41 p0 q6.1) (G := fun (s41 : Int32 × Int32 × rf_S) => rf_G ly0 (d + 3) mX9_spreads (41, [some (.ref 0), some (.int p0), some (.ref q6.1), some (.int s41.1), some (.int s41.2.1)], [], s41.2.2) (some (.int q.1) : Option Value) q.2) (K := fun (e : (Int32 × rf_S)) => rf_G ly0 (d + 3) mX9_spreads (68, [some (.ref 0), none, some (.ref q6.1), some (.int e.1), none], [], e.2) (some (.int q.1) : Option Value) q.2) (fun (s41 : Int32 × Int32 × rf_S) (o : (Int32 × Int32 × rf_S) ⊕ (Int32 × rf_S)) hb kl kx => ok_X9_spreads_b41 d p0 q6.1 s41 o hb kl kx) 5000 (q8, 0, q6.2) e15 h16 ?_
        show rf_G _ _ _ (68, [some (.ref 0), none, some (.ref q6.1), some (.int e15.1), none], [], e15.2) _ _
        refine rf_b wf0 rc_X9_spreads_ok 36 4 (74, [some (.ref 0), none, some (.ref q6.1), some (.int e15.1), none], [.ref q6.1], (rf_sI e15.2 0 10 e15.1)) rfl ?_
        obtain ⟨q17, h18, h⟩ := Option.bind_eq_some_iff.mp h
        refine rf_cs1 (Mt := mX9_sick) rc_X9_spreads_ok 40 false rfl (List.mem_of_getElem? (i := 99) rfl) mw_X9_sick rfl [.ref q6.1] [] rfl rfl (Nat.le_of_ble_eq_true rfl) (ok_X9_sick (d + 2) q6.1 (rf_sI e15.2 0 10 e15.1) q17 h18) ?_
        show rf_G _ _ _ (77, [some (.ref 0), none, some (.ref q6.1), some (.int e15.1), none], [.int q17], (rf_sI e15.2 0 10 e15.1)) _ _
        obtain rfl := Option.some.inj h
        exact rf_ri rc_X9_spreads_ok 41 rfl rfl
      · rw [if_neg c5] at h
        refine rf_f wf0 rc_X9_spreads_ok 10 (22, [some (.ref 0), some (.int p0), none, none, none], [], σ) rfl rfl c5 rfl ?_
        refine rf_b wf0 rc_X9_spreads_ok 11 1 (24, [some (.ref 0), some (.int p0), none, none, none], [.int (-4)], σ) rfl ?_
        obtain rfl := Option.some.inj h
        exact rf_ri rc_X9_spreads_ok 12 rfl rfl
    · rw [if_neg c2] at h
      refine rf_f wf0 rc_X9_spreads_ok 4 (10, [some (.ref 0), some (.int p0), none, none, none], [], σ) rfl rfl c2 rfl ?_
      refine rf_b wf0 rc_X9_spreads_ok 5 1 (11, [some (.ref 0), some (.int p0), none, none, none], [.int (-1)], σ) rfl ?_
      obtain rfl := Option.some.inj h
      exact rf_ri rc_X9_spreads_ok 6 rfl rfl
def rc_X9_soups : List rf_E := [(0, .aload_n 0, 1, 0), (1, .getfield 33, 3, 903), (4, .invokevirtual 252, 3, 0), (7, .ifCond .eq 6, 3, 13), (10, .bipush (-4), 2, 0), (12, .ireturn, 1, 0), (13, .aload_n 0, 1, 0), (14, .iload_n 1, 1, 1), (15, .invokevirtual 155, 3, 0), (18, .ifCond .eq 22, 3, 40), (21, .iload_n 2, 1, 2), (22, .ifCond .lt 18, 3, 40), (25, .iload_n 2, 1, 2), (26, .bipush 8, 2, 0), (28, .if_icmp .gt 12, 3, 40), (31, .iload_n 3, 1, 3), (32, .ifCond .lt 8, 3, 40), (35, .iload_n 3, 1, 3), (36, .iconst 1, 1, 0), (37, .if_icmp .le 5, 3, 42), (40, .iconst (-1), 1, 0), (41, .ireturn, 1, 0), (42, .bipush (-9), 2, 0), (44, .istore 4, 2, 4), (46, .iconst 0, 1, 0), (47, .istore 5, 2, 5), (49, .iload 5, 2, 5), (51, .iconst 1, 1, 0), (52, .iload_n 2, 1, 2), (53, .ishl, 1, 0), (54, .if_icmp .ge 60, 3, 114), (57, .iload 4, 2, 4), (59, .bipush (-9), 2, 0), (61, .if_icmp .eq 16, 3, 77), (64, .iload 5, 2, 5), (66, .invokestatic 185, 3, 0), (69, .iload 4, 2, 4), (71, .invokestatic 185, 3, 0), (74, .if_icmp .ge 7, 3, 81), (77, .iconst 1, 1, 0), (78, .goto 4, 3, 82), (81, .iconst 0, 1, 0), (82, .istore 6, 2, 6), (84, .iload 6, 2, 6), (86, .ifCond .eq 22, 3, 108), (89, .aload_n 0, 1, 0), (90, .getfield 33, 3, 903), (93, .iload_n 1, 1, 1), (94, .iload_n 2, 1, 2), (95, .iload 5, 2, 5), (97, .iload_n 3, 1, 3), (98, .invokevirtual 326, 3, 0), (101, .ifCond .eq 7, 3, 108), (104, .iload 5, 2, 5), (106, .istore 4, 2, 4), (108, .iinc 5 1, 3, 5), (111, .goto (-62), 3, 49), (114, .iload 4, 2, 4), (116, .bipush (-9), 2, 0), (118, .if_icmp .ne 6, 3, 124), (121, .bipush (-9), 2, 0), (123, .ireturn, 1, 0), (124, .aload_n 0, 1, 0), (125, .iload 4, 2, 4), (127, .putfield 88, 3, 910), (130, .iload 4, 2, 4), (132, .invokestatic 185, 3, 0), (135, .ireturn, 1, 0)]
theorem rc_X9_soups_ok : rf_rc mX9_soups rc_X9_soups = true := by decide +kernel
theorem mw_X9_soups : rf_mw mX9_soups := ⟨rf_mt_ok _ (List.mem_of_getElem? (i := 111) rfl), fun h => absurd h (by decide), fun _ => ⟨rf_mi_ok _ (List.mem_of_getElem? (i := 106) rfl), rf_mv_ok _ (List.mem_of_getElem? (i := 106) rfl)⟩, rf_mq_4 _ (List.mem_of_getElem? (i := 11) rfl)⟩
def f_X9_soups_j108 (l1 : Int32) (l2 : Int32) (l3 : Int32) (l4 : Int32) (l5 : Int32) (σ : rf_S) : Option ((Int32 × Int32) ⊕ (Int32)) := some (.inl (l4, (l5 + 1)))
set_option maxHeartbeats 2000000 in
theorem ok_X9_soups_j108 (d : Nat) (l1 : Int32) (l2 : Int32) (l3 : Int32) (l4 : Int32) (l5 : Int32) (σ : rf_S) (o : ((Int32 × Int32) ⊕ (Int32))) (h : f_X9_soups_j108 l1 l2 l3 l4 l5 σ = some o) {r : Option Value} {σr : rf_S} (kl : ∀ s', o = .inl s' → rf_G ly0 (d + 2) mX9_soups (49, [some (.ref 0), some (.int l1), some (.int l2), some (.int l3), some (.int s'.1), some (.int s'.2), none], [], σ) r σr) (kx : ∀ e, o = .inr e → rf_G ly0 (d + 2) mX9_soups (114, [some (.ref 0), none, none, none, some (.int e), none, none], [], σ) r σr) : rf_G ly0 (d + 2) mX9_soups (108, [some (.ref 0), some (.int l1), some (.int l2), some (.int l3), some (.int l4), some (.int l5), none], [], σ) r σr := by
  unfold f_X9_soups_j108 at h
  refine rf_b wf0 rc_X9_soups_ok 55 2 (49, [some (.ref 0), some (.int l1), some (.int l2), some (.int l3), some (.int l4), some (.int (l5 + 1)), none], [], σ) rfl ?_
  exact kl (l4, (l5 + 1)) (Option.some.inj h).symm
def f_X9_soups_j82 (l1 : Int32) (l2 : Int32) (l3 : Int32) (l4 : Int32) (l5 : Int32) (t0 : Int32) (σ : rf_S) : Option ((Int32 × Int32) ⊕ (Int32)) := if t0 = 0 then (f_X9_soups_j108 l1 l2 l3 l4 l5 σ) else ((f_X8_staysSo l1 l2 l5 l3 σ).bind (fun q14 => if q14 = 0 then (f_X9_soups_j108 l1 l2 l3 l4 l5 σ) else (f_X9_soups_j108 l1 l2 l3 l5 l5 σ)))
set_option maxHeartbeats 2000000 in
theorem ok_X9_soups_j82 (d : Nat) (l1 : Int32) (l2 : Int32) (l3 : Int32) (l4 : Int32) (l5 : Int32) (t0 : Int32) (σ : rf_S) (o : ((Int32 × Int32) ⊕ (Int32))) (h : f_X9_soups_j82 l1 l2 l3 l4 l5 t0 σ = some o) {r : Option Value} {σr : rf_S} (kl : ∀ s', o = .inl s' → rf_G ly0 (d + 2) mX9_soups (49, [some (.ref 0), some (.int l1), some (.int l2), some (.int l3), some (.int s'.1), some (.int s'.2), none], [], σ) r σr) (kx : ∀ e, o = .inr e → rf_G ly0 (d + 2) mX9_soups (114, [some (.ref 0), none, none, none, some (.int e), none, none], [], σ) r σr) : rf_G ly0 (d + 2) mX9_soups (82, [some (.ref 0), some (.int l1), some (.int l2), some (.int l3), some (.int l4), some (.int l5), none], [.int t0], σ) r σr := by
  unfold f_X9_soups_j82 at h
  refine rf_b wf0 rc_X9_soups_ok 42 2 (86, [some (.ref 0), some (.int l1), some (.int l2), some (.int l3), some (.int l4), some (.int l5), some (.int t0)], [.int t0], σ) rfl ?_
  by_cases c13 : t0 = 0
  · rw [if_pos c13] at h
    refine rf_t wf0 rc_X9_soups_ok 44 (108, [some (.ref 0), some (.int l1), some (.int l2), some (.int l3), some (.int l4), some (.int l5), some (.int t0)], [], σ) rfl rfl c13 rfl ?_
    refine rf_fg [true, true, true, true, true, true, false] [some (.ref 0), some (.int l1), some (.int l2), some (.int l3), some (.int l4), some (.int l5), none] rfl ?_
    exact ok_X9_soups_j108 d l1 l2 l3 l4 l5 σ o h kl kx
  · rw [if_neg c13] at h
    refine rf_f wf0 rc_X9_soups_ok 44 (89, [some (.ref 0), some (.int l1), some (.int l2), some (.int l3), some (.int l4), some (.int l5), some (.int t0)], [], σ) rfl rfl c13 rfl ?_
    refine rf_b wf0 rc_X9_soups_ok 45 6 (98, [some (.ref 0), some (.int l1), some (.int l2), some (.int l3), some (.int l4), some (.int l5), some (.int t0)], [.int l3, .int l5, .int l2, .int l1, .ref 25], σ) rfl ?_
    obtain ⟨q14, h15, h⟩ := Option.bind_eq_some_iff.mp h
    refine rf_cv1 (Mt := mX8_staysSo) wf0 rc_X9_soups_ok 51 false rfl (List.mem_of_getElem? (i := 126) rfl) mw_X8_staysSo rfl 25 [.int l1, .int l2, .int l5, .int l3] [] rfl rfl rfl (Nat.le_of_ble_eq_true rfl) (ok_X8_staysSo d l1 l2 l5 l3 σ q14 h15) ?_
    show rf_G _ _ _ (101, [some (.ref 0), some (.int l1), some (.int l2), some (.int l3), some (.int l4), some (.int l5), some (.int t0)], [.int q14], σ) _ _
    by_cases c16 : q14 = 0
    · rw [if_pos c16] at h
      refine rf_t wf0 rc_X9_soups_ok 52 (108, [some (.ref 0), some (.int l1), some (.int l2), some (.int l3), some (.int l4), some (.int l5), some (.int t0)], [], σ) rfl rfl c16 rfl ?_
      refine rf_fg [true, true, true, true, true, true, false] [some (.ref 0), some (.int l1), some (.int l2), some (.int l3), some (.int l4), some (.int l5), none] rfl ?_
      exact ok_X9_soups_j108 d l1 l2 l3 l4 l5 σ o h kl kx
    · rw [if_neg c16] at h
      refine rf_f wf0 rc_X9_soups_ok 52 (104, [some (.ref 0), some (.int l1), some (.int l2), some (.int l3), some (.int l4), some (.int l5), some (.int t0)], [], σ) rfl rfl c16 rfl ?_
      refine rf_b wf0 rc_X9_soups_ok 53 2 (108, [some (.ref 0), some (.int l1), some (.int l2), some (.int l3), some (.int l5), some (.int l5), some (.int t0)], [], σ) rfl ?_
      refine rf_fg [true, true, true, true, true, true, false] [some (.ref 0), some (.int l1), some (.int l2), some (.int l3), some (.int l5), some (.int l5), none] rfl ?_
      exact ok_X9_soups_j108 d l1 l2 l3 l5 l5 σ o h kl kx
def f_X9_soups_j77 (l1 : Int32) (l2 : Int32) (l3 : Int32) (l4 : Int32) (l5 : Int32) (σ : rf_S) : Option ((Int32 × Int32) ⊕ (Int32)) := f_X9_soups_j82 l1 l2 l3 l4 l5 1 σ
set_option maxHeartbeats 2000000 in
theorem ok_X9_soups_j77 (d : Nat) (l1 : Int32) (l2 : Int32) (l3 : Int32) (l4 : Int32) (l5 : Int32) (σ : rf_S) (o : ((Int32 × Int32) ⊕ (Int32))) (h : f_X9_soups_j77 l1 l2 l3 l4 l5 σ = some o) {r : Option Value} {σr : rf_S} (kl : ∀ s', o = .inl s' → rf_G ly0 (d + 2) mX9_soups (49, [some (.ref 0), some (.int l1), some (.int l2), some (.int l3), some (.int s'.1), some (.int s'.2), none], [], σ) r σr) (kx : ∀ e, o = .inr e → rf_G ly0 (d + 2) mX9_soups (114, [some (.ref 0), none, none, none, some (.int e), none, none], [], σ) r σr) : rf_G ly0 (d + 2) mX9_soups (77, [some (.ref 0), some (.int l1), some (.int l2), some (.int l3), some (.int l4), some (.int l5), none], [], σ) r σr := by
  unfold f_X9_soups_j77 at h
  refine rf_b wf0 rc_X9_soups_ok 39 2 (82, [some (.ref 0), some (.int l1), some (.int l2), some (.int l3), some (.int l4), some (.int l5), none], [.int 1], σ) rfl ?_
  exact ok_X9_soups_j82 d l1 l2 l3 l4 l5 1 σ o h kl kx
def f_X9_soups_b49 (l1 : Int32) (l2 : Int32) (l3 : Int32) (σ : rf_S) (s49 : Int32 × Int32) : Option ((Int32 × Int32) ⊕ (Int32)) := if (1 <<< (l2 &&& 31)) ≤ s49.2 then (some (.inr s49.1)) else (if s49.1 = (-9) then (f_X9_soups_j77 l1 l2 l3 s49.1 s49.2 σ) else ((f_J_bitCount s49.2 σ).bind (fun q17 => (f_J_bitCount s49.1 σ).bind (fun q19 => if q19 ≤ q17 then (f_X9_soups_j82 l1 l2 l3 s49.1 s49.2 0 σ) else (f_X9_soups_j77 l1 l2 l3 s49.1 s49.2 σ)))))
set_option maxHeartbeats 2000000 in
theorem ok_X9_soups_b49 (d : Nat) (l1 : Int32) (l2 : Int32) (l3 : Int32) (σ : rf_S) (s49 : Int32 × Int32) (o : ((Int32 × Int32) ⊕ (Int32))) (h : f_X9_soups_b49 l1 l2 l3 σ s49 = some o) {r : Option Value} {σr : rf_S} (kl : ∀ s', o = .inl s' → rf_G ly0 (d + 2) mX9_soups (49, [some (.ref 0), some (.int l1), some (.int l2), some (.int l3), some (.int s'.1), some (.int s'.2), none], [], σ) r σr) (kx : ∀ e, o = .inr e → rf_G ly0 (d + 2) mX9_soups (114, [some (.ref 0), none, none, none, some (.int e), none, none], [], σ) r σr) : rf_G ly0 (d + 2) mX9_soups (49, [some (.ref 0), some (.int l1), some (.int l2), some (.int l3), some (.int s49.1), some (.int s49.2), none], [], σ) r σr := by
  unfold f_X9_soups_b49 at h
  refine rf_b wf0 rc_X9_soups_ok 26 4 (54, [some (.ref 0), some (.int l1), some (.int l2), some (.int l3), some (.int s49.1), some (.int s49.2), none], [.int (1 <<< (l2 &&& 31)), .int s49.2], σ) rfl ?_
  by_cases c11 : (1 <<< (l2 &&& 31)) ≤ s49.2
  · rw [if_pos c11] at h
    refine rf_t wf0 rc_X9_soups_ok 30 (114, [some (.ref 0), some (.int l1), some (.int l2), some (.int l3), some (.int s49.1), some (.int s49.2), none], [], σ) rfl rfl c11 rfl ?_
    refine rf_fg [true, false, false, false, true, false, true] [some (.ref 0), none, none, none, some (.int s49.1), none, none] rfl ?_
    exact kx s49.1 (Option.some.inj h).symm
  · rw [if_neg c11] at h
    refine rf_f wf0 rc_X9_soups_ok 30 (57, [some (.ref 0), some (.int l1), some (.int l2), some (.int l3), some (.int s49.1), some (.int s49.2), none], [], σ) rfl rfl c11 rfl ?_
    refine rf_b wf0 rc_X9_soups_ok 31 2 (61, [some (.ref 0), some (.int l1), some (.int l2), some (.int l3), some (.int s49.1), some (.int s49.2), none], [.int (-9), .int s49.1], σ) rfl ?_
    by_cases c12 : s49.1 = (-9)
    · rw [if_pos c12] at h
      refine rf_t wf0 rc_X9_soups_ok 33 (77, [some (.ref 0), some (.int l1), some (.int l2), some (.int l3), some (.int s49.1), some (.int s49.2), none], [], σ) rfl rfl c12 rfl ?_
      exact ok_X9_soups_j77 d l1 l2 l3 s49.1 s49.2 σ o h kl kx
    · rw [if_neg c12] at h
      refine rf_f wf0 rc_X9_soups_ok 33 (64, [some (.ref 0), some (.int l1), some (.int l2), some (.int l3), some (.int s49.1), some (.int s49.2), none], [], σ) rfl rfl c12 rfl ?_
      refine rf_b wf0 rc_X9_soups_ok 34 1 (66, [some (.ref 0), some (.int l1), some (.int l2), some (.int l3), some (.int s49.1), some (.int s49.2), none], [.int s49.2], σ) rfl ?_
      obtain ⟨q17, h18, h⟩ := Option.bind_eq_some_iff.mp h
      refine rf_cs1 (Mt := mJ6_bitCount_0f7a4) rc_X9_soups_ok 35 false rfl (List.mem_of_getElem? (i := 95) rfl) mw_J_bitCount rfl [.int s49.2] [] rfl rfl (Nat.le_of_ble_eq_true rfl) (ok_J_bitCount (d + 1) s49.2 σ q17 h18) ?_
      show rf_G _ _ _ (69, [some (.ref 0), some (.int l1), some (.int l2), some (.int l3), some (.int s49.1), some (.int s49.2), none], [.int q17], σ) _ _
      refine rf_b wf0 rc_X9_soups_ok 36 1 (71, [some (.ref 0), some (.int l1), some (.int l2), some (.int l3), some (.int s49.1), some (.int s49.2), none], [.int s49.1, .int q17], σ) rfl ?_
      obtain ⟨q19, h20, h⟩ := Option.bind_eq_some_iff.mp h
      refine rf_cs1 (Mt := mJ6_bitCount_0f7a4) rc_X9_soups_ok 37 false rfl (List.mem_of_getElem? (i := 95) rfl) mw_J_bitCount rfl [.int s49.1] [.int q17] rfl rfl (Nat.le_of_ble_eq_true rfl) (ok_J_bitCount (d + 1) s49.1 σ q19 h20) ?_
      show rf_G _ _ _ (74, [some (.ref 0), some (.int l1), some (.int l2), some (.int l3), some (.int s49.1), some (.int s49.2), none], [.int q19, .int q17], σ) _ _
      by_cases c21 : q19 ≤ q17
      · rw [if_pos c21] at h
        refine rf_t wf0 rc_X9_soups_ok 38 (81, [some (.ref 0), some (.int l1), some (.int l2), some (.int l3), some (.int s49.1), some (.int s49.2), none], [], σ) rfl rfl c21 rfl ?_
        refine rf_b wf0 rc_X9_soups_ok 41 1 (82, [some (.ref 0), some (.int l1), some (.int l2), some (.int l3), some (.int s49.1), some (.int s49.2), none], [.int 0], σ) rfl ?_
        exact ok_X9_soups_j82 d l1 l2 l3 s49.1 s49.2 0 σ o h kl kx
      · rw [if_neg c21] at h
        refine rf_f wf0 rc_X9_soups_ok 38 (77, [some (.ref 0), some (.int l1), some (.int l2), some (.int l3), some (.int s49.1), some (.int s49.2), none], [], σ) rfl rfl c21 rfl ?_
        exact ok_X9_soups_j77 d l1 l2 l3 s49.1 s49.2 σ o h kl kx
def f_X9_soups (p0 : Int32) (p1 : Int32) (p2 : Int32) (σ : rf_S) : Option (Int32 × rf_S) := (f_X8_isEmpty σ).bind (fun q1 => if q1 = 0 then ((f_X9_isMember p0 σ).bind (fun q4 => if q4 = 0 then (some ((-1), σ)) else (if p1 < 0 then (some ((-1), σ)) else (if 8 < p1 then (some ((-1), σ)) else (if p2 < 0 then (some ((-1), σ)) else (if p2 ≤ 1 then ((rf_lp (f_X9_soups_b49 p0 p1 p2 σ) 5000 ((-9), 0)).bind (fun e22 => if e22 ≠ (-9) then ((f_J_bitCount e22 (rf_sI σ 0 10 e22)).bind (fun q25 => some (q25, (rf_sI σ 0 10 e22)))) else (some ((-9), σ)))) else (some ((-1), σ)))))))) else (some ((-4), σ)))
set_option maxHeartbeats 2000000 in
theorem ok_X9_soups (d : Nat) (p0 : Int32) (p1 : Int32) (p2 : Int32) (σ : rf_S) (q : (Int32 × rf_S)) (h : f_X9_soups p0 p1 p2 σ = some q) : rf_Ex ly0 (d + 3) mX9_soups [.ref 0, .int p0, .int p1, .int p2] σ (some (.int q.1) : Option Value) q.2 := by
  unfold f_X9_soups at h
  refine rf_ex mw_X9_soups [some (.ref 0), some (.int p0), some (.int p1), some (.int p2), none, none, none] (Nat.le_of_ble_eq_true rfl) rfl ?_
  refine rf_b wf0 rc_X9_soups_ok 0 2 (4, [some (.ref 0), some (.int p0), some (.int p1), some (.int p2), none, none, none], [.ref 25], σ) rfl ?_
  obtain ⟨q1, h2, h⟩ := Option.bind_eq_some_iff.mp h
  refine rf_cv1 (Mt := mX8_isEmpty) wf0 rc_X9_soups_ok 2 false rfl (List.mem_of_getElem? (i := 108) rfl) mw_X8_isEmpty rfl 25 [] [] rfl rfl rfl (Nat.le_of_ble_eq_true rfl) (ok_X8_isEmpty (d + 1)  σ q1 h2) ?_
  show rf_G _ _ _ (7, [some (.ref 0), some (.int p0), some (.int p1), some (.int p2), none, none, none], [.int q1], σ) _ _
  by_cases c3 : q1 = 0
  · rw [if_pos c3] at h
    refine rf_t wf0 rc_X9_soups_ok 3 (13, [some (.ref 0), some (.int p0), some (.int p1), some (.int p2), none, none, none], [], σ) rfl rfl c3 rfl ?_
    refine rf_b wf0 rc_X9_soups_ok 6 2 (15, [some (.ref 0), some (.int p0), some (.int p1), some (.int p2), none, none, none], [.int p0, .ref 0], σ) rfl ?_
    obtain ⟨q4, h5, h⟩ := Option.bind_eq_some_iff.mp h
    refine rf_cv1 (Mt := mX9_isMember) wf0 rc_X9_soups_ok 8 false rfl (List.mem_of_getElem? (i := 86) rfl) mw_X9_isMember rfl 0 [.int p0] [] rfl rfl rfl (Nat.le_of_ble_eq_true rfl) (ok_X9_isMember d p0 σ q4 h5) ?_
    show rf_G _ _ _ (18, [some (.ref 0), some (.int p0), some (.int p1), some (.int p2), none, none, none], [.int q4], σ) _ _
    by_cases c6 : q4 = 0
    · rw [if_pos c6] at h
      refine rf_t wf0 rc_X9_soups_ok 9 (40, [some (.ref 0), some (.int p0), some (.int p1), some (.int p2), none, none, none], [], σ) rfl rfl c6 rfl ?_
      refine rf_b wf0 rc_X9_soups_ok 20 1 (41, [some (.ref 0), some (.int p0), some (.int p1), some (.int p2), none, none, none], [.int (-1)], σ) rfl ?_
      obtain rfl := Option.some.inj h
      exact rf_ri rc_X9_soups_ok 21 rfl rfl
    · rw [if_neg c6] at h
      refine rf_f wf0 rc_X9_soups_ok 9 (21, [some (.ref 0), some (.int p0), some (.int p1), some (.int p2), none, none, none], [], σ) rfl rfl c6 rfl ?_
      refine rf_b wf0 rc_X9_soups_ok 10 1 (22, [some (.ref 0), some (.int p0), some (.int p1), some (.int p2), none, none, none], [.int p1], σ) rfl ?_
      by_cases c7 : p1 < 0
      · rw [if_pos c7] at h
        refine rf_t wf0 rc_X9_soups_ok 11 (40, [some (.ref 0), some (.int p0), some (.int p1), some (.int p2), none, none, none], [], σ) rfl rfl c7 rfl ?_
        refine rf_b wf0 rc_X9_soups_ok 20 1 (41, [some (.ref 0), some (.int p0), some (.int p1), some (.int p2), none, none, none], [.int (-1)], σ) rfl ?_
        obtain rfl := Option.some.inj h
        exact rf_ri rc_X9_soups_ok 21 rfl rfl
      · rw [if_neg c7] at h
        refine rf_f wf0 rc_X9_soups_ok 11 (25, [some (.ref 0), some (.int p0), some (.int p1), some (.int p2), none, none, none], [], σ) rfl rfl c7 rfl ?_
        refine rf_b wf0 rc_X9_soups_ok 12 2 (28, [some (.ref 0), some (.int p0), some (.int p1), some (.int p2), none, none, none], [.int 8, .int p1], σ) rfl ?_
        by_cases c8 : 8 < p1
        · rw [if_pos c8] at h
          refine rf_t wf0 rc_X9_soups_ok 14 (40, [some (.ref 0), some (.int p0), some (.int p1), some (.int p2), none, none, none], [], σ) rfl rfl c8 rfl ?_
          refine rf_b wf0 rc_X9_soups_ok 20 1 (41, [some (.ref 0), some (.int p0), some (.int p1), some (.int p2), none, none, none], [.int (-1)], σ) rfl ?_
          obtain rfl := Option.some.inj h
          exact rf_ri rc_X9_soups_ok 21 rfl rfl
        · rw [if_neg c8] at h
          refine rf_f wf0 rc_X9_soups_ok 14 (31, [some (.ref 0), some (.int p0), some (.int p1), some (.int p2), none, none, none], [], σ) rfl rfl c8 rfl ?_
          refine rf_b wf0 rc_X9_soups_ok 15 1 (32, [some (.ref 0), some (.int p0), some (.int p1), some (.int p2), none, none, none], [.int p2], σ) rfl ?_
          by_cases c9 : p2 < 0
          · rw [if_pos c9] at h
            refine rf_t wf0 rc_X9_soups_ok 16 (40, [some (.ref 0), some (.int p0), some (.int p1), some (.int p2), none, none, none], [], σ) rfl rfl c9 rfl ?_
            refine rf_b wf0 rc_X9_soups_ok 20 1 (41, [some (.ref 0), some (.int p0), some (.int p1), some (.int p2), none, none, none], [.int (-1)], σ) rfl ?_
            obtain rfl := Option.some.inj h
            exact rf_ri rc_X9_soups_ok 21 rfl rfl
          · rw [if_neg c9] at h
            refine rf_f wf0 rc_X9_soups_ok 16 (35, [some (.ref 0), some (.int p0), some (.int p1), some (.int p2), none, none, none], [], σ) rfl rfl c9 rfl ?_
            refine rf_b wf0 rc_X9_soups_ok 17 2 (37, [some (.ref 0), some (.int p0), some (.int p1), some (.int p2), none, none, none], [.int 1, .int p2], σ) rfl ?_
            by_cases c10 : p2 ≤ 1
            · rw [if_pos c10] at h
              refine rf_t wf0 rc_X9_soups_ok 19 (42, [some (.ref 0), some (.int p0), some (.int p1), some (.int p2), none, none, none], [], σ) rfl rfl c10 rfl ?_
              refine rf_b wf0 rc_X9_soups_ok 22 4 (49, [some (.ref 0), some (.int p0), some (.int p1), some (.int p2), some (.int (-9)), some (.int 0), none], [], σ) rfl ?_
              obtain ⟨e22, h23, h⟩ := Option.bind_eq_some_iff.mp h
              refine rf_lpG (b := f_X9_soups_b49 p0 p1 p2 σ) (G := fun (s49 : Int32 × Int32) => rf_G ly0 (d + 2) mX9_soups (49, [some (.ref 0), some (.int p0), some (.int p1), some (.int p2), some (.int s49.1), some (.int s49.2), none], [], σ) (some (.int q.1) : Option Value) q.2) (K := fun (e : (Int32)) => rf_G ly0 (d + 2) mX9_soups (114, [some (.ref 0), none, none, none, some (.int e), none, none], [], σ) (some (.int q.1) : Option Value) q.2) (fun (s49 : Int32 × Int32) (o : (Int32 × Int32) ⊕ (Int32)) hb kl kx => ok_X9_soups_b49 d p0 p1 p2 σ s49 o hb kl kx) 5000 ((-9), 0) e22 h23 ?_
              show rf_G _ _ _ (114, [some (.ref 0), none, none, none, some (.int e22), none, none], [], σ) _ _
              refine rf_b wf0 rc_X9_soups_ok 57 2 (118, [some (.ref 0), none, none, none, some (.int e22), none, none], [.int (-9), .int e22], σ) rfl ?_
              by_cases c24 : e22 ≠ (-9)
              · rw [if_pos c24] at h
                refine rf_t wf0 rc_X9_soups_ok 59 (124, [some (.ref 0), none, none, none, some (.int e22), none, none], [], σ) rfl rfl c24 rfl ?_
                refine rf_b wf0 rc_X9_soups_ok 62 4 (132, [some (.ref 0), none, none, none, some (.int e22), none, none], [.int e22], (rf_sI σ 0 10 e22)) rfl ?_
                obtain ⟨q25, h26, h⟩ := Option.bind_eq_some_iff.mp h
                refine rf_cs1 (Mt := mJ6_bitCount_0f7a4) rc_X9_soups_ok 66 false rfl (List.mem_of_getElem? (i := 95) rfl) mw_J_bitCount rfl [.int e22] [] rfl rfl (Nat.le_of_ble_eq_true rfl) (ok_J_bitCount (d + 1) e22 (rf_sI σ 0 10 e22) q25 h26) ?_
                show rf_G _ _ _ (135, [some (.ref 0), none, none, none, some (.int e22), none, none], [.int q25], (rf_sI σ 0 10 e22)) _ _
                obtain rfl := Option.some.inj h
                exact rf_ri rc_X9_soups_ok 67 rfl rfl
              · rw [if_neg c24] at h
                refine rf_f wf0 rc_X9_soups_ok 59 (121, [some (.ref 0), none, none, none, some (.int e22), none, none], [], σ) rfl rfl c24 rfl ?_
                refine rf_b wf0 rc_X9_soups_ok 60 1 (123, [some (.ref 0), none, none, none, some (.int e22), none, none], [.int (-9)], σ) rfl ?_
                obtain rfl := Option.some.inj h
                exact rf_ri rc_X9_soups_ok 61 rfl rfl
            · rw [if_neg c10] at h
              refine rf_f wf0 rc_X9_soups_ok 19 (40, [some (.ref 0), some (.int p0), some (.int p1), some (.int p2), none, none, none], [], σ) rfl rfl c10 rfl ?_
              refine rf_b wf0 rc_X9_soups_ok 20 1 (41, [some (.ref 0), some (.int p0), some (.int p1), some (.int p2), none, none, none], [.int (-1)], σ) rfl ?_
              obtain rfl := Option.some.inj h
              exact rf_ri rc_X9_soups_ok 21 rfl rfl
  · rw [if_neg c3] at h
    refine rf_f wf0 rc_X9_soups_ok 3 (10, [some (.ref 0), some (.int p0), some (.int p1), some (.int p2), none, none, none], [], σ) rfl rfl c3 rfl ?_
    refine rf_b wf0 rc_X9_soups_ok 4 1 (12, [some (.ref 0), some (.int p0), some (.int p1), some (.int p2), none, none, none], [.int (-4)], σ) rfl ?_
    obtain rfl := Option.some.inj h
    exact rf_ri rc_X9_soups_ok 5 rfl rfl
def rc_X9_weighed : List rf_E := [(0, .aload_n 0, 1, 0), (1, .iload_n 1, 1, 1), (2, .invokevirtual 161, 3, 0), (5, .ifCond .eq 13, 3, 18), (8, .iload_n 2, 1, 2), (9, .ifCond .lt 9, 3, 18), (12, .iload_n 2, 1, 2), (13, .bipush 12, 2, 0), (15, .if_icmp .le 5, 3, 20), (18, .iconst (-1), 1, 0), (19, .ireturn, 1, 0), (20, .aload_n 0, 1, 0), (21, .getfield 61, 3, 907), (24, .aload_n 0, 1, 0), (25, .getfield 33, 3, 903), (28, .iload_n 1, 1, 1), (29, .iload_n 2, 1, 2), (30, .iload_n 3, 1, 3), (31, .invokevirtual 399, 3, 0), (34, .iconst 1, 1, 0), (35, .ireturn, 1, 0)]
theorem rc_X9_weighed_ok : rf_rc mX9_weighed rc_X9_weighed = true := by decide +kernel
theorem mw_X9_weighed : rf_mw mX9_weighed := ⟨rf_mt_ok _ (List.mem_of_getElem? (i := 141) rfl), fun h => absurd h (by decide), fun _ => ⟨rf_mi_ok _ (List.mem_of_getElem? (i := 132) rfl), rf_mv_ok _ (List.mem_of_getElem? (i := 132) rfl)⟩, rf_mq_5 _ (List.mem_of_getElem? (i := 16) rfl)⟩
def f_X9_weighed (p0 : Int32) (p1 : Int32) (p2 : Int32) (σ : rf_S) : Option (Int32 × rf_S) := (f_X9_isRoom p0 σ).bind (fun q1 => if q1 = 0 then (some ((-1), σ)) else (if p1 < 0 then (some ((-1), σ)) else (if p1 ≤ 12 then ((f_X0_weigh p0 p1 p2 σ).bind (fun q6 => some (1, q6))) else (some ((-1), σ)))))
set_option maxHeartbeats 2000000 in
theorem ok_X9_weighed (d : Nat) (p0 : Int32) (p1 : Int32) (p2 : Int32) (σ : rf_S) (q : (Int32 × rf_S)) (h : f_X9_weighed p0 p1 p2 σ = some q) : rf_Ex ly0 (d + 6) mX9_weighed [.ref 0, .int p0, .int p1, .int p2] σ (some (.int q.1) : Option Value) q.2 := by
  unfold f_X9_weighed at h
  refine rf_ex mw_X9_weighed [some (.ref 0), some (.int p0), some (.int p1), some (.int p2)] (Nat.le_of_ble_eq_true rfl) rfl ?_
  refine rf_b wf0 rc_X9_weighed_ok 0 2 (2, [some (.ref 0), some (.int p0), some (.int p1), some (.int p2)], [.int p0, .ref 0], σ) rfl ?_
  obtain ⟨q1, h2, h⟩ := Option.bind_eq_some_iff.mp h
  refine rf_cv1 (Mt := mX9_isRoom) wf0 rc_X9_weighed_ok 2 false rfl (List.mem_of_getElem? (i := 88) rfl) mw_X9_isRoom rfl 0 [.int p0] [] rfl rfl rfl (Nat.le_of_ble_eq_true rfl) (ok_X9_isRoom (d + 3) p0 σ q1 h2) ?_
  show rf_G _ _ _ (5, [some (.ref 0), some (.int p0), some (.int p1), some (.int p2)], [.int q1], σ) _ _
  by_cases c3 : q1 = 0
  · rw [if_pos c3] at h
    refine rf_t wf0 rc_X9_weighed_ok 3 (18, [some (.ref 0), some (.int p0), some (.int p1), some (.int p2)], [], σ) rfl rfl c3 rfl ?_
    refine rf_b wf0 rc_X9_weighed_ok 9 1 (19, [some (.ref 0), some (.int p0), some (.int p1), some (.int p2)], [.int (-1)], σ) rfl ?_
    obtain rfl := Option.some.inj h
    exact rf_ri rc_X9_weighed_ok 10 rfl rfl
  · rw [if_neg c3] at h
    refine rf_f wf0 rc_X9_weighed_ok 3 (8, [some (.ref 0), some (.int p0), some (.int p1), some (.int p2)], [], σ) rfl rfl c3 rfl ?_
    refine rf_b wf0 rc_X9_weighed_ok 4 1 (9, [some (.ref 0), some (.int p0), some (.int p1), some (.int p2)], [.int p1], σ) rfl ?_
    by_cases c4 : p1 < 0
    · rw [if_pos c4] at h
      refine rf_t wf0 rc_X9_weighed_ok 5 (18, [some (.ref 0), some (.int p0), some (.int p1), some (.int p2)], [], σ) rfl rfl c4 rfl ?_
      refine rf_b wf0 rc_X9_weighed_ok 9 1 (19, [some (.ref 0), some (.int p0), some (.int p1), some (.int p2)], [.int (-1)], σ) rfl ?_
      obtain rfl := Option.some.inj h
      exact rf_ri rc_X9_weighed_ok 10 rfl rfl
    · rw [if_neg c4] at h
      refine rf_f wf0 rc_X9_weighed_ok 5 (12, [some (.ref 0), some (.int p0), some (.int p1), some (.int p2)], [], σ) rfl rfl c4 rfl ?_
      refine rf_b wf0 rc_X9_weighed_ok 6 2 (15, [some (.ref 0), some (.int p0), some (.int p1), some (.int p2)], [.int 12, .int p1], σ) rfl ?_
      by_cases c5 : p1 ≤ 12
      · rw [if_pos c5] at h
        refine rf_t wf0 rc_X9_weighed_ok 8 (20, [some (.ref 0), some (.int p0), some (.int p1), some (.int p2)], [], σ) rfl rfl c5 rfl ?_
        refine rf_b wf0 rc_X9_weighed_ok 11 7 (31, [some (.ref 0), some (.int p0), some (.int p1), some (.int p2)], [.int p2, .int p1, .int p0, .ref 25, .ref 53], σ) rfl ?_
        obtain ⟨q6, h7, h⟩ := Option.bind_eq_some_iff.mp h
        refine rf_cv1 (Mt := mX0_weigh) wf0 rc_X9_weighed_ok 18 false rfl (List.mem_of_getElem? (i := 142) rfl) mw_X0_weigh rfl 53 [.ref 25, .int p0, .int p1, .int p2] [] rfl rfl rfl (Nat.le_of_ble_eq_true rfl) (ok_X0_weigh d p0 p1 p2 σ q6 h7) ?_
        show rf_G _ _ _ (34, [some (.ref 0), some (.int p0), some (.int p1), some (.int p2)], [], q6) _ _
        refine rf_b wf0 rc_X9_weighed_ok 19 1 (35, [some (.ref 0), some (.int p0), some (.int p1), some (.int p2)], [.int 1], q6) rfl ?_
        obtain rfl := Option.some.inj h
        exact rf_ri rc_X9_weighed_ok 20 rfl rfl
      · rw [if_neg c5] at h
        refine rf_f wf0 rc_X9_weighed_ok 8 (18, [some (.ref 0), some (.int p0), some (.int p1), some (.int p2)], [], σ) rfl rfl c5 rfl ?_
        refine rf_b wf0 rc_X9_weighed_ok 9 1 (19, [some (.ref 0), some (.int p0), some (.int p1), some (.int p2)], [.int (-1)], σ) rfl ?_
        obtain rfl := Option.some.inj h
        exact rf_ri rc_X9_weighed_ok 10 rfl rfl
def rc_X9_odds : List rf_E := [(0, .aload_n 0, 1, 0), (1, .iload_n 1, 1, 1), (2, .iload_n 2, 1, 2), (3, .iconst 0, 1, 0), (4, .invokevirtual 330, 3, 0), (7, .ireturn, 1, 0)]
theorem rc_X9_odds_ok : rf_rc mX9_odds rc_X9_odds = true := by decide +kernel
theorem mw_X9_odds : rf_mw mX9_odds := ⟨rf_mt_ok _ (List.mem_of_getElem? (i := 112) rfl), fun h => absurd h (by decide), fun _ => ⟨rf_mi_ok _ (List.mem_of_getElem? (i := 107) rfl), rf_mv_ok _ (List.mem_of_getElem? (i := 107) rfl)⟩, rf_mq_4 _ (List.mem_of_getElem? (i := 12) rfl)⟩
def f_X9_odds (p0 : Int32) (p1 : Int32) (σ : rf_S) : Option (Int32 × rf_S) := (f_X9_weighed p0 p1 0 σ).bind (fun q1 => some (q1.1, q1.2))
set_option maxHeartbeats 2000000 in
theorem ok_X9_odds (d : Nat) (p0 : Int32) (p1 : Int32) (σ : rf_S) (q : (Int32 × rf_S)) (h : f_X9_odds p0 p1 σ = some q) : rf_Ex ly0 (d + 7) mX9_odds [.ref 0, .int p0, .int p1] σ (some (.int q.1) : Option Value) q.2 := by
  unfold f_X9_odds at h
  refine rf_ex mw_X9_odds [some (.ref 0), some (.int p0), some (.int p1)] (Nat.le_of_ble_eq_true rfl) rfl ?_
  refine rf_b wf0 rc_X9_odds_ok 0 4 (4, [some (.ref 0), some (.int p0), some (.int p1)], [.int 0, .int p1, .int p0, .ref 0], σ) rfl ?_
  obtain ⟨q1, h2, h⟩ := Option.bind_eq_some_iff.mp h
  refine rf_cv1 (Mt := mX9_weighed) wf0 rc_X9_odds_ok 4 false rfl (List.mem_of_getElem? (i := 127) rfl) mw_X9_weighed rfl 0 [.int p0, .int p1, .int 0] [] rfl rfl rfl (Nat.le_of_ble_eq_true rfl) (ok_X9_weighed d p0 p1 0 σ q1 h2) ?_
  show rf_G _ _ _ (7, [some (.ref 0), some (.int p0), some (.int p1)], [.int q1.1], q1.2) _ _
  obtain rfl := Option.some.inj h
  exact rf_ri rc_X9_odds_ok 5 rfl rfl
def rc_X9_mid : List rf_E := [(0, .aload_n 0, 1, 0), (1, .iload_n 1, 1, 1), (2, .iload_n 2, 1, 2), (3, .iconst 1, 1, 0), (4, .invokevirtual 330, 3, 0), (7, .ireturn, 1, 0)]
theorem rc_X9_mid_ok : rf_rc mX9_mid rc_X9_mid = true := by decide +kernel
theorem mw_X9_mid : rf_mw mX9_mid := ⟨rf_mt_ok _ (List.mem_of_getElem? (i := 113) rfl), fun h => absurd h (by decide), fun _ => ⟨rf_mi_ok _ (List.mem_of_getElem? (i := 108) rfl), rf_mv_ok _ (List.mem_of_getElem? (i := 108) rfl)⟩, rf_mq_4 _ (List.mem_of_getElem? (i := 13) rfl)⟩
def f_X9_mid (p0 : Int32) (p1 : Int32) (σ : rf_S) : Option (Int32 × rf_S) := (f_X9_weighed p0 p1 1 σ).bind (fun q1 => some (q1.1, q1.2))
set_option maxHeartbeats 2000000 in
theorem ok_X9_mid (d : Nat) (p0 : Int32) (p1 : Int32) (σ : rf_S) (q : (Int32 × rf_S)) (h : f_X9_mid p0 p1 σ = some q) : rf_Ex ly0 (d + 7) mX9_mid [.ref 0, .int p0, .int p1] σ (some (.int q.1) : Option Value) q.2 := by
  unfold f_X9_mid at h
  refine rf_ex mw_X9_mid [some (.ref 0), some (.int p0), some (.int p1)] (Nat.le_of_ble_eq_true rfl) rfl ?_
  refine rf_b wf0 rc_X9_mid_ok 0 4 (4, [some (.ref 0), some (.int p0), some (.int p1)], [.int 1, .int p1, .int p0, .ref 0], σ) rfl ?_
  obtain ⟨q1, h2, h⟩ := Option.bind_eq_some_iff.mp h
  refine rf_cv1 (Mt := mX9_weighed) wf0 rc_X9_mid_ok 4 false rfl (List.mem_of_getElem? (i := 127) rfl) mw_X9_weighed rfl 0 [.int p0, .int p1, .int 1] [] rfl rfl rfl (Nat.le_of_ble_eq_true rfl) (ok_X9_weighed d p0 p1 1 σ q1 h2) ?_
  show rf_G _ _ _ (7, [some (.ref 0), some (.int p0), some (.int p1)], [.int q1.1], q1.2) _ _
  obtain rfl := Option.some.inj h
  exact rf_ri rc_X9_mid_ok 5 rfl rfl
def rc_X9_carryOutLot : List rf_E := [(0, .aload_n 0, 1, 0), (1, .getfield 33, 3, 903), (4, .invokevirtual 151, 3, 0), (7, .istore_n 3, 1, 3), (8, .aload_n 0, 1, 0), (9, .getfield 33, 3, 903), (12, .invokevirtual 271, 3, 0), (15, .istore 4, 2, 4), (17, .iload_n 3, 1, 3), (18, .iconst 1, 1, 0), (19, .if_icmp .lt 9, 3, 28), (22, .iload 4, 2, 4), (24, .iconst 1, 1, 0), (25, .if_icmp .ge 4, 3, 29), (28, .return_, 1, 0), (29, .lload_n 1, 1, 1), (30, .ldc2_w 403, 3, 8), (33, .ldiv, 1, 0), (34, .iload_n 3, 1, 3), (35, .i2l, 1, 0), (36, .lrem, 1, 0), (37, .l2i, 1, 0), (38, .istore 5, 2, 5), (40, .lload_n 1, 1, 1), (41, .ldc2_w 405, 3, 4), (44, .lrem, 1, 0), (45, .l2i, 1, 0), (46, .lookupswitch 76 #[(2, 26), (3, 58)], 26, 0), (72, .aload_n 0, 1, 0), (73, .getfield 40, 3, 904), (76, .aload_n 0, 1, 0), (77, .getfield 33, 3, 903), (80, .iconst 0, 1, 0), (81, .iload 5, 2, 5), (83, .aload_n 0, 1, 0), (84, .getfield 33, 3, 903), (87, .getfield 207, 3, 802), (90, .iload 5, 2, 5), (92, .iaload, 1, 0), (93, .iconst 1, 1, 0), (94, .iadd, 1, 0), (95, .iload 4, 2, 4), (97, .irem, 1, 0), (98, .invokevirtual 223, 3, 0), (101, .goto 35, 3, 136), (104, .aload_n 0, 1, 0), (105, .getfield 40, 3, 904), (108, .aload_n 0, 1, 0), (109, .getfield 33, 3, 903), (112, .iconst 3, 1, 0), (113, .iload 5, 2, 5), (115, .iconst 0, 1, 0), (116, .invokevirtual 223, 3, 0), (119, .goto 17, 3, 136), (122, .aload_n 0, 1, 0), (123, .getfield 40, 3, 904), (126, .aload_n 0, 1, 0), (127, .getfield 33, 3, 903), (130, .iconst 1, 1, 0), (131, .iconst 0, 1, 0), (132, .iconst 0, 1, 0), (133, .invokevirtual 223, 3, 0), (136, .return_, 1, 0)]
theorem rc_X9_carryOutLot_ok : rf_rc mX9_carryOutLot rc_X9_carryOutLot = true := by decide +kernel
theorem mw_X9_carryOutLot : rf_mw mX9_carryOutLot := ⟨rf_mt_ok _ (List.mem_of_getElem? (i := 142) rfl), fun h => absurd h (by decide), fun _ => ⟨rf_mi_ok _ (List.mem_of_getElem? (i := 133) rfl), rf_mv_ok _ (List.mem_of_getElem? (i := 133) rfl)⟩, rf_mq_5 _ (List.mem_of_getElem? (i := 17) rfl)⟩
def f_X9_carryOutLot (p0 : Int64) (σ : rf_S) : Option rf_S := (f_X8_members σ).bind (fun q1 => (f_X8_rooms σ).bind (fun q3 => if q1 < 1 then (some σ) else (if 1 ≤ q3 then (if q1.toInt64 = 0 then none else (if ((p0 - p0 / 4 * 4).toInt32) = 2 then (if rf_ck ly0 0 34 (((p0 / 8) - (p0 / 8) / q1.toInt64 * q1.toInt64).toInt32) = true then (if q3 = 0 then none else ((f_X1_carryOut 0 (((p0 / 8) - (p0 / 8) / q1.toInt64 * q1.toInt64).toInt32) (((σ.1 34 (((p0 / 8) - (p0 / 8) / q1.toInt64 * q1.toInt64).toInt32).toNatClampNeg) + 1) - ((σ.1 34 (((p0 / 8) - (p0 / 8) / q1.toInt64 * q1.toInt64).toInt32).toNatClampNeg) + 1) / q3 * q3) σ).bind (fun q13 => some q13))) else none) else (if ((p0 - p0 / 4 * 4).toInt32) = 3 then ((f_X1_carryOut 3 (((p0 / 8) - (p0 / 8) / q1.toInt64 * q1.toInt64).toInt32) 0 σ).bind (fun q16 => some q16)) else ((f_X1_carryOut 1 0 0 σ).bind (fun q18 => some q18))))) else (some σ))))
set_option maxHeartbeats 2000000 in
theorem ok_X9_carryOutLot (d : Nat) (p0 : Int64) (σ : rf_S) (q : rf_S) (h : f_X9_carryOutLot p0 σ = some q) : rf_Ex ly0 (d + 6) mX9_carryOutLot [.ref 0, .long p0] σ none q := by
  unfold f_X9_carryOutLot at h
  refine rf_ex mw_X9_carryOutLot [some (.ref 0), some (.long p0), none, none, none, none] (Nat.le_of_ble_eq_true rfl) rfl ?_
  refine rf_b wf0 rc_X9_carryOutLot_ok 0 2 (4, [some (.ref 0), some (.long p0), none, none, none, none], [.ref 25], σ) rfl ?_
  obtain ⟨q1, h2, h⟩ := Option.bind_eq_some_iff.mp h
  refine rf_cv1 (Mt := mX8_members) wf0 rc_X9_carryOutLot_ok 2 false rfl (List.mem_of_getElem? (i := 85) rfl) mw_X8_members rfl 25 [] [] rfl rfl rfl (Nat.le_of_ble_eq_true rfl) (ok_X8_members (d + 4)  σ q1 h2) ?_
  show rf_G _ _ _ (7, [some (.ref 0), some (.long p0), none, none, none, none], [.int q1], σ) _ _
  refine rf_b wf0 rc_X9_carryOutLot_ok 3 3 (12, [some (.ref 0), some (.long p0), none, some (.int q1), none, none], [.ref 25], σ) rfl ?_
  obtain ⟨q3, h4, h⟩ := Option.bind_eq_some_iff.mp h
  refine rf_cv1 (Mt := mX8_rooms) wf0 rc_X9_carryOutLot_ok 6 false rfl (List.mem_of_getElem? (i := 113) rfl) mw_X8_rooms rfl 25 [] [] rfl rfl rfl (Nat.le_of_ble_eq_true rfl) (ok_X8_rooms (d + 4)  σ q3 h4) ?_
  show rf_G _ _ _ (15, [some (.ref 0), some (.long p0), none, some (.int q1), none, none], [.int q3], σ) _ _
  refine rf_b wf0 rc_X9_carryOutLot_ok 7 3 (19, [some (.ref 0), some (.long p0), none, some (.int q1), some (.int q3), none], [.int 1, .int q1], σ) rfl ?_
  by_cases c5 : q1 < 1
  · rw [if_pos c5] at h
    refine rf_t wf0 rc_X9_carryOutLot_ok 10 (28, [some (.ref 0), some (.long p0), none, some (.int q1), some (.int q3), none], [], σ) rfl rfl c5 rfl ?_
    obtain rfl := Option.some.inj h
    exact rf_rv rc_X9_carryOutLot_ok 14 rfl rfl
  · rw [if_neg c5] at h
    refine rf_f wf0 rc_X9_carryOutLot_ok 10 (22, [some (.ref 0), some (.long p0), none, some (.int q1), some (.int q3), none], [], σ) rfl rfl c5 rfl ?_
    refine rf_b wf0 rc_X9_carryOutLot_ok 11 2 (25, [some (.ref 0), some (.long p0), none, some (.int q1), some (.int q3), none], [.int 1, .int q3], σ) rfl ?_
    by_cases c6 : 1 ≤ q3
    · rw [if_pos c6] at h
      refine rf_t wf0 rc_X9_carryOutLot_ok 13 (29, [some (.ref 0), some (.long p0), none, some (.int q1), some (.int q3), none], [], σ) rfl rfl c6 rfl ?_
      refine rf_b wf0 rc_X9_carryOutLot_ok 15 2 (33, [some (.ref 0), some (.long p0), none, some (.int q1), some (.int q3), none], [.long 8, .long p0], σ) rfl ?_
      refine rf_nz wf0 rc_X9_carryOutLot_ok 17 (34, [some (.ref 0), some (.long p0), none, some (.int q1), some (.int q3), none], [.long (p0 / 8)], σ) rfl rfl (c := (8 : Int64) = 0) (by decide) rfl ?_
      refine rf_b wf0 rc_X9_carryOutLot_ok 18 2 (36, [some (.ref 0), some (.long p0), none, some (.int q1), some (.int q3), none], [.long q1.toInt64, .long (p0 / 8)], σ) rfl ?_
      obtain ⟨g8, h⟩ := rf_ifz h
      refine rf_nz wf0 rc_X9_carryOutLot_ok 20 (37, [some (.ref 0), some (.long p0), none, some (.int q1), some (.int q3), none], [.long ((p0 / 8) - (p0 / 8) / q1.toInt64 * q1.toInt64)], σ) rfl rfl g8 rfl ?_
      refine rf_b wf0 rc_X9_carryOutLot_ok 21 4 (44, [some (.ref 0), some (.long p0), none, some (.int q1), some (.int q3), some (.int (((p0 / 8) - (p0 / 8) / q1.toInt64 * q1.toInt64).toInt32))], [.long 4, .long p0], σ) rfl ?_
      refine rf_nz wf0 rc_X9_carryOutLot_ok 25 (45, [some (.ref 0), some (.long p0), none, some (.int q1), some (.int q3), some (.int (((p0 / 8) - (p0 / 8) / q1.toInt64 * q1.toInt64).toInt32))], [.long (p0 - p0 / 4 * 4)], σ) rfl rfl (c := (4 : Int64) = 0) (by decide) rfl ?_
      refine rf_b wf0 rc_X9_carryOutLot_ok 26 1 (46, [some (.ref 0), some (.long p0), none, some (.int q1), some (.int q3), some (.int (((p0 / 8) - (p0 / 8) / q1.toInt64 * q1.toInt64).toInt32))], [.int ((p0 - p0 / 4 * 4).toInt32)], σ) rfl ?_
      by_cases c10 : ((p0 - p0 / 4 * 4).toInt32) = 2
      · rw [if_pos c10] at h
        refine rf_lk rc_X9_carryOutLot_ok 27 72 rfl (by decide) (by rw [c10]) (by decide) ?_
        refine rf_b wf0 rc_X9_carryOutLot_ok 28 10 (92, [some (.ref 0), some (.long p0), none, some (.int q1), some (.int q3), some (.int (((p0 / 8) - (p0 / 8) / q1.toInt64 * q1.toInt64).toInt32))], [.int (((p0 / 8) - (p0 / 8) / q1.toInt64 * q1.toInt64).toInt32), .ref 34, .int (((p0 / 8) - (p0 / 8) / q1.toInt64 * q1.toInt64).toInt32), .int 0, .ref 25, .ref 38], σ) rfl ?_
        obtain ⟨g11, h⟩ := rf_ifn h
        refine rf_gd wf0 rc_X9_carryOutLot_ok 38 (93, [some (.ref 0), some (.long p0), none, some (.int q1), some (.int q3), some (.int (((p0 / 8) - (p0 / 8) / q1.toInt64 * q1.toInt64).toInt32))], [.int (σ.1 34 (((p0 / 8) - (p0 / 8) / q1.toInt64 * q1.toInt64).toInt32).toNatClampNeg), .int (((p0 / 8) - (p0 / 8) / q1.toInt64 * q1.toInt64).toInt32), .int 0, .ref 25, .ref 38], σ) rfl rfl g11 rfl ?_
        refine rf_b wf0 rc_X9_carryOutLot_ok 39 3 (97, [some (.ref 0), some (.long p0), none, some (.int q1), some (.int q3), some (.int (((p0 / 8) - (p0 / 8) / q1.toInt64 * q1.toInt64).toInt32))], [.int q3, .int ((σ.1 34 (((p0 / 8) - (p0 / 8) / q1.toInt64 * q1.toInt64).toInt32).toNatClampNeg) + 1), .int (((p0 / 8) - (p0 / 8) / q1.toInt64 * q1.toInt64).toInt32), .int 0, .ref 25, .ref 38], σ) rfl ?_
        obtain ⟨g12, h⟩ := rf_ifz h
        refine rf_nz wf0 rc_X9_carryOutLot_ok 42 (98, [some (.ref 0), some (.long p0), none, some (.int q1), some (.int q3), some (.int (((p0 / 8) - (p0 / 8) / q1.toInt64 * q1.toInt64).toInt32))], [.int (((σ.1 34 (((p0 / 8) - (p0 / 8) / q1.toInt64 * q1.toInt64).toInt32).toNatClampNeg) + 1) - ((σ.1 34 (((p0 / 8) - (p0 / 8) / q1.toInt64 * q1.toInt64).toInt32).toNatClampNeg) + 1) / q3 * q3), .int (((p0 / 8) - (p0 / 8) / q1.toInt64 * q1.toInt64).toInt32), .int 0, .ref 25, .ref 38], σ) rfl rfl g12 rfl ?_
        obtain ⟨q13, h14, h⟩ := Option.bind_eq_some_iff.mp h
        refine rf_cv1 (Mt := mX1_carryOut) wf0 rc_X9_carryOutLot_ok 43 false rfl (List.mem_of_getElem? (i := 101) rfl) mw_X1_carryOut rfl 38 [.ref 25, .int 0, .int (((p0 / 8) - (p0 / 8) / q1.toInt64 * q1.toInt64).toInt32), .int (((σ.1 34 (((p0 / 8) - (p0 / 8) / q1.toInt64 * q1.toInt64).toInt32).toNatClampNeg) + 1) - ((σ.1 34 (((p0 / 8) - (p0 / 8) / q1.toInt64 * q1.toInt64).toInt32).toNatClampNeg) + 1) / q3 * q3)] [] rfl rfl rfl (Nat.le_of_ble_eq_true rfl) (ok_X1_carryOut d 0 (((p0 / 8) - (p0 / 8) / q1.toInt64 * q1.toInt64).toInt32) (((σ.1 34 (((p0 / 8) - (p0 / 8) / q1.toInt64 * q1.toInt64).toInt32).toNatClampNeg) + 1) - ((σ.1 34 (((p0 / 8) - (p0 / 8) / q1.toInt64 * q1.toInt64).toInt32).toNatClampNeg) + 1) / q3 * q3) σ q13 h14) ?_
        show rf_G _ _ _ (101, [some (.ref 0), some (.long p0), none, some (.int q1), some (.int q3), some (.int (((p0 / 8) - (p0 / 8) / q1.toInt64 * q1.toInt64).toInt32))], [], q13) _ _
        refine rf_b wf0 rc_X9_carryOutLot_ok 44 1 (136, [some (.ref 0), some (.long p0), none, some (.int q1), some (.int q3), some (.int (((p0 / 8) - (p0 / 8) / q1.toInt64 * q1.toInt64).toInt32))], [], q13) rfl ?_
        obtain rfl := Option.some.inj h
        exact rf_rv rc_X9_carryOutLot_ok 62 rfl rfl
      · rw [if_neg c10] at h
        by_cases c15 : ((p0 - p0 / 4 * 4).toInt32) = 3
        · rw [if_pos c15] at h
          refine rf_lk rc_X9_carryOutLot_ok 27 104 rfl (by decide) (by rw [c15]) (by decide) ?_
          refine rf_b wf0 rc_X9_carryOutLot_ok 45 7 (116, [some (.ref 0), some (.long p0), none, some (.int q1), some (.int q3), some (.int (((p0 / 8) - (p0 / 8) / q1.toInt64 * q1.toInt64).toInt32))], [.int 0, .int (((p0 / 8) - (p0 / 8) / q1.toInt64 * q1.toInt64).toInt32), .int 3, .ref 25, .ref 38], σ) rfl ?_
          obtain ⟨q16, h17, h⟩ := Option.bind_eq_some_iff.mp h
          refine rf_cv1 (Mt := mX1_carryOut) wf0 rc_X9_carryOutLot_ok 52 false rfl (List.mem_of_getElem? (i := 101) rfl) mw_X1_carryOut rfl 38 [.ref 25, .int 3, .int (((p0 / 8) - (p0 / 8) / q1.toInt64 * q1.toInt64).toInt32), .int 0] [] rfl rfl rfl (Nat.le_of_ble_eq_true rfl) (ok_X1_carryOut d 3 (((p0 / 8) - (p0 / 8) / q1.toInt64 * q1.toInt64).toInt32) 0 σ q16 h17) ?_
          show rf_G _ _ _ (119, [some (.ref 0), some (.long p0), none, some (.int q1), some (.int q3), some (.int (((p0 / 8) - (p0 / 8) / q1.toInt64 * q1.toInt64).toInt32))], [], q16) _ _
          refine rf_b wf0 rc_X9_carryOutLot_ok 53 1 (136, [some (.ref 0), some (.long p0), none, some (.int q1), some (.int q3), some (.int (((p0 / 8) - (p0 / 8) / q1.toInt64 * q1.toInt64).toInt32))], [], q16) rfl ?_
          obtain rfl := Option.some.inj h
          exact rf_rv rc_X9_carryOutLot_ok 62 rfl rfl
        · rw [if_neg c15] at h
          refine rf_lk rc_X9_carryOutLot_ok 27 122 (off := 76) rfl (by decide) (by show Op.lookupswitch.offset [(2, 26), (3, 58)] (76) _ = _; rw [lv_osw (k := 2) (a := 2) c10 (by decide), lv_osw (k := 3) (a := 3) c15 (by decide)]; rfl) (by decide) ?_
          refine rf_b wf0 rc_X9_carryOutLot_ok 54 7 (133, [some (.ref 0), some (.long p0), none, some (.int q1), some (.int q3), some (.int (((p0 / 8) - (p0 / 8) / q1.toInt64 * q1.toInt64).toInt32))], [.int 0, .int 0, .int 1, .ref 25, .ref 38], σ) rfl ?_
          obtain ⟨q18, h19, h⟩ := Option.bind_eq_some_iff.mp h
          refine rf_cv1 (Mt := mX1_carryOut) wf0 rc_X9_carryOutLot_ok 61 false rfl (List.mem_of_getElem? (i := 101) rfl) mw_X1_carryOut rfl 38 [.ref 25, .int 1, .int 0, .int 0] [] rfl rfl rfl (Nat.le_of_ble_eq_true rfl) (ok_X1_carryOut d 1 0 0 σ q18 h19) ?_
          show rf_G _ _ _ (136, [some (.ref 0), some (.long p0), none, some (.int q1), some (.int q3), some (.int (((p0 / 8) - (p0 / 8) / q1.toInt64 * q1.toInt64).toInt32))], [], q18) _ _
          obtain rfl := Option.some.inj h
          exact rf_rv rc_X9_carryOutLot_ok 62 rfl rfl
    · rw [if_neg c6] at h
      refine rf_f wf0 rc_X9_carryOutLot_ok 13 (28, [some (.ref 0), some (.long p0), none, some (.int q1), some (.int q3), none], [], σ) rfl rfl c6 rfl ?_
      obtain rfl := Option.some.inj h
      exact rf_rv rc_X9_carryOutLot_ok 14 rfl rfl
def rc_X9_lots : List rf_E := [(0, .iload_n 1, 1, 1), (1, .iconst 1, 1, 0), (2, .if_icmp .lt 23, 3, 25), (5, .iload_n 1, 1, 1), (6, .bipush 20, 2, 0), (8, .if_icmp .gt 17, 3, 25), (11, .iload_n 2, 1, 2), (12, .iconst 1, 1, 0), (13, .if_icmp .lt 12, 3, 25), (16, .iload_n 2, 1, 2), (17, .i2l, 1, 0), (18, .ldc2_w 334, 3, 2147483647), (21, .lcmp, 1, 0), (22, .ifCond .lt 5, 3, 27), (25, .iconst (-1), 1, 0), (26, .ireturn, 1, 0), (27, .aload_n 0, 1, 0), (28, .getfield 33, 3, 903), (31, .invokevirtual 252, 3, 0), (34, .ifCond .eq 6, 3, 40), (37, .bipush (-4), 2, 0), (39, .ireturn, 1, 0), (40, .aload_n 0, 1, 0), (41, .getfield 40, 3, 904), (44, .invokevirtual 220, 3, 0), (47, .iload_n 1, 1, 1), (48, .if_icmp .ge 6, 3, 54), (51, .bipush (-2), 2, 0), (53, .ireturn, 1, 0), (54, .iload_n 2, 1, 2), (55, .i2l, 1, 0), (56, .lstore_n 3, 1, 3), (57, .iconst 0, 1, 0), (58, .istore 5, 2, 5), (60, .iload 5, 2, 5), (62, .iload_n 1, 1, 1), (63, .if_icmp .ge 24, 3, 87), (66, .lload_n 3, 1, 3), (67, .ldc2_w 336, 3, 48271), (70, .lmul, 1, 0), (71, .ldc2_w 334, 3, 2147483647), (74, .lrem, 1, 0), (75, .lstore_n 3, 1, 3), (76, .aload_n 0, 1, 0), (77, .lload_n 3, 1, 3), (78, .invokevirtual 338, 3, 0), (81, .iinc 5 1, 3, 5), (84, .goto (-24), 3, 60), (87, .aload_n 0, 1, 0), (88, .getfield 33, 3, 903), (91, .getfield 227, 3, 808), (94, .ireturn, 1, 0)]
theorem rc_X9_lots_ok : rf_rc mX9_lots rc_X9_lots = true := by decide +kernel
theorem mw_X9_lots : rf_mw mX9_lots := ⟨rf_mt_ok _ (List.mem_of_getElem? (i := 114) rfl), fun h => absurd h (by decide), fun _ => ⟨rf_mi_ok _ (List.mem_of_getElem? (i := 109) rfl), rf_mv_ok _ (List.mem_of_getElem? (i := 109) rfl)⟩, rf_mq_4 _ (List.mem_of_getElem? (i := 14) rfl)⟩
def f_X9_lots_b60 (l1 : Int32) (s60 : Int64 × Int32 × rf_S) : Option ((Int64 × Int32 × rf_S) ⊕ (rf_S)) := if l1 ≤ s60.2.1 then (some (.inr s60.2.2)) else ((f_X9_carryOutLot ((s60.1 * 48271) - (s60.1 * 48271) / 2147483647 * 2147483647) s60.2.2).bind (fun q13 => some (.inl (((s60.1 * 48271) - (s60.1 * 48271) / 2147483647 * 2147483647), (s60.2.1 + 1), q13))))
set_option maxHeartbeats 2000000 in
theorem ok_X9_lots_b60 (d : Nat) (l1 : Int32) (s60 : Int64 × Int32 × rf_S) (o : ((Int64 × Int32 × rf_S) ⊕ (rf_S))) (h : f_X9_lots_b60 l1 s60 = some o) {r : Option Value} {σr : rf_S} (kl : ∀ s', o = .inl s' → rf_G ly0 (d + 6) mX9_lots (60, [some (.ref 0), some (.int l1), none, some (.long s'.1), none, some (.int s'.2.1)], [], s'.2.2) r σr) (kx : ∀ e, o = .inr e → rf_G ly0 (d + 6) mX9_lots (87, [some (.ref 0), none, none, none, none, none], [], e) r σr) : rf_G ly0 (d + 6) mX9_lots (60, [some (.ref 0), some (.int l1), none, some (.long s60.1), none, some (.int s60.2.1)], [], s60.2.2) r σr := by
  unfold f_X9_lots_b60 at h
  refine rf_b wf0 rc_X9_lots_ok 34 2 (63, [some (.ref 0), some (.int l1), none, some (.long s60.1), none, some (.int s60.2.1)], [.int l1, .int s60.2.1], s60.2.2) rfl ?_
  by_cases c11 : l1 ≤ s60.2.1
  · rw [if_pos c11] at h
    refine rf_t wf0 rc_X9_lots_ok 36 (87, [some (.ref 0), some (.int l1), none, some (.long s60.1), none, some (.int s60.2.1)], [], s60.2.2) rfl rfl c11 rfl ?_
    refine rf_fg [true, false, true, false, true, false] [some (.ref 0), none, none, none, none, none] rfl ?_
    exact kx s60.2.2 (Option.some.inj h).symm
  · rw [if_neg c11] at h
    refine rf_f wf0 rc_X9_lots_ok 36 (66, [some (.ref 0), some (.int l1), none, some (.long s60.1), none, some (.int s60.2.1)], [], s60.2.2) rfl rfl c11 rfl ?_
    refine rf_b wf0 rc_X9_lots_ok 37 4 (74, [some (.ref 0), some (.int l1), none, some (.long s60.1), none, some (.int s60.2.1)], [.long 2147483647, .long (s60.1 * 48271)], s60.2.2) rfl ?_
    refine rf_nz wf0 rc_X9_lots_ok 41 (75, [some (.ref 0), some (.int l1), none, some (.long s60.1), none, some (.int s60.2.1)], [.long ((s60.1 * 48271) - (s60.1 * 48271) / 2147483647 * 2147483647)], s60.2.2) rfl rfl (c := (2147483647 : Int64) = 0) (by decide) rfl ?_
    refine rf_b wf0 rc_X9_lots_ok 42 3 (78, [some (.ref 0), some (.int l1), none, some (.long ((s60.1 * 48271) - (s60.1 * 48271) / 2147483647 * 2147483647)), none, some (.int s60.2.1)], [.long ((s60.1 * 48271) - (s60.1 * 48271) / 2147483647 * 2147483647), .ref 0], s60.2.2) rfl ?_
    obtain ⟨q13, h14, h⟩ := Option.bind_eq_some_iff.mp h
    refine rf_cv1 (Mt := mX9_carryOutLot) wf0 rc_X9_lots_ok 45 false rfl (List.mem_of_getElem? (i := 128) rfl) mw_X9_carryOutLot rfl 0 [.long ((s60.1 * 48271) - (s60.1 * 48271) / 2147483647 * 2147483647)] [] rfl rfl rfl (Nat.le_of_ble_eq_true rfl) (ok_X9_carryOutLot d ((s60.1 * 48271) - (s60.1 * 48271) / 2147483647 * 2147483647) s60.2.2 q13 h14) ?_
    show rf_G _ _ _ (81, [some (.ref 0), some (.int l1), none, some (.long ((s60.1 * 48271) - (s60.1 * 48271) / 2147483647 * 2147483647)), none, some (.int s60.2.1)], [], q13) _ _
    refine rf_b wf0 rc_X9_lots_ok 46 2 (60, [some (.ref 0), some (.int l1), none, some (.long ((s60.1 * 48271) - (s60.1 * 48271) / 2147483647 * 2147483647)), none, some (.int (s60.2.1 + 1))], [], q13) rfl ?_
    exact kl (((s60.1 * 48271) - (s60.1 * 48271) / 2147483647 * 2147483647), (s60.2.1 + 1), q13) (Option.some.inj h).symm
def f_X9_lots (p0 : Int32) (p1 : Int32) (σ : rf_S) : Option (Int32 × rf_S) := if p0 < 1 then (some ((-1), σ)) else (if 20 < p0 then (some ((-1), σ)) else (if p1 < 1 then (some ((-1), σ)) else (if (lg_cmp p1.toInt64 2147483647) < 0 then ((f_X8_isEmpty σ).bind (fun q5 => if q5 = 0 then ((f_X1_left σ).bind (fun q8 => if p0 ≤ q8 then ((rf_lp (f_X9_lots_b60 p0) 5000 (p1.toInt64, 0, σ)).bind (fun e15 => some ((e15.1 25 8), e15))) else (some ((-2), σ)))) else (some ((-4), σ)))) else (some ((-1), σ)))))
set_option maxHeartbeats 2000000 in
theorem ok_X9_lots (d : Nat) (p0 : Int32) (p1 : Int32) (σ : rf_S) (q : (Int32 × rf_S)) (h : f_X9_lots p0 p1 σ = some q) : rf_Ex ly0 (d + 7) mX9_lots [.ref 0, .int p0, .int p1] σ (some (.int q.1) : Option Value) q.2 := by
  unfold f_X9_lots at h
  refine rf_ex mw_X9_lots [some (.ref 0), some (.int p0), some (.int p1), none, none, none] (Nat.le_of_ble_eq_true rfl) rfl ?_
  refine rf_b wf0 rc_X9_lots_ok 0 2 (2, [some (.ref 0), some (.int p0), some (.int p1), none, none, none], [.int 1, .int p0], σ) rfl ?_
  by_cases c1 : p0 < 1
  · rw [if_pos c1] at h
    refine rf_t wf0 rc_X9_lots_ok 2 (25, [some (.ref 0), some (.int p0), some (.int p1), none, none, none], [], σ) rfl rfl c1 rfl ?_
    refine rf_b wf0 rc_X9_lots_ok 14 1 (26, [some (.ref 0), some (.int p0), some (.int p1), none, none, none], [.int (-1)], σ) rfl ?_
    obtain rfl := Option.some.inj h
    exact rf_ri rc_X9_lots_ok 15 rfl rfl
  · rw [if_neg c1] at h
    refine rf_f wf0 rc_X9_lots_ok 2 (5, [some (.ref 0), some (.int p0), some (.int p1), none, none, none], [], σ) rfl rfl c1 rfl ?_
    refine rf_b wf0 rc_X9_lots_ok 3 2 (8, [some (.ref 0), some (.int p0), some (.int p1), none, none, none], [.int 20, .int p0], σ) rfl ?_
    by_cases c2 : 20 < p0
    · rw [if_pos c2] at h
      refine rf_t wf0 rc_X9_lots_ok 5 (25, [some (.ref 0), some (.int p0), some (.int p1), none, none, none], [], σ) rfl rfl c2 rfl ?_
      refine rf_b wf0 rc_X9_lots_ok 14 1 (26, [some (.ref 0), some (.int p0), some (.int p1), none, none, none], [.int (-1)], σ) rfl ?_
      obtain rfl := Option.some.inj h
      exact rf_ri rc_X9_lots_ok 15 rfl rfl
    · rw [if_neg c2] at h
      refine rf_f wf0 rc_X9_lots_ok 5 (11, [some (.ref 0), some (.int p0), some (.int p1), none, none, none], [], σ) rfl rfl c2 rfl ?_
      refine rf_b wf0 rc_X9_lots_ok 6 2 (13, [some (.ref 0), some (.int p0), some (.int p1), none, none, none], [.int 1, .int p1], σ) rfl ?_
      by_cases c3 : p1 < 1
      · rw [if_pos c3] at h
        refine rf_t wf0 rc_X9_lots_ok 8 (25, [some (.ref 0), some (.int p0), some (.int p1), none, none, none], [], σ) rfl rfl c3 rfl ?_
        refine rf_b wf0 rc_X9_lots_ok 14 1 (26, [some (.ref 0), some (.int p0), some (.int p1), none, none, none], [.int (-1)], σ) rfl ?_
        obtain rfl := Option.some.inj h
        exact rf_ri rc_X9_lots_ok 15 rfl rfl
      · rw [if_neg c3] at h
        refine rf_f wf0 rc_X9_lots_ok 8 (16, [some (.ref 0), some (.int p0), some (.int p1), none, none, none], [], σ) rfl rfl c3 rfl ?_
        refine rf_b wf0 rc_X9_lots_ok 9 4 (22, [some (.ref 0), some (.int p0), some (.int p1), none, none, none], [.int (lg_cmp p1.toInt64 2147483647)], σ) rfl ?_
        by_cases c4 : (lg_cmp p1.toInt64 2147483647) < 0
        · rw [if_pos c4] at h
          refine rf_t wf0 rc_X9_lots_ok 13 (27, [some (.ref 0), some (.int p0), some (.int p1), none, none, none], [], σ) rfl rfl c4 rfl ?_
          refine rf_b wf0 rc_X9_lots_ok 16 2 (31, [some (.ref 0), some (.int p0), some (.int p1), none, none, none], [.ref 25], σ) rfl ?_
          obtain ⟨q5, h6, h⟩ := Option.bind_eq_some_iff.mp h
          refine rf_cv1 (Mt := mX8_isEmpty) wf0 rc_X9_lots_ok 18 false rfl (List.mem_of_getElem? (i := 108) rfl) mw_X8_isEmpty rfl 25 [] [] rfl rfl rfl (Nat.le_of_ble_eq_true rfl) (ok_X8_isEmpty (d + 5)  σ q5 h6) ?_
          show rf_G _ _ _ (34, [some (.ref 0), some (.int p0), some (.int p1), none, none, none], [.int q5], σ) _ _
          by_cases c7 : q5 = 0
          · rw [if_pos c7] at h
            refine rf_t wf0 rc_X9_lots_ok 19 (40, [some (.ref 0), some (.int p0), some (.int p1), none, none, none], [], σ) rfl rfl c7 rfl ?_
            refine rf_b wf0 rc_X9_lots_ok 22 2 (44, [some (.ref 0), some (.int p0), some (.int p1), none, none, none], [.ref 38], σ) rfl ?_
            obtain ⟨q8, h9, h⟩ := Option.bind_eq_some_iff.mp h
            refine rf_cv1 (Mt := mX1_left) wf0 rc_X9_lots_ok 24 false rfl (List.mem_of_getElem? (i := 100) rfl) mw_X1_left rfl 38 [] [] rfl rfl rfl (Nat.le_of_ble_eq_true rfl) (ok_X1_left (d + 5)  σ q8 h9) ?_
            show rf_G _ _ _ (47, [some (.ref 0), some (.int p0), some (.int p1), none, none, none], [.int q8], σ) _ _
            refine rf_b wf0 rc_X9_lots_ok 25 1 (48, [some (.ref 0), some (.int p0), some (.int p1), none, none, none], [.int p0, .int q8], σ) rfl ?_
            by_cases c10 : p0 ≤ q8
            · rw [if_pos c10] at h
              refine rf_t wf0 rc_X9_lots_ok 26 (54, [some (.ref 0), some (.int p0), some (.int p1), none, none, none], [], σ) rfl rfl c10 rfl ?_
              refine rf_b wf0 rc_X9_lots_ok 29 5 (60, [some (.ref 0), some (.int p0), some (.int p1), some (.long p1.toInt64), none, some (.int 0)], [], σ) rfl ?_
              refine rf_fg [true, true, false, true, true, true] [some (.ref 0), some (.int p0), none, some (.long p1.toInt64), none, some (.int 0)] rfl ?_
              obtain ⟨e15, h16, h⟩ := Option.bind_eq_some_iff.mp h
              refine rf_lpG (b := f_X9_lots_b60 p0) (G := fun (s60 : Int64 × Int32 × rf_S) => rf_G ly0 (d + 6) mX9_lots (60, [some (.ref 0), some (.int p0), none, some (.long s60.1), none, some (.int s60.2.1)], [], s60.2.2) (some (.int q.1) : Option Value) q.2) (K := fun (e : (rf_S)) => rf_G ly0 (d + 6) mX9_lots (87, [some (.ref 0), none, none, none, none, none], [], e) (some (.int q.1) : Option Value) q.2) (fun (s60 : Int64 × Int32 × rf_S) (o : (Int64 × Int32 × rf_S) ⊕ (rf_S)) hb kl kx => ok_X9_lots_b60 d p0 s60 o hb kl kx) 5000 (p1.toInt64, 0, σ) e15 h16 ?_
              show rf_G _ _ _ (87, [some (.ref 0), none, none, none, none, none], [], e15) _ _
              refine rf_b wf0 rc_X9_lots_ok 48 3 (94, [some (.ref 0), none, none, none, none, none], [.int (e15.1 25 8)], e15) rfl ?_
              obtain rfl := Option.some.inj h
              exact rf_ri rc_X9_lots_ok 51 rfl rfl
            · rw [if_neg c10] at h
              refine rf_f wf0 rc_X9_lots_ok 26 (51, [some (.ref 0), some (.int p0), some (.int p1), none, none, none], [], σ) rfl rfl c10 rfl ?_
              refine rf_b wf0 rc_X9_lots_ok 27 1 (53, [some (.ref 0), some (.int p0), some (.int p1), none, none, none], [.int (-2)], σ) rfl ?_
              obtain rfl := Option.some.inj h
              exact rf_ri rc_X9_lots_ok 28 rfl rfl
          · rw [if_neg c7] at h
            refine rf_f wf0 rc_X9_lots_ok 19 (37, [some (.ref 0), some (.int p0), some (.int p1), none, none, none], [], σ) rfl rfl c7 rfl ?_
            refine rf_b wf0 rc_X9_lots_ok 20 1 (39, [some (.ref 0), some (.int p0), some (.int p1), none, none, none], [.int (-4)], σ) rfl ?_
            obtain rfl := Option.some.inj h
            exact rf_ri rc_X9_lots_ok 21 rfl rfl
        · rw [if_neg c4] at h
          refine rf_f wf0 rc_X9_lots_ok 13 (25, [some (.ref 0), some (.int p0), some (.int p1), none, none, none], [], σ) rfl rfl c4 rfl ?_
          refine rf_b wf0 rc_X9_lots_ok 14 1 (26, [some (.ref 0), some (.int p0), some (.int p1), none, none, none], [.int (-1)], σ) rfl ?_
          obtain rfl := Option.some.inj h
          exact rf_ri rc_X9_lots_ok 15 rfl rfl
def rc_X9_asked : List rf_E := [(0, .aload_n 0, 1, 0), (1, .getfield 88, 3, 910), (4, .ireturn, 1, 0)]
theorem rc_X9_asked_ok : rf_rc mX9_asked rc_X9_asked = true := by decide +kernel
theorem mw_X9_asked : rf_mw mX9_asked := ⟨rf_mt_ok _ (List.mem_of_getElem? (i := 115) rfl), fun h => absurd h (by decide), fun _ => ⟨rf_mi_ok _ (List.mem_of_getElem? (i := 110) rfl), rf_mv_ok _ (List.mem_of_getElem? (i := 110) rfl)⟩, rf_mq_4 _ (List.mem_of_getElem? (i := 15) rfl)⟩
def f_X9_asked (σ : rf_S) : Option Int32 := some (σ.1 0 10)
set_option maxHeartbeats 2000000 in
theorem ok_X9_asked (d : Nat) (σ : rf_S) (q : Int32) (h : f_X9_asked σ = some q) : rf_Ex ly0 (d + 1) mX9_asked [.ref 0] σ (some (.int q) : Option Value) σ := by
  unfold f_X9_asked at h
  refine rf_ex mw_X9_asked [some (.ref 0)] (Nat.le_of_ble_eq_true rfl) rfl ?_
  refine rf_b wf0 rc_X9_asked_ok 0 2 (4, [some (.ref 0)], [.int (σ.1 0 10)], σ) rfl ?_
  obtain rfl := Option.some.inj h
  exact rf_ri rc_X9_asked_ok 2 rfl rfl
def rc_X9_upper : List rf_E := [(0, .aload_n 0, 1, 0), (1, .getfield 61, 3, 907), (4, .getfield 342, 3, 0), (7, .lreturn, 1, 0)]
theorem rc_X9_upper_ok : rf_rc mX9_upper rc_X9_upper = true := by decide +kernel
theorem mw_X9_upper : rf_mw mX9_upper := ⟨rf_mt_ok _ (List.mem_of_getElem? (i := 116) rfl), fun h => absurd h (by decide), fun _ => ⟨rf_mi_ok _ (List.mem_of_getElem? (i := 111) rfl), rf_mv_ok _ (List.mem_of_getElem? (i := 111) rfl)⟩, rf_mq_4 _ (List.mem_of_getElem? (i := 16) rfl)⟩
def f_X9_upper (σ : rf_S) : Option Int64 := some (σ.2 53 0)
set_option maxHeartbeats 2000000 in
theorem ok_X9_upper (d : Nat) (σ : rf_S) (q : Int64) (h : f_X9_upper σ = some q) : rf_Ex ly0 (d + 1) mX9_upper [.ref 0] σ (some (.long q) : Option Value) σ := by
  unfold f_X9_upper at h
  refine rf_ex mw_X9_upper [some (.ref 0)] (Nat.le_of_ble_eq_true rfl) rfl ?_
  refine rf_b wf0 rc_X9_upper_ok 0 3 (7, [some (.ref 0)], [.long (σ.2 53 0)], σ) rfl ?_
  obtain rfl := Option.some.inj h
  exact rf_rl rc_X9_upper_ok 3 rfl rfl
def rc_X9_lower : List rf_E := [(0, .aload_n 0, 1, 0), (1, .getfield 61, 3, 907), (4, .getfield 346, 3, 1), (7, .lreturn, 1, 0)]
theorem rc_X9_lower_ok : rf_rc mX9_lower rc_X9_lower = true := by decide +kernel
theorem mw_X9_lower : rf_mw mX9_lower := ⟨rf_mt_ok _ (List.mem_of_getElem? (i := 117) rfl), fun h => absurd h (by decide), fun _ => ⟨rf_mi_ok _ (List.mem_of_getElem? (i := 112) rfl), rf_mv_ok _ (List.mem_of_getElem? (i := 112) rfl)⟩, rf_mq_4 _ (List.mem_of_getElem? (i := 17) rfl)⟩
def f_X9_lower (σ : rf_S) : Option Int64 := some (σ.2 53 1)
set_option maxHeartbeats 2000000 in
theorem ok_X9_lower (d : Nat) (σ : rf_S) (q : Int64) (h : f_X9_lower σ = some q) : rf_Ex ly0 (d + 1) mX9_lower [.ref 0] σ (some (.long q) : Option Value) σ := by
  unfold f_X9_lower at h
  refine rf_ex mw_X9_lower [some (.ref 0)] (Nat.le_of_ble_eq_true rfl) rfl ?_
  refine rf_b wf0 rc_X9_lower_ok 0 3 (7, [some (.ref 0)], [.long (σ.2 53 1)], σ) rfl ?_
  obtain rfl := Option.some.inj h
  exact rf_rl rc_X9_lower_ok 3 rfl rfl
def rc_X9_present : List rf_E := [(0, .iconst 0, 1, 0), (1, .istore_n 1, 1, 1), (2, .aload_n 0, 1, 0), (3, .astore_n 2, 1, 2), (4, .aload_n 2, 1, 2), (5, .arraylength, 1, 0), (6, .istore_n 3, 1, 3), (7, .iconst 0, 1, 0), (8, .istore 4, 2, 4), (10, .iload 4, 2, 4), (12, .iload_n 3, 1, 3), (13, .if_icmp .ge 23, 3, 36), (16, .aload_n 2, 1, 2), (17, .iload 4, 2, 4), (19, .iaload, 1, 0), (20, .istore 5, 2, 5), (22, .iload 5, 2, 5), (24, .ifCond .lt 6, 3, 30), (27, .iinc 1 1, 3, 1), (30, .iinc 4 1, 3, 4), (33, .goto (-23), 3, 10), (36, .iload_n 1, 1, 1), (37, .ireturn, 1, 0)]
theorem rc_X9_present_ok : rf_rc mX9_present rc_X9_present = true := by decide +kernel
theorem mw_X9_present : rf_mw mX9_present := ⟨rf_mt_ok _ (List.mem_of_getElem? (i := 145) rfl), fun _ => rf_ms_ok _ (List.mem_of_getElem? (i := 11) rfl), fun h => absurd h (by decide), rf_mq_5 _ (List.mem_of_getElem? (i := 20) rfl)⟩
def f_X9_present_j30 (l1 : Int32) (l2 : Nat) (l3 : Int32) (l4 : Int32) (σ : rf_S) : Option ((Int32 × Int32) ⊕ (Int32)) := some (.inl (l1, (l4 + 1)))
set_option maxHeartbeats 2000000 in
theorem ok_X9_present_j30 (d : Nat) (l1 : Int32) (l2 : Nat) (l3 : Int32) (l4 : Int32) (σ : rf_S) (o : ((Int32 × Int32) ⊕ (Int32))) (h : f_X9_present_j30 l1 l2 l3 l4 σ = some o) {r : Option Value} {σr : rf_S} (kl : ∀ s', o = .inl s' → rf_G ly0 (d) mX9_present (10, [none, some (.int s'.1), some (.ref l2), some (.int l3), some (.int s'.2), none], [], σ) r σr) (kx : ∀ e, o = .inr e → rf_G ly0 (d) mX9_present (36, [none, some (.int e), none, none, none, none], [], σ) r σr) : rf_G ly0 (d) mX9_present (30, [none, some (.int l1), some (.ref l2), some (.int l3), some (.int l4), none], [], σ) r σr := by
  unfold f_X9_present_j30 at h
  refine rf_b wf0 rc_X9_present_ok 19 2 (10, [none, some (.int l1), some (.ref l2), some (.int l3), some (.int (l4 + 1)), none], [], σ) rfl ?_
  exact kl (l1, (l4 + 1)) (Option.some.inj h).symm
def f_X9_present_b10 (l2 : Nat) (l3 : Int32) (σ : rf_S) (s10 : Int32 × Int32) : Option ((Int32 × Int32) ⊕ (Int32)) := if l3 ≤ s10.2 then (some (.inr s10.1)) else (if rf_ck ly0 0 l2 s10.2 = true then (if (σ.1 l2 s10.2.toNatClampNeg) < 0 then (f_X9_present_j30 s10.1 l2 l3 s10.2 σ) else (f_X9_present_j30 (s10.1 + 1) l2 l3 s10.2 σ)) else none)
set_option maxHeartbeats 2000000 in
theorem ok_X9_present_b10 (d : Nat) (l2 : Nat) (l3 : Int32) (σ : rf_S) (s10 : Int32 × Int32) (o : ((Int32 × Int32) ⊕ (Int32))) (h : f_X9_present_b10 l2 l3 σ s10 = some o) {r : Option Value} {σr : rf_S} (kl : ∀ s', o = .inl s' → rf_G ly0 (d) mX9_present (10, [none, some (.int s'.1), some (.ref l2), some (.int l3), some (.int s'.2), none], [], σ) r σr) (kx : ∀ e, o = .inr e → rf_G ly0 (d) mX9_present (36, [none, some (.int e), none, none, none, none], [], σ) r σr) : rf_G ly0 (d) mX9_present (10, [none, some (.int s10.1), some (.ref l2), some (.int l3), some (.int s10.2), none], [], σ) r σr := by
  unfold f_X9_present_b10 at h
  refine rf_b wf0 rc_X9_present_ok 9 2 (13, [none, some (.int s10.1), some (.ref l2), some (.int l3), some (.int s10.2), none], [.int l3, .int s10.2], σ) rfl ?_
  by_cases c2 : l3 ≤ s10.2
  · rw [if_pos c2] at h
    refine rf_t wf0 rc_X9_present_ok 11 (36, [none, some (.int s10.1), some (.ref l2), some (.int l3), some (.int s10.2), none], [], σ) rfl rfl c2 rfl ?_
    refine rf_fg [true, true, false, false, false, true] [none, some (.int s10.1), none, none, none, none] rfl ?_
    exact kx s10.1 (Option.some.inj h).symm
  · rw [if_neg c2] at h
    refine rf_f wf0 rc_X9_present_ok 11 (16, [none, some (.int s10.1), some (.ref l2), some (.int l3), some (.int s10.2), none], [], σ) rfl rfl c2 rfl ?_
    refine rf_b wf0 rc_X9_present_ok 12 2 (19, [none, some (.int s10.1), some (.ref l2), some (.int l3), some (.int s10.2), none], [.int s10.2, .ref l2], σ) rfl ?_
    obtain ⟨g3, h⟩ := rf_ifn h
    refine rf_gd wf0 rc_X9_present_ok 14 (20, [none, some (.int s10.1), some (.ref l2), some (.int l3), some (.int s10.2), none], [.int (σ.1 l2 s10.2.toNatClampNeg)], σ) rfl rfl g3 rfl ?_
    refine rf_b wf0 rc_X9_present_ok 15 2 (24, [none, some (.int s10.1), some (.ref l2), some (.int l3), some (.int s10.2), some (.int (σ.1 l2 s10.2.toNatClampNeg))], [.int (σ.1 l2 s10.2.toNatClampNeg)], σ) rfl ?_
    by_cases c4 : (σ.1 l2 s10.2.toNatClampNeg) < 0
    · rw [if_pos c4] at h
      refine rf_t wf0 rc_X9_present_ok 17 (30, [none, some (.int s10.1), some (.ref l2), some (.int l3), some (.int s10.2), some (.int (σ.1 l2 s10.2.toNatClampNeg))], [], σ) rfl rfl c4 rfl ?_
      refine rf_fg [true, true, true, true, true, false] [none, some (.int s10.1), some (.ref l2), some (.int l3), some (.int s10.2), none] rfl ?_
      exact ok_X9_present_j30 d s10.1 l2 l3 s10.2 σ o h kl kx
    · rw [if_neg c4] at h
      refine rf_f wf0 rc_X9_present_ok 17 (27, [none, some (.int s10.1), some (.ref l2), some (.int l3), some (.int s10.2), some (.int (σ.1 l2 s10.2.toNatClampNeg))], [], σ) rfl rfl c4 rfl ?_
      refine rf_b wf0 rc_X9_present_ok 18 1 (30, [none, some (.int (s10.1 + 1)), some (.ref l2), some (.int l3), some (.int s10.2), some (.int (σ.1 l2 s10.2.toNatClampNeg))], [], σ) rfl ?_
      refine rf_fg [true, true, true, true, true, false] [none, some (.int (s10.1 + 1)), some (.ref l2), some (.int l3), some (.int s10.2), none] rfl ?_
      exact ok_X9_present_j30 d (s10.1 + 1) l2 l3 s10.2 σ o h kl kx
def f_X9_present (p0 : Nat) (σ : rf_S) : Option Int32 := if rf_isA ly0 p0 = true then ((rf_lp (f_X9_present_b10 p0 (Int32.ofNat (rf_len ly0 p0)) σ) 5000 (0, 0)).bind (fun e5 => some e5)) else none
set_option maxHeartbeats 2000000 in
theorem ok_X9_present (d : Nat) (p0 : Nat) (σ : rf_S) (q : Int32) (h : f_X9_present p0 σ = some q) : rf_Ex ly0 (d + 1) mX9_present [.ref p0] σ (some (.int q) : Option Value) σ := by
  unfold f_X9_present at h
  refine rf_ex mw_X9_present [some (.ref p0), none, none, none, none, none] (Nat.le_of_ble_eq_true rfl) rfl ?_
  refine rf_b wf0 rc_X9_present_ok 0 5 (5, [some (.ref p0), some (.int 0), some (.ref p0), none, none, none], [.ref p0], σ) rfl ?_
  obtain ⟨g1, h⟩ := rf_ifn h
  refine rf_gd wf0 rc_X9_present_ok 5 (6, [some (.ref p0), some (.int 0), some (.ref p0), none, none, none], [.int (Int32.ofNat (rf_len ly0 p0))], σ) rfl rfl g1 rfl ?_
  refine rf_b wf0 rc_X9_present_ok 6 3 (10, [some (.ref p0), some (.int 0), some (.ref p0), some (.int (Int32.ofNat (rf_len ly0 p0))), some (.int 0), none], [], σ) rfl ?_
  refine rf_fg [false, true, true, true, true, true] [none, some (.int 0), some (.ref p0), some (.int (Int32.ofNat (rf_len ly0 p0))), some (.int 0), none] rfl ?_
  obtain ⟨e5, h6, h⟩ := Option.bind_eq_some_iff.mp h
  refine rf_lpG (b := f_X9_present_b10 p0 (Int32.ofNat (rf_len ly0 p0)) σ) (G := fun (s10 : Int32 × Int32) => rf_G ly0 (d) mX9_present (10, [none, some (.int s10.1), some (.ref p0), some (.int (Int32.ofNat (rf_len ly0 p0))), some (.int s10.2), none], [], σ) (some (.int q) : Option Value) σ) (K := fun (e : (Int32)) => rf_G ly0 (d) mX9_present (36, [none, some (.int e), none, none, none, none], [], σ) (some (.int q) : Option Value) σ) (fun (s10 : Int32 × Int32) (o : (Int32 × Int32) ⊕ (Int32)) hb kl kx => ok_X9_present_b10 d p0 (Int32.ofNat (rf_len ly0 p0)) σ s10 o hb kl kx) 5000 (0, 0) e5 h6 ?_
  show rf_G _ _ _ (36, [none, some (.int e5), none, none, none, none], [], σ) _ _
  refine rf_b wf0 rc_X9_present_ok 21 1 (37, [none, some (.int e5), none, none, none, none], [.int e5], σ) rfl ?_
  obtain rfl := Option.some.inj h
  exact rf_ri rc_X9_present_ok 22 rfl rfl
def rc_X9_count : List rf_E := [(0, .iload_n 1, 1, 1), (1, .tableswitch 156 0 10 #[59, 67, 75, 83, 91, 99, 107, 115, 123, 134, 145], 59, 0), (60, .aload_n 0, 1, 0), (61, .getfield 33, 3, 903), (64, .invokevirtual 151, 3, 0), (67, .ireturn, 1, 0), (68, .aload_n 0, 1, 0), (69, .getfield 33, 3, 903), (72, .invokevirtual 271, 3, 0), (75, .ireturn, 1, 0), (76, .aload_n 0, 1, 0), (77, .getfield 33, 3, 903), (80, .getfield 217, 3, 806), (83, .ireturn, 1, 0), (84, .aload_n 0, 1, 0), (85, .getfield 40, 3, 904), (88, .getfield 242, 3, 103), (91, .ireturn, 1, 0), (92, .aload_n 0, 1, 0), (93, .getfield 33, 3, 903), (96, .getfield 227, 3, 808), (99, .ireturn, 1, 0), (100, .aload_n 0, 1, 0), (101, .getfield 33, 3, 903), (104, .getfield 349, 3, 807), (107, .ireturn, 1, 0), (108, .aload_n 0, 1, 0), (109, .getfield 33, 3, 903), (112, .invokevirtual 173, 3, 0), (115, .ireturn, 1, 0), (116, .aload_n 0, 1, 0), (117, .getfield 33, 3, 903), (120, .invokevirtual 352, 3, 0), (123, .ireturn, 1, 0), (124, .aload_n 0, 1, 0), (125, .getfield 10, 3, 900), (128, .getfield 355, 3, 401), (131, .invokestatic 358, 3, 0), (134, .ireturn, 1, 0), (135, .aload_n 0, 1, 0), (136, .getfield 19, 3, 901), (139, .getfield 361, 3, 701), (142, .invokestatic 358, 3, 0), (145, .ireturn, 1, 0), (146, .aload_n 0, 1, 0), (147, .getfield 40, 3, 904), (150, .getfield 259, 3, 102), (153, .invokestatic 358, 3, 0), (156, .ireturn, 1, 0), (157, .iconst (-1), 1, 0), (158, .ireturn, 1, 0)]
theorem rc_X9_count_ok : rf_rc mX9_count rc_X9_count = true := by decide +kernel
theorem mw_X9_count : rf_mw mX9_count := ⟨rf_mt_ok _ (List.mem_of_getElem? (i := 118) rfl), fun h => absurd h (by decide), fun _ => ⟨rf_mi_ok _ (List.mem_of_getElem? (i := 113) rfl), rf_mv_ok _ (List.mem_of_getElem? (i := 113) rfl)⟩, rf_mq_4 _ (List.mem_of_getElem? (i := 18) rfl)⟩
def f_X9_count (p0 : Int32) (σ : rf_S) : Option Int32 := if p0 = 0 then ((f_X8_members σ).bind (fun q2 => some q2)) else (if p0 = 1 then ((f_X8_rooms σ).bind (fun q5 => some q5)) else (if p0 = 2 then (some (σ.1 25 6)) else (if p0 = 3 then (some (σ.1 38 3)) else (if p0 = 4 then (some (σ.1 25 8)) else (if p0 = 5 then (some (σ.1 25 7)) else (if p0 = 6 then ((f_X8_doers σ).bind (fun q12 => some q12)) else (if p0 = 7 then ((f_X8_sneezers σ).bind (fun q15 => some q15)) else (if p0 = 8 then ((f_X9_present 9 σ).bind (fun q18 => some q18)) else (if p0 = 9 then ((f_X9_present 16 σ).bind (fun q21 => some q21)) else (if p0 = 10 then ((f_X9_present 44 σ).bind (fun q24 => some q24)) else (some (-1))))))))))))
set_option maxHeartbeats 2000000 in
theorem ok_X9_count (d : Nat) (p0 : Int32) (σ : rf_S) (q : Int32) (h : f_X9_count p0 σ = some q) : rf_Ex ly0 (d + 6) mX9_count [.ref 0, .int p0] σ (some (.int q) : Option Value) σ := by
  unfold f_X9_count at h
  refine rf_ex mw_X9_count [some (.ref 0), some (.int p0)] (Nat.le_of_ble_eq_true rfl) rfl ?_
  refine rf_b wf0 rc_X9_count_ok 0 1 (1, [some (.ref 0), some (.int p0)], [.int p0], σ) rfl ?_
  by_cases c1 : p0 = 0
  · rw [if_pos c1] at h
    refine rf_sw rc_X9_count_ok 1 60 rfl c1 (by decide) (by decide) rfl (by decide) ?_
    refine rf_b wf0 rc_X9_count_ok 2 2 (64, [some (.ref 0), some (.int p0)], [.ref 25], σ) rfl ?_
    obtain ⟨q2, h3, h⟩ := Option.bind_eq_some_iff.mp h
    refine rf_cv1 (Mt := mX8_members) wf0 rc_X9_count_ok 4 false rfl (List.mem_of_getElem? (i := 85) rfl) mw_X8_members rfl 25 [] [] rfl rfl rfl (Nat.le_of_ble_eq_true rfl) (ok_X8_members (d + 4)  σ q2 h3) ?_
    show rf_G _ _ _ (67, [some (.ref 0), some (.int p0)], [.int q2], σ) _ _
    obtain rfl := Option.some.inj h
    exact rf_ri rc_X9_count_ok 5 rfl rfl
  · rw [if_neg c1] at h
    by_cases c4 : p0 = 1
    · rw [if_pos c4] at h
      refine rf_sw rc_X9_count_ok 1 68 rfl c4 (by decide) (by decide) rfl (by decide) ?_
      refine rf_b wf0 rc_X9_count_ok 6 2 (72, [some (.ref 0), some (.int p0)], [.ref 25], σ) rfl ?_
      obtain ⟨q5, h6, h⟩ := Option.bind_eq_some_iff.mp h
      refine rf_cv1 (Mt := mX8_rooms) wf0 rc_X9_count_ok 8 false rfl (List.mem_of_getElem? (i := 113) rfl) mw_X8_rooms rfl 25 [] [] rfl rfl rfl (Nat.le_of_ble_eq_true rfl) (ok_X8_rooms (d + 4)  σ q5 h6) ?_
      show rf_G _ _ _ (75, [some (.ref 0), some (.int p0)], [.int q5], σ) _ _
      obtain rfl := Option.some.inj h
      exact rf_ri rc_X9_count_ok 9 rfl rfl
    · rw [if_neg c4] at h
      by_cases c7 : p0 = 2
      · rw [if_pos c7] at h
        refine rf_sw rc_X9_count_ok 1 76 rfl c7 (by decide) (by decide) rfl (by decide) ?_
        refine rf_b wf0 rc_X9_count_ok 10 3 (83, [some (.ref 0), some (.int p0)], [.int (σ.1 25 6)], σ) rfl ?_
        obtain rfl := Option.some.inj h
        exact rf_ri rc_X9_count_ok 13 rfl rfl
      · rw [if_neg c7] at h
        by_cases c8 : p0 = 3
        · rw [if_pos c8] at h
          refine rf_sw rc_X9_count_ok 1 84 rfl c8 (by decide) (by decide) rfl (by decide) ?_
          refine rf_b wf0 rc_X9_count_ok 14 3 (91, [some (.ref 0), some (.int p0)], [.int (σ.1 38 3)], σ) rfl ?_
          obtain rfl := Option.some.inj h
          exact rf_ri rc_X9_count_ok 17 rfl rfl
        · rw [if_neg c8] at h
          by_cases c9 : p0 = 4
          · rw [if_pos c9] at h
            refine rf_sw rc_X9_count_ok 1 92 rfl c9 (by decide) (by decide) rfl (by decide) ?_
            refine rf_b wf0 rc_X9_count_ok 18 3 (99, [some (.ref 0), some (.int p0)], [.int (σ.1 25 8)], σ) rfl ?_
            obtain rfl := Option.some.inj h
            exact rf_ri rc_X9_count_ok 21 rfl rfl
          · rw [if_neg c9] at h
            by_cases c10 : p0 = 5
            · rw [if_pos c10] at h
              refine rf_sw rc_X9_count_ok 1 100 rfl c10 (by decide) (by decide) rfl (by decide) ?_
              refine rf_b wf0 rc_X9_count_ok 22 3 (107, [some (.ref 0), some (.int p0)], [.int (σ.1 25 7)], σ) rfl ?_
              obtain rfl := Option.some.inj h
              exact rf_ri rc_X9_count_ok 25 rfl rfl
            · rw [if_neg c10] at h
              by_cases c11 : p0 = 6
              · rw [if_pos c11] at h
                refine rf_sw rc_X9_count_ok 1 108 rfl c11 (by decide) (by decide) rfl (by decide) ?_
                refine rf_b wf0 rc_X9_count_ok 26 2 (112, [some (.ref 0), some (.int p0)], [.ref 25], σ) rfl ?_
                obtain ⟨q12, h13, h⟩ := Option.bind_eq_some_iff.mp h
                refine rf_cv1 (Mt := mX8_doers) wf0 rc_X9_count_ok 28 false rfl (List.mem_of_getElem? (i := 91) rfl) mw_X8_doers rfl 25 [] [] rfl rfl rfl (Nat.le_of_ble_eq_true rfl) (ok_X8_doers d  σ q12 h13) ?_
                show rf_G _ _ _ (115, [some (.ref 0), some (.int p0)], [.int q12], σ) _ _
                obtain rfl := Option.some.inj h
                exact rf_ri rc_X9_count_ok 29 rfl rfl
              · rw [if_neg c11] at h
                by_cases c14 : p0 = 7
                · rw [if_pos c14] at h
                  refine rf_sw rc_X9_count_ok 1 116 rfl c14 (by decide) (by decide) rfl (by decide) ?_
                  refine rf_b wf0 rc_X9_count_ok 30 2 (120, [some (.ref 0), some (.int p0)], [.ref 25], σ) rfl ?_
                  obtain ⟨q15, h16, h⟩ := Option.bind_eq_some_iff.mp h
                  refine rf_cv1 (Mt := mX8_sneezers) wf0 rc_X9_count_ok 32 false rfl (List.mem_of_getElem? (i := 129) rfl) mw_X8_sneezers rfl 25 [] [] rfl rfl rfl (Nat.le_of_ble_eq_true rfl) (ok_X8_sneezers (d + 3)  σ q15 h16) ?_
                  show rf_G _ _ _ (123, [some (.ref 0), some (.int p0)], [.int q15], σ) _ _
                  obtain rfl := Option.some.inj h
                  exact rf_ri rc_X9_count_ok 33 rfl rfl
                · rw [if_neg c14] at h
                  by_cases c17 : p0 = 8
                  · rw [if_pos c17] at h
                    refine rf_sw rc_X9_count_ok 1 124 rfl c17 (by decide) (by decide) rfl (by decide) ?_
                    refine rf_b wf0 rc_X9_count_ok 34 3 (131, [some (.ref 0), some (.int p0)], [.ref 9], σ) rfl ?_
                    obtain ⟨q18, h19, h⟩ := Option.bind_eq_some_iff.mp h
                    refine rf_cs1 (Mt := mX9_present) rc_X9_count_ok 37 false rfl (List.mem_of_getElem? (i := 130) rfl) mw_X9_present rfl [.ref 9] [] rfl rfl (Nat.le_of_ble_eq_true rfl) (ok_X9_present (d + 4) 9 σ q18 h19) ?_
                    show rf_G _ _ _ (134, [some (.ref 0), some (.int p0)], [.int q18], σ) _ _
                    obtain rfl := Option.some.inj h
                    exact rf_ri rc_X9_count_ok 38 rfl rfl
                  · rw [if_neg c17] at h
                    by_cases c20 : p0 = 9
                    · rw [if_pos c20] at h
                      refine rf_sw rc_X9_count_ok 1 135 rfl c20 (by decide) (by decide) rfl (by decide) ?_
                      refine rf_b wf0 rc_X9_count_ok 39 3 (142, [some (.ref 0), some (.int p0)], [.ref 16], σ) rfl ?_
                      obtain ⟨q21, h22, h⟩ := Option.bind_eq_some_iff.mp h
                      refine rf_cs1 (Mt := mX9_present) rc_X9_count_ok 42 false rfl (List.mem_of_getElem? (i := 130) rfl) mw_X9_present rfl [.ref 16] [] rfl rfl (Nat.le_of_ble_eq_true rfl) (ok_X9_present (d + 4) 16 σ q21 h22) ?_
                      show rf_G _ _ _ (145, [some (.ref 0), some (.int p0)], [.int q21], σ) _ _
                      obtain rfl := Option.some.inj h
                      exact rf_ri rc_X9_count_ok 43 rfl rfl
                    · rw [if_neg c20] at h
                      by_cases c23 : p0 = 10
                      · rw [if_pos c23] at h
                        refine rf_sw rc_X9_count_ok 1 146 rfl c23 (by decide) (by decide) rfl (by decide) ?_
                        refine rf_b wf0 rc_X9_count_ok 44 3 (153, [some (.ref 0), some (.int p0)], [.ref 44], σ) rfl ?_
                        obtain ⟨q24, h25, h⟩ := Option.bind_eq_some_iff.mp h
                        refine rf_cs1 (Mt := mX9_present) rc_X9_count_ok 47 false rfl (List.mem_of_getElem? (i := 130) rfl) mw_X9_present rfl [.ref 44] [] rfl rfl (Nat.le_of_ble_eq_true rfl) (ok_X9_present (d + 4) 44 σ q24 h25) ?_
                        show rf_G _ _ _ (156, [some (.ref 0), some (.int p0)], [.int q24], σ) _ _
                        obtain rfl := Option.some.inj h
                        exact rf_ri rc_X9_count_ok 48 rfl rfl
                      · rw [if_neg c23] at h
                        refine rf_sd rc_X9_count_ok 1 [0, 1, 2, 3, 4, 5, 6, 7, 8, 9, 10] 157 rfl (by intro k hk; simp only [List.mem_cons, List.not_mem_nil, or_false] at hk; rcases hk with rfl | rfl | rfl | rfl | rfl | rfl | rfl | rfl | rfl | rfl | rfl <;> assumption) (by decide) (by decide) ?_
                        refine rf_b wf0 rc_X9_count_ok 49 1 (158, [some (.ref 0), some (.int p0)], [.int (-1)], σ) rfl ?_
                        obtain rfl := Option.some.inj h
                        exact rf_ri rc_X9_count_ok 50 rfl rfl
def rc_X9_finding : List rf_E := [(0, .aload_n 0, 1, 0), (1, .getfield 362, 3, 909), (4, .ireturn, 1, 0)]
theorem rc_X9_finding_ok : rf_rc mX9_finding rc_X9_finding = true := by decide +kernel
theorem mw_X9_finding : rf_mw mX9_finding := ⟨rf_mt_ok _ (List.mem_of_getElem? (i := 119) rfl), fun h => absurd h (by decide), fun _ => ⟨rf_mi_ok _ (List.mem_of_getElem? (i := 114) rfl), rf_mv_ok _ (List.mem_of_getElem? (i := 114) rfl)⟩, rf_mq_4 _ (List.mem_of_getElem? (i := 19) rfl)⟩
def f_X9_finding (σ : rf_S) : Option Int32 := some (σ.1 0 9)
set_option maxHeartbeats 2000000 in
theorem ok_X9_finding (d : Nat) (σ : rf_S) (q : Int32) (h : f_X9_finding σ = some q) : rf_Ex ly0 (d + 1) mX9_finding [.ref 0] σ (some (.int q) : Option Value) σ := by
  unfold f_X9_finding at h
  refine rf_ex mw_X9_finding [some (.ref 0)] (Nat.le_of_ble_eq_true rfl) rfl ?_
  refine rf_b wf0 rc_X9_finding_ok 0 2 (4, [some (.ref 0)], [.int (σ.1 0 9)], σ) rfl ?_
  obtain rfl := Option.some.inj h
  exact rf_ri rc_X9_finding_ok 2 rfl rfl
def rc_X9_findings : List rf_E := [(0, .iload_n 1, 1, 1), (1, .iconst 1, 1, 0), (2, .if_icmp .lt 8, 3, 10), (5, .iload_n 1, 1, 1), (6, .iconst 5, 1, 0), (7, .if_icmp .le 5, 3, 12), (10, .iconst (-1), 1, 0), (11, .ireturn, 1, 0), (12, .aload_n 0, 1, 0), (13, .getfield 65, 3, 908), (16, .iload_n 1, 1, 1), (17, .iaload, 1, 0), (18, .ireturn, 1, 0)]
theorem rc_X9_findings_ok : rf_rc mX9_findings rc_X9_findings = true := by decide +kernel
theorem mw_X9_findings : rf_mw mX9_findings := ⟨rf_mt_ok _ (List.mem_of_getElem? (i := 120) rfl), fun h => absurd h (by decide), fun _ => ⟨rf_mi_ok _ (List.mem_of_getElem? (i := 115) rfl), rf_mv_ok _ (List.mem_of_getElem? (i := 115) rfl)⟩, rf_mq_4 _ (List.mem_of_getElem? (i := 20) rfl)⟩
def f_X9_findings (p0 : Int32) (σ : rf_S) : Option Int32 := if p0 < 1 then (some (-1)) else (if p0 ≤ 5 then (if rf_ck ly0 0 54 p0 = true then (some (σ.1 54 p0.toNatClampNeg)) else none) else (some (-1)))
set_option maxHeartbeats 2000000 in
theorem ok_X9_findings (d : Nat) (p0 : Int32) (σ : rf_S) (q : Int32) (h : f_X9_findings p0 σ = some q) : rf_Ex ly0 (d + 1) mX9_findings [.ref 0, .int p0] σ (some (.int q) : Option Value) σ := by
  unfold f_X9_findings at h
  refine rf_ex mw_X9_findings [some (.ref 0), some (.int p0)] (Nat.le_of_ble_eq_true rfl) rfl ?_
  refine rf_b wf0 rc_X9_findings_ok 0 2 (2, [some (.ref 0), some (.int p0)], [.int 1, .int p0], σ) rfl ?_
  by_cases c1 : p0 < 1
  · rw [if_pos c1] at h
    refine rf_t wf0 rc_X9_findings_ok 2 (10, [some (.ref 0), some (.int p0)], [], σ) rfl rfl c1 rfl ?_
    refine rf_b wf0 rc_X9_findings_ok 6 1 (11, [some (.ref 0), some (.int p0)], [.int (-1)], σ) rfl ?_
    obtain rfl := Option.some.inj h
    exact rf_ri rc_X9_findings_ok 7 rfl rfl
  · rw [if_neg c1] at h
    refine rf_f wf0 rc_X9_findings_ok 2 (5, [some (.ref 0), some (.int p0)], [], σ) rfl rfl c1 rfl ?_
    refine rf_b wf0 rc_X9_findings_ok 3 2 (7, [some (.ref 0), some (.int p0)], [.int 5, .int p0], σ) rfl ?_
    by_cases c2 : p0 ≤ 5
    · rw [if_pos c2] at h
      refine rf_t wf0 rc_X9_findings_ok 5 (12, [some (.ref 0), some (.int p0)], [], σ) rfl rfl c2 rfl ?_
      refine rf_b wf0 rc_X9_findings_ok 8 3 (17, [some (.ref 0), some (.int p0)], [.int p0, .ref 54], σ) rfl ?_
      obtain ⟨g3, h⟩ := rf_ifn h
      refine rf_gd wf0 rc_X9_findings_ok 11 (18, [some (.ref 0), some (.int p0)], [.int (σ.1 54 p0.toNatClampNeg)], σ) rfl rfl g3 rfl ?_
      obtain rfl := Option.some.inj h
      exact rf_ri rc_X9_findings_ok 12 rfl rfl
    · rw [if_neg c2] at h
      refine rf_f wf0 rc_X9_findings_ok 5 (10, [some (.ref 0), some (.int p0)], [], σ) rfl rfl c2 rfl ?_
      refine rf_b wf0 rc_X9_findings_ok 6 1 (11, [some (.ref 0), some (.int p0)], [.int (-1)], σ) rfl ?_
      obtain rfl := Option.some.inj h
      exact rf_ri rc_X9_findings_ok 7 rfl rfl
def rc_X9_digestRows : List rf_E := [(0, .lload_n 1, 1, 1), (1, .lstore_n 3, 1, 3), (2, .iconst 0, 1, 0), (3, .istore 5, 2, 5), (5, .iload 5, 2, 5), (7, .bipush 6, 2, 0), (9, .if_icmp .ge 68, 3, 77), (12, .ldc2_w 367, 3, 31), (15, .lload_n 3, 1, 3), (16, .lmul, 1, 0), (17, .aload_n 0, 1, 0), (18, .getfield 10, 3, 900), (21, .iload 5, 2, 5), (23, .invokevirtual 114, 3, 0), (26, .i2l, 1, 0), (27, .ladd, 1, 0), (28, .lstore_n 3, 1, 3), (29, .iconst 0, 1, 0), (30, .istore 6, 2, 6), (32, .iload 6, 2, 6), (34, .aload_n 0, 1, 0), (35, .getfield 10, 3, 900), (38, .iload 5, 2, 5), (40, .invokevirtual 114, 3, 0), (43, .if_icmp .ge 28, 3, 71), (46, .ldc2_w 367, 3, 31), (49, .lload_n 3, 1, 3), (50, .lmul, 1, 0), (51, .aload_n 0, 1, 0), (52, .getfield 10, 3, 900), (55, .iload 5, 2, 5), (57, .iload 6, 2, 6), (59, .invokevirtual 85, 3, 0), (62, .i2l, 1, 0), (63, .ladd, 1, 0), (64, .lstore_n 3, 1, 3), (65, .iinc 6 1, 3, 6), (68, .goto (-36), 3, 32), (71, .iinc 5 1, 3, 5), (74, .goto (-69), 3, 5), (77, .lload_n 3, 1, 3), (78, .lreturn, 1, 0)]
theorem rc_X9_digestRows_ok : rf_rc mX9_digestRows rc_X9_digestRows = true := by decide +kernel
theorem mw_X9_digestRows : rf_mw mX9_digestRows := ⟨rf_mt_ok _ (List.mem_of_getElem? (i := 122) rfl), fun h => absurd h (by decide), fun _ => ⟨rf_mi_ok _ (List.mem_of_getElem? (i := 117) rfl), rf_mv_ok _ (List.mem_of_getElem? (i := 117) rfl)⟩, rf_mq_4 _ (List.mem_of_getElem? (i := 22) rfl)⟩
def f_X9_digestRows_b32 (l5 : Int32) (σ : rf_S) (s32 : Int64 × Int32) : Option ((Int64 × Int32) ⊕ (Int64)) := (f_X4_sizeOf l5 σ).bind (fun q4 => if q4 ≤ s32.2 then (some (.inr s32.1)) else ((f_X4_get l5 s32.2 σ).bind (fun q7 => some (.inl (((31 * s32.1) + q7.toInt64), (s32.2 + 1))))))
set_option maxHeartbeats 2000000 in
theorem ok_X9_digestRows_b32 (d : Nat) (l5 : Int32) (σ : rf_S) (s32 : Int64 × Int32) (o : ((Int64 × Int32) ⊕ (Int64))) (h : f_X9_digestRows_b32 l5 σ s32 = some o) {r : Option Value} {σr : rf_S} (kl : ∀ s', o = .inl s' → rf_G ly0 (d + 1) mX9_digestRows (32, [some (.ref 0), none, none, some (.long s'.1), none, some (.int l5), some (.int s'.2)], [], σ) r σr) (kx : ∀ e, o = .inr e → rf_G ly0 (d + 1) mX9_digestRows (71, [some (.ref 0), none, none, some (.long e), none, some (.int l5), none], [], σ) r σr) : rf_G ly0 (d + 1) mX9_digestRows (32, [some (.ref 0), none, none, some (.long s32.1), none, some (.int l5), some (.int s32.2)], [], σ) r σr := by
  unfold f_X9_digestRows_b32 at h
  refine rf_b wf0 rc_X9_digestRows_ok 19 4 (40, [some (.ref 0), none, none, some (.long s32.1), none, some (.int l5), some (.int s32.2)], [.int l5, .ref 1, .int s32.2], σ) rfl ?_
  obtain ⟨q4, h5, h⟩ := Option.bind_eq_some_iff.mp h
  refine rf_cv1 (Mt := mX4_sizeOf) wf0 rc_X9_digestRows_ok 23 false rfl (List.mem_of_getElem? (i := 74) rfl) mw_X4_sizeOf rfl 1 [.int l5] [.int s32.2] rfl rfl rfl (Nat.le_of_ble_eq_true rfl) (ok_X4_sizeOf d l5 σ q4 h5) ?_
  show rf_G _ _ _ (43, [some (.ref 0), none, none, some (.long s32.1), none, some (.int l5), some (.int s32.2)], [.int q4, .int s32.2], σ) _ _
  by_cases c6 : q4 ≤ s32.2
  · rw [if_pos c6] at h
    refine rf_t wf0 rc_X9_digestRows_ok 24 (71, [some (.ref 0), none, none, some (.long s32.1), none, some (.int l5), some (.int s32.2)], [], σ) rfl rfl c6 rfl ?_
    refine rf_fg [true, true, true, true, true, true, false] [some (.ref 0), none, none, some (.long s32.1), none, some (.int l5), none] rfl ?_
    exact kx s32.1 (Option.some.inj h).symm
  · rw [if_neg c6] at h
    refine rf_f wf0 rc_X9_digestRows_ok 24 (46, [some (.ref 0), none, none, some (.long s32.1), none, some (.int l5), some (.int s32.2)], [], σ) rfl rfl c6 rfl ?_
    refine rf_b wf0 rc_X9_digestRows_ok 25 7 (59, [some (.ref 0), none, none, some (.long s32.1), none, some (.int l5), some (.int s32.2)], [.int s32.2, .int l5, .ref 1, .long (31 * s32.1)], σ) rfl ?_
    obtain ⟨q7, h8, h⟩ := Option.bind_eq_some_iff.mp h
    refine rf_cv1 (Mt := mX4_get) wf0 rc_X9_digestRows_ok 32 false rfl (List.mem_of_getElem? (i := 67) rfl) mw_X4_get rfl 1 [.int l5, .int s32.2] [.long (31 * s32.1)] rfl rfl rfl (Nat.le_of_ble_eq_true rfl) (ok_X4_get d l5 s32.2 σ q7 h8) ?_
    show rf_G _ _ _ (62, [some (.ref 0), none, none, some (.long s32.1), none, some (.int l5), some (.int s32.2)], [.int q7, .long (31 * s32.1)], σ) _ _
    refine rf_b wf0 rc_X9_digestRows_ok 33 5 (32, [some (.ref 0), none, none, some (.long ((31 * s32.1) + q7.toInt64)), none, some (.int l5), some (.int (s32.2 + 1))], [], σ) rfl ?_
    exact kl (((31 * s32.1) + q7.toInt64), (s32.2 + 1)) (Option.some.inj h).symm
def f_X9_digestRows_b5 (σ : rf_S) (s5 : Int64 × Int32) : Option ((Int64 × Int32) ⊕ (Int64)) := if 6 ≤ s5.2 then (some (.inr s5.1)) else ((f_X4_sizeOf s5.2 σ).bind (fun q2 => (rf_lp (f_X9_digestRows_b32 s5.2 σ) 5000 (((31 * s5.1) + q2.toInt64), 0)).bind (fun e9 => some (.inl (e9, (s5.2 + 1))))))
set_option maxHeartbeats 2000000 in
theorem ok_X9_digestRows_b5 (d : Nat) (σ : rf_S) (s5 : Int64 × Int32) (o : ((Int64 × Int32) ⊕ (Int64))) (h : f_X9_digestRows_b5 σ s5 = some o) {r : Option Value} {σr : rf_S} (kl : ∀ s', o = .inl s' → rf_G ly0 (d + 1) mX9_digestRows (5, [some (.ref 0), none, none, some (.long s'.1), none, some (.int s'.2), none], [], σ) r σr) (kx : ∀ e, o = .inr e → rf_G ly0 (d + 1) mX9_digestRows (77, [none, none, none, some (.long e), none, none, none], [], σ) r σr) : rf_G ly0 (d + 1) mX9_digestRows (5, [some (.ref 0), none, none, some (.long s5.1), none, some (.int s5.2), none], [], σ) r σr := by
  unfold f_X9_digestRows_b5 at h
  refine rf_b wf0 rc_X9_digestRows_ok 4 2 (9, [some (.ref 0), none, none, some (.long s5.1), none, some (.int s5.2), none], [.int 6, .int s5.2], σ) rfl ?_
  by_cases c1 : 6 ≤ s5.2
  · rw [if_pos c1] at h
    refine rf_t wf0 rc_X9_digestRows_ok 6 (77, [some (.ref 0), none, none, some (.long s5.1), none, some (.int s5.2), none], [], σ) rfl rfl c1 rfl ?_
    refine rf_fg [false, true, true, true, true, false, true] [none, none, none, some (.long s5.1), none, none, none] rfl ?_
    exact kx s5.1 (Option.some.inj h).symm
  · rw [if_neg c1] at h
    refine rf_f wf0 rc_X9_digestRows_ok 6 (12, [some (.ref 0), none, none, some (.long s5.1), none, some (.int s5.2), none], [], σ) rfl rfl c1 rfl ?_
    refine rf_b wf0 rc_X9_digestRows_ok 7 6 (23, [some (.ref 0), none, none, some (.long s5.1), none, some (.int s5.2), none], [.int s5.2, .ref 1, .long (31 * s5.1)], σ) rfl ?_
    obtain ⟨q2, h3, h⟩ := Option.bind_eq_some_iff.mp h
    refine rf_cv1 (Mt := mX4_sizeOf) wf0 rc_X9_digestRows_ok 13 false rfl (List.mem_of_getElem? (i := 74) rfl) mw_X4_sizeOf rfl 1 [.int s5.2] [.long (31 * s5.1)] rfl rfl rfl (Nat.le_of_ble_eq_true rfl) (ok_X4_sizeOf d s5.2 σ q2 h3) ?_
    show rf_G _ _ _ (26, [some (.ref 0), none, none, some (.long s5.1), none, some (.int s5.2), none], [.int q2, .long (31 * s5.1)], σ) _ _
    refine rf_b wf0 rc_X9_digestRows_ok 14 5 (32, [some (.ref 0), none, none, some (.long ((31 * s5.1) + q2.toInt64)), none, some (.int s5.2), some (.int 0)], [], σ) rfl ?_
    obtain ⟨e9, h10, h⟩ := Option.bind_eq_some_iff.mp h
    refine rf_lpG (b := f_X9_digestRows_b32 s5.2 σ) (G := fun (s32 : Int64 × Int32) => rf_G ly0 (d + 1) mX9_digestRows (32, [some (.ref 0), none, none, some (.long s32.1), none, some (.int s5.2), some (.int s32.2)], [], σ) r σr) (K := fun (e : (Int64)) => rf_G ly0 (d + 1) mX9_digestRows (71, [some (.ref 0), none, none, some (.long e), none, some (.int s5.2), none], [], σ) r σr) (fun (s32 : Int64 × Int32) (o : (Int64 × Int32) ⊕ (Int64)) hb kl kx => ok_X9_digestRows_b32 d s5.2 σ s32 o hb kl kx) 5000 (((31 * s5.1) + q2.toInt64), 0) e9 h10 ?_
    show rf_G _ _ _ (71, [some (.ref 0), none, none, some (.long e9), none, some (.int s5.2), none], [], σ) _ _
    refine rf_b wf0 rc_X9_digestRows_ok 38 2 (5, [some (.ref 0), none, none, some (.long e9), none, some (.int (s5.2 + 1)), none], [], σ) rfl ?_
    exact kl (e9, (s5.2 + 1)) (Option.some.inj h).symm
def f_X9_digestRows (p0 : Int64) (σ : rf_S) : Option Int64 := (rf_lp (f_X9_digestRows_b5 σ) 5000 (p0, 0)).bind (fun e11 => some e11)
set_option maxHeartbeats 2000000 in
theorem ok_X9_digestRows (d : Nat) (p0 : Int64) (σ : rf_S) (q : Int64) (h : f_X9_digestRows p0 σ = some q) : rf_Ex ly0 (d + 2) mX9_digestRows [.ref 0, .long p0] σ (some (.long q) : Option Value) σ := by
  unfold f_X9_digestRows at h
  refine rf_ex mw_X9_digestRows [some (.ref 0), some (.long p0), none, none, none, none, none] (Nat.le_of_ble_eq_true rfl) rfl ?_
  refine rf_b wf0 rc_X9_digestRows_ok 0 4 (5, [some (.ref 0), some (.long p0), none, some (.long p0), none, some (.int 0), none], [], σ) rfl ?_
  refine rf_fg [true, false, true, true, true, true, true] [some (.ref 0), none, none, some (.long p0), none, some (.int 0), none] rfl ?_
  obtain ⟨e11, h12, h⟩ := Option.bind_eq_some_iff.mp h
  refine rf_lpG (b := f_X9_digestRows_b5 σ) (G := fun (s5 : Int64 × Int32) => rf_G ly0 (d + 1) mX9_digestRows (5, [some (.ref 0), none, none, some (.long s5.1), none, some (.int s5.2), none], [], σ) (some (.long q) : Option Value) σ) (K := fun (e : (Int64)) => rf_G ly0 (d + 1) mX9_digestRows (77, [none, none, none, some (.long e), none, none, none], [], σ) (some (.long q) : Option Value) σ) (fun (s5 : Int64 × Int32) (o : (Int64 × Int32) ⊕ (Int64)) hb kl kx => ok_X9_digestRows_b5 d σ s5 o hb kl kx) 5000 (p0, 0) e11 h12 ?_
  show rf_G _ _ _ (77, [none, none, none, some (.long e11), none, none, none], [], σ) _ _
  refine rf_b wf0 rc_X9_digestRows_ok 40 1 (78, [none, none, none, some (.long e11), none, none, none], [.long e11], σ) rfl ?_
  obtain rfl := Option.some.inj h
  exact rf_rl rc_X9_digestRows_ok 41 rfl rfl
def rc_X9_digestTexts : List rf_E := [(0, .lload_n 1, 1, 1), (1, .lstore_n 3, 1, 3), (2, .iconst 0, 1, 0), (3, .istore 5, 2, 5), (5, .iload 5, 2, 5), (7, .iconst 4, 1, 0), (8, .if_icmp .ge 68, 3, 76), (11, .ldc2_w 367, 3, 31), (14, .lload_n 3, 1, 3), (15, .lmul, 1, 0), (16, .aload_n 0, 1, 0), (17, .getfield 19, 3, 901), (20, .iload 5, 2, 5), (22, .invokevirtual 382, 3, 0), (25, .i2l, 1, 0), (26, .ladd, 1, 0), (27, .lstore_n 3, 1, 3), (28, .iconst 0, 1, 0), (29, .istore 6, 2, 6), (31, .iload 6, 2, 6), (33, .aload_n 0, 1, 0), (34, .getfield 19, 3, 901), (37, .iload 5, 2, 5), (39, .invokevirtual 382, 3, 0), (42, .if_icmp .ge 28, 3, 70), (45, .ldc2_w 367, 3, 31), (48, .lload_n 3, 1, 3), (49, .lmul, 1, 0), (50, .aload_n 0, 1, 0), (51, .getfield 19, 3, 901), (54, .iload 5, 2, 5), (56, .iload 6, 2, 6), (58, .invokevirtual 132, 3, 0), (61, .i2l, 1, 0), (62, .ladd, 1, 0), (63, .lstore_n 3, 1, 3), (64, .iinc 6 1, 3, 6), (67, .goto (-36), 3, 31), (70, .iinc 5 1, 3, 5), (73, .goto (-68), 3, 5), (76, .lload_n 3, 1, 3), (77, .lreturn, 1, 0)]
theorem rc_X9_digestTexts_ok : rf_rc mX9_digestTexts rc_X9_digestTexts = true := by decide +kernel
theorem mw_X9_digestTexts : rf_mw mX9_digestTexts := ⟨rf_mt_ok _ (List.mem_of_getElem? (i := 123) rfl), fun h => absurd h (by decide), fun _ => ⟨rf_mi_ok _ (List.mem_of_getElem? (i := 118) rfl), rf_mv_ok _ (List.mem_of_getElem? (i := 118) rfl)⟩, rf_mq_4 _ (List.mem_of_getElem? (i := 23) rfl)⟩
def f_X9_digestTexts_b31 (l5 : Int32) (σ : rf_S) (s31 : Int64 × Int32) : Option ((Int64 × Int32) ⊕ (Int64)) := (f_X7_sizeOf l5 σ).bind (fun q4 => if q4 ≤ s31.2 then (some (.inr s31.1)) else ((f_X7_get l5 s31.2 σ).bind (fun q7 => some (.inl (((31 * s31.1) + q7.toInt64), (s31.2 + 1))))))
set_option maxHeartbeats 2000000 in
theorem ok_X9_digestTexts_b31 (d : Nat) (l5 : Int32) (σ : rf_S) (s31 : Int64 × Int32) (o : ((Int64 × Int32) ⊕ (Int64))) (h : f_X9_digestTexts_b31 l5 σ s31 = some o) {r : Option Value} {σr : rf_S} (kl : ∀ s', o = .inl s' → rf_G ly0 (d + 1) mX9_digestTexts (31, [some (.ref 0), none, none, some (.long s'.1), none, some (.int l5), some (.int s'.2)], [], σ) r σr) (kx : ∀ e, o = .inr e → rf_G ly0 (d + 1) mX9_digestTexts (70, [some (.ref 0), none, none, some (.long e), none, some (.int l5), none], [], σ) r σr) : rf_G ly0 (d + 1) mX9_digestTexts (31, [some (.ref 0), none, none, some (.long s31.1), none, some (.int l5), some (.int s31.2)], [], σ) r σr := by
  unfold f_X9_digestTexts_b31 at h
  refine rf_b wf0 rc_X9_digestTexts_ok 19 4 (39, [some (.ref 0), none, none, some (.long s31.1), none, some (.int l5), some (.int s31.2)], [.int l5, .ref 10, .int s31.2], σ) rfl ?_
  obtain ⟨q4, h5, h⟩ := Option.bind_eq_some_iff.mp h
  refine rf_cv1 (Mt := mX7_sizeOf) wf0 rc_X9_digestTexts_ok 23 false rfl (List.mem_of_getElem? (i := 135) rfl) mw_X7_sizeOf rfl 10 [.int l5] [.int s31.2] rfl rfl rfl (Nat.le_of_ble_eq_true rfl) (ok_X7_sizeOf d l5 σ q4 h5) ?_
  show rf_G _ _ _ (42, [some (.ref 0), none, none, some (.long s31.1), none, some (.int l5), some (.int s31.2)], [.int q4, .int s31.2], σ) _ _
  by_cases c6 : q4 ≤ s31.2
  · rw [if_pos c6] at h
    refine rf_t wf0 rc_X9_digestTexts_ok 24 (70, [some (.ref 0), none, none, some (.long s31.1), none, some (.int l5), some (.int s31.2)], [], σ) rfl rfl c6 rfl ?_
    refine rf_fg [true, true, true, true, true, true, false] [some (.ref 0), none, none, some (.long s31.1), none, some (.int l5), none] rfl ?_
    exact kx s31.1 (Option.some.inj h).symm
  · rw [if_neg c6] at h
    refine rf_f wf0 rc_X9_digestTexts_ok 24 (45, [some (.ref 0), none, none, some (.long s31.1), none, some (.int l5), some (.int s31.2)], [], σ) rfl rfl c6 rfl ?_
    refine rf_b wf0 rc_X9_digestTexts_ok 25 7 (58, [some (.ref 0), none, none, some (.long s31.1), none, some (.int l5), some (.int s31.2)], [.int s31.2, .int l5, .ref 10, .long (31 * s31.1)], σ) rfl ?_
    obtain ⟨q7, h8, h⟩ := Option.bind_eq_some_iff.mp h
    refine rf_cv1 (Mt := mX7_get) wf0 rc_X9_digestTexts_ok 32 false rfl (List.mem_of_getElem? (i := 80) rfl) mw_X7_get rfl 10 [.int l5, .int s31.2] [.long (31 * s31.1)] rfl rfl rfl (Nat.le_of_ble_eq_true rfl) (ok_X7_get d l5 s31.2 σ q7 h8) ?_
    show rf_G _ _ _ (61, [some (.ref 0), none, none, some (.long s31.1), none, some (.int l5), some (.int s31.2)], [.int q7, .long (31 * s31.1)], σ) _ _
    refine rf_b wf0 rc_X9_digestTexts_ok 33 5 (31, [some (.ref 0), none, none, some (.long ((31 * s31.1) + q7.toInt64)), none, some (.int l5), some (.int (s31.2 + 1))], [], σ) rfl ?_
    exact kl (((31 * s31.1) + q7.toInt64), (s31.2 + 1)) (Option.some.inj h).symm
def f_X9_digestTexts_b5 (σ : rf_S) (s5 : Int64 × Int32) : Option ((Int64 × Int32) ⊕ (Int64)) := if 4 ≤ s5.2 then (some (.inr s5.1)) else ((f_X7_sizeOf s5.2 σ).bind (fun q2 => (rf_lp (f_X9_digestTexts_b31 s5.2 σ) 5000 (((31 * s5.1) + q2.toInt64), 0)).bind (fun e9 => some (.inl (e9, (s5.2 + 1))))))
set_option maxHeartbeats 2000000 in
theorem ok_X9_digestTexts_b5 (d : Nat) (σ : rf_S) (s5 : Int64 × Int32) (o : ((Int64 × Int32) ⊕ (Int64))) (h : f_X9_digestTexts_b5 σ s5 = some o) {r : Option Value} {σr : rf_S} (kl : ∀ s', o = .inl s' → rf_G ly0 (d + 1) mX9_digestTexts (5, [some (.ref 0), none, none, some (.long s'.1), none, some (.int s'.2), none], [], σ) r σr) (kx : ∀ e, o = .inr e → rf_G ly0 (d + 1) mX9_digestTexts (76, [none, none, none, some (.long e), none, none, none], [], σ) r σr) : rf_G ly0 (d + 1) mX9_digestTexts (5, [some (.ref 0), none, none, some (.long s5.1), none, some (.int s5.2), none], [], σ) r σr := by
  unfold f_X9_digestTexts_b5 at h
  refine rf_b wf0 rc_X9_digestTexts_ok 4 2 (8, [some (.ref 0), none, none, some (.long s5.1), none, some (.int s5.2), none], [.int 4, .int s5.2], σ) rfl ?_
  by_cases c1 : 4 ≤ s5.2
  · rw [if_pos c1] at h
    refine rf_t wf0 rc_X9_digestTexts_ok 6 (76, [some (.ref 0), none, none, some (.long s5.1), none, some (.int s5.2), none], [], σ) rfl rfl c1 rfl ?_
    refine rf_fg [false, true, true, true, true, false, true] [none, none, none, some (.long s5.1), none, none, none] rfl ?_
    exact kx s5.1 (Option.some.inj h).symm
  · rw [if_neg c1] at h
    refine rf_f wf0 rc_X9_digestTexts_ok 6 (11, [some (.ref 0), none, none, some (.long s5.1), none, some (.int s5.2), none], [], σ) rfl rfl c1 rfl ?_
    refine rf_b wf0 rc_X9_digestTexts_ok 7 6 (22, [some (.ref 0), none, none, some (.long s5.1), none, some (.int s5.2), none], [.int s5.2, .ref 10, .long (31 * s5.1)], σ) rfl ?_
    obtain ⟨q2, h3, h⟩ := Option.bind_eq_some_iff.mp h
    refine rf_cv1 (Mt := mX7_sizeOf) wf0 rc_X9_digestTexts_ok 13 false rfl (List.mem_of_getElem? (i := 135) rfl) mw_X7_sizeOf rfl 10 [.int s5.2] [.long (31 * s5.1)] rfl rfl rfl (Nat.le_of_ble_eq_true rfl) (ok_X7_sizeOf d s5.2 σ q2 h3) ?_
    show rf_G _ _ _ (25, [some (.ref 0), none, none, some (.long s5.1), none, some (.int s5.2), none], [.int q2, .long (31 * s5.1)], σ) _ _
    refine rf_b wf0 rc_X9_digestTexts_ok 14 5 (31, [some (.ref 0), none, none, some (.long ((31 * s5.1) + q2.toInt64)), none, some (.int s5.2), some (.int 0)], [], σ) rfl ?_
    obtain ⟨e9, h10, h⟩ := Option.bind_eq_some_iff.mp h
    refine rf_lpG (b := f_X9_digestTexts_b31 s5.2 σ) (G := fun (s31 : Int64 × Int32) => rf_G ly0 (d + 1) mX9_digestTexts (31, [some (.ref 0), none, none, some (.long s31.1), none, some (.int s5.2), some (.int s31.2)], [], σ) r σr) (K := fun (e : (Int64)) => rf_G ly0 (d + 1) mX9_digestTexts (70, [some (.ref 0), none, none, some (.long e), none, some (.int s5.2), none], [], σ) r σr) (fun (s31 : Int64 × Int32) (o : (Int64 × Int32) ⊕ (Int64)) hb kl kx => ok_X9_digestTexts_b31 d s5.2 σ s31 o hb kl kx) 5000 (((31 * s5.1) + q2.toInt64), 0) e9 h10 ?_
    show rf_G _ _ _ (70, [some (.ref 0), none, none, some (.long e9), none, some (.int s5.2), none], [], σ) _ _
    refine rf_b wf0 rc_X9_digestTexts_ok 38 2 (5, [some (.ref 0), none, none, some (.long e9), none, some (.int (s5.2 + 1)), none], [], σ) rfl ?_
    exact kl (e9, (s5.2 + 1)) (Option.some.inj h).symm
def f_X9_digestTexts (p0 : Int64) (σ : rf_S) : Option Int64 := (rf_lp (f_X9_digestTexts_b5 σ) 5000 (p0, 0)).bind (fun e11 => some e11)
set_option maxHeartbeats 2000000 in
theorem ok_X9_digestTexts (d : Nat) (p0 : Int64) (σ : rf_S) (q : Int64) (h : f_X9_digestTexts p0 σ = some q) : rf_Ex ly0 (d + 2) mX9_digestTexts [.ref 0, .long p0] σ (some (.long q) : Option Value) σ := by
  unfold f_X9_digestTexts at h
  refine rf_ex mw_X9_digestTexts [some (.ref 0), some (.long p0), none, none, none, none, none] (Nat.le_of_ble_eq_true rfl) rfl ?_
  refine rf_b wf0 rc_X9_digestTexts_ok 0 4 (5, [some (.ref 0), some (.long p0), none, some (.long p0), none, some (.int 0), none], [], σ) rfl ?_
  refine rf_fg [true, false, true, true, true, true, true] [some (.ref 0), none, none, some (.long p0), none, some (.int 0), none] rfl ?_
  obtain ⟨e11, h12, h⟩ := Option.bind_eq_some_iff.mp h
  refine rf_lpG (b := f_X9_digestTexts_b5 σ) (G := fun (s5 : Int64 × Int32) => rf_G ly0 (d + 1) mX9_digestTexts (5, [some (.ref 0), none, none, some (.long s5.1), none, some (.int s5.2), none], [], σ) (some (.long q) : Option Value) σ) (K := fun (e : (Int64)) => rf_G ly0 (d + 1) mX9_digestTexts (76, [none, none, none, some (.long e), none, none, none], [], σ) (some (.long q) : Option Value) σ) (fun (s5 : Int64 × Int32) (o : (Int64 × Int32) ⊕ (Int64)) hb kl kx => ok_X9_digestTexts_b5 d σ s5 o hb kl kx) 5000 (p0, 0) e11 h12 ?_
  show rf_G _ _ _ (76, [none, none, none, some (.long e11), none, none, none], [], σ) _ _
  refine rf_b wf0 rc_X9_digestTexts_ok 40 1 (77, [none, none, none, some (.long e11), none, none, none], [.long e11], σ) rfl ?_
  obtain rfl := Option.some.inj h
  exact rf_rl rc_X9_digestTexts_ok 41 rfl rfl
def rc_X9_digest : List rf_E := [(0, .ldc2_w 365, 3, 17), (3, .lstore_n 1, 1, 1), (4, .iconst 0, 1, 0), (5, .istore_n 3, 1, 3), (6, .iload_n 3, 1, 3), (7, .bipush 10, 2, 0), (9, .if_icmp .gt 22, 3, 31), (12, .ldc2_w 367, 3, 31), (15, .lload_n 1, 1, 1), (16, .lmul, 1, 0), (17, .aload_n 0, 1, 0), (18, .iload_n 3, 1, 3), (19, .invokevirtual 369, 3, 0), (22, .i2l, 1, 0), (23, .ladd, 1, 0), (24, .lstore_n 1, 1, 1), (25, .iinc 3 1, 3, 3), (28, .goto (-22), 3, 6), (31, .iconst 0, 1, 0), (32, .istore_n 3, 1, 3), (33, .iload_n 3, 1, 3), (34, .aload_n 0, 1, 0), (35, .getfield 33, 3, 903), (38, .invokevirtual 271, 3, 0), (41, .if_icmp .ge 39, 3, 80), (44, .iconst 0, 1, 0), (45, .istore 4, 2, 4), (47, .iload 4, 2, 4), (49, .iconst 3, 1, 0), (50, .if_icmp .gt 24, 3, 74), (53, .ldc2_w 367, 3, 31), (56, .lload_n 1, 1, 1), (57, .lmul, 1, 0), (58, .aload_n 0, 1, 0), (59, .iload_n 3, 1, 3), (60, .iload 4, 2, 4), (62, .invokevirtual 372, 3, 0), (65, .i2l, 1, 0), (66, .ladd, 1, 0), (67, .lstore_n 1, 1, 1), (68, .iinc 4 1, 3, 4), (71, .goto (-24), 3, 47), (74, .iinc 3 1, 3, 3), (77, .goto (-44), 3, 33), (80, .iconst 0, 1, 0), (81, .istore_n 3, 1, 3), (82, .iload_n 3, 1, 3), (83, .aload_n 0, 1, 0), (84, .getfield 33, 3, 903), (87, .invokevirtual 151, 3, 0), (90, .if_icmp .ge 40, 3, 130), (93, .iconst 0, 1, 0), (94, .istore 4, 2, 4), (96, .iload 4, 2, 4), (98, .bipush 7, 2, 0), (100, .if_icmp .gt 24, 3, 124), (103, .ldc2_w 367, 3, 31), (106, .lload_n 1, 1, 1), (107, .lmul, 1, 0), (108, .aload_n 0, 1, 0), (109, .iload_n 3, 1, 3), (110, .iload 4, 2, 4), (112, .invokevirtual 158, 3, 0), (115, .i2l, 1, 0), (116, .ladd, 1, 0), (117, .lstore_n 1, 1, 1), (118, .iinc 4 1, 3, 4), (121, .goto (-25), 3, 96), (124, .iinc 3 1, 3, 3), (127, .goto (-45), 3, 82), (130, .iconst 0, 1, 0), (131, .istore_n 3, 1, 3), (132, .iload_n 3, 1, 3), (133, .iconst 3, 1, 0), (134, .if_icmp .ge 26, 3, 160), (137, .ldc2_w 367, 3, 31), (140, .lload_n 1, 1, 1), (141, .lmul, 1, 0), (142, .aload_n 0, 1, 0), (143, .getfield 40, 3, 904), (146, .getfield 259, 3, 102), (149, .iload_n 3, 1, 3), (150, .iaload, 1, 0), (151, .i2l, 1, 0), (152, .ladd, 1, 0), (153, .lstore_n 1, 1, 1), (154, .iinc 3 1, 3, 3), (157, .goto (-25), 3, 132), (160, .aload_n 0, 1, 0), (161, .aload_n 0, 1, 0), (162, .lload_n 1, 1, 1), (163, .invokevirtual 375, 3, 0), (166, .invokevirtual 379, 3, 0), (169, .lreturn, 1, 0)]
theorem rc_X9_digest_ok : rf_rc mX9_digest rc_X9_digest = true := by decide +kernel
theorem mw_X9_digest : rf_mw mX9_digest := ⟨rf_mt_ok _ (List.mem_of_getElem? (i := 121) rfl), fun h => absurd h (by decide), fun _ => ⟨rf_mi_ok _ (List.mem_of_getElem? (i := 116) rfl), rf_mv_ok _ (List.mem_of_getElem? (i := 116) rfl)⟩, rf_mq_4 _ (List.mem_of_getElem? (i := 21) rfl)⟩
def f_X9_digest_b6 (σ : rf_S) (s6 : Int64 × Int32) : Option ((Int64 × Int32) ⊕ (Int64)) := if 10 < s6.2 then (some (.inr s6.1)) else ((f_X9_count s6.2 σ).bind (fun q2 => some (.inl (((31 * s6.1) + q2.toInt64), (s6.2 + 1)))))
set_option maxHeartbeats 2000000 in
theorem ok_X9_digest_b6 (d : Nat) (σ : rf_S) (s6 : Int64 × Int32) (o : ((Int64 × Int32) ⊕ (Int64))) (h : f_X9_digest_b6 σ s6 = some o) {r : Option Value} {σr : rf_S} (kl : ∀ s', o = .inl s' → rf_G ly0 (d + 6) mX9_digest (6, [some (.ref 0), some (.long s'.1), none, some (.int s'.2), none], [], σ) r σr) (kx : ∀ e, o = .inr e → rf_G ly0 (d + 6) mX9_digest (31, [some (.ref 0), some (.long e), none, none, none], [], σ) r σr) : rf_G ly0 (d + 6) mX9_digest (6, [some (.ref 0), some (.long s6.1), none, some (.int s6.2), none], [], σ) r σr := by
  unfold f_X9_digest_b6 at h
  refine rf_b wf0 rc_X9_digest_ok 4 2 (9, [some (.ref 0), some (.long s6.1), none, some (.int s6.2), none], [.int 10, .int s6.2], σ) rfl ?_
  by_cases c1 : 10 < s6.2
  · rw [if_pos c1] at h
    refine rf_t wf0 rc_X9_digest_ok 6 (31, [some (.ref 0), some (.long s6.1), none, some (.int s6.2), none], [], σ) rfl rfl c1 rfl ?_
    refine rf_fg [true, true, true, false, true] [some (.ref 0), some (.long s6.1), none, none, none] rfl ?_
    exact kx s6.1 (Option.some.inj h).symm
  · rw [if_neg c1] at h
    refine rf_f wf0 rc_X9_digest_ok 6 (12, [some (.ref 0), some (.long s6.1), none, some (.int s6.2), none], [], σ) rfl rfl c1 rfl ?_
    refine rf_b wf0 rc_X9_digest_ok 7 5 (19, [some (.ref 0), some (.long s6.1), none, some (.int s6.2), none], [.int s6.2, .ref 0, .long (31 * s6.1)], σ) rfl ?_
    obtain ⟨q2, h3, h⟩ := Option.bind_eq_some_iff.mp h
    refine rf_cv1 (Mt := mX9_count) wf0 rc_X9_digest_ok 12 false rfl (List.mem_of_getElem? (i := 131) rfl) mw_X9_count rfl 0 [.int s6.2] [.long (31 * s6.1)] rfl rfl rfl (Nat.le_of_ble_eq_true rfl) (ok_X9_count d s6.2 σ q2 h3) ?_
    show rf_G _ _ _ (22, [some (.ref 0), some (.long s6.1), none, some (.int s6.2), none], [.int q2, .long (31 * s6.1)], σ) _ _
    refine rf_b wf0 rc_X9_digest_ok 13 5 (6, [some (.ref 0), some (.long ((31 * s6.1) + q2.toInt64)), none, some (.int (s6.2 + 1)), none], [], σ) rfl ?_
    exact kl (((31 * s6.1) + q2.toInt64), (s6.2 + 1)) (Option.some.inj h).symm
def f_X9_digest_b47 (l3 : Int32) (σ : rf_S) (s47 : Int64 × Int32) : Option ((Int64 × Int32) ⊕ (Int64)) := if 3 < s47.2 then (some (.inr s47.1)) else ((f_X9_room l3 s47.2 σ).bind (fun q10 => some (.inl (((31 * s47.1) + q10.toInt64), (s47.2 + 1)))))
set_option maxHeartbeats 2000000 in
theorem ok_X9_digest_b47 (d : Nat) (l3 : Int32) (σ : rf_S) (s47 : Int64 × Int32) (o : ((Int64 × Int32) ⊕ (Int64))) (h : f_X9_digest_b47 l3 σ s47 = some o) {r : Option Value} {σr : rf_S} (kl : ∀ s', o = .inl s' → rf_G ly0 (d + 6) mX9_digest (47, [some (.ref 0), some (.long s'.1), none, some (.int l3), some (.int s'.2)], [], σ) r σr) (kx : ∀ e, o = .inr e → rf_G ly0 (d + 6) mX9_digest (74, [some (.ref 0), some (.long e), none, some (.int l3), none], [], σ) r σr) : rf_G ly0 (d + 6) mX9_digest (47, [some (.ref 0), some (.long s47.1), none, some (.int l3), some (.int s47.2)], [], σ) r σr := by
  unfold f_X9_digest_b47 at h
  refine rf_b wf0 rc_X9_digest_ok 27 2 (50, [some (.ref 0), some (.long s47.1), none, some (.int l3), some (.int s47.2)], [.int 3, .int s47.2], σ) rfl ?_
  by_cases c9 : 3 < s47.2
  · rw [if_pos c9] at h
    refine rf_t wf0 rc_X9_digest_ok 29 (74, [some (.ref 0), some (.long s47.1), none, some (.int l3), some (.int s47.2)], [], σ) rfl rfl c9 rfl ?_
    refine rf_fg [true, true, true, true, false] [some (.ref 0), some (.long s47.1), none, some (.int l3), none] rfl ?_
    exact kx s47.1 (Option.some.inj h).symm
  · rw [if_neg c9] at h
    refine rf_f wf0 rc_X9_digest_ok 29 (53, [some (.ref 0), some (.long s47.1), none, some (.int l3), some (.int s47.2)], [], σ) rfl rfl c9 rfl ?_
    refine rf_b wf0 rc_X9_digest_ok 30 6 (62, [some (.ref 0), some (.long s47.1), none, some (.int l3), some (.int s47.2)], [.int s47.2, .int l3, .ref 0, .long (31 * s47.1)], σ) rfl ?_
    obtain ⟨q10, h11, h⟩ := Option.bind_eq_some_iff.mp h
    refine rf_cv1 (Mt := mX9_room) wf0 rc_X9_digest_ok 36 false rfl (List.mem_of_getElem? (i := 132) rfl) mw_X9_room rfl 0 [.int l3, .int s47.2] [.long (31 * s47.1)] rfl rfl rfl (Nat.le_of_ble_eq_true rfl) (ok_X9_room d l3 s47.2 σ q10 h11) ?_
    show rf_G _ _ _ (65, [some (.ref 0), some (.long s47.1), none, some (.int l3), some (.int s47.2)], [.int q10, .long (31 * s47.1)], σ) _ _
    refine rf_b wf0 rc_X9_digest_ok 37 5 (47, [some (.ref 0), some (.long ((31 * s47.1) + q10.toInt64)), none, some (.int l3), some (.int (s47.2 + 1))], [], σ) rfl ?_
    exact kl (((31 * s47.1) + q10.toInt64), (s47.2 + 1)) (Option.some.inj h).symm
def f_X9_digest_b33 (σ : rf_S) (s33 : Int64 × Int32) : Option ((Int64 × Int32) ⊕ (Int64)) := (f_X8_rooms σ).bind (fun q6 => if q6 ≤ s33.2 then (some (.inr s33.1)) else ((rf_lp (f_X9_digest_b47 s33.2 σ) 5000 (s33.1, 0)).bind (fun e12 => some (.inl (e12, (s33.2 + 1))))))
set_option maxHeartbeats 2000000 in
theorem ok_X9_digest_b33 (d : Nat) (σ : rf_S) (s33 : Int64 × Int32) (o : ((Int64 × Int32) ⊕ (Int64))) (h : f_X9_digest_b33 σ s33 = some o) {r : Option Value} {σr : rf_S} (kl : ∀ s', o = .inl s' → rf_G ly0 (d + 6) mX9_digest (33, [some (.ref 0), some (.long s'.1), none, some (.int s'.2), none], [], σ) r σr) (kx : ∀ e, o = .inr e → rf_G ly0 (d + 6) mX9_digest (80, [some (.ref 0), some (.long e), none, none, none], [], σ) r σr) : rf_G ly0 (d + 6) mX9_digest (33, [some (.ref 0), some (.long s33.1), none, some (.int s33.2), none], [], σ) r σr := by
  unfold f_X9_digest_b33 at h
  refine rf_b wf0 rc_X9_digest_ok 20 3 (38, [some (.ref 0), some (.long s33.1), none, some (.int s33.2), none], [.ref 25, .int s33.2], σ) rfl ?_
  obtain ⟨q6, h7, h⟩ := Option.bind_eq_some_iff.mp h
  refine rf_cv1 (Mt := mX8_rooms) wf0 rc_X9_digest_ok 23 false rfl (List.mem_of_getElem? (i := 113) rfl) mw_X8_rooms rfl 25 [] [.int s33.2] rfl rfl rfl (Nat.le_of_ble_eq_true rfl) (ok_X8_rooms (d + 5)  σ q6 h7) ?_
  show rf_G _ _ _ (41, [some (.ref 0), some (.long s33.1), none, some (.int s33.2), none], [.int q6, .int s33.2], σ) _ _
  by_cases c8 : q6 ≤ s33.2
  · rw [if_pos c8] at h
    refine rf_t wf0 rc_X9_digest_ok 24 (80, [some (.ref 0), some (.long s33.1), none, some (.int s33.2), none], [], σ) rfl rfl c8 rfl ?_
    refine rf_fg [true, true, true, false, true] [some (.ref 0), some (.long s33.1), none, none, none] rfl ?_
    exact kx s33.1 (Option.some.inj h).symm
  · rw [if_neg c8] at h
    refine rf_f wf0 rc_X9_digest_ok 24 (44, [some (.ref 0), some (.long s33.1), none, some (.int s33.2), none], [], σ) rfl rfl c8 rfl ?_
    refine rf_b wf0 rc_X9_digest_ok 25 2 (47, [some (.ref 0), some (.long s33.1), none, some (.int s33.2), some (.int 0)], [], σ) rfl ?_
    obtain ⟨e12, h13, h⟩ := Option.bind_eq_some_iff.mp h
    refine rf_lpG (b := f_X9_digest_b47 s33.2 σ) (G := fun (s47 : Int64 × Int32) => rf_G ly0 (d + 6) mX9_digest (47, [some (.ref 0), some (.long s47.1), none, some (.int s33.2), some (.int s47.2)], [], σ) r σr) (K := fun (e : (Int64)) => rf_G ly0 (d + 6) mX9_digest (74, [some (.ref 0), some (.long e), none, some (.int s33.2), none], [], σ) r σr) (fun (s47 : Int64 × Int32) (o : (Int64 × Int32) ⊕ (Int64)) hb kl kx => ok_X9_digest_b47 d s33.2 σ s47 o hb kl kx) 5000 (s33.1, 0) e12 h13 ?_
    show rf_G _ _ _ (74, [some (.ref 0), some (.long e12), none, some (.int s33.2), none], [], σ) _ _
    refine rf_b wf0 rc_X9_digest_ok 42 2 (33, [some (.ref 0), some (.long e12), none, some (.int (s33.2 + 1)), none], [], σ) rfl ?_
    exact kl (e12, (s33.2 + 1)) (Option.some.inj h).symm
def f_X9_digest_b96 (l3 : Int32) (σ : rf_S) (s96 : Int64 × Int32) : Option ((Int64 × Int32) ⊕ (Int64)) := if 7 < s96.2 then (some (.inr s96.1)) else ((f_X9_ofMember l3 s96.2 σ).bind (fun q20 => some (.inl (((31 * s96.1) + q20.toInt64), (s96.2 + 1)))))
set_option maxHeartbeats 2000000 in
theorem ok_X9_digest_b96 (d : Nat) (l3 : Int32) (σ : rf_S) (s96 : Int64 × Int32) (o : ((Int64 × Int32) ⊕ (Int64))) (h : f_X9_digest_b96 l3 σ s96 = some o) {r : Option Value} {σr : rf_S} (kl : ∀ s', o = .inl s' → rf_G ly0 (d + 6) mX9_digest (96, [some (.ref 0), some (.long s'.1), none, some (.int l3), some (.int s'.2)], [], σ) r σr) (kx : ∀ e, o = .inr e → rf_G ly0 (d + 6) mX9_digest (124, [some (.ref 0), some (.long e), none, some (.int l3), none], [], σ) r σr) : rf_G ly0 (d + 6) mX9_digest (96, [some (.ref 0), some (.long s96.1), none, some (.int l3), some (.int s96.2)], [], σ) r σr := by
  unfold f_X9_digest_b96 at h
  refine rf_b wf0 rc_X9_digest_ok 53 2 (100, [some (.ref 0), some (.long s96.1), none, some (.int l3), some (.int s96.2)], [.int 7, .int s96.2], σ) rfl ?_
  by_cases c19 : 7 < s96.2
  · rw [if_pos c19] at h
    refine rf_t wf0 rc_X9_digest_ok 55 (124, [some (.ref 0), some (.long s96.1), none, some (.int l3), some (.int s96.2)], [], σ) rfl rfl c19 rfl ?_
    refine rf_fg [true, true, true, true, false] [some (.ref 0), some (.long s96.1), none, some (.int l3), none] rfl ?_
    exact kx s96.1 (Option.some.inj h).symm
  · rw [if_neg c19] at h
    refine rf_f wf0 rc_X9_digest_ok 55 (103, [some (.ref 0), some (.long s96.1), none, some (.int l3), some (.int s96.2)], [], σ) rfl rfl c19 rfl ?_
    refine rf_b wf0 rc_X9_digest_ok 56 6 (112, [some (.ref 0), some (.long s96.1), none, some (.int l3), some (.int s96.2)], [.int s96.2, .int l3, .ref 0, .long (31 * s96.1)], σ) rfl ?_
    obtain ⟨q20, h21, h⟩ := Option.bind_eq_some_iff.mp h
    refine rf_cv1 (Mt := mX9_ofMember) wf0 rc_X9_digest_ok 62 false rfl (List.mem_of_getElem? (i := 87) rfl) mw_X9_ofMember rfl 0 [.int l3, .int s96.2] [.long (31 * s96.1)] rfl rfl rfl (Nat.le_of_ble_eq_true rfl) (ok_X9_ofMember (d + 1) l3 s96.2 σ q20 h21) ?_
    show rf_G _ _ _ (115, [some (.ref 0), some (.long s96.1), none, some (.int l3), some (.int s96.2)], [.int q20, .long (31 * s96.1)], σ) _ _
    refine rf_b wf0 rc_X9_digest_ok 63 5 (96, [some (.ref 0), some (.long ((31 * s96.1) + q20.toInt64)), none, some (.int l3), some (.int (s96.2 + 1))], [], σ) rfl ?_
    exact kl (((31 * s96.1) + q20.toInt64), (s96.2 + 1)) (Option.some.inj h).symm
def f_X9_digest_b82 (σ : rf_S) (s82 : Int64 × Int32) : Option ((Int64 × Int32) ⊕ (Int64)) := (f_X8_members σ).bind (fun q16 => if q16 ≤ s82.2 then (some (.inr s82.1)) else ((rf_lp (f_X9_digest_b96 s82.2 σ) 5000 (s82.1, 0)).bind (fun e22 => some (.inl (e22, (s82.2 + 1))))))
set_option maxHeartbeats 2000000 in
theorem ok_X9_digest_b82 (d : Nat) (σ : rf_S) (s82 : Int64 × Int32) (o : ((Int64 × Int32) ⊕ (Int64))) (h : f_X9_digest_b82 σ s82 = some o) {r : Option Value} {σr : rf_S} (kl : ∀ s', o = .inl s' → rf_G ly0 (d + 6) mX9_digest (82, [some (.ref 0), some (.long s'.1), none, some (.int s'.2), none], [], σ) r σr) (kx : ∀ e, o = .inr e → rf_G ly0 (d + 6) mX9_digest (130, [some (.ref 0), some (.long e), none, none, none], [], σ) r σr) : rf_G ly0 (d + 6) mX9_digest (82, [some (.ref 0), some (.long s82.1), none, some (.int s82.2), none], [], σ) r σr := by
  unfold f_X9_digest_b82 at h
  refine rf_b wf0 rc_X9_digest_ok 46 3 (87, [some (.ref 0), some (.long s82.1), none, some (.int s82.2), none], [.ref 25, .int s82.2], σ) rfl ?_
  obtain ⟨q16, h17, h⟩ := Option.bind_eq_some_iff.mp h
  refine rf_cv1 (Mt := mX8_members) wf0 rc_X9_digest_ok 49 false rfl (List.mem_of_getElem? (i := 85) rfl) mw_X8_members rfl 25 [] [.int s82.2] rfl rfl rfl (Nat.le_of_ble_eq_true rfl) (ok_X8_members (d + 5)  σ q16 h17) ?_
  show rf_G _ _ _ (90, [some (.ref 0), some (.long s82.1), none, some (.int s82.2), none], [.int q16, .int s82.2], σ) _ _
  by_cases c18 : q16 ≤ s82.2
  · rw [if_pos c18] at h
    refine rf_t wf0 rc_X9_digest_ok 50 (130, [some (.ref 0), some (.long s82.1), none, some (.int s82.2), none], [], σ) rfl rfl c18 rfl ?_
    refine rf_fg [true, true, true, false, true] [some (.ref 0), some (.long s82.1), none, none, none] rfl ?_
    exact kx s82.1 (Option.some.inj h).symm
  · rw [if_neg c18] at h
    refine rf_f wf0 rc_X9_digest_ok 50 (93, [some (.ref 0), some (.long s82.1), none, some (.int s82.2), none], [], σ) rfl rfl c18 rfl ?_
    refine rf_b wf0 rc_X9_digest_ok 51 2 (96, [some (.ref 0), some (.long s82.1), none, some (.int s82.2), some (.int 0)], [], σ) rfl ?_
    obtain ⟨e22, h23, h⟩ := Option.bind_eq_some_iff.mp h
    refine rf_lpG (b := f_X9_digest_b96 s82.2 σ) (G := fun (s96 : Int64 × Int32) => rf_G ly0 (d + 6) mX9_digest (96, [some (.ref 0), some (.long s96.1), none, some (.int s82.2), some (.int s96.2)], [], σ) r σr) (K := fun (e : (Int64)) => rf_G ly0 (d + 6) mX9_digest (124, [some (.ref 0), some (.long e), none, some (.int s82.2), none], [], σ) r σr) (fun (s96 : Int64 × Int32) (o : (Int64 × Int32) ⊕ (Int64)) hb kl kx => ok_X9_digest_b96 d s82.2 σ s96 o hb kl kx) 5000 (s82.1, 0) e22 h23 ?_
    show rf_G _ _ _ (124, [some (.ref 0), some (.long e22), none, some (.int s82.2), none], [], σ) _ _
    refine rf_b wf0 rc_X9_digest_ok 68 2 (82, [some (.ref 0), some (.long e22), none, some (.int (s82.2 + 1)), none], [], σ) rfl ?_
    exact kl (e22, (s82.2 + 1)) (Option.some.inj h).symm
def f_X9_digest_b132 (σ : rf_S) (s132 : Int64 × Int32) : Option ((Int64 × Int32) ⊕ (Int64)) := if 3 ≤ s132.2 then (some (.inr s132.1)) else (if rf_ck ly0 0 44 s132.2 = true then (some (.inl (((31 * s132.1) + ((σ.1 44 s132.2.toNatClampNeg).toInt64)), (s132.2 + 1)))) else none)
set_option maxHeartbeats 2000000 in
theorem ok_X9_digest_b132 (d : Nat) (σ : rf_S) (s132 : Int64 × Int32) (o : ((Int64 × Int32) ⊕ (Int64))) (h : f_X9_digest_b132 σ s132 = some o) {r : Option Value} {σr : rf_S} (kl : ∀ s', o = .inl s' → rf_G ly0 (d + 6) mX9_digest (132, [some (.ref 0), some (.long s'.1), none, some (.int s'.2), none], [], σ) r σr) (kx : ∀ e, o = .inr e → rf_G ly0 (d + 6) mX9_digest (160, [some (.ref 0), some (.long e), none, none, none], [], σ) r σr) : rf_G ly0 (d + 6) mX9_digest (132, [some (.ref 0), some (.long s132.1), none, some (.int s132.2), none], [], σ) r σr := by
  unfold f_X9_digest_b132 at h
  refine rf_b wf0 rc_X9_digest_ok 72 2 (134, [some (.ref 0), some (.long s132.1), none, some (.int s132.2), none], [.int 3, .int s132.2], σ) rfl ?_
  by_cases c26 : 3 ≤ s132.2
  · rw [if_pos c26] at h
    refine rf_t wf0 rc_X9_digest_ok 74 (160, [some (.ref 0), some (.long s132.1), none, some (.int s132.2), none], [], σ) rfl rfl c26 rfl ?_
    refine rf_fg [true, true, true, false, true] [some (.ref 0), some (.long s132.1), none, none, none] rfl ?_
    exact kx s132.1 (Option.some.inj h).symm
  · rw [if_neg c26] at h
    refine rf_f wf0 rc_X9_digest_ok 74 (137, [some (.ref 0), some (.long s132.1), none, some (.int s132.2), none], [], σ) rfl rfl c26 rfl ?_
    refine rf_b wf0 rc_X9_digest_ok 75 7 (150, [some (.ref 0), some (.long s132.1), none, some (.int s132.2), none], [.int s132.2, .ref 44, .long (31 * s132.1)], σ) rfl ?_
    obtain ⟨g27, h⟩ := rf_ifn h
    refine rf_gd wf0 rc_X9_digest_ok 82 (151, [some (.ref 0), some (.long s132.1), none, some (.int s132.2), none], [.int (σ.1 44 s132.2.toNatClampNeg), .long (31 * s132.1)], σ) rfl rfl g27 rfl ?_
    refine rf_b wf0 rc_X9_digest_ok 83 5 (132, [some (.ref 0), some (.long ((31 * s132.1) + ((σ.1 44 s132.2.toNatClampNeg).toInt64))), none, some (.int (s132.2 + 1)), none], [], σ) rfl ?_
    exact kl (((31 * s132.1) + ((σ.1 44 s132.2.toNatClampNeg).toInt64)), (s132.2 + 1)) (Option.some.inj h).symm
def f_X9_digest (σ : rf_S) : Option Int64 := (rf_lp (f_X9_digest_b6 σ) 5000 (17, 0)).bind (fun e4 => (rf_lp (f_X9_digest_b33 σ) 5000 (e4, 0)).bind (fun e14 => (rf_lp (f_X9_digest_b82 σ) 5000 (e14, 0)).bind (fun e24 => (rf_lp (f_X9_digest_b132 σ) 5000 (e24, 0)).bind (fun e28 => (f_X9_digestRows e28 σ).bind (fun q30 => (f_X9_digestTexts q30 σ).bind (fun q32 => some q32))))))
set_option maxHeartbeats 2000000 in
theorem ok_X9_digest (d : Nat) (σ : rf_S) (q : Int64) (h : f_X9_digest σ = some q) : rf_Ex ly0 (d + 7) mX9_digest [.ref 0] σ (some (.long q) : Option Value) σ := by
  unfold f_X9_digest at h
  refine rf_ex mw_X9_digest [some (.ref 0), none, none, none, none] (Nat.le_of_ble_eq_true rfl) rfl ?_
  refine rf_b wf0 rc_X9_digest_ok 0 4 (6, [some (.ref 0), some (.long 17), none, some (.int 0), none], [], σ) rfl ?_
  obtain ⟨e4, h5, h⟩ := Option.bind_eq_some_iff.mp h
  refine rf_lpG (b := f_X9_digest_b6 σ) (G := fun (s6 : Int64 × Int32) => rf_G ly0 (d + 6) mX9_digest (6, [some (.ref 0), some (.long s6.1), none, some (.int s6.2), none], [], σ) (some (.long q) : Option Value) σ) (K := fun (e : (Int64)) => rf_G ly0 (d + 6) mX9_digest (31, [some (.ref 0), some (.long e), none, none, none], [], σ) (some (.long q) : Option Value) σ) (fun (s6 : Int64 × Int32) (o : (Int64 × Int32) ⊕ (Int64)) hb kl kx => ok_X9_digest_b6 d σ s6 o hb kl kx) 5000 (17, 0) e4 h5 ?_
  show rf_G _ _ _ (31, [some (.ref 0), some (.long e4), none, none, none], [], σ) _ _
  refine rf_b wf0 rc_X9_digest_ok 18 2 (33, [some (.ref 0), some (.long e4), none, some (.int 0), none], [], σ) rfl ?_
  obtain ⟨e14, h15, h⟩ := Option.bind_eq_some_iff.mp h
  refine rf_lpG (b := f_X9_digest_b33 σ) (G := fun (s33 : Int64 × Int32) => rf_G ly0 (d + 6) mX9_digest (33, [some (.ref 0), some (.long s33.1), none, some (.int s33.2), none], [], σ) (some (.long q) : Option Value) σ) (K := fun (e : (Int64)) => rf_G ly0 (d + 6) mX9_digest (80, [some (.ref 0), some (.long e), none, none, none], [], σ) (some (.long q) : Option Value) σ) (fun (s33 : Int64 × Int32) (o : (Int64 × Int32) ⊕ (Int64)) hb kl kx => ok_X9_digest_b33 d σ s33 o hb kl kx) 5000 (e4, 0) e14 h15 ?_
  show rf_G _ _ _ (80, [some (.ref 0), some (.long e14), none, none, none], [], σ) _ _
  refine rf_b wf0 rc_X9_digest_ok 44 2 (82, [some (.ref 0), some (.long e14), none, some (.int 0), none], [], σ) rfl ?_
  obtain ⟨e24, h25, h⟩ := Option.bind_eq_some_iff.mp h
  refine rf_lpG (b := f_X9_digest_b82 σ) (G := fun (s82 : Int64 × Int32) => rf_G ly0 (d + 6) mX9_digest (82, [some (.ref 0), some (.long s82.1), none, some (.int s82.2), none], [], σ) (some (.long q) : Option Value) σ) (K := fun (e : (Int64)) => rf_G ly0 (d + 6) mX9_digest (130, [some (.ref 0), some (.long e), none, none, none], [], σ) (some (.long q) : Option Value) σ) (fun (s82 : Int64 × Int32) (o : (Int64 × Int32) ⊕ (Int64)) hb kl kx => ok_X9_digest_b82 d σ s82 o hb kl kx) 5000 (e14, 0) e24 h25 ?_
  show rf_G _ _ _ (130, [some (.ref 0), some (.long e24), none, none, none], [], σ) _ _
  refine rf_b wf0 rc_X9_digest_ok 70 2 (132, [some (.ref 0), some (.long e24), none, some (.int 0), none], [], σ) rfl ?_
  obtain ⟨e28, h29, h⟩ := Option.bind_eq_some_iff.mp h
  refine rf_lpG (b := f_X9_digest_b132 σ) (G := fun (s132 : Int64 × Int32) => rf_G ly0 (d + 6) mX9_digest (132, [some (.ref 0), some (.long s132.1), none, some (.int s132.2), none], [], σ) (some (.long q) : Option Value) σ) (K := fun (e : (Int64)) => rf_G ly0 (d + 6) mX9_digest (160, [some (.ref 0), some (.long e), none, none, none], [], σ) (some (.long q) : Option Value) σ) (fun (s132 : Int64 × Int32) (o : (Int64 × Int32) ⊕ (Int64)) hb kl kx => ok_X9_digest_b132 d σ s132 o hb kl kx) 5000 (e24, 0) e28 h29 ?_
  show rf_G _ _ _ (160, [some (.ref 0), some (.long e28), none, none, none], [], σ) _ _
  refine rf_b wf0 rc_X9_digest_ok 88 3 (163, [some (.ref 0), some (.long e28), none, none, none], [.long e28, .ref 0, .ref 0], σ) rfl ?_
  obtain ⟨q30, h31, h⟩ := Option.bind_eq_some_iff.mp h
  refine rf_cv1 (Mt := mX9_digestRows) wf0 rc_X9_digest_ok 91 false rfl (List.mem_of_getElem? (i := 133) rfl) mw_X9_digestRows rfl 0 [.long e28] [.ref 0] rfl rfl rfl (Nat.le_of_ble_eq_true rfl) (ok_X9_digestRows (d + 4) e28 σ q30 h31) ?_
  show rf_G _ _ _ (166, [some (.ref 0), some (.long e28), none, none, none], [.long q30, .ref 0], σ) _ _
  obtain ⟨q32, h33, h⟩ := Option.bind_eq_some_iff.mp h
  refine rf_cv1 (Mt := mX9_digestTexts) wf0 rc_X9_digest_ok 92 false rfl (List.mem_of_getElem? (i := 134) rfl) mw_X9_digestTexts rfl 0 [.long q30] [] rfl rfl rfl (Nat.le_of_ble_eq_true rfl) (ok_X9_digestTexts (d + 4) q30 σ q32 h33) ?_
  show rf_G _ _ _ (169, [some (.ref 0), some (.long e28), none, none, none], [.long q32], σ) _ _
  obtain rfl := Option.some.inj h
  exact rf_rl rc_X9_digest_ok 93 rfl rfl
