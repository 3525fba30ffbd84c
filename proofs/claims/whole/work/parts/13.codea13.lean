def rc_X9_member : List rf_E := [(0, .aload_n 0, 1, 0), (1, .iload_n 1, 1, 1), (2, .invokevirtual 155, 3, 0), (5, .ifCond .eq 13, 3, 18), (8, .iload_n 2, 1, 2), (9, .ifCond .lt 9, 3, 18), (12, .iload_n 2, 1, 2), (13, .bipush 7, 2, 0), (15, .if_icmp .le 5, 3, 20), (18, .iconst (-1), 1, 0), (19, .ireturn, 1, 0), (20, .aload_n 0, 1, 0), (21, .aload_n 0, 1, 0), (22, .iload_n 1, 1, 1), (23, .iload_n 2, 1, 2), (24, .invokevirtual 158, 3, 0), (27, .putfield 88, 3, 910), (30, .iconst 1, 1, 0), (31, .ireturn, 1, 0)]
theorem rc_X9_member_ok : rf_rc mX9_member rc_X9_member = true := by decide +kernel
theorem mw_X9_member : rf_mw mX9_member := ⟨rf_mt_ok _ (List.mem_of_getElem? (i := 85) rfl), fun h => absurd h (by decide), fun _ => ⟨rf_mi_ok _ (List.mem_of_getElem? (i := 80) rfl), rf_mv_ok _ (List.mem_of_getElem? (i := 80) rfl)⟩, rf_mq_3 _ (List.mem_of_getElem? (i := 10) rfl)⟩
def f_X9_member (p0 : Int32) (p1 : Int32) (σ : rf_S) : Option (Int32 × rf_S) := (f_X9_isMember p0 σ).bind (fun q1 => if q1 = 0 then (some ((-1), σ)) else (if p1 < 0 then (some ((-1), σ)) else (if p1 ≤ 7 then ((f_X9_ofMember p0 p1 σ).bind (fun q6 => some (1, (rf_sI σ 0 10 q6)))) else (some ((-1), σ)))))
set_option maxHeartbeats 2000000 in
theorem ok_X9_member (d : Nat) (p0 : Int32) (p1 : Int32) (σ : rf_S) (q : (Int32 × rf_S)) (h : f_X9_member p0 p1 σ = some q) : rf_Ex ly0 (d + 6) mX9_member [.ref 0, .int p0, .int p1] σ (some (.int q.1) : Option Value) q.2 := by
  unfold f_X9_member at h
  refine rf_ex mw_X9_member [some (.ref 0), some (.int p0), some (.int p1)] (Nat.le_of_ble_eq_true rfl) rfl ?_
  refine rf_b wf0 rc_X9_member_ok 0 2 (2, [some (.ref 0), some (.int p0), some (.int p1)], [.int p0, .ref 0], σ) rfl ?_
  obtain ⟨q1, h2, h⟩ := Option.bind_eq_some_iff.mp h
  refine rf_cv1 (Mt := mX9_isMember) wf0 rc_X9_member_ok 2 false rfl (List.mem_of_getElem? (i := 86) rfl) mw_X9_isMember rfl 0 [.int p0] [] rfl rfl rfl (Nat.le_of_ble_eq_true rfl) (ok_X9_isMember (d + 3) p0 σ q1 h2) ?_
  show rf_G _ _ _ (5, [some (.ref 0), some (.int p0), some (.int p1)], [.int q1], σ) _ _
  by_cases c3 : q1 = 0
  · rw [if_pos c3] at h
    refine rf_t wf0 rc_X9_member_ok 3 (18, [some (.ref 0), some (.int p0), some (.int p1)], [], σ) rfl rfl c3 rfl ?_
    refine rf_b wf0 rc_X9_member_ok 9 1 (19, [some (.ref 0), some (.int p0), some (.int p1)], [.int (-1)], σ) rfl ?_
    obtain rfl := Option.some.inj h
    exact rf_ri rc_X9_member_ok 10 rfl rfl
  · rw [if_neg c3] at h
    refine rf_f wf0 rc_X9_member_ok 3 (8, [some (.ref 0), some (.int p0), some (.int p1)], [], σ) rfl rfl c3 rfl ?_
    refine rf_b wf0 rc_X9_member_ok 4 1 (9, [some (.ref 0), some (.int p0), some (.int p1)], [.int p1], σ) rfl ?_
    by_cases c4 : p1 < 0
    · rw [if_pos c4] at h
      refine rf_t wf0 rc_X9_member_ok 5 (18, [some (.ref 0), some (.int p0), some (.int p1)], [], σ) rfl rfl c4 rfl ?_
      refine rf_b wf0 rc_X9_member_ok 9 1 (19, [some (.ref 0), some (.int p0), some (.int p1)], [.int (-1)], σ) rfl ?_
      obtain rfl := Option.some.inj h
      exact rf_ri rc_X9_member_ok 10 rfl rfl
    · rw [if_neg c4] at h
      refine rf_f wf0 rc_X9_member_ok 5 (12, [some (.ref 0), some (.int p0), some (.int p1)], [], σ) rfl rfl c4 rfl ?_
      refine rf_b wf0 rc_X9_member_ok 6 2 (15, [some (.ref 0), some (.int p0), some (.int p1)], [.int 7, .int p1], σ) rfl ?_
      by_cases c5 : p1 ≤ 7
      · rw [if_pos c5] at h
        refine rf_t wf0 rc_X9_member_ok 8 (20, [some (.ref 0), some (.int p0), some (.int p1)], [], σ) rfl rfl c5 rfl ?_
        refine rf_b wf0 rc_X9_member_ok 11 4 (24, [some (.ref 0), some (.int p0), some (.int p1)], [.int p1, .int p0, .ref 0, .ref 0], σ) rfl ?_
        obtain ⟨q6, h7, h⟩ := Option.bind_eq_some_iff.mp h
        refine rf_cv1 (Mt := mX9_ofMember) wf0 rc_X9_member_ok 15 false rfl (List.mem_of_getElem? (i := 87) rfl) mw_X9_ofMember rfl 0 [.int p0, .int p1] [.ref 0] rfl rfl rfl (Nat.le_of_ble_eq_true rfl) (ok_X9_ofMember d p0 p1 σ q6 h7) ?_
        show rf_G _ _ _ (27, [some (.ref 0), some (.int p0), some (.int p1)], [.int q6, .ref 0], σ) _ _
        refine rf_b wf0 rc_X9_member_ok 16 2 (31, [some (.ref 0), some (.int p0), some (.int p1)], [.int 1], (rf_sI σ 0 10 q6)) rfl ?_
        obtain rfl := Option.some.inj h
        exact rf_ri rc_X9_member_ok 18 rfl rfl
      · rw [if_neg c5] at h
        refine rf_f wf0 rc_X9_member_ok 8 (18, [some (.ref 0), some (.int p0), some (.int p1)], [], σ) rfl rfl c5 rfl ?_
        refine rf_b wf0 rc_X9_member_ok 9 1 (19, [some (.ref 0), some (.int p0), some (.int p1)], [.int (-1)], σ) rfl ?_
        obtain rfl := Option.some.inj h
        exact rf_ri rc_X9_member_ok 10 rfl rfl
def rc_X9_isRoom : List rf_E := [(0, .iload_n 1, 1, 1), (1, .ifCond .lt 18, 3, 19), (4, .iload_n 1, 1, 1), (5, .aload_n 0, 1, 0), (6, .getfield 33, 3, 903), (9, .invokevirtual 271, 3, 0), (12, .if_icmp .ge 7, 3, 19), (15, .iconst 1, 1, 0), (16, .goto 4, 3, 20), (19, .iconst 0, 1, 0), (20, .ireturn, 1, 0)]
theorem rc_X9_isRoom_ok : rf_rc mX9_isRoom rc_X9_isRoom = true := by decide +kernel
theorem mw_X9_isRoom : rf_mw mX9_isRoom := ⟨rf_mt_ok _ (List.mem_of_getElem? (i := 129) rfl), fun h => absurd h (by decide), fun _ => ⟨rf_mi_ok _ (List.mem_of_getElem? (i := 120) rfl), rf_mv_ok _ (List.mem_of_getElem? (i := 120) rfl)⟩, rf_mq_5 _ (List.mem_of_getElem? (i := 4) rfl)⟩
def f_X9_isRoom (p0 : Int32) (σ : rf_S) : Option Int32 := if p0 < 0 then (some 0) else ((f_X8_rooms σ).bind (fun q2 => if q2 ≤ p0 then (some 0) else (some 1)))
set_option maxHeartbeats 2000000 in
theorem ok_X9_isRoom (d : Nat) (p0 : Int32) (σ : rf_S) (q : Int32) (h : f_X9_isRoom p0 σ = some q) : rf_Ex ly0 (d + 2) mX9_isRoom [.ref 0, .int p0] σ (some (.int q) : Option Value) σ := by
  unfold f_X9_isRoom at h
  refine rf_ex mw_X9_isRoom [some (.ref 0), some (.int p0)] (Nat.le_of_ble_eq_true rfl) rfl ?_
  refine rf_b wf0 rc_X9_isRoom_ok 0 1 (1, [some (.ref 0), some (.int p0)], [.int p0], σ) rfl ?_
  by_cases c1 : p0 < 0
  · rw [if_pos c1] at h
    refine rf_t wf0 rc_X9_isRoom_ok 1 (19, [some (.ref 0), some (.int p0)], [], σ) rfl rfl c1 rfl ?_
    refine rf_b wf0 rc_X9_isRoom_ok 9 1 (20, [some (.ref 0), some (.int p0)], [.int 0], σ) rfl ?_
    obtain rfl := Option.some.inj h
    exact rf_rz rc_X9_isRoom_ok 10 rfl rfl (by decide)
  · rw [if_neg c1] at h
    refine rf_f wf0 rc_X9_isRoom_ok 1 (4, [some (.ref 0), some (.int p0)], [], σ) rfl rfl c1 rfl ?_
    refine rf_b wf0 rc_X9_isRoom_ok 2 3 (9, [some (.ref 0), some (.int p0)], [.ref 25, .int p0], σ) rfl ?_
    obtain ⟨q2, h3, h⟩ := Option.bind_eq_some_iff.mp h
    refine rf_cv1 (Mt := mX8_rooms) wf0 rc_X9_isRoom_ok 5 false rfl (List.mem_of_getElem? (i := 113) rfl) mw_X8_rooms rfl 25 [] [.int p0] rfl rfl rfl (Nat.le_of_ble_eq_true rfl) (ok_X8_rooms d  σ q2 h3) ?_
    show rf_G _ _ _ (12, [some (.ref 0), some (.int p0)], [.int q2, .int p0], σ) _ _
    by_cases c4 : q2 ≤ p0
    · rw [if_pos c4] at h
      refine rf_t wf0 rc_X9_isRoom_ok 6 (19, [some (.ref 0), some (.int p0)], [], σ) rfl rfl c4 rfl ?_
      refine rf_b wf0 rc_X9_isRoom_ok 9 1 (20, [some (.ref 0), some (.int p0)], [.int 0], σ) rfl ?_
      obtain rfl := Option.some.inj h
      exact rf_rz rc_X9_isRoom_ok 10 rfl rfl (by decide)
    · rw [if_neg c4] at h
      refine rf_f wf0 rc_X9_isRoom_ok 6 (15, [some (.ref 0), some (.int p0)], [], σ) rfl rfl c4 rfl ?_
      refine rf_b wf0 rc_X9_isRoom_ok 7 2 (20, [some (.ref 0), some (.int p0)], [.int 1], σ) rfl ?_
      obtain rfl := Option.some.inj h
      exact rf_rz rc_X9_isRoom_ok 10 rfl rfl (by decide)
def rc_X9_room : List rf_E := [(0, .aload_n 0, 1, 0), (1, .iload_n 1, 1, 1), (2, .invokevirtual 161, 3, 0), (5, .ifCond .eq 12, 3, 17), (8, .iload_n 2, 1, 2), (9, .ifCond .lt 8, 3, 17), (12, .iload_n 2, 1, 2), (13, .iconst 3, 1, 0), (14, .if_icmp .le 5, 3, 19), (17, .iconst (-1), 1, 0), (18, .ireturn, 1, 0), (19, .iload_n 2, 1, 2), (20, .tableswitch 56 0 2 #[28, 38, 47], 28, 0), (48, .aload_n 0, 1, 0), (49, .getfield 33, 3, 903), (52, .getfield 164, 3, 801), (55, .iload_n 1, 1, 1), (56, .iaload, 1, 0), (57, .ireturn, 1, 0), (58, .aload_n 0, 1, 0), (59, .getfield 33, 3, 903), (62, .iload_n 1, 1, 1), (63, .invokevirtual 167, 3, 0), (66, .ireturn, 1, 0), (67, .aload_n 0, 1, 0), (68, .getfield 33, 3, 903), (71, .iload_n 1, 1, 1), (72, .invokevirtual 170, 3, 0), (75, .ireturn, 1, 0), (76, .aload_n 0, 1, 0), (77, .getfield 33, 3, 903), (80, .iload_n 1, 1, 1), (81, .invokevirtual 170, 3, 0), (84, .aload_n 0, 1, 0), (85, .getfield 33, 3, 903), (88, .invokevirtual 173, 3, 0), (91, .iand, 1, 0), (92, .ireturn, 1, 0)]
theorem rc_X9_room_ok : rf_rc mX9_room rc_X9_room = true := by decide +kernel
theorem mw_X9_room : rf_mw mX9_room := ⟨rf_mt_ok _ (List.mem_of_getElem? (i := 86) rfl), fun h => absurd h (by decide), fun _ => ⟨rf_mi_ok _ (List.mem_of_getElem? (i := 81) rfl), rf_mv_ok _ (List.mem_of_getElem? (i := 81) rfl)⟩, rf_mq_3 _ (List.mem_of_getElem? (i := 11) rfl)⟩
def f_X9_room (p0 : Int32) (p1 : Int32) (σ : rf_S) : Option Int32 := (f_X9_isRoom p0 σ).bind (fun q1 => if q1 = 0 then (some (-1)) else (if p1 < 0 then (some (-1)) else (if p1 ≤ 3 then (if p1 = 0 then (if rf_ck ly0 0 33 p0 = true then (some (σ.1 33 p0.toNatClampNeg)) else none) else (if p1 = 1 then ((f_X8_needOf p0 σ).bind (fun q9 => some q9)) else (if p1 = 2 then ((f_X8_there p0 σ).bind (fun q12 => some q12)) else ((f_X8_there p0 σ).bind (fun q14 => (f_X8_doers σ).bind (fun q16 => some (q14 &&& q16))))))) else (some (-1)))))
set_option maxHeartbeats 2000000 in
theorem ok_X9_room (d : Nat) (p0 : Int32) (p1 : Int32) (σ : rf_S) (q : Int32) (h : f_X9_room p0 p1 σ = some q) : rf_Ex ly0 (d + 6) mX9_room [.ref 0, .int p0, .int p1] σ (some (.int q) : Option Value) σ := by
  unfold f_X9_room at h
  refine rf_ex mw_X9_room [some (.ref 0), some (.int p0), some (.int p1)] (Nat.le_of_ble_eq_true rfl) rfl ?_
  refine rf_b wf0 rc_X9_room_ok 0 2 (2, [some (.ref 0), some (.int p0), some (.int p1)], [.int p0, .ref 0], σ) rfl ?_
  obtain ⟨q1, h2, h⟩ := Option.bind_eq_some_iff.mp h
  refine rf_cv1 (Mt := mX9_isRoom) wf0 rc_X9_room_ok 2 false rfl (List.mem_of_getElem? (i := 88) rfl) mw_X9_isRoom rfl 0 [.int p0] [] rfl rfl rfl (Nat.le_of_ble_eq_true rfl) (ok_X9_isRoom (d + 3) p0 σ q1 h2) ?_
  show rf_G _ _ _ (5, [some (.ref 0), some (.int p0), some (.int p1)], [.int q1], σ) _ _
  by_cases c3 : q1 = 0
  · rw [if_pos c3] at h
    refine rf_t wf0 rc_X9_room_ok 3 (17, [some (.ref 0), some (.int p0), some (.int p1)], [], σ) rfl rfl c3 rfl ?_
    refine rf_b wf0 rc_X9_room_ok 9 1 (18, [some (.ref 0), some (.int p0), some (.int p1)], [.int (-1)], σ) rfl ?_
    obtain rfl := Option.some.inj h
    exact rf_ri rc_X9_room_ok 10 rfl rfl
  · rw [if_neg c3] at h
    refine rf_f wf0 rc_X9_room_ok 3 (8, [some (.ref 0), some (.int p0), some (.int p1)], [], σ) rfl rfl c3 rfl ?_
    refine rf_b wf0 rc_X9_room_ok 4 1 (9, [some (.ref 0), some (.int p0), some (.int p1)], [.int p1], σ) rfl ?_
    by_cases c4 : p1 < 0
    · rw [if_pos c4] at h
      refine rf_t wf0 rc_X9_room_ok 5 (17, [some (.ref 0), some (.int p0), some (.int p1)], [], σ) rfl rfl c4 rfl ?_
      refine rf_b wf0 rc_X9_room_ok 9 1 (18, [some (.ref 0), some (.int p0), some (.int p1)], [.int (-1)], σ) rfl ?_
      obtain rfl := Option.some.inj h
      exact rf_ri rc_X9_room_ok 10 rfl rfl
    · rw [if_neg c4] at h
      refine rf_f wf0 rc_X9_room_ok 5 (12, [some (.ref 0), some (.int p0), some (.int p1)], [], σ) rfl rfl c4 rfl ?_
      refine rf_b wf0 rc_X9_room_ok 6 2 (14, [some (.ref 0), some (.int p0), some (.int p1)], [.int 3, .int p1], σ) rfl ?_
      by_cases c5 : p1 ≤ 3
      · rw [if_pos c5] at h
        refine rf_t wf0 rc_X9_room_ok 8 (19, [some (.ref 0), some (.int p0), some (.int p1)], [], σ) rfl rfl c5 rfl ?_
        refine rf_b wf0 rc_X9_room_ok 11 1 (20, [some (.ref 0), some (.int p0), some (.int p1)], [.int p1], σ) rfl ?_
        by_cases c6 : p1 = 0
        · rw [if_pos c6] at h
          refine rf_sw rc_X9_room_ok 12 48 rfl c6 (by decide) (by decide) rfl (by decide) ?_
          refine rf_b wf0 rc_X9_room_ok 13 4 (56, [some (.ref 0), some (.int p0), some (.int p1)], [.int p0, .ref 33], σ) rfl ?_
          obtain ⟨g7, h⟩ := rf_ifn h
          refine rf_gd wf0 rc_X9_room_ok 17 (57, [some (.ref 0), some (.int p0), some (.int p1)], [.int (σ.1 33 p0.toNatClampNeg)], σ) rfl rfl g7 rfl ?_
          obtain rfl := Option.some.inj h
          exact rf_ri rc_X9_room_ok 18 rfl rfl
        · rw [if_neg c6] at h
          by_cases c8 : p1 = 1
          · rw [if_pos c8] at h
            refine rf_sw rc_X9_room_ok 12 58 rfl c8 (by decide) (by decide) rfl (by decide) ?_
            refine rf_b wf0 rc_X9_room_ok 19 3 (63, [some (.ref 0), some (.int p0), some (.int p1)], [.int p0, .ref 25], σ) rfl ?_
            obtain ⟨q9, h10, h⟩ := Option.bind_eq_some_iff.mp h
            refine rf_cv1 (Mt := mX8_needOf) wf0 rc_X9_room_ok 22 false rfl (List.mem_of_getElem? (i := 89) rfl) mw_X8_needOf rfl 25 [.int p0] [] rfl rfl rfl (Nat.le_of_ble_eq_true rfl) (ok_X8_needOf (d + 4) p0 σ q9 h10) ?_
            show rf_G _ _ _ (66, [some (.ref 0), some (.int p0), some (.int p1)], [.int q9], σ) _ _
            obtain rfl := Option.some.inj h
            exact rf_ri rc_X9_room_ok 23 rfl rfl
          · rw [if_neg c8] at h
            by_cases c11 : p1 = 2
            · rw [if_pos c11] at h
              refine rf_sw rc_X9_room_ok 12 67 rfl c11 (by decide) (by decide) rfl (by decide) ?_
              refine rf_b wf0 rc_X9_room_ok 24 3 (72, [some (.ref 0), some (.int p0), some (.int p1)], [.int p0, .ref 25], σ) rfl ?_
              obtain ⟨q12, h13, h⟩ := Option.bind_eq_some_iff.mp h
              refine rf_cv1 (Mt := mX8_there) wf0 rc_X9_room_ok 27 false rfl (List.mem_of_getElem? (i := 90) rfl) mw_X8_there rfl 25 [.int p0] [] rfl rfl rfl (Nat.le_of_ble_eq_true rfl) (ok_X8_there (d + 4) p0 σ q12 h13) ?_
              show rf_G _ _ _ (75, [some (.ref 0), some (.int p0), some (.int p1)], [.int q12], σ) _ _
              obtain rfl := Option.some.inj h
              exact rf_ri rc_X9_room_ok 28 rfl rfl
            · rw [if_neg c11] at h
              refine rf_sd rc_X9_room_ok 12 [0, 1, 2] 76 rfl (by intro k hk; simp only [List.mem_cons, List.not_mem_nil, or_false] at hk; rcases hk with rfl | rfl | rfl <;> assumption) (by decide) (by decide) ?_
              refine rf_b wf0 rc_X9_room_ok 29 3 (81, [some (.ref 0), some (.int p0), some (.int p1)], [.int p0, .ref 25], σ) rfl ?_
              obtain ⟨q14, h15, h⟩ := Option.bind_eq_some_iff.mp h
              refine rf_cv1 (Mt := mX8_there) wf0 rc_X9_room_ok 32 false rfl (List.mem_of_getElem? (i := 90) rfl) mw_X8_there rfl 25 [.int p0] [] rfl rfl rfl (Nat.le_of_ble_eq_true rfl) (ok_X8_there (d + 4) p0 σ q14 h15) ?_
              show rf_G _ _ _ (84, [some (.ref 0), some (.int p0), some (.int p1)], [.int q14], σ) _ _
              refine rf_b wf0 rc_X9_room_ok 33 2 (88, [some (.ref 0), some (.int p0), some (.int p1)], [.ref 25, .int q14], σ) rfl ?_
              obtain ⟨q16, h17, h⟩ := Option.bind_eq_some_iff.mp h
              refine rf_cv1 (Mt := mX8_doers) wf0 rc_X9_room_ok 35 false rfl (List.mem_of_getElem? (i := 91) rfl) mw_X8_doers rfl 25 [] [.int q14] rfl rfl rfl (Nat.le_of_ble_eq_true rfl) (ok_X8_doers d  σ q16 h17) ?_
              show rf_G _ _ _ (91, [some (.ref 0), some (.int p0), some (.int p1)], [.int q16, .int q14], σ) _ _
              refine rf_b wf0 rc_X9_room_ok 36 1 (92, [some (.ref 0), some (.int p0), some (.int p1)], [.int (q14 &&& q16)], σ) rfl ?_
              obtain rfl := Option.some.inj h
              exact rf_ri rc_X9_room_ok 37 rfl rfl
      · rw [if_neg c5] at h
        refine rf_f wf0 rc_X9_room_ok 8 (17, [some (.ref 0), some (.int p0), some (.int p1)], [], σ) rfl rfl c5 rfl ?_
        refine rf_b wf0 rc_X9_room_ok 9 1 (18, [some (.ref 0), some (.int p0), some (.int p1)], [.int (-1)], σ) rfl ?_
        obtain rfl := Option.some.inj h
        exact rf_ri rc_X9_room_ok 10 rfl rfl
def rc_X9_mark : List rf_E := [(0, .aload_n 0, 1, 0), (1, .iload_n 1, 1, 1), (2, .invokevirtual 155, 3, 0), (5, .ifCond .eq 12, 3, 17), (8, .iload_n 2, 1, 2), (9, .ifCond .le 8, 3, 17), (12, .iload_n 2, 1, 2), (13, .iconst 5, 1, 0), (14, .if_icmp .le 5, 3, 19), (17, .iconst (-1), 1, 0), (18, .ireturn, 1, 0), (19, .aload_n 0, 1, 0), (20, .getfield 33, 3, 903), (23, .iload_n 1, 1, 1), (24, .invokevirtual 176, 3, 0), (27, .iload_n 2, 1, 2), (28, .invokestatic 179, 3, 0), (31, .ifCond .ne 9, 3, 40), (34, .aload_n 0, 1, 0), (35, .iconst 3, 1, 0), (36, .invokevirtual 73, 3, 0), (39, .ireturn, 1, 0), (40, .iload_n 2, 1, 2), (41, .tableswitch 115 1 4 #[31, 43, 52, 84], 31, 0), (72, .aload_n 0, 1, 0), (73, .getfield 33, 3, 903), (76, .iload_n 1, 1, 1), (77, .invokevirtual 182, 3, 0), (80, .invokestatic 185, 3, 0), (83, .ireturn, 1, 0), (84, .aload_n 0, 1, 0), (85, .getfield 33, 3, 903), (88, .iload_n 1, 1, 1), (89, .invokevirtual 190, 3, 0), (92, .ireturn, 1, 0), (93, .iconst 0, 1, 0), (94, .aload_n 0, 1, 0), (95, .getfield 33, 3, 903), (98, .iload_n 1, 1, 1), (99, .invokevirtual 193, 3, 0), (102, .aload_n 0, 1, 0), (103, .getfield 33, 3, 903), (106, .iload_n 1, 1, 1), (107, .invokevirtual 196, 3, 0), (110, .isub, 1, 0), (111, .aload_n 0, 1, 0), (112, .getfield 33, 3, 903), (115, .getfield 199, 3, 804), (118, .iload_n 1, 1, 1), (119, .iaload, 1, 0), (120, .isub, 1, 0), (121, .invokestatic 202, 3, 1002), (124, .ireturn, 1, 0), (125, .aload_n 0, 1, 0), (126, .getfield 33, 3, 903), (129, .aload_n 0, 1, 0), (130, .getfield 33, 3, 903), (133, .getfield 207, 3, 802), (136, .iload_n 1, 1, 1), (137, .iaload, 1, 0), (138, .invokevirtual 170, 3, 0), (141, .aload_n 0, 1, 0), (142, .getfield 33, 3, 903), (145, .getfield 210, 3, 803), (148, .invokestatic 213, 3, 0), (151, .iand, 1, 0), (152, .invokestatic 185, 3, 0), (155, .ireturn, 1, 0), (156, .bipush 6, 2, 0), (158, .aload_n 0, 1, 0), (159, .getfield 33, 3, 903), (162, .getfield 217, 3, 806), (165, .bipush 6, 2, 0), (167, .irem, 1, 0), (168, .isub, 1, 0), (169, .ireturn, 1, 0)]
theorem rc_X9_mark_ok : rf_rc mX9_mark rc_X9_mark = true := by decide +kernel
theorem mw_X9_mark : rf_mw mX9_mark := ⟨rf_mt_ok _ (List.mem_of_getElem? (i := 87) rfl), fun h => absurd h (by decide), fun _ => ⟨rf_mi_ok _ (List.mem_of_getElem? (i := 82) rfl), rf_mv_ok _ (List.mem_of_getElem? (i := 82) rfl)⟩, rf_mq_3 _ (List.mem_of_getElem? (i := 12) rfl)⟩
def f_X9_mark (p0 : Int32) (p1 : Int32) (σ : rf_S) : Option (Int32 × rf_S) := (f_X9_isMember p0 σ).bind (fun q1 => if q1 = 0 then (some ((-1), σ)) else (if p1 ≤ 0 then (some ((-1), σ)) else (if p1 ≤ 5 then ((f_X8_kindOf p0 σ).bind (fun q6 => (f_X9_isOfKind q6 p1 σ).bind (fun q8 => if q8 ≠ 0 then (if p1 = 1 then ((f_X8_would p0 σ).bind (fun q12 => (f_J_bitCount q12 σ).bind (fun q14 => some (q14, σ)))) else (if p1 = 2 then ((f_X8_otherTwins p0 σ).bind (fun q17 => some (q17, σ))) else (if p1 = 3 then ((f_X8_feltBy p0 σ).bind (fun q20 => (f_X8_markOf p0 σ).bind (fun q22 => if rf_ck ly0 0 36 p0 = true then (some ((if 0 < ((q20 - q22) - (σ.1 36 p0.toNatClampNeg)) then ((q20 - q22) - (σ.1 36 p0.toNatClampNeg)) else 0), σ)) else none))) else (if p1 = 4 then (if rf_ck ly0 0 34 p0 = true then ((f_X8_there (σ.1 34 p0.toNatClampNeg) σ).bind (fun q27 => (f_X9_sick 35 σ).bind (fun q29 => (f_J_bitCount (q27 &&& q29) σ).bind (fun q31 => some (q31, σ))))) else none) else (some ((6 - ((σ.1 25 6) - (σ.1 25 6) / 6 * 6)), σ)))))) else ((f_X9_find 3 σ).bind (fun q34 => some (q34.1, q34.2)))))) else (some ((-1), σ)))))
set_option maxHeartbeats 2000000 in
theorem ok_X9_mark (d : Nat) (p0 : Int32) (p1 : Int32) (σ : rf_S) (q : (Int32 × rf_S)) (h : f_X9_mark p0 p1 σ = some q) : rf_Ex ly0 (d + 4) mX9_mark [.ref 0, .int p0, .int p1] σ (some (.int q.1) : Option Value) q.2 := by
  unfold f_X9_mark at h
  refine rf_ex mw_X9_mark [some (.ref 0), some (.int p0), some (.int p1)] (Nat.le_of_ble_eq_true rfl) rfl ?_
  refine rf_b wf0 rc_X9_mark_ok 0 2 (2, [some (.ref 0), some (.int p0), some (.int p1)], [.int p0, .ref 0], σ) rfl ?_
  obtain ⟨q1, h2, h⟩ := Option.bind_eq_some_iff.mp h
  refine rf_cv1 (Mt := mX9_isMember) wf0 rc_X9_mark_ok 2 false rfl (List.mem_of_getElem? (i := 86) rfl) mw_X9_isMember rfl 0 [.int p0] [] rfl rfl rfl (Nat.le_of_ble_eq_true rfl) (ok_X9_isMember (d + 1) p0 σ q1 h2) ?_
  show rf_G _ _ _ (5, [some (.ref 0), some (.int p0), some (.int p1)], [.int q1], σ) _ _
  by_cases c3 : q1 = 0
  · rw [if_pos c3] at h
    refine rf_t wf0 rc_X9_mark_ok 3 (17, [some (.ref 0), some (.int p0), some (.int p1)], [], σ) rfl rfl c3 rfl ?_
    refine rf_b wf0 rc_X9_mark_ok 9 1 (18, [some (.ref 0), some (.int p0), some (.int p1)], [.int (-1)], σ) rfl ?_
    obtain rfl := Option.some.inj h
    exact rf_ri rc_X9_mark_ok 10 rfl rfl
  · rw [if_neg c3] at h
    refine rf_f wf0 rc_X9_mark_ok 3 (8, [some (.ref 0), some (.int p0), some (.int p1)], [], σ) rfl rfl c3 rfl ?_
    refine rf_b wf0 rc_X9_mark_ok 4 1 (9, [some (.ref 0), some (.int p0), some (.int p1)], [.int p1], σ) rfl ?_
    by_cases c4 : p1 ≤ 0
    · rw [if_pos c4] at h
      refine rf_t wf0 rc_X9_mark_ok 5 (17, [some (.ref 0), some (.int p0), some (.int p1)], [], σ) rfl rfl c4 rfl ?_
      refine rf_b wf0 rc_X9_mark_ok 9 1 (18, [some (.ref 0), some (.int p0), some (.int p1)], [.int (-1)], σ) rfl ?_
      obtain rfl := Option.some.inj h
      exact rf_ri rc_X9_mark_ok 10 rfl rfl
    · rw [if_neg c4] at h
      refine rf_f wf0 rc_X9_mark_ok 5 (12, [some (.ref 0), some (.int p0), some (.int p1)], [], σ) rfl rfl c4 rfl ?_
      refine rf_b wf0 rc_X9_mark_ok 6 2 (14, [some (.ref 0), some (.int p0), some (.int p1)], [.int 5, .int p1], σ) rfl ?_
      by_cases c5 : p1 ≤ 5
      · rw [if_pos c5] at h
        refine rf_t wf0 rc_X9_mark_ok 8 (19, [some (.ref 0), some (.int p0), some (.int p1)], [], σ) rfl rfl c5 rfl ?_
        refine rf_b wf0 rc_X9_mark_ok 11 3 (24, [some (.ref 0), some (.int p0), some (.int p1)], [.int p0, .ref 25], σ) rfl ?_
        obtain ⟨q6, h7, h⟩ := Option.bind_eq_some_iff.mp h
        refine rf_cv1 (Mt := mX8_kindOf) wf0 rc_X9_mark_ok 14 false rfl (List.mem_of_getElem? (i := 92) rfl) mw_X8_kindOf rfl 25 [.int p0] [] rfl rfl rfl (Nat.le_of_ble_eq_true rfl) (ok_X8_kindOf (d + 2) p0 σ q6 h7) ?_
        show rf_G _ _ _ (27, [some (.ref 0), some (.int p0), some (.int p1)], [.int q6], σ) _ _
        refine rf_b wf0 rc_X9_mark_ok 15 1 (28, [some (.ref 0), some (.int p0), some (.int p1)], [.int p1, .int q6], σ) rfl ?_
        obtain ⟨q8, h9, h⟩ := Option.bind_eq_some_iff.mp h
        refine rf_cs1 (Mt := mX9_isOfKind) rc_X9_mark_ok 16 false rfl (List.mem_of_getElem? (i := 93) rfl) mw_X9_isOfKind rfl [.int q6, .int p1] [] rfl rfl (Nat.le_of_ble_eq_true rfl) (ok_X9_isOfKind (d + 2) q6 p1 σ q8 h9) ?_
        show rf_G _ _ _ (31, [some (.ref 0), some (.int p0), some (.int p1)], [.int q8], σ) _ _
        by_cases c10 : q8 ≠ 0
        · rw [if_pos c10] at h
          refine rf_t wf0 rc_X9_mark_ok 17 (40, [some (.ref 0), some (.int p0), some (.int p1)], [], σ) rfl rfl c10 rfl ?_
          refine rf_b wf0 rc_X9_mark_ok 22 1 (41, [some (.ref 0), some (.int p0), some (.int p1)], [.int p1], σ) rfl ?_
          by_cases c11 : p1 = 1
          · rw [if_pos c11] at h
            refine rf_sw rc_X9_mark_ok 23 72 rfl c11 (by decide) (by decide) rfl (by decide) ?_
            refine rf_b wf0 rc_X9_mark_ok 24 3 (77, [some (.ref 0), some (.int p0), some (.int p1)], [.int p0, .ref 25], σ) rfl ?_
            obtain ⟨q12, h13, h⟩ := Option.bind_eq_some_iff.mp h
            refine rf_cv1 (Mt := mX8_would) wf0 rc_X9_mark_ok 27 false rfl (List.mem_of_getElem? (i := 94) rfl) mw_X8_would rfl 25 [.int p0] [] rfl rfl rfl (Nat.le_of_ble_eq_true rfl) (ok_X8_would d p0 σ q12 h13) ?_
            show rf_G _ _ _ (80, [some (.ref 0), some (.int p0), some (.int p1)], [.int q12], σ) _ _
            obtain ⟨q14, h15, h⟩ := Option.bind_eq_some_iff.mp h
            refine rf_cs1 (Mt := mJ6_bitCount_0f7a4) rc_X9_mark_ok 28 false rfl (List.mem_of_getElem? (i := 95) rfl) mw_J_bitCount rfl [.int q12] [] rfl rfl (Nat.le_of_ble_eq_true rfl) (ok_J_bitCount (d + 2) q12 σ q14 h15) ?_
            show rf_G _ _ _ (83, [some (.ref 0), some (.int p0), some (.int p1)], [.int q14], σ) _ _
            obtain rfl := Option.some.inj h
            exact rf_ri rc_X9_mark_ok 29 rfl rfl
          · rw [if_neg c11] at h
            by_cases c16 : p1 = 2
            · rw [if_pos c16] at h
              refine rf_sw rc_X9_mark_ok 23 84 rfl c16 (by decide) (by decide) rfl (by decide) ?_
              refine rf_b wf0 rc_X9_mark_ok 30 3 (89, [some (.ref 0), some (.int p0), some (.int p1)], [.int p0, .ref 25], σ) rfl ?_
              obtain ⟨q17, h18, h⟩ := Option.bind_eq_some_iff.mp h
              refine rf_cv1 (Mt := mX8_otherTwins) wf0 rc_X9_mark_ok 33 false rfl (List.mem_of_getElem? (i := 96) rfl) mw_X8_otherTwins rfl 25 [.int p0] [] rfl rfl rfl (Nat.le_of_ble_eq_true rfl) (ok_X8_otherTwins (d + 1) p0 σ q17 h18) ?_
              show rf_G _ _ _ (92, [some (.ref 0), some (.int p0), some (.int p1)], [.int q17], σ) _ _
              obtain rfl := Option.some.inj h
              exact rf_ri rc_X9_mark_ok 34 rfl rfl
            · rw [if_neg c16] at h
              by_cases c19 : p1 = 3
              · rw [if_pos c19] at h
                refine rf_sw rc_X9_mark_ok 23 93 rfl c19 (by decide) (by decide) rfl (by decide) ?_
                refine rf_b wf0 rc_X9_mark_ok 35 4 (99, [some (.ref 0), some (.int p0), some (.int p1)], [.int p0, .ref 25, .int 0], σ) rfl ?_
                obtain ⟨q20, h21, h⟩ := Option.bind_eq_some_iff.mp h
                refine rf_cv1 (Mt := mX8_feltBy) wf0 rc_X9_mark_ok 39 false rfl (List.mem_of_getElem? (i := 97) rfl) mw_X8_feltBy rfl 25 [.int p0] [.int 0] rfl rfl rfl (Nat.le_of_ble_eq_true rfl) (ok_X8_feltBy (d + 1) p0 σ q20 h21) ?_
                show rf_G _ _ _ (102, [some (.ref 0), some (.int p0), some (.int p1)], [.int q20, .int 0], σ) _ _
                refine rf_b wf0 rc_X9_mark_ok 40 3 (107, [some (.ref 0), some (.int p0), some (.int p1)], [.int p0, .ref 25, .int q20, .int 0], σ) rfl ?_
                obtain ⟨q22, h23, h⟩ := Option.bind_eq_some_iff.mp h
                refine rf_cv1 (Mt := mX8_markOf) wf0 rc_X9_mark_ok 43 false rfl (List.mem_of_getElem? (i := 98) rfl) mw_X8_markOf rfl 25 [.int p0] [.int q20, .int 0] rfl rfl rfl (Nat.le_of_ble_eq_true rfl) (ok_X8_markOf (d + 2) p0 σ q22 h23) ?_
                show rf_G _ _ _ (110, [some (.ref 0), some (.int p0), some (.int p1)], [.int q22, .int q20, .int 0], σ) _ _
                refine rf_b wf0 rc_X9_mark_ok 44 5 (119, [some (.ref 0), some (.int p0), some (.int p1)], [.int p0, .ref 36, .int (q20 - q22), .int 0], σ) rfl ?_
                obtain ⟨g24, h⟩ := rf_ifn h
                refine rf_gd wf0 rc_X9_mark_ok 49 (120, [some (.ref 0), some (.int p0), some (.int p1)], [.int (σ.1 36 p0.toNatClampNeg), .int (q20 - q22), .int 0], σ) rfl rfl g24 rfl ?_
                refine rf_b wf0 rc_X9_mark_ok 50 2 (124, [some (.ref 0), some (.int p0), some (.int p1)], [.int (if 0 < ((q20 - q22) - (σ.1 36 p0.toNatClampNeg)) then ((q20 - q22) - (σ.1 36 p0.toNatClampNeg)) else 0)], σ) rfl ?_
                obtain rfl := Option.some.inj h
                exact rf_ri rc_X9_mark_ok 52 rfl rfl
              · rw [if_neg c19] at h
                by_cases c25 : p1 = 4
                · rw [if_pos c25] at h
                  refine rf_sw rc_X9_mark_ok 23 125 rfl c25 (by decide) (by decide) rfl (by decide) ?_
                  refine rf_b wf0 rc_X9_mark_ok 53 6 (137, [some (.ref 0), some (.int p0), some (.int p1)], [.int p0, .ref 34, .ref 25], σ) rfl ?_
                  obtain ⟨g26, h⟩ := rf_ifn h
                  refine rf_gd wf0 rc_X9_mark_ok 59 (138, [some (.ref 0), some (.int p0), some (.int p1)], [.int (σ.1 34 p0.toNatClampNeg), .ref 25], σ) rfl rfl g26 rfl ?_
                  obtain ⟨q27, h28, h⟩ := Option.bind_eq_some_iff.mp h
                  refine rf_cv1 (Mt := mX8_there) wf0 rc_X9_mark_ok 60 false rfl (List.mem_of_getElem? (i := 90) rfl) mw_X8_there rfl 25 [.int (σ.1 34 p0.toNatClampNeg)] [] rfl rfl rfl (Nat.le_of_ble_eq_true rfl) (ok_X8_there (d + 2) (σ.1 34 p0.toNatClampNeg) σ q27 h28) ?_
                  show rf_G _ _ _ (141, [some (.ref 0), some (.int p0), some (.int p1)], [.int q27], σ) _ _
                  refine rf_b wf0 rc_X9_mark_ok 61 3 (148, [some (.ref 0), some (.int p0), some (.int p1)], [.ref 35, .int q27], σ) rfl ?_
                  obtain ⟨q29, h30, h⟩ := Option.bind_eq_some_iff.mp h
                  refine rf_cs1 (Mt := mX9_sick) rc_X9_mark_ok 64 false rfl (List.mem_of_getElem? (i := 99) rfl) mw_X9_sick rfl [.ref 35] [.int q27] rfl rfl (Nat.le_of_ble_eq_true rfl) (ok_X9_sick (d + 2) 35 σ q29 h30) ?_
                  show rf_G _ _ _ (151, [some (.ref 0), some (.int p0), some (.int p1)], [.int q29, .int q27], σ) _ _
                  refine rf_b wf0 rc_X9_mark_ok 65 1 (152, [some (.ref 0), some (.int p0), some (.int p1)], [.int (q27 &&& q29)], σ) rfl ?_
                  obtain ⟨q31, h32, h⟩ := Option.bind_eq_some_iff.mp h
                  refine rf_cs1 (Mt := mJ6_bitCount_0f7a4) rc_X9_mark_ok 66 false rfl (List.mem_of_getElem? (i := 95) rfl) mw_J_bitCount rfl [.int (q27 &&& q29)] [] rfl rfl (Nat.le_of_ble_eq_true rfl) (ok_J_bitCount (d + 2) (q27 &&& q29) σ q31 h32) ?_
                  show rf_G _ _ _ (155, [some (.ref 0), some (.int p0), some (.int p1)], [.int q31], σ) _ _
                  obtain rfl := Option.some.inj h
                  exact rf_ri rc_X9_mark_ok 67 rfl rfl
                · rw [if_neg c25] at h
                  refine rf_sd rc_X9_mark_ok 23 [1, 2, 3, 4] 156 rfl (by intro k hk; simp only [List.mem_cons, List.not_mem_nil, or_false] at hk; rcases hk with rfl | rfl | rfl | rfl <;> assumption) (by decide) (by decide) ?_
                  refine rf_b wf0 rc_X9_mark_ok 68 5 (167, [some (.ref 0), some (.int p0), some (.int p1)], [.int 6, .int (σ.1 25 6), .int 6], σ) rfl ?_
                  refine rf_nz wf0 rc_X9_mark_ok 73 (168, [some (.ref 0), some (.int p0), some (.int p1)], [.int ((σ.1 25 6) - (σ.1 25 6) / 6 * 6), .int 6], σ) rfl rfl (c := (6 : Int32) = 0) (by decide) rfl ?_
                  refine rf_b wf0 rc_X9_mark_ok 74 1 (169, [some (.ref 0), some (.int p0), some (.int p1)], [.int (6 - ((σ.1 25 6) - (σ.1 25 6) / 6 * 6))], σ) rfl ?_
                  obtain rfl := Option.some.inj h
                  exact rf_ri rc_X9_mark_ok 75 rfl rfl
        · rw [if_neg c10] at h
          refine rf_f wf0 rc_X9_mark_ok 17 (34, [some (.ref 0), some (.int p0), some (.int p1)], [], σ) rfl rfl c10 rfl ?_
          refine rf_b wf0 rc_X9_mark_ok 18 2 (36, [some (.ref 0), some (.int p0), some (.int p1)], [.int 3, .ref 0], σ) rfl ?_
          obtain ⟨q34, h35, h⟩ := Option.bind_eq_some_iff.mp h
          refine rf_cv1 (Mt := mX9_find) wf0 rc_X9_mark_ok 20 false rfl (List.mem_of_getElem? (i := 64) rfl) mw_X9_find rfl 0 [.int 3] [] rfl rfl rfl (Nat.le_of_ble_eq_true rfl) (ok_X9_find (d + 2) 3 σ q34 h35) ?_
          show rf_G _ _ _ (39, [some (.ref 0), some (.int p0), some (.int p1)], [.int q34.1], q34.2) _ _
          obtain rfl := Option.some.inj h
          exact rf_ri rc_X9_mark_ok 21 rfl rfl
      · rw [if_neg c5] at h
        refine rf_f wf0 rc_X9_mark_ok 8 (17, [some (.ref 0), some (.int p0), some (.int p1)], [], σ) rfl rfl c5 rfl ?_
        refine rf_b wf0 rc_X9_mark_ok 9 1 (18, [some (.ref 0), some (.int p0), some (.int p1)], [.int (-1)], σ) rfl ?_
        obtain rfl := Option.some.inj h
        exact rf_ri rc_X9_mark_ok 10 rfl rfl
def rc_X9_walk : List rf_E := [(0, .aload_n 0, 1, 0), (1, .iload_n 1, 1, 1), (2, .invokevirtual 155, 3, 0), (5, .ifCond .eq 11, 3, 16), (8, .aload_n 0, 1, 0), (9, .iload_n 2, 1, 2), (10, .invokevirtual 161, 3, 0), (13, .ifCond .ne 5, 3, 18), (16, .iconst (-1), 1, 0), (17, .ireturn, 1, 0), (18, .aload_n 0, 1, 0), (19, .getfield 33, 3, 903), (22, .getfield 207, 3, 802), (25, .iload_n 1, 1, 1), (26, .iaload, 1, 0), (27, .iload_n 2, 1, 2), (28, .if_icmp .ne 6, 3, 34), (31, .bipush (-4), 2, 0), (33, .ireturn, 1, 0), (34, .aload_n 0, 1, 0), (35, .getfield 40, 3, 904), (38, .invokevirtual 220, 3, 0), (41, .iconst 1, 1, 0), (42, .if_icmp .ge 6, 3, 48), (45, .bipush (-2), 2, 0), (47, .ireturn, 1, 0), (48, .aload_n 0, 1, 0), (49, .getfield 40, 3, 904), (52, .aload_n 0, 1, 0), (53, .getfield 33, 3, 903), (56, .iconst 0, 1, 0), (57, .iload_n 1, 1, 1), (58, .iload_n 2, 1, 2), (59, .invokevirtual 223, 3, 0), (62, .aload_n 0, 1, 0), (63, .getfield 33, 3, 903), (66, .getfield 227, 3, 808), (69, .ireturn, 1, 0)]
theorem rc_X9_walk_ok : rf_rc mX9_walk rc_X9_walk = true := by decide +kernel
theorem mw_X9_walk : rf_mw mX9_walk := ⟨rf_mt_ok _ (List.mem_of_getElem? (i := 88) rfl), fun h => absurd h (by decide), fun _ => ⟨rf_mi_ok _ (List.mem_of_getElem? (i := 83) rfl), rf_mv_ok _ (List.mem_of_getElem? (i := 83) rfl)⟩, rf_mq_3 _ (List.mem_of_getElem? (i := 13) rfl)⟩
def f_X9_walk (p0 : Int32) (p1 : Int32) (σ : rf_S) : Option (Int32 × rf_S) := (f_X9_isMember p0 σ).bind (fun q1 => if q1 = 0 then (some ((-1), σ)) else ((f_X9_isRoom p1 σ).bind (fun q4 => if q4 ≠ 0 then (if rf_ck ly0 0 34 p0 = true then (if (σ.1 34 p0.toNatClampNeg) ≠ p1 then ((f_X1_left σ).bind (fun q9 => if 1 ≤ q9 then ((f_X1_carryOut 0 p0 p1 σ).bind (fun q12 => some ((q12.1 25 8), q12))) else (some ((-2), σ)))) else (some ((-4), σ))) else none) else (some ((-1), σ)))))
set_option maxHeartbeats 2000000 in
theorem ok_X9_walk (d : Nat) (p0 : Int32) (p1 : Int32) (σ : rf_S) (q : (Int32 × rf_S)) (h : f_X9_walk p0 p1 σ = some q) : rf_Ex ly0 (d + 6) mX9_walk [.ref 0, .int p0, .int p1] σ (some (.int q.1) : Option Value) q.2 := by
  unfold f_X9_walk at h
  refine rf_ex mw_X9_walk [some (.ref 0), some (.int p0), some (.int p1)] (Nat.le_of_ble_eq_true rfl) rfl ?_
  refine rf_b wf0 rc_X9_walk_ok 0 2 (2, [some (.ref 0), some (.int p0), some (.int p1)], [.int p0, .ref 0], σ) rfl ?_
  obtain ⟨q1, h2, h⟩ := Option.bind_eq_some_iff.mp h
  refine rf_cv1 (Mt := mX9_isMember) wf0 rc_X9_walk_ok 2 false rfl (List.mem_of_getElem? (i := 86) rfl) mw_X9_isMember rfl 0 [.int p0] [] rfl rfl rfl (Nat.le_of_ble_eq_true rfl) (ok_X9_isMember (d + 3) p0 σ q1 h2) ?_
  show rf_G _ _ _ (5, [some (.ref 0), some (.int p0), some (.int p1)], [.int q1], σ) _ _
  by_cases c3 : q1 = 0
  · rw [if_pos c3] at h
    refine rf_t wf0 rc_X9_walk_ok 3 (16, [some (.ref 0), some (.int p0), some (.int p1)], [], σ) rfl rfl c3 rfl ?_
    refine rf_b wf0 rc_X9_walk_ok 8 1 (17, [some (.ref 0), some (.int p0), some (.int p1)], [.int (-1)], σ) rfl ?_
    obtain rfl := Option.some.inj h
    exact rf_ri rc_X9_walk_ok 9 rfl rfl
  · rw [if_neg c3] at h
    refine rf_f wf0 rc_X9_walk_ok 3 (8, [some (.ref 0), some (.int p0), some (.int p1)], [], σ) rfl rfl c3 rfl ?_
    refine rf_b wf0 rc_X9_walk_ok 4 2 (10, [some (.ref 0), some (.int p0), some (.int p1)], [.int p1, .ref 0], σ) rfl ?_
    obtain ⟨q4, h5, h⟩ := Option.bind_eq_some_iff.mp h
    refine rf_cv1 (Mt := mX9_isRoom) wf0 rc_X9_walk_ok 6 false rfl (List.mem_of_getElem? (i := 88) rfl) mw_X9_isRoom rfl 0 [.int p1] [] rfl rfl rfl (Nat.le_of_ble_eq_true rfl) (ok_X9_isRoom (d + 3) p1 σ q4 h5) ?_
    show rf_G _ _ _ (13, [some (.ref 0), some (.int p0), some (.int p1)], [.int q4], σ) _ _
    by_cases c6 : q4 ≠ 0
    · rw [if_pos c6] at h
      refine rf_t wf0 rc_X9_walk_ok 7 (18, [some (.ref 0), some (.int p0), some (.int p1)], [], σ) rfl rfl c6 rfl ?_
      refine rf_b wf0 rc_X9_walk_ok 10 4 (26, [some (.ref 0), some (.int p0), some (.int p1)], [.int p0, .ref 34], σ) rfl ?_
      obtain ⟨g7, h⟩ := rf_ifn h
      refine rf_gd wf0 rc_X9_walk_ok 14 (27, [some (.ref 0), some (.int p0), some (.int p1)], [.int (σ.1 34 p0.toNatClampNeg)], σ) rfl rfl g7 rfl ?_
      refine rf_b wf0 rc_X9_walk_ok 15 1 (28, [some (.ref 0), some (.int p0), some (.int p1)], [.int p1, .int (σ.1 34 p0.toNatClampNeg)], σ) rfl ?_
      by_cases c8 : (σ.1 34 p0.toNatClampNeg) ≠ p1
      · rw [if_pos c8] at h
        refine rf_t wf0 rc_X9_walk_ok 16 (34, [some (.ref 0), some (.int p0), some (.int p1)], [], σ) rfl rfl c8 rfl ?_
        refine rf_b wf0 rc_X9_walk_ok 19 2 (38, [some (.ref 0), some (.int p0), some (.int p1)], [.ref 38], σ) rfl ?_
        obtain ⟨q9, h10, h⟩ := Option.bind_eq_some_iff.mp h
        refine rf_cv1 (Mt := mX1_left) wf0 rc_X9_walk_ok 21 false rfl (List.mem_of_getElem? (i := 100) rfl) mw_X1_left rfl 38 [] [] rfl rfl rfl (Nat.le_of_ble_eq_true rfl) (ok_X1_left (d + 4)  σ q9 h10) ?_
        show rf_G _ _ _ (41, [some (.ref 0), some (.int p0), some (.int p1)], [.int q9], σ) _ _
        refine rf_b wf0 rc_X9_walk_ok 22 1 (42, [some (.ref 0), some (.int p0), some (.int p1)], [.int 1, .int q9], σ) rfl ?_
        by_cases c11 : 1 ≤ q9
        · rw [if_pos c11] at h
          refine rf_t wf0 rc_X9_walk_ok 23 (48, [some (.ref 0), some (.int p0), some (.int p1)], [], σ) rfl rfl c11 rfl ?_
          refine rf_b wf0 rc_X9_walk_ok 26 7 (59, [some (.ref 0), some (.int p0), some (.int p1)], [.int p1, .int p0, .int 0, .ref 25, .ref 38], σ) rfl ?_
          obtain ⟨q12, h13, h⟩ := Option.bind_eq_some_iff.mp h
          refine rf_cv1 (Mt := mX1_carryOut) wf0 rc_X9_walk_ok 33 false rfl (List.mem_of_getElem? (i := 101) rfl) mw_X1_carryOut rfl 38 [.ref 25, .int 0, .int p0, .int p1] [] rfl rfl rfl (Nat.le_of_ble_eq_true rfl) (ok_X1_carryOut d 0 p0 p1 σ q12 h13) ?_
          show rf_G _ _ _ (62, [some (.ref 0), some (.int p0), some (.int p1)], [], q12) _ _
          refine rf_b wf0 rc_X9_walk_ok 34 3 (69, [some (.ref 0), some (.int p0), some (.int p1)], [.int (q12.1 25 8)], q12) rfl ?_
          obtain rfl := Option.some.inj h
          exact rf_ri rc_X9_walk_ok 37 rfl rfl
        · rw [if_neg c11] at h
          refine rf_f wf0 rc_X9_walk_ok 23 (45, [some (.ref 0), some (.int p0), some (.int p1)], [], σ) rfl rfl c11 rfl ?_
          refine rf_b wf0 rc_X9_walk_ok 24 1 (47, [some (.ref 0), some (.int p0), some (.int p1)], [.int (-2)], σ) rfl ?_
          obtain rfl := Option.some.inj h
          exact rf_ri rc_X9_walk_ok 25 rfl rfl
      · rw [if_neg c8] at h
        refine rf_f wf0 rc_X9_walk_ok 16 (31, [some (.ref 0), some (.int p0), some (.int p1)], [], σ) rfl rfl c8 rfl ?_
        refine rf_b wf0 rc_X9_walk_ok 17 1 (33, [some (.ref 0), some (.int p0), some (.int p1)], [.int (-4)], σ) rfl ?_
        obtain rfl := Option.some.inj h
        exact rf_ri rc_X9_walk_ok 18 rfl rfl
    · rw [if_neg c6] at h
      refine rf_f wf0 rc_X9_walk_ok 7 (16, [some (.ref 0), some (.int p0), some (.int p1)], [], σ) rfl rfl c6 rfl ?_
      refine rf_b wf0 rc_X9_walk_ok 8 1 (17, [some (.ref 0), some (.int p0), some (.int p1)], [.int (-1)], σ) rfl ?_
      obtain rfl := Option.some.inj h
      exact rf_ri rc_X9_walk_ok 9 rfl rfl
def rc_X9_refusedDeed : List rf_E := [(0, .aload_n 0, 1, 0), (1, .getfield 33, 3, 903), (4, .invokevirtual 252, 3, 0), (7, .ifCond .eq 6, 3, 13), (10, .bipush (-4), 2, 0), (12, .ireturn, 1, 0), (13, .aload_n 0, 1, 0), (14, .getfield 40, 3, 904), (17, .invokevirtual 220, 3, 0), (20, .iconst 1, 1, 0), (21, .if_icmp .ge 8, 3, 29), (24, .bipush (-2), 2, 0), (26, .goto 4, 3, 30), (29, .iconst 0, 1, 0), (30, .ireturn, 1, 0)]
theorem rc_X9_refusedDeed_ok : rf_rc mX9_refusedDeed rc_X9_refusedDeed = true := by decide +kernel
theorem mw_X9_refusedDeed : rf_mw mX9_refusedDeed := ⟨rf_mt_ok _ (List.mem_of_getElem? (i := 135) rfl), fun h => absurd h (by decide), fun _ => ⟨rf_mi_ok _ (List.mem_of_getElem? (i := 126) rfl), rf_mv_ok _ (List.mem_of_getElem? (i := 126) rfl)⟩, rf_mq_5 _ (List.mem_of_getElem? (i := 10) rfl)⟩
def f_X9_refusedDeed (σ : rf_S) : Option Int32 := (f_X8_isEmpty σ).bind (fun q1 => if q1 = 0 then ((f_X1_left σ).bind (fun q4 => if 1 ≤ q4 then (some 0) else (some (-2)))) else (some (-4)))
set_option maxHeartbeats 2000000 in
theorem ok_X9_refusedDeed (d : Nat) (σ : rf_S) (q : Int32) (h : f_X9_refusedDeed σ = some q) : rf_Ex ly0 (d + 2) mX9_refusedDeed [.ref 0] σ (some (.int q) : Option Value) σ := by
  unfold f_X9_refusedDeed at h
  refine rf_ex mw_X9_refusedDeed [some (.ref 0)] (Nat.le_of_ble_eq_true rfl) rfl ?_
  refine rf_b wf0 rc_X9_refusedDeed_ok 0 2 (4, [some (.ref 0)], [.ref 25], σ) rfl ?_
  obtain ⟨q1, h2, h⟩ := Option.bind_eq_some_iff.mp h
  refine rf_cv1 (Mt := mX8_isEmpty) wf0 rc_X9_refusedDeed_ok 2 false rfl (List.mem_of_getElem? (i := 108) rfl) mw_X8_isEmpty rfl 25 [] [] rfl rfl rfl (Nat.le_of_ble_eq_true rfl) (ok_X8_isEmpty d  σ q1 h2) ?_
  show rf_G _ _ _ (7, [some (.ref 0)], [.int q1], σ) _ _
  by_cases c3 : q1 = 0
  · rw [if_pos c3] at h
    refine rf_t wf0 rc_X9_refusedDeed_ok 3 (13, [some (.ref 0)], [], σ) rfl rfl c3 rfl ?_
    refine rf_b wf0 rc_X9_refusedDeed_ok 6 2 (17, [some (.ref 0)], [.ref 38], σ) rfl ?_
    obtain ⟨q4, h5, h⟩ := Option.bind_eq_some_iff.mp h
    refine rf_cv1 (Mt := mX1_left) wf0 rc_X9_refusedDeed_ok 8 false rfl (List.mem_of_getElem? (i := 100) rfl) mw_X1_left rfl 38 [] [] rfl rfl rfl (Nat.le_of_ble_eq_true rfl) (ok_X1_left d  σ q4 h5) ?_
    show rf_G _ _ _ (20, [some (.ref 0)], [.int q4], σ) _ _
    refine rf_b wf0 rc_X9_refusedDeed_ok 9 1 (21, [some (.ref 0)], [.int 1, .int q4], σ) rfl ?_
    by_cases c6 : 1 ≤ q4
    · rw [if_pos c6] at h
      refine rf_t wf0 rc_X9_refusedDeed_ok 10 (29, [some (.ref 0)], [], σ) rfl rfl c6 rfl ?_
      refine rf_b wf0 rc_X9_refusedDeed_ok 13 1 (30, [some (.ref 0)], [.int 0], σ) rfl ?_
      obtain rfl := Option.some.inj h
      exact rf_ri rc_X9_refusedDeed_ok 14 rfl rfl
    · rw [if_neg c6] at h
      refine rf_f wf0 rc_X9_refusedDeed_ok 10 (24, [some (.ref 0)], [], σ) rfl rfl c6 rfl ?_
      refine rf_b wf0 rc_X9_refusedDeed_ok 11 2 (30, [some (.ref 0)], [.int (-2)], σ) rfl ?_
      obtain rfl := Option.some.inj h
      exact rf_ri rc_X9_refusedDeed_ok 14 rfl rfl
  · rw [if_neg c3] at h
    refine rf_f wf0 rc_X9_refusedDeed_ok 3 (10, [some (.ref 0)], [], σ) rfl rfl c3 rfl ?_
    refine rf_b wf0 rc_X9_refusedDeed_ok 4 1 (12, [some (.ref 0)], [.int (-4)], σ) rfl ?_
    obtain rfl := Option.some.inj h
    exact rf_ri rc_X9_refusedDeed_ok 5 rfl rfl
def rc_X9_hour : List rf_E := [(0, .aload_n 0, 1, 0), (1, .invokevirtual 230, 3, 0), (4, .istore_n 1, 1, 1), (5, .iload_n 1, 1, 1), (6, .ifCond .eq 5, 3, 11), (9, .iload_n 1, 1, 1), (10, .ireturn, 1, 0), (11, .aload_n 0, 1, 0), (12, .getfield 33, 3, 903), (15, .aload_n 0, 1, 0), (16, .getfield 33, 3, 903), (19, .getfield 210, 3, 803), (22, .invokevirtual 233, 3, 0), (25, .istore_n 2, 1, 2), (26, .aload_n 0, 1, 0), (27, .getfield 40, 3, 904), (30, .aload_n 0, 1, 0), (31, .getfield 33, 3, 903), (34, .iconst 1, 1, 0), (35, .iconst 0, 1, 0), (36, .iconst 0, 1, 0), (37, .invokevirtual 223, 3, 0), (40, .iload_n 2, 1, 2), (41, .ireturn, 1, 0)]
theorem rc_X9_hour_ok : rf_rc mX9_hour rc_X9_hour = true := by decide +kernel
theorem mw_X9_hour : rf_mw mX9_hour := ⟨rf_mt_ok _ (List.mem_of_getElem? (i := 89) rfl), fun h => absurd h (by decide), fun _ => ⟨rf_mi_ok _ (List.mem_of_getElem? (i := 84) rfl), rf_mv_ok _ (List.mem_of_getElem? (i := 84) rfl)⟩, rf_mq_3 _ (List.mem_of_getElem? (i := 14) rfl)⟩
def f_X9_hour (σ : rf_S) : Option (Int32 × rf_S) := (f_X9_refusedDeed σ).bind (fun q1 => if q1 = 0 then ((f_X8_catchers 35 σ).bind (fun q4 => (f_X1_carryOut 1 0 0 σ).bind (fun q6 => some (q4, q6)))) else (some (q1, σ)))
set_option maxHeartbeats 2000000 in
theorem ok_X9_hour (d : Nat) (σ : rf_S) (q : (Int32 × rf_S)) (h : f_X9_hour σ = some q) : rf_Ex ly0 (d + 6) mX9_hour [.ref 0] σ (some (.int q.1) : Option Value) q.2 := by
  unfold f_X9_hour at h
  refine rf_ex mw_X9_hour [some (.ref 0), none, none] (Nat.le_of_ble_eq_true rfl) rfl ?_
  refine rf_b wf0 rc_X9_hour_ok 0 1 (1, [some (.ref 0), none, none], [.ref 0], σ) rfl ?_
  obtain ⟨q1, h2, h⟩ := Option.bind_eq_some_iff.mp h
  refine rf_cv1 (Mt := mX9_refusedDeed) wf0 rc_X9_hour_ok 1 false rfl (List.mem_of_getElem? (i := 102) rfl) mw_X9_refusedDeed rfl 0 [] [] rfl rfl rfl (Nat.le_of_ble_eq_true rfl) (ok_X9_refusedDeed (d + 3)  σ q1 h2) ?_
  show rf_G _ _ _ (4, [some (.ref 0), none, none], [.int q1], σ) _ _
  refine rf_b wf0 rc_X9_hour_ok 2 2 (6, [some (.ref 0), some (.int q1), none], [.int q1], σ) rfl ?_
  by_cases c3 : q1 = 0
  · rw [if_pos c3] at h
    refine rf_t wf0 rc_X9_hour_ok 4 (11, [some (.ref 0), some (.int q1), none], [], σ) rfl rfl c3 rfl ?_
    refine rf_b wf0 rc_X9_hour_ok 7 5 (22, [some (.ref 0), some (.int q1), none], [.ref 35, .ref 25], σ) rfl ?_
    obtain ⟨q4, h5, h⟩ := Option.bind_eq_some_iff.mp h
    refine rf_cv1 (Mt := mX8_catchers) wf0 rc_X9_hour_ok 12 false rfl (List.mem_of_getElem? (i := 103) rfl) mw_X8_catchers rfl 25 [.ref 35] [] rfl rfl rfl (Nat.le_of_ble_eq_true rfl) (ok_X8_catchers (d + 3) 35 σ q4 h5) ?_
    show rf_G _ _ _ (25, [some (.ref 0), some (.int q1), none], [.int q4], σ) _ _
    refine rf_b wf0 rc_X9_hour_ok 13 8 (37, [some (.ref 0), some (.int q1), some (.int q4)], [.int 0, .int 0, .int 1, .ref 25, .ref 38], σ) rfl ?_
    obtain ⟨q6, h7, h⟩ := Option.bind_eq_some_iff.mp h
    refine rf_cv1 (Mt := mX1_carryOut) wf0 rc_X9_hour_ok 21 false rfl (List.mem_of_getElem? (i := 101) rfl) mw_X1_carryOut rfl 38 [.ref 25, .int 1, .int 0, .int 0] [] rfl rfl rfl (Nat.le_of_ble_eq_true rfl) (ok_X1_carryOut d 1 0 0 σ q6 h7) ?_
    show rf_G _ _ _ (40, [some (.ref 0), some (.int q1), some (.int q4)], [], q6) _ _
    refine rf_b wf0 rc_X9_hour_ok 22 1 (41, [some (.ref 0), some (.int q1), some (.int q4)], [.int q4], q6) rfl ?_
    obtain rfl := Option.some.inj h
    exact rf_ri rc_X9_hour_ok 23 rfl rfl
  · rw [if_neg c3] at h
    refine rf_f wf0 rc_X9_hour_ok 4 (9, [some (.ref 0), some (.int q1), none], [], σ) rfl rfl c3 rfl ?_
    refine rf_b wf0 rc_X9_hour_ok 5 1 (10, [some (.ref 0), some (.int q1), none], [.int q1], σ) rfl ?_
    obtain rfl := Option.some.inj h
    exact rf_ri rc_X9_hour_ok 6 rfl rfl
def rc_X9_soup : List rf_E := [(0, .aload_n 0, 1, 0), (1, .invokevirtual 230, 3, 0), (4, .istore_n 1, 1, 1), (5, .iload_n 1, 1, 1), (6, .ifCond .eq 5, 3, 11), (9, .iload_n 1, 1, 1), (10, .ireturn, 1, 0), (11, .aload_n 0, 1, 0), (12, .getfield 40, 3, 904), (15, .aload_n 0, 1, 0), (16, .getfield 33, 3, 903), (19, .iconst 2, 1, 0), (20, .iconst 0, 1, 0), (21, .iconst 0, 1, 0), (22, .invokevirtual 223, 3, 0), (25, .aload_n 0, 1, 0), (26, .getfield 33, 3, 903), (29, .invokevirtual 173, 3, 0), (32, .ireturn, 1, 0)]
theorem rc_X9_soup_ok : rf_rc mX9_soup rc_X9_soup = true := by decide +kernel
theorem mw_X9_soup : rf_mw mX9_soup := ⟨rf_mt_ok _ (List.mem_of_getElem? (i := 90) rfl), fun h => absurd h (by decide), fun _ => ⟨rf_mi_ok _ (List.mem_of_getElem? (i := 85) rfl), rf_mv_ok _ (List.mem_of_getElem? (i := 85) rfl)⟩, rf_mq_3 _ (List.mem_of_getElem? (i := 15) rfl)⟩
def f_X9_soup (σ : rf_S) : Option (Int32 × rf_S) := (f_X9_refusedDeed σ).bind (fun q1 => if q1 = 0 then ((f_X1_carryOut 2 0 0 σ).bind (fun q4 => (f_X8_doers q4).bind (fun q6 => some (q6, q4)))) else (some (q1, σ)))
set_option maxHeartbeats 2000000 in
theorem ok_X9_soup (d : Nat) (σ : rf_S) (q : (Int32 × rf_S)) (h : f_X9_soup σ = some q) : rf_Ex ly0 (d + 6) mX9_soup [.ref 0] σ (some (.int q.1) : Option Value) q.2 := by
  unfold f_X9_soup at h
  refine rf_ex mw_X9_soup [some (.ref 0), none] (Nat.le_of_ble_eq_true rfl) rfl ?_
  refine rf_b wf0 rc_X9_soup_ok 0 1 (1, [some (.ref 0), none], [.ref 0], σ) rfl ?_
  obtain ⟨q1, h2, h⟩ := Option.bind_eq_some_iff.mp h
  refine rf_cv1 (Mt := mX9_refusedDeed) wf0 rc_X9_soup_ok 1 false rfl (List.mem_of_getElem? (i := 102) rfl) mw_X9_refusedDeed rfl 0 [] [] rfl rfl rfl (Nat.le_of_ble_eq_true rfl) (ok_X9_refusedDeed (d + 3)  σ q1 h2) ?_
  show rf_G _ _ _ (4, [some (.ref 0), none], [.int q1], σ) _ _
  refine rf_b wf0 rc_X9_soup_ok 2 2 (6, [some (.ref 0), some (.int q1)], [.int q1], σ) rfl ?_
  by_cases c3 : q1 = 0
  · rw [if_pos c3] at h
    refine rf_t wf0 rc_X9_soup_ok 4 (11, [some (.ref 0), some (.int q1)], [], σ) rfl rfl c3 rfl ?_
    refine rf_b wf0 rc_X9_soup_ok 7 7 (22, [some (.ref 0), some (.int q1)], [.int 0, .int 0, .int 2, .ref 25, .ref 38], σ) rfl ?_
    obtain ⟨q4, h5, h⟩ := Option.bind_eq_some_iff.mp h
    refine rf_cv1 (Mt := mX1_carryOut) wf0 rc_X9_soup_ok 14 false rfl (List.mem_of_getElem? (i := 101) rfl) mw_X1_carryOut rfl 38 [.ref 25, .int 2, .int 0, .int 0] [] rfl rfl rfl (Nat.le_of_ble_eq_true rfl) (ok_X1_carryOut d 2 0 0 σ q4 h5) ?_
    show rf_G _ _ _ (25, [some (.ref 0), some (.int q1)], [], q4) _ _
    refine rf_b wf0 rc_X9_soup_ok 15 2 (29, [some (.ref 0), some (.int q1)], [.ref 25], q4) rfl ?_
    obtain ⟨q6, h7, h⟩ := Option.bind_eq_some_iff.mp h
    refine rf_cv1 (Mt := mX8_doers) wf0 rc_X9_soup_ok 17 false rfl (List.mem_of_getElem? (i := 91) rfl) mw_X8_doers rfl 25 [] [] rfl rfl rfl (Nat.le_of_ble_eq_true rfl) (ok_X8_doers d  q4 q6 h7) ?_
    show rf_G _ _ _ (32, [some (.ref 0), some (.int q1)], [.int q6], q4) _ _
    obtain rfl := Option.some.inj h
    exact rf_ri rc_X9_soup_ok 18 rfl rfl
  · rw [if_neg c3] at h
    refine rf_f wf0 rc_X9_soup_ok 4 (9, [some (.ref 0), some (.int q1)], [], σ) rfl rfl c3 rfl ?_
    refine rf_b wf0 rc_X9_soup_ok 5 1 (10, [some (.ref 0), some (.int q1)], [.int q1], σ) rfl ?_
    obtain rfl := Option.some.inj h
    exact rf_ri rc_X9_soup_ok 6 rfl rfl
def rc_X9_cold : List rf_E := [(0, .aload_n 0, 1, 0), (1, .iload_n 1, 1, 1), (2, .invokevirtual 155, 3, 0), (5, .ifCond .ne 5, 3, 10), (8, .iconst (-1), 1, 0), (9, .ireturn, 1, 0), (10, .aload_n 0, 1, 0), (11, .getfield 33, 3, 903), (14, .getfield 210, 3, 803), (17, .iload_n 1, 1, 1), (18, .iaload, 1, 0), (19, .ifCond .le 6, 3, 25), (22, .bipush (-4), 2, 0), (24, .ireturn, 1, 0), (25, .aload_n 0, 1, 0), (26, .getfield 40, 3, 904), (29, .invokevirtual 220, 3, 0), (32, .iconst 1, 1, 0), (33, .if_icmp .ge 6, 3, 39), (36, .bipush (-2), 2, 0), (38, .ireturn, 1, 0), (39, .aload_n 0, 1, 0), (40, .getfield 40, 3, 904), (43, .aload_n 0, 1, 0), (44, .getfield 33, 3, 903), (47, .iconst 3, 1, 0), (48, .iload_n 1, 1, 1), (49, .iconst 0, 1, 0), (50, .invokevirtual 223, 3, 0), (53, .aload_n 0, 1, 0), (54, .getfield 33, 3, 903), (57, .getfield 210, 3, 803), (60, .invokestatic 213, 3, 0), (63, .invokestatic 185, 3, 0), (66, .ireturn, 1, 0)]
theorem rc_X9_cold_ok : rf_rc mX9_cold rc_X9_cold = true := by decide +kernel
theorem mw_X9_cold : rf_mw mX9_cold := ⟨rf_mt_ok _ (List.mem_of_getElem? (i := 91) rfl), fun h => absurd h (by decide), fun _ => ⟨rf_mi_ok _ (List.mem_of_getElem? (i := 86) rfl), rf_mv_ok _ (List.mem_of_getElem? (i := 86) rfl)⟩, rf_mq_3 _ (List.mem_of_getElem? (i := 16) rfl)⟩
def f_X9_cold (p0 : Int32) (σ : rf_S) : Option (Int32 × rf_S) := (f_X9_isMember p0 σ).bind (fun q1 => if q1 ≠ 0 then (if rf_ck ly0 0 35 p0 = true then (if (σ.1 35 p0.toNatClampNeg) ≤ 0 then ((f_X1_left σ).bind (fun q6 => if 1 ≤ q6 then ((f_X1_carryOut 3 p0 0 σ).bind (fun q9 => (f_X9_sick 35 q9).bind (fun q11 => (f_J_bitCount q11 q9).bind (fun q13 => some (q13, q9))))) else (some ((-2), σ)))) else (some ((-4), σ))) else none) else (some ((-1), σ)))
set_option maxHeartbeats 2000000 in
theorem ok_X9_cold (d : Nat) (p0 : Int32) (σ : rf_S) (q : (Int32 × rf_S)) (h : f_X9_cold p0 σ = some q) : rf_Ex ly0 (d + 6) mX9_cold [.ref 0, .int p0] σ (some (.int q.1) : Option Value) q.2 := by
  unfold f_X9_cold at h
  refine rf_ex mw_X9_cold [some (.ref 0), some (.int p0)] (Nat.le_of_ble_eq_true rfl) rfl ?_
  refine rf_b wf0 rc_X9_cold_ok 0 2 (2, [some (.ref 0), some (.int p0)], [.int p0, .ref 0], σ) rfl ?_
  obtain ⟨q1, h2, h⟩ := Option.bind_eq_some_iff.mp h
  refine rf_cv1 (Mt := mX9_isMember) wf0 rc_X9_cold_ok 2 false rfl (List.mem_of_getElem? (i := 86) rfl) mw_X9_isMember rfl 0 [.int p0] [] rfl rfl rfl (Nat.le_of_ble_eq_true rfl) (ok_X9_isMember (d + 3) p0 σ q1 h2) ?_
  show rf_G _ _ _ (5, [some (.ref 0), some (.int p0)], [.int q1], σ) _ _
  by_cases c3 : q1 ≠ 0
  · rw [if_pos c3] at h
    refine rf_t wf0 rc_X9_cold_ok 3 (10, [some (.ref 0), some (.int p0)], [], σ) rfl rfl c3 rfl ?_
    refine rf_b wf0 rc_X9_cold_ok 6 4 (18, [some (.ref 0), some (.int p0)], [.int p0, .ref 35], σ) rfl ?_
    obtain ⟨g4, h⟩ := rf_ifn h
    refine rf_gd wf0 rc_X9_cold_ok 10 (19, [some (.ref 0), some (.int p0)], [.int (σ.1 35 p0.toNatClampNeg)], σ) rfl rfl g4 rfl ?_
    by_cases c5 : (σ.1 35 p0.toNatClampNeg) ≤ 0
    · rw [if_pos c5] at h
      refine rf_t wf0 rc_X9_cold_ok 11 (25, [some (.ref 0), some (.int p0)], [], σ) rfl rfl c5 rfl ?_
      refine rf_b wf0 rc_X9_cold_ok 14 2 (29, [some (.ref 0), some (.int p0)], [.ref 38], σ) rfl ?_
      obtain ⟨q6, h7, h⟩ := Option.bind_eq_some_iff.mp h
      refine rf_cv1 (Mt := mX1_left) wf0 rc_X9_cold_ok 16 false rfl (List.mem_of_getElem? (i := 100) rfl) mw_X1_left rfl 38 [] [] rfl rfl rfl (Nat.le_of_ble_eq_true rfl) (ok_X1_left (d + 4)  σ q6 h7) ?_
      show rf_G _ _ _ (32, [some (.ref 0), some (.int p0)], [.int q6], σ) _ _
      refine rf_b wf0 rc_X9_cold_ok 17 1 (33, [some (.ref 0), some (.int p0)], [.int 1, .int q6], σ) rfl ?_
      by_cases c8 : 1 ≤ q6
      · rw [if_pos c8] at h
        refine rf_t wf0 rc_X9_cold_ok 18 (39, [some (.ref 0), some (.int p0)], [], σ) rfl rfl c8 rfl ?_
        refine rf_b wf0 rc_X9_cold_ok 21 7 (50, [some (.ref 0), some (.int p0)], [.int 0, .int p0, .int 3, .ref 25, .ref 38], σ) rfl ?_
        obtain ⟨q9, h10, h⟩ := Option.bind_eq_some_iff.mp h
        refine rf_cv1 (Mt := mX1_carryOut) wf0 rc_X9_cold_ok 28 false rfl (List.mem_of_getElem? (i := 101) rfl) mw_X1_carryOut rfl 38 [.ref 25, .int 3, .int p0, .int 0] [] rfl rfl rfl (Nat.le_of_ble_eq_true rfl) (ok_X1_carryOut d 3 p0 0 σ q9 h10) ?_
        show rf_G _ _ _ (53, [some (.ref 0), some (.int p0)], [], q9) _ _
        refine rf_b wf0 rc_X9_cold_ok 29 3 (60, [some (.ref 0), some (.int p0)], [.ref 35], q9) rfl ?_
        obtain ⟨q11, h12, h⟩ := Option.bind_eq_some_iff.mp h
        refine rf_cs1 (Mt := mX9_sick) rc_X9_cold_ok 32 false rfl (List.mem_of_getElem? (i := 99) rfl) mw_X9_sick rfl [.ref 35] [] rfl rfl (Nat.le_of_ble_eq_true rfl) (ok_X9_sick (d + 4) 35 q9 q11 h12) ?_
        show rf_G _ _ _ (63, [some (.ref 0), some (.int p0)], [.int q11], q9) _ _
        obtain ⟨q13, h14, h⟩ := Option.bind_eq_some_iff.mp h
        refine rf_cs1 (Mt := mJ6_bitCount_0f7a4) rc_X9_cold_ok 33 false rfl (List.mem_of_getElem? (i := 95) rfl) mw_J_bitCount rfl [.int q11] [] rfl rfl (Nat.le_of_ble_eq_true rfl) (ok_J_bitCount (d + 4) q11 q9 q13 h14) ?_
        show rf_G _ _ _ (66, [some (.ref 0), some (.int p0)], [.int q13], q9) _ _
        obtain rfl := Option.some.inj h
        exact rf_ri rc_X9_cold_ok 34 rfl rfl
      · rw [if_neg c8] at h
        refine rf_f wf0 rc_X9_cold_ok 18 (36, [some (.ref 0), some (.int p0)], [], σ) rfl rfl c8 rfl ?_
        refine rf_b wf0 rc_X9_cold_ok 19 1 (38, [some (.ref 0), some (.int p0)], [.int (-2)], σ) rfl ?_
        obtain rfl := Option.some.inj h
        exact rf_ri rc_X9_cold_ok 20 rfl rfl
    · rw [if_neg c5] at h
      refine rf_f wf0 rc_X9_cold_ok 11 (22, [some (.ref 0), some (.int p0)], [], σ) rfl rfl c5 rfl ?_
      refine rf_b wf0 rc_X9_cold_ok 12 1 (24, [some (.ref 0), some (.int p0)], [.int (-4)], σ) rfl ?_
      obtain rfl := Option.some.inj h
      exact rf_ri rc_X9_cold_ok 13 rfl rfl
  · rw [if_neg c3] at h
    refine rf_f wf0 rc_X9_cold_ok 3 (8, [some (.ref 0), some (.int p0)], [], σ) rfl rfl c3 rfl ?_
    refine rf_b wf0 rc_X9_cold_ok 4 1 (9, [some (.ref 0), some (.int p0)], [.int (-1)], σ) rfl ?_
    obtain rfl := Option.some.inj h
    exact rf_ri rc_X9_cold_ok 5 rfl rfl
def rc_X9_love : List rf_E := [(0, .aload_n 0, 1, 0), (1, .iload_n 1, 1, 1), (2, .invokevirtual 155, 3, 0), (5, .ifCond .eq 14, 3, 19), (8, .iload_n 2, 1, 2), (9, .bipush (-5), 2, 0), (11, .if_icmp .lt 8, 3, 19), (14, .iload_n 2, 1, 2), (15, .iconst 5, 1, 0), (16, .if_icmp .le 5, 3, 21), (19, .iconst (-1), 1, 0), (20, .ireturn, 1, 0), (21, .aload_n 0, 1, 0), (22, .getfield 33, 3, 903), (25, .getfield 199, 3, 804), (28, .iload_n 1, 1, 1), (29, .iaload, 1, 0), (30, .iload_n 2, 1, 2), (31, .if_icmp .ne 6, 3, 37), (34, .bipush (-4), 2, 0), (36, .ireturn, 1, 0), (37, .aload_n 0, 1, 0), (38, .getfield 40, 3, 904), (41, .invokevirtual 220, 3, 0), (44, .iconst 1, 1, 0), (45, .if_icmp .ge 6, 3, 51), (48, .bipush (-2), 2, 0), (50, .ireturn, 1, 0), (51, .aload_n 0, 1, 0), (52, .getfield 40, 3, 904), (55, .aload_n 0, 1, 0), (56, .getfield 33, 3, 903), (59, .iconst 4, 1, 0), (60, .iload_n 1, 1, 1), (61, .iload_n 2, 1, 2), (62, .invokevirtual 223, 3, 0), (65, .aload_n 0, 1, 0), (66, .getfield 33, 3, 903), (69, .iload_n 1, 1, 1), (70, .invokevirtual 236, 3, 0), (73, .ireturn, 1, 0)]
theorem rc_X9_love_ok : rf_rc mX9_love rc_X9_love = true := by decide +kernel
theorem mw_X9_love : rf_mw mX9_love := ⟨rf_mt_ok _ (List.mem_of_getElem? (i := 92) rfl), fun h => absurd h (by decide), fun _ => ⟨rf_mi_ok _ (List.mem_of_getElem? (i := 87) rfl), rf_mv_ok _ (List.mem_of_getElem? (i := 87) rfl)⟩, rf_mq_3 _ (List.mem_of_getElem? (i := 17) rfl)⟩
def f_X9_love (p0 : Int32) (p1 : Int32) (σ : rf_S) : Option (Int32 × rf_S) := (f_X9_isMember p0 σ).bind (fun q1 => if q1 = 0 then (some ((-1), σ)) else (if p1 < (-5) then (some ((-1), σ)) else (if p1 ≤ 5 then (if rf_ck ly0 0 36 p0 = true then (if (σ.1 36 p0.toNatClampNeg) ≠ p1 then ((f_X1_left σ).bind (fun q8 => if 1 ≤ q8 then ((f_X1_carryOut 4 p0 p1 σ).bind (fun q11 => (f_X8_doesNow p0 q11).bind (fun q13 => some (q13, q11)))) else (some ((-2), σ)))) else (some ((-4), σ))) else none) else (some ((-1), σ)))))
set_option maxHeartbeats 2000000 in
theorem ok_X9_love (d : Nat) (p0 : Int32) (p1 : Int32) (σ : rf_S) (q : (Int32 × rf_S)) (h : f_X9_love p0 p1 σ = some q) : rf_Ex ly0 (d + 6) mX9_love [.ref 0, .int p0, .int p1] σ (some (.int q.1) : Option Value) q.2 := by
  unfold f_X9_love at h
  refine rf_ex mw_X9_love [some (.ref 0), some (.int p0), some (.int p1)] (Nat.le_of_ble_eq_true rfl) rfl ?_
  refine rf_b wf0 rc_X9_love_ok 0 2 (2, [some (.ref 0), some (.int p0), some (.int p1)], [.int p0, .ref 0], σ) rfl ?_
  obtain ⟨q1, h2, h⟩ := Option.bind_eq_some_iff.mp h
  refine rf_cv1 (Mt := mX9_isMember) wf0 rc_X9_love_ok 2 false rfl (List.mem_of_getElem? (i := 86) rfl) mw_X9_isMember rfl 0 [.int p0] [] rfl rfl rfl (Nat.le_of_ble_eq_true rfl) (ok_X9_isMember (d + 3) p0 σ q1 h2) ?_
  show rf_G _ _ _ (5, [some (.ref 0), some (.int p0), some (.int p1)], [.int q1], σ) _ _
  by_cases c3 : q1 = 0
  · rw [if_pos c3] at h
    refine rf_t wf0 rc_X9_love_ok 3 (19, [some (.ref 0), some (.int p0), some (.int p1)], [], σ) rfl rfl c3 rfl ?_
    refine rf_b wf0 rc_X9_love_ok 10 1 (20, [some (.ref 0), some (.int p0), some (.int p1)], [.int (-1)], σ) rfl ?_
    obtain rfl := Option.some.inj h
    exact rf_ri rc_X9_love_ok 11 rfl rfl
  · rw [if_neg c3] at h
    refine rf_f wf0 rc_X9_love_ok 3 (8, [some (.ref 0), some (.int p0), some (.int p1)], [], σ) rfl rfl c3 rfl ?_
    refine rf_b wf0 rc_X9_love_ok 4 2 (11, [some (.ref 0), some (.int p0), some (.int p1)], [.int (-5), .int p1], σ) rfl ?_
    by_cases c4 : p1 < (-5)
    · rw [if_pos c4] at h
      refine rf_t wf0 rc_X9_love_ok 6 (19, [some (.ref 0), some (.int p0), some (.int p1)], [], σ) rfl rfl c4 rfl ?_
      refine rf_b wf0 rc_X9_love_ok 10 1 (20, [some (.ref 0), some (.int p0), some (.int p1)], [.int (-1)], σ) rfl ?_
      obtain rfl := Option.some.inj h
      exact rf_ri rc_X9_love_ok 11 rfl rfl
    · rw [if_neg c4] at h
      refine rf_f wf0 rc_X9_love_ok 6 (14, [some (.ref 0), some (.int p0), some (.int p1)], [], σ) rfl rfl c4 rfl ?_
      refine rf_b wf0 rc_X9_love_ok 7 2 (16, [some (.ref 0), some (.int p0), some (.int p1)], [.int 5, .int p1], σ) rfl ?_
      by_cases c5 : p1 ≤ 5
      · rw [if_pos c5] at h
        refine rf_t wf0 rc_X9_love_ok 9 (21, [some (.ref 0), some (.int p0), some (.int p1)], [], σ) rfl rfl c5 rfl ?_
        refine rf_b wf0 rc_X9_love_ok 12 4 (29, [some (.ref 0), some (.int p0), some (.int p1)], [.int p0, .ref 36], σ) rfl ?_
        obtain ⟨g6, h⟩ := rf_ifn h
        refine rf_gd wf0 rc_X9_love_ok 16 (30, [some (.ref 0), some (.int p0), some (.int p1)], [.int (σ.1 36 p0.toNatClampNeg)], σ) rfl rfl g6 rfl ?_
        refine rf_b wf0 rc_X9_love_ok 17 1 (31, [some (.ref 0), some (.int p0), some (.int p1)], [.int p1, .int (σ.1 36 p0.toNatClampNeg)], σ) rfl ?_
        by_cases c7 : (σ.1 36 p0.toNatClampNeg) ≠ p1
        · rw [if_pos c7] at h
          refine rf_t wf0 rc_X9_love_ok 18 (37, [some (.ref 0), some (.int p0), some (.int p1)], [], σ) rfl rfl c7 rfl ?_
          refine rf_b wf0 rc_X9_love_ok 21 2 (41, [some (.ref 0), some (.int p0), some (.int p1)], [.ref 38], σ) rfl ?_
          obtain ⟨q8, h9, h⟩ := Option.bind_eq_some_iff.mp h
          refine rf_cv1 (Mt := mX1_left) wf0 rc_X9_love_ok 23 false rfl (List.mem_of_getElem? (i := 100) rfl) mw_X1_left rfl 38 [] [] rfl rfl rfl (Nat.le_of_ble_eq_true rfl) (ok_X1_left (d + 4)  σ q8 h9) ?_
          show rf_G _ _ _ (44, [some (.ref 0), some (.int p0), some (.int p1)], [.int q8], σ) _ _
          refine rf_b wf0 rc_X9_love_ok 24 1 (45, [some (.ref 0), some (.int p0), some (.int p1)], [.int 1, .int q8], σ) rfl ?_
          by_cases c10 : 1 ≤ q8
          · rw [if_pos c10] at h
            refine rf_t wf0 rc_X9_love_ok 25 (51, [some (.ref 0), some (.int p0), some (.int p1)], [], σ) rfl rfl c10 rfl ?_
            refine rf_b wf0 rc_X9_love_ok 28 7 (62, [some (.ref 0), some (.int p0), some (.int p1)], [.int p1, .int p0, .int 4, .ref 25, .ref 38], σ) rfl ?_
            obtain ⟨q11, h12, h⟩ := Option.bind_eq_some_iff.mp h
            refine rf_cv1 (Mt := mX1_carryOut) wf0 rc_X9_love_ok 35 false rfl (List.mem_of_getElem? (i := 101) rfl) mw_X1_carryOut rfl 38 [.ref 25, .int 4, .int p0, .int p1] [] rfl rfl rfl (Nat.le_of_ble_eq_true rfl) (ok_X1_carryOut d 4 p0 p1 σ q11 h12) ?_
            show rf_G _ _ _ (65, [some (.ref 0), some (.int p0), some (.int p1)], [], q11) _ _
            refine rf_b wf0 rc_X9_love_ok 36 3 (70, [some (.ref 0), some (.int p0), some (.int p1)], [.int p0, .ref 25], q11) rfl ?_
            obtain ⟨q13, h14, h⟩ := Option.bind_eq_some_iff.mp h
            refine rf_cv1 (Mt := mX8_doesNow) wf0 rc_X9_love_ok 39 false rfl (List.mem_of_getElem? (i := 104) rfl) mw_X8_doesNow rfl 25 [.int p0] [] rfl rfl rfl (Nat.le_of_ble_eq_true rfl) (ok_X8_doesNow (d + 1) p0 q11 q13 h14) ?_
            show rf_G _ _ _ (73, [some (.ref 0), some (.int p0), some (.int p1)], [.int q13], q11) _ _
            obtain rfl := Option.some.inj h
            exact rf_ri rc_X9_love_ok 40 rfl rfl
          · rw [if_neg c10] at h
            refine rf_f wf0 rc_X9_love_ok 25 (48, [some (.ref 0), some (.int p0), some (.int p1)], [], σ) rfl rfl c10 rfl ?_
            refine rf_b wf0 rc_X9_love_ok 26 1 (50, [some (.ref 0), some (.int p0), some (.int p1)], [.int (-2)], σ) rfl ?_
            obtain rfl := Option.some.inj h
            exact rf_ri rc_X9_love_ok 27 rfl rfl
        · rw [if_neg c7] at h
          refine rf_f wf0 rc_X9_love_ok 18 (34, [some (.ref 0), some (.int p0), some (.int p1)], [], σ) rfl rfl c7 rfl ?_
          refine rf_b wf0 rc_X9_love_ok 19 1 (36, [some (.ref 0), some (.int p0), some (.int p1)], [.int (-4)], σ) rfl ?_
          obtain rfl := Option.some.inj h
          exact rf_ri rc_X9_love_ok 20 rfl rfl
      · rw [if_neg c5] at h
        refine rf_f wf0 rc_X9_love_ok 9 (19, [some (.ref 0), some (.int p0), some (.int p1)], [], σ) rfl rfl c5 rfl ?_
        refine rf_b wf0 rc_X9_love_ok 10 1 (20, [some (.ref 0), some (.int p0), some (.int p1)], [.int (-1)], σ) rfl ?_
        obtain rfl := Option.some.inj h
        exact rf_ri rc_X9_love_ok 11 rfl rfl
def rc_X9_isDegree : List rf_E := [(0, .iload_n 0, 1, 0), (1, .ifCond .lt 13, 3, 14), (4, .iload_n 0, 1, 0), (5, .bipush 30, 2, 0), (7, .if_icmp .gt 7, 3, 14), (10, .iconst 1, 1, 0), (11, .goto 4, 3, 15), (14, .iconst 0, 1, 0), (15, .ireturn, 1, 0)]
theorem rc_X9_isDegree_ok : rf_rc mX9_isDegree rc_X9_isDegree = true := by decide +kernel
theorem mw_X9_isDegree : rf_mw mX9_isDegree := ⟨rf_mt_ok _ (List.mem_of_getElem? (i := 128) rfl), fun _ => rf_ms_ok _ (List.mem_of_getElem? (i := 8) rfl), fun h => absurd h (by decide), rf_mq_5 _ (List.mem_of_getElem? (i := 3) rfl)⟩
def f_X9_isDegree (p0 : Int32) (σ : rf_S) : Option Int32 := if p0 < 0 then (some 0) else (if 30 < p0 then (some 0) else (some 1))
set_option maxHeartbeats 2000000 in
theorem ok_X9_isDegree (d : Nat) (p0 : Int32) (σ : rf_S) (q : Int32) (h : f_X9_isDegree p0 σ = some q) : rf_Ex ly0 (d + 1) mX9_isDegree [.int p0] σ (some (.int q) : Option Value) σ := by
  unfold f_X9_isDegree at h
  refine rf_ex mw_X9_isDegree [some (.int p0)] (Nat.le_of_ble_eq_true rfl) rfl ?_
  refine rf_b wf0 rc_X9_isDegree_ok 0 1 (1, [some (.int p0)], [.int p0], σ) rfl ?_
  by_cases c1 : p0 < 0
  · rw [if_pos c1] at h
    refine rf_t wf0 rc_X9_isDegree_ok 1 (14, [some (.int p0)], [], σ) rfl rfl c1 rfl ?_
    refine rf_b wf0 rc_X9_isDegree_ok 7 1 (15, [some (.int p0)], [.int 0], σ) rfl ?_
    obtain rfl := Option.some.inj h
    exact rf_rz rc_X9_isDegree_ok 8 rfl rfl (by decide)
  · rw [if_neg c1] at h
    refine rf_f wf0 rc_X9_isDegree_ok 1 (4, [some (.int p0)], [], σ) rfl rfl c1 rfl ?_
    refine rf_b wf0 rc_X9_isDegree_ok 2 2 (7, [some (.int p0)], [.int 30, .int p0], σ) rfl ?_
    by_cases c2 : 30 < p0
    · rw [if_pos c2] at h
      refine rf_t wf0 rc_X9_isDegree_ok 4 (14, [some (.int p0)], [], σ) rfl rfl c2 rfl ?_
      refine rf_b wf0 rc_X9_isDegree_ok 7 1 (15, [some (.int p0)], [.int 0], σ) rfl ?_
      obtain rfl := Option.some.inj h
      exact rf_rz rc_X9_isDegree_ok 8 rfl rfl (by decide)
    · rw [if_neg c2] at h
      refine rf_f wf0 rc_X9_isDegree_ok 4 (10, [some (.int p0)], [], σ) rfl rfl c2 rfl ?_
      refine rf_b wf0 rc_X9_isDegree_ok 5 2 (15, [some (.int p0)], [.int 1], σ) rfl ?_
      obtain rfl := Option.some.inj h
      exact rf_rz rc_X9_isDegree_ok 8 rfl rfl (by decide)
def rc_X9_fire : List rf_E := [(0, .aload_n 0, 1, 0), (1, .iload_n 1, 1, 1), (2, .invokevirtual 161, 3, 0), (5, .ifCond .eq 10, 3, 15), (8, .iload_n 2, 1, 2), (9, .invokestatic 239, 3, 0), (12, .ifCond .ne 5, 3, 17), (15, .iconst (-1), 1, 0), (16, .ireturn, 1, 0), (17, .aload_n 0, 1, 0), (18, .getfield 33, 3, 903), (21, .getfield 164, 3, 801), (24, .iload_n 1, 1, 1), (25, .iaload, 1, 0), (26, .istore_n 3, 1, 3), (27, .iload_n 3, 1, 3), (28, .iload_n 2, 1, 2), (29, .if_icmp .ne 6, 3, 35), (32, .bipush (-4), 2, 0), (34, .ireturn, 1, 0), (35, .aload_n 0, 1, 0), (36, .getfield 40, 3, 904), (39, .invokevirtual 220, 3, 0), (42, .iconst 1, 1, 0), (43, .if_icmp .ge 6, 3, 49), (46, .bipush (-2), 2, 0), (48, .ireturn, 1, 0), (49, .aload_n 0, 1, 0), (50, .getfield 40, 3, 904), (53, .aload_n 0, 1, 0), (54, .getfield 33, 3, 903), (57, .iconst 5, 1, 0), (58, .iload_n 1, 1, 1), (59, .iload_n 2, 1, 2), (60, .invokevirtual 223, 3, 0), (63, .iload_n 3, 1, 3), (64, .ireturn, 1, 0)]
theorem rc_X9_fire_ok : rf_rc mX9_fire rc_X9_fire = true := by decide +kernel
theorem mw_X9_fire : rf_mw mX9_fire := ⟨rf_mt_ok _ (List.mem_of_getElem? (i := 93) rfl), fun h => absurd h (by decide), fun _ => ⟨rf_mi_ok _ (List.mem_of_getElem? (i := 88) rfl), rf_mv_ok _ (List.mem_of_getElem? (i := 88) rfl)⟩, rf_mq_3 _ (List.mem_of_getElem? (i := 18) rfl)⟩
def f_X9_fire (p0 : Int32) (p1 : Int32) (σ : rf_S) : Option (Int32 × rf_S) := (f_X9_isRoom p0 σ).bind (fun q1 => if q1 = 0 then (some ((-1), σ)) else ((f_X9_isDegree p1 σ).bind (fun q4 => if q4 ≠ 0 then (if rf_ck ly0 0 33 p0 = true then (if (σ.1 33 p0.toNatClampNeg) ≠ p1 then ((f_X1_left σ).bind (fun q9 => if 1 ≤ q9 then ((f_X1_carryOut 5 p0 p1 σ).bind (fun q12 => some ((σ.1 33 p0.toNatClampNeg), q12))) else (some ((-2), σ)))) else (some ((-4), σ))) else none) else (some ((-1), σ)))))
set_option maxHeartbeats 2000000 in
theorem ok_X9_fire (d : Nat) (p0 : Int32) (p1 : Int32) (σ : rf_S) (q : (Int32 × rf_S)) (h : f_X9_fire p0 p1 σ = some q) : rf_Ex ly0 (d + 6) mX9_fire [.ref 0, .int p0, .int p1] σ (some (.int q.1) : Option Value) q.2 := by
  unfold f_X9_fire at h
  refine rf_ex mw_X9_fire [some (.ref 0), some (.int p0), some (.int p1), none] (Nat.le_of_ble_eq_true rfl) rfl ?_
  refine rf_b wf0 rc_X9_fire_ok 0 2 (2, [some (.ref 0), some (.int p0), some (.int p1), none], [.int p0, .ref 0], σ) rfl ?_
  obtain ⟨q1, h2, h⟩ := Option.bind_eq_some_iff.mp h
  refine rf_cv1 (Mt := mX9_isRoom) wf0 rc_X9_fire_ok 2 false rfl (List.mem_of_getElem? (i := 88) rfl) mw_X9_isRoom rfl 0 [.int p0] [] rfl rfl rfl (Nat.le_of_ble_eq_true rfl) (ok_X9_isRoom (d + 3) p0 σ q1 h2) ?_
  show rf_G _ _ _ (5, [some (.ref 0), some (.int p0), some (.int p1), none], [.int q1], σ) _ _
  by_cases c3 : q1 = 0
  · rw [if_pos c3] at h
    refine rf_t wf0 rc_X9_fire_ok 3 (15, [some (.ref 0), some (.int p0), some (.int p1), none], [], σ) rfl rfl c3 rfl ?_
    refine rf_b wf0 rc_X9_fire_ok 7 1 (16, [some (.ref 0), some (.int p0), some (.int p1), none], [.int (-1)], σ) rfl ?_
    obtain rfl := Option.some.inj h
    exact rf_ri rc_X9_fire_ok 8 rfl rfl
  · rw [if_neg c3] at h
    refine rf_f wf0 rc_X9_fire_ok 3 (8, [some (.ref 0), some (.int p0), some (.int p1), none], [], σ) rfl rfl c3 rfl ?_
    refine rf_b wf0 rc_X9_fire_ok 4 1 (9, [some (.ref 0), some (.int p0), some (.int p1), none], [.int p1], σ) rfl ?_
    obtain ⟨q4, h5, h⟩ := Option.bind_eq_some_iff.mp h
    refine rf_cs1 (Mt := mX9_isDegree) rc_X9_fire_ok 5 false rfl (List.mem_of_getElem? (i := 105) rfl) mw_X9_isDegree rfl [.int p1] [] rfl rfl (Nat.le_of_ble_eq_true rfl) (ok_X9_isDegree (d + 4) p1 σ q4 h5) ?_
    show rf_G _ _ _ (12, [some (.ref 0), some (.int p0), some (.int p1), none], [.int q4], σ) _ _
    by_cases c6 : q4 ≠ 0
    · rw [if_pos c6] at h
      refine rf_t wf0 rc_X9_fire_ok 6 (17, [some (.ref 0), some (.int p0), some (.int p1), none], [], σ) rfl rfl c6 rfl ?_
      refine rf_b wf0 rc_X9_fire_ok 9 4 (25, [some (.ref 0), some (.int p0), some (.int p1), none], [.int p0, .ref 33], σ) rfl ?_
      obtain ⟨g7, h⟩ := rf_ifn h
      refine rf_gd wf0 rc_X9_fire_ok 13 (26, [some (.ref 0), some (.int p0), some (.int p1), none], [.int (σ.1 33 p0.toNatClampNeg)], σ) rfl rfl g7 rfl ?_
      refine rf_b wf0 rc_X9_fire_ok 14 3 (29, [some (.ref 0), some (.int p0), some (.int p1), some (.int (σ.1 33 p0.toNatClampNeg))], [.int p1, .int (σ.1 33 p0.toNatClampNeg)], σ) rfl ?_
      by_cases c8 : (σ.1 33 p0.toNatClampNeg) ≠ p1
      · rw [if_pos c8] at h
        refine rf_t wf0 rc_X9_fire_ok 17 (35, [some (.ref 0), some (.int p0), some (.int p1), some (.int (σ.1 33 p0.toNatClampNeg))], [], σ) rfl rfl c8 rfl ?_
        refine rf_b wf0 rc_X9_fire_ok 20 2 (39, [some (.ref 0), some (.int p0), some (.int p1), some (.int (σ.1 33 p0.toNatClampNeg))], [.ref 38], σ) rfl ?_
        obtain ⟨q9, h10, h⟩ := Option.bind_eq_some_iff.mp h
        refine rf_cv1 (Mt := mX1_left) wf0 rc_X9_fire_ok 22 false rfl (List.mem_of_getElem? (i := 100) rfl) mw_X1_left rfl 38 [] [] rfl rfl rfl (Nat.le_of_ble_eq_true rfl) (ok_X1_left (d + 4)  σ q9 h10) ?_
        show rf_G _ _ _ (42, [some (.ref 0), some (.int p0), some (.int p1), some (.int (σ.1 33 p0.toNatClampNeg))], [.int q9], σ) _ _
        refine rf_b wf0 rc_X9_fire_ok 23 1 (43, [some (.ref 0), some (.int p0), some (.int p1), some (.int (σ.1 33 p0.toNatClampNeg))], [.int 1, .int q9], σ) rfl ?_
        by_cases c11 : 1 ≤ q9
        · rw [if_pos c11] at h
          refine rf_t wf0 rc_X9_fire_ok 24 (49, [some (.ref 0), some (.int p0), some (.int p1), some (.int (σ.1 33 p0.toNatClampNeg))], [], σ) rfl rfl c11 rfl ?_
          refine rf_b wf0 rc_X9_fire_ok 27 7 (60, [some (.ref 0), some (.int p0), some (.int p1), some (.int (σ.1 33 p0.toNatClampNeg))], [.int p1, .int p0, .int 5, .ref 25, .ref 38], σ) rfl ?_
          obtain ⟨q12, h13, h⟩ := Option.bind_eq_some_iff.mp h
          refine rf_cv1 (Mt := mX1_carryOut) wf0 rc_X9_fire_ok 34 false rfl (List.mem_of_getElem? (i := 101) rfl) mw_X1_carryOut rfl 38 [.ref 25, .int 5, .int p0, .int p1] [] rfl rfl rfl (Nat.le_of_ble_eq_true rfl) (ok_X1_carryOut d 5 p0 p1 σ q12 h13) ?_
          show rf_G _ _ _ (63, [some (.ref 0), some (.int p0), some (.int p1), some (.int (σ.1 33 p0.toNatClampNeg))], [], q12) _ _
          refine rf_b wf0 rc_X9_fire_ok 35 1 (64, [some (.ref 0), some (.int p0), some (.int p1), some (.int (σ.1 33 p0.toNatClampNeg))], [.int (σ.1 33 p0.toNatClampNeg)], q12) rfl ?_
          obtain rfl := Option.some.inj h
          exact rf_ri rc_X9_fire_ok 36 rfl rfl
        · rw [if_neg c11] at h
          refine rf_f wf0 rc_X9_fire_ok 24 (46, [some (.ref 0), some (.int p0), some (.int p1), some (.int (σ.1 33 p0.toNatClampNeg))], [], σ) rfl rfl c11 rfl ?_
          refine rf_b wf0 rc_X9_fire_ok 25 1 (48, [some (.ref 0), some (.int p0), some (.int p1), some (.int (σ.1 33 p0.toNatClampNeg))], [.int (-2)], σ) rfl ?_
          obtain rfl := Option.some.inj h
          exact rf_ri rc_X9_fire_ok 26 rfl rfl
      · rw [if_neg c8] at h
        refine rf_f wf0 rc_X9_fire_ok 17 (32, [some (.ref 0), some (.int p0), some (.int p1), some (.int (σ.1 33 p0.toNatClampNeg))], [], σ) rfl rfl c8 rfl ?_
        refine rf_b wf0 rc_X9_fire_ok 18 1 (34, [some (.ref 0), some (.int p0), some (.int p1), some (.int (σ.1 33 p0.toNatClampNeg))], [.int (-4)], σ) rfl ?_
        obtain rfl := Option.some.inj h
        exact rf_ri rc_X9_fire_ok 19 rfl rfl
    · rw [if_neg c6] at h
      refine rf_f wf0 rc_X9_fire_ok 6 (15, [some (.ref 0), some (.int p0), some (.int p1), none], [], σ) rfl rfl c6 rfl ?_
      refine rf_b wf0 rc_X9_fire_ok 7 1 (16, [some (.ref 0), some (.int p0), some (.int p1), none], [.int (-1)], σ) rfl ?_
      obtain rfl := Option.some.inj h
      exact rf_ri rc_X9_fire_ok 8 rfl rfl
def rc_X9_undo : List rf_E := [(0, .iload_n 1, 1, 1), (1, .ifCond .lt 14, 3, 15), (4, .iload_n 1, 1, 1), (5, .aload_n 0, 1, 0), (6, .getfield 40, 3, 904), (9, .getfield 242, 3, 103), (12, .if_icmp .le 5, 3, 17), (15, .iconst (-1), 1, 0), (16, .ireturn, 1, 0), (17, .aload_n 0, 1, 0), (18, .getfield 40, 3, 904), (21, .getfield 242, 3, 103), (24, .iload_n 1, 1, 1), (25, .isub, 1, 0), (26, .istore_n 2, 1, 2), (27, .aload_n 0, 1, 0), (28, .getfield 40, 3, 904), (31, .aload_n 0, 1, 0), (32, .getfield 33, 3, 903), (35, .iload_n 1, 1, 1), (36, .invokevirtual 245, 3, 0), (39, .iload_n 2, 1, 2), (40, .ireturn, 1, 0)]
theorem rc_X9_undo_ok : rf_rc mX9_undo rc_X9_undo = true := by decide +kernel
theorem mw_X9_undo : rf_mw mX9_undo := ⟨rf_mt_ok _ (List.mem_of_getElem? (i := 94) rfl), fun h => absurd h (by decide), fun _ => ⟨rf_mi_ok _ (List.mem_of_getElem? (i := 89) rfl), rf_mv_ok _ (List.mem_of_getElem? (i := 89) rfl)⟩, rf_mq_3 _ (List.mem_of_getElem? (i := 19) rfl)⟩
def f_X9_undo (p0 : Int32) (σ : rf_S) : Option (Int32 × rf_S) := if p0 < 0 then (some ((-1), σ)) else (if p0 ≤ (σ.1 38 3) then ((f_X1_goBack p0 σ).bind (fun q3 => some (((σ.1 38 3) - p0), q3))) else (some ((-1), σ)))
set_option maxHeartbeats 2000000 in
theorem ok_X9_undo (d : Nat) (p0 : Int32) (σ : rf_S) (q : (Int32 × rf_S)) (h : f_X9_undo p0 σ = some q) : rf_Ex ly0 (d + 6) mX9_undo [.ref 0, .int p0] σ (some (.int q.1) : Option Value) q.2 := by
  unfold f_X9_undo at h
  refine rf_ex mw_X9_undo [some (.ref 0), some (.int p0), none] (Nat.le_of_ble_eq_true rfl) rfl ?_
  refine rf_b wf0 rc_X9_undo_ok 0 1 (1, [some (.ref 0), some (.int p0), none], [.int p0], σ) rfl ?_
  by_cases c1 : p0 < 0
  · rw [if_pos c1] at h
    refine rf_t wf0 rc_X9_undo_ok 1 (15, [some (.ref 0), some (.int p0), none], [], σ) rfl rfl c1 rfl ?_
    refine rf_b wf0 rc_X9_undo_ok 7 1 (16, [some (.ref 0), some (.int p0), none], [.int (-1)], σ) rfl ?_
    obtain rfl := Option.some.inj h
    exact rf_ri rc_X9_undo_ok 8 rfl rfl
  · rw [if_neg c1] at h
    refine rf_f wf0 rc_X9_undo_ok 1 (4, [some (.ref 0), some (.int p0), none], [], σ) rfl rfl c1 rfl ?_
    refine rf_b wf0 rc_X9_undo_ok 2 4 (12, [some (.ref 0), some (.int p0), none], [.int (σ.1 38 3), .int p0], σ) rfl ?_
    by_cases c2 : p0 ≤ (σ.1 38 3)
    · rw [if_pos c2] at h
      refine rf_t wf0 rc_X9_undo_ok 6 (17, [some (.ref 0), some (.int p0), none], [], σ) rfl rfl c2 rfl ?_
      refine rf_b wf0 rc_X9_undo_ok 9 11 (36, [some (.ref 0), some (.int p0), some (.int ((σ.1 38 3) - p0))], [.int p0, .ref 25, .ref 38], σ) rfl ?_
      obtain ⟨q3, h4, h⟩ := Option.bind_eq_some_iff.mp h
      refine rf_cv1 (Mt := mX1_goBack) wf0 rc_X9_undo_ok 20 false rfl (List.mem_of_getElem? (i := 106) rfl) mw_X1_goBack rfl 38 [.ref 25, .int p0] [] rfl rfl rfl (Nat.le_of_ble_eq_true rfl) (ok_X1_goBack d p0 σ q3 h4) ?_
      show rf_G _ _ _ (39, [some (.ref 0), some (.int p0), some (.int ((σ.1 38 3) - p0))], [], q3) _ _
      refine rf_b wf0 rc_X9_undo_ok 21 1 (40, [some (.ref 0), some (.int p0), some (.int ((σ.1 38 3) - p0))], [.int ((σ.1 38 3) - p0)], q3) rfl ?_
      obtain rfl := Option.some.inj h
      exact rf_ri rc_X9_undo_ok 22 rfl rfl
    · rw [if_neg c2] at h
      refine rf_f wf0 rc_X9_undo_ok 6 (15, [some (.ref 0), some (.int p0), none], [], σ) rfl rfl c2 rfl ?_
      refine rf_b wf0 rc_X9_undo_ok 7 1 (16, [some (.ref 0), some (.int p0), none], [.int (-1)], σ) rfl ?_
      obtain rfl := Option.some.inj h
      exact rf_ri rc_X9_undo_ok 8 rfl rfl
def rc_X9_isKept : List rf_E := [(0, .iload_n 0, 1, 0), (1, .ifCond .lt 12, 3, 13), (4, .iload_n 0, 1, 0), (5, .iconst 3, 1, 0), (6, .if_icmp .ge 7, 3, 13), (9, .iconst 1, 1, 0), (10, .goto 4, 3, 14), (13, .iconst 0, 1, 0), (14, .ireturn, 1, 0)]
theorem rc_X9_isKept_ok : rf_rc mX9_isKept rc_X9_isKept = true := by decide +kernel
theorem mw_X9_isKept : rf_mw mX9_isKept := ⟨rf_mt_ok _ (List.mem_of_getElem? (i := 127) rfl), fun _ => rf_ms_ok _ (List.mem_of_getElem? (i := 7) rfl), fun h => absurd h (by decide), rf_mq_5 _ (List.mem_of_getElem? (i := 2) rfl)⟩
def f_X9_isKept (p0 : Int32) (σ : rf_S) : Option Int32 := if p0 < 0 then (some 0) else (if 3 ≤ p0 then (some 0) else (some 1))
set_option maxHeartbeats 2000000 in
theorem ok_X9_isKept (d : Nat) (p0 : Int32) (σ : rf_S) (q : Int32) (h : f_X9_isKept p0 σ = some q) : rf_Ex ly0 (d + 1) mX9_isKept [.int p0] σ (some (.int q) : Option Value) σ := by
  unfold f_X9_isKept at h
  refine rf_ex mw_X9_isKept [some (.int p0)] (Nat.le_of_ble_eq_true rfl) rfl ?_
  refine rf_b wf0 rc_X9_isKept_ok 0 1 (1, [some (.int p0)], [.int p0], σ) rfl ?_
  by_cases c1 : p0 < 0
  · rw [if_pos c1] at h
    refine rf_t wf0 rc_X9_isKept_ok 1 (13, [some (.int p0)], [], σ) rfl rfl c1 rfl ?_
    refine rf_b wf0 rc_X9_isKept_ok 7 1 (14, [some (.int p0)], [.int 0], σ) rfl ?_
    obtain rfl := Option.some.inj h
    exact rf_rz rc_X9_isKept_ok 8 rfl rfl (by decide)
  · rw [if_neg c1] at h
    refine rf_f wf0 rc_X9_isKept_ok 1 (4, [some (.int p0)], [], σ) rfl rfl c1 rfl ?_
    refine rf_b wf0 rc_X9_isKept_ok 2 2 (6, [some (.int p0)], [.int 3, .int p0], σ) rfl ?_
    by_cases c2 : 3 ≤ p0
    · rw [if_pos c2] at h
      refine rf_t wf0 rc_X9_isKept_ok 4 (13, [some (.int p0)], [], σ) rfl rfl c2 rfl ?_
      refine rf_b wf0 rc_X9_isKept_ok 7 1 (14, [some (.int p0)], [.int 0], σ) rfl ?_
      obtain rfl := Option.some.inj h
      exact rf_rz rc_X9_isKept_ok 8 rfl rfl (by decide)
    · rw [if_neg c2] at h
      refine rf_f wf0 rc_X9_isKept_ok 4 (9, [some (.int p0)], [], σ) rfl rfl c2 rfl ?_
      refine rf_b wf0 rc_X9_isKept_ok 5 2 (14, [some (.int p0)], [.int 1], σ) rfl ?_
      obtain rfl := Option.some.inj h
      exact rf_rz rc_X9_isKept_ok 8 rfl rfl (by decide)
def rc_X9_keep : List rf_E := [(0, .iload_n 1, 1, 1), (1, .invokestatic 249, 3, 0), (4, .ifCond .ne 5, 3, 9), (7, .iconst (-1), 1, 0), (8, .ireturn, 1, 0), (9, .aload_n 0, 1, 0), (10, .getfield 33, 3, 903), (13, .invokevirtual 252, 3, 0), (16, .ifCond .eq 6, 3, 22), (19, .bipush (-4), 2, 0), (21, .ireturn, 1, 0), (22, .aload_n 0, 1, 0), (23, .getfield 40, 3, 904), (26, .iload_n 1, 1, 1), (27, .invokevirtual 256, 3, 0), (30, .aload_n 0, 1, 0), (31, .getfield 40, 3, 904), (34, .getfield 242, 3, 103), (37, .ireturn, 1, 0)]
theorem rc_X9_keep_ok : rf_rc mX9_keep rc_X9_keep = true := by decide +kernel
theorem mw_X9_keep : rf_mw mX9_keep := ⟨rf_mt_ok _ (List.mem_of_getElem? (i := 95) rfl), fun h => absurd h (by decide), fun _ => ⟨rf_mi_ok _ (List.mem_of_getElem? (i := 90) rfl), rf_mv_ok _ (List.mem_of_getElem? (i := 90) rfl)⟩, rf_mq_3 _ (List.mem_of_getElem? (i := 20) rfl)⟩
def f_X9_keep (p0 : Int32) (σ : rf_S) : Option (Int32 × rf_S) := (f_X9_isKept p0 σ).bind (fun q1 => if q1 ≠ 0 then ((f_X8_isEmpty σ).bind (fun q4 => if q4 = 0 then ((f_X1_store p0 σ).bind (fun q7 => some ((q7.1 38 3), q7))) else (some ((-4), σ)))) else (some ((-1), σ)))
set_option maxHeartbeats 2000000 in
theorem ok_X9_keep (d : Nat) (p0 : Int32) (σ : rf_S) (q : (Int32 × rf_S)) (h : f_X9_keep p0 σ = some q) : rf_Ex ly0 (d + 2) mX9_keep [.ref 0, .int p0] σ (some (.int q.1) : Option Value) q.2 := by
  unfold f_X9_keep at h
  refine rf_ex mw_X9_keep [some (.ref 0), some (.int p0)] (Nat.le_of_ble_eq_true rfl) rfl ?_
  refine rf_b wf0 rc_X9_keep_ok 0 1 (1, [some (.ref 0), some (.int p0)], [.int p0], σ) rfl ?_
  obtain ⟨q1, h2, h⟩ := Option.bind_eq_some_iff.mp h
  refine rf_cs1 (Mt := mX9_isKept) rc_X9_keep_ok 1 false rfl (List.mem_of_getElem? (i := 107) rfl) mw_X9_isKept rfl [.int p0] [] rfl rfl (Nat.le_of_ble_eq_true rfl) (ok_X9_isKept d p0 σ q1 h2) ?_
  show rf_G _ _ _ (4, [some (.ref 0), some (.int p0)], [.int q1], σ) _ _
  by_cases c3 : q1 ≠ 0
  · rw [if_pos c3] at h
    refine rf_t wf0 rc_X9_keep_ok 2 (9, [some (.ref 0), some (.int p0)], [], σ) rfl rfl c3 rfl ?_
    refine rf_b wf0 rc_X9_keep_ok 5 2 (13, [some (.ref 0), some (.int p0)], [.ref 25], σ) rfl ?_
    obtain ⟨q4, h5, h⟩ := Option.bind_eq_some_iff.mp h
    refine rf_cv1 (Mt := mX8_isEmpty) wf0 rc_X9_keep_ok 7 false rfl (List.mem_of_getElem? (i := 108) rfl) mw_X8_isEmpty rfl 25 [] [] rfl rfl rfl (Nat.le_of_ble_eq_true rfl) (ok_X8_isEmpty d  σ q4 h5) ?_
    show rf_G _ _ _ (16, [some (.ref 0), some (.int p0)], [.int q4], σ) _ _
    by_cases c6 : q4 = 0
    · rw [if_pos c6] at h
      refine rf_t wf0 rc_X9_keep_ok 8 (22, [some (.ref 0), some (.int p0)], [], σ) rfl rfl c6 rfl ?_
      refine rf_b wf0 rc_X9_keep_ok 11 3 (27, [some (.ref 0), some (.int p0)], [.int p0, .ref 38], σ) rfl ?_
      obtain ⟨q7, h8, h⟩ := Option.bind_eq_some_iff.mp h
      refine rf_cv1 (Mt := mX1_store) wf0 rc_X9_keep_ok 14 false rfl (List.mem_of_getElem? (i := 109) rfl) mw_X1_store rfl 38 [.int p0] [] rfl rfl rfl (Nat.le_of_ble_eq_true rfl) (ok_X1_store d p0 σ q7 h8) ?_
      show rf_G _ _ _ (30, [some (.ref 0), some (.int p0)], [], q7) _ _
      refine rf_b wf0 rc_X9_keep_ok 15 3 (37, [some (.ref 0), some (.int p0)], [.int (q7.1 38 3)], q7) rfl ?_
      obtain rfl := Option.some.inj h
      exact rf_ri rc_X9_keep_ok 18 rfl rfl
    · rw [if_neg c6] at h
      refine rf_f wf0 rc_X9_keep_ok 8 (19, [some (.ref 0), some (.int p0)], [], σ) rfl rfl c6 rfl ?_
      refine rf_b wf0 rc_X9_keep_ok 9 1 (21, [some (.ref 0), some (.int p0)], [.int (-4)], σ) rfl ?_
      obtain rfl := Option.some.inj h
      exact rf_ri rc_X9_keep_ok 10 rfl rfl
  · rw [if_neg c3] at h
    refine rf_f wf0 rc_X9_keep_ok 2 (7, [some (.ref 0), some (.int p0)], [], σ) rfl rfl c3 rfl ?_
    refine rf_b wf0 rc_X9_keep_ok 3 1 (8, [some (.ref 0), some (.int p0)], [.int (-1)], σ) rfl ?_
    obtain rfl := Option.some.inj h
    exact rf_ri rc_X9_keep_ok 4 rfl rfl
def rc_X9_on : List rf_E := [(0, .iload_n 1, 1, 1), (1, .invokestatic 249, 3, 0), (4, .ifCond .ne 5, 3, 9), (7, .iconst (-1), 1, 0), (8, .ireturn, 1, 0), (9, .aload_n 0, 1, 0), (10, .getfield 40, 3, 904), (13, .getfield 259, 3, 102), (16, .iload_n 1, 1, 1), (17, .iaload, 1, 0), (18, .ifCond .ge 9, 3, 27), (21, .aload_n 0, 1, 0), (22, .iconst 1, 1, 0), (23, .invokevirtual 73, 3, 0), (26, .ireturn, 1, 0), (27, .aload_n 0, 1, 0), (28, .getfield 40, 3, 904), (31, .aload_n 0, 1, 0), (32, .getfield 33, 3, 903), (35, .iload_n 1, 1, 1), (36, .invokevirtual 262, 3, 0), (39, .aload_n 0, 1, 0), (40, .getfield 40, 3, 904), (43, .getfield 242, 3, 103), (46, .ireturn, 1, 0)]
theorem rc_X9_on_ok : rf_rc mX9_on rc_X9_on = true := by decide +kernel
theorem mw_X9_on : rf_mw mX9_on := ⟨rf_mt_ok _ (List.mem_of_getElem? (i := 96) rfl), fun h => absurd h (by decide), fun _ => ⟨rf_mi_ok _ (List.mem_of_getElem? (i := 91) rfl), rf_mv_ok _ (List.mem_of_getElem? (i := 91) rfl)⟩, rf_mq_3 _ (List.mem_of_getElem? (i := 21) rfl)⟩
def f_X9_on (p0 : Int32) (σ : rf_S) : Option (Int32 × rf_S) := (f_X9_isKept p0 σ).bind (fun q1 => if q1 ≠ 0 then (if rf_ck ly0 0 44 p0 = true then (if 0 ≤ (σ.1 44 p0.toNatClampNeg) then ((f_X1_resume p0 σ).bind (fun q6 => some ((q6.1 38 3), q6))) else ((f_X9_find 1 σ).bind (fun q8 => some (q8.1, q8.2)))) else none) else (some ((-1), σ)))
set_option maxHeartbeats 2000000 in
theorem ok_X9_on (d : Nat) (p0 : Int32) (σ : rf_S) (q : (Int32 × rf_S)) (h : f_X9_on p0 σ = some q) : rf_Ex ly0 (d + 7) mX9_on [.ref 0, .int p0] σ (some (.int q.1) : Option Value) q.2 := by
  unfold f_X9_on at h
  refine rf_ex mw_X9_on [some (.ref 0), some (.int p0)] (Nat.le_of_ble_eq_true rfl) rfl ?_
  refine rf_b wf0 rc_X9_on_ok 0 1 (1, [some (.ref 0), some (.int p0)], [.int p0], σ) rfl ?_
  obtain ⟨q1, h2, h⟩ := Option.bind_eq_some_iff.mp h
  refine rf_cs1 (Mt := mX9_isKept) rc_X9_on_ok 1 false rfl (List.mem_of_getElem? (i := 107) rfl) mw_X9_isKept rfl [.int p0] [] rfl rfl (Nat.le_of_ble_eq_true rfl) (ok_X9_isKept (d + 5) p0 σ q1 h2) ?_
  show rf_G _ _ _ (4, [some (.ref 0), some (.int p0)], [.int q1], σ) _ _
  by_cases c3 : q1 ≠ 0
  · rw [if_pos c3] at h
    refine rf_t wf0 rc_X9_on_ok 2 (9, [some (.ref 0), some (.int p0)], [], σ) rfl rfl c3 rfl ?_
    refine rf_b wf0 rc_X9_on_ok 5 4 (17, [some (.ref 0), some (.int p0)], [.int p0, .ref 44], σ) rfl ?_
    obtain ⟨g4, h⟩ := rf_ifn h
    refine rf_gd wf0 rc_X9_on_ok 9 (18, [some (.ref 0), some (.int p0)], [.int (σ.1 44 p0.toNatClampNeg)], σ) rfl rfl g4 rfl ?_
    by_cases c5 : 0 ≤ (σ.1 44 p0.toNatClampNeg)
    · rw [if_pos c5] at h
      refine rf_t wf0 rc_X9_on_ok 10 (27, [some (.ref 0), some (.int p0)], [], σ) rfl rfl c5 rfl ?_
      refine rf_b wf0 rc_X9_on_ok 15 5 (36, [some (.ref 0), some (.int p0)], [.int p0, .ref 25, .ref 38], σ) rfl ?_
      obtain ⟨q6, h7, h⟩ := Option.bind_eq_some_iff.mp h
      refine rf_cv1 (Mt := mX1_resume) wf0 rc_X9_on_ok 20 false rfl (List.mem_of_getElem? (i := 110) rfl) mw_X1_resume rfl 38 [.ref 25, .int p0] [] rfl rfl rfl (Nat.le_of_ble_eq_true rfl) (ok_X1_resume d p0 σ q6 h7) ?_
      show rf_G _ _ _ (39, [some (.ref 0), some (.int p0)], [], q6) _ _
      refine rf_b wf0 rc_X9_on_ok 21 3 (46, [some (.ref 0), some (.int p0)], [.int (q6.1 38 3)], q6) rfl ?_
      obtain rfl := Option.some.inj h
      exact rf_ri rc_X9_on_ok 24 rfl rfl
    · rw [if_neg c5] at h
      refine rf_f wf0 rc_X9_on_ok 10 (21, [some (.ref 0), some (.int p0)], [], σ) rfl rfl c5 rfl ?_
      refine rf_b wf0 rc_X9_on_ok 11 2 (23, [some (.ref 0), some (.int p0)], [.int 1, .ref 0], σ) rfl ?_
      obtain ⟨q8, h9, h⟩ := Option.bind_eq_some_iff.mp h
      refine rf_cv1 (Mt := mX9_find) wf0 rc_X9_on_ok 13 false rfl (List.mem_of_getElem? (i := 64) rfl) mw_X9_find rfl 0 [.int 1] [] rfl rfl rfl (Nat.le_of_ble_eq_true rfl) (ok_X9_find (d + 5) 1 σ q8 h9) ?_
      show rf_G _ _ _ (26, [some (.ref 0), some (.int p0)], [.int q8.1], q8.2) _ _
      obtain rfl := Option.some.inj h
      exact rf_ri rc_X9_on_ok 14 rfl rfl
  · rw [if_neg c3] at h
    refine rf_f wf0 rc_X9_on_ok 2 (7, [some (.ref 0), some (.int p0)], [], σ) rfl rfl c3 rfl ?_
    refine rf_b wf0 rc_X9_on_ok 3 1 (8, [some (.ref 0), some (.int p0)], [.int (-1)], σ) rfl ?_
    obtain rfl := Option.some.inj h
    exact rf_ri rc_X9_on_ok 4 rfl rfl
def rc_X9_span : List rf_E := [(0, .aload_n 0, 1, 0), (1, .iload_n 1, 1, 1), (2, .invokevirtual 161, 3, 0), (5, .ifCond .ne 5, 3, 10), (8, .iconst (-1), 1, 0), (9, .ireturn, 1, 0), (10, .aload_n 0, 1, 0), (11, .getfield 33, 3, 903), (14, .iload_n 1, 1, 1), (15, .aload_n 0, 1, 0), (16, .getfield 33, 3, 903), (19, .iload_n 1, 1, 1), (20, .invokevirtual 170, 3, 0), (23, .invokevirtual 265, 3, 0), (26, .istore_n 2, 1, 2), (27, .aload_n 0, 1, 0), (28, .iload_n 2, 1, 2), (29, .invokestatic 185, 3, 0), (32, .putfield 88, 3, 910), (35, .iload_n 2, 1, 2), (36, .ireturn, 1, 0)]
theorem rc_X9_span_ok : rf_rc mX9_span rc_X9_span = true := by decide +kernel
theorem mw_X9_span : rf_mw mX9_span := ⟨rf_mt_ok _ (List.mem_of_getElem? (i := 97) rfl), fun h => absurd h (by decide), fun _ => ⟨rf_mi_ok _ (List.mem_of_getElem? (i := 92) rfl), rf_mv_ok _ (List.mem_of_getElem? (i := 92) rfl)⟩, rf_mq_3 _ (List.mem_of_getElem? (i := 22) rfl)⟩
def f_X9_span (p0 : Int32) (σ : rf_S) : Option (Int32 × rf_S) := (f_X9_isRoom p0 σ).bind (fun q1 => if q1 ≠ 0 then ((f_X8_there p0 σ).bind (fun q4 => (f_X8_spanIn p0 q4 σ).bind (fun q6 => (f_J_bitCount q6 σ).bind (fun q8 => some (q6, (rf_sI σ 0 10 q8)))))) else (some ((-1), σ)))
set_option maxHeartbeats 2000000 in
theorem ok_X9_span (d : Nat) (p0 : Int32) (σ : rf_S) (q : (Int32 × rf_S)) (h : f_X9_span p0 σ = some q) : rf_Ex ly0 (d + 7) mX9_span [.ref 0, .int p0] σ (some (.int q.1) : Option Value) q.2 := by
  unfold f_X9_span at h
  refine rf_ex mw_X9_span [some (.ref 0), some (.int p0), none] (Nat.le_of_ble_eq_true rfl) rfl ?_
  refine rf_b wf0 rc_X9_span_ok 0 2 (2, [some (.ref 0), some (.int p0), none], [.int p0, .ref 0], σ) rfl ?_
  obtain ⟨q1, h2, h⟩ := Option.bind_eq_some_iff.mp h
  refine rf_cv1 (Mt := mX9_isRoom) wf0 rc_X9_span_ok 2 false rfl (List.mem_of_getElem? (i := 88) rfl) mw_X9_isRoom rfl 0 [.int p0] [] rfl rfl rfl (Nat.le_of_ble_eq_true rfl) (ok_X9_isRoom (d + 4) p0 σ q1 h2) ?_
  show rf_G _ _ _ (5, [some (.ref 0), some (.int p0), none], [.int q1], σ) _ _
  by_cases c3 : q1 ≠ 0
  · rw [if_pos c3] at h
    refine rf_t wf0 rc_X9_span_ok 3 (10, [some (.ref 0), some (.int p0), none], [], σ) rfl rfl c3 rfl ?_
    refine rf_b wf0 rc_X9_span_ok 6 6 (20, [some (.ref 0), some (.int p0), none], [.int p0, .ref 25, .int p0, .ref 25], σ) rfl ?_
    obtain ⟨q4, h5, h⟩ := Option.bind_eq_some_iff.mp h
    refine rf_cv1 (Mt := mX8_there) wf0 rc_X9_span_ok 12 false rfl (List.mem_of_getElem? (i := 90) rfl) mw_X8_there rfl 25 [.int p0] [.int p0, .ref 25] rfl rfl rfl (Nat.le_of_ble_eq_true rfl) (ok_X8_there (d + 5) p0 σ q4 h5) ?_
    show rf_G _ _ _ (23, [some (.ref 0), some (.int p0), none], [.int q4, .int p0, .ref 25], σ) _ _
    obtain ⟨q6, h7, h⟩ := Option.bind_eq_some_iff.mp h
    refine rf_cv1 (Mt := mX8_spanIn) wf0 rc_X9_span_ok 13 false rfl (List.mem_of_getElem? (i := 111) rfl) mw_X8_spanIn rfl 25 [.int p0, .int q4] [] rfl rfl rfl (Nat.le_of_ble_eq_true rfl) (ok_X8_spanIn d p0 q4 σ q6 h7) ?_
    show rf_G _ _ _ (26, [some (.ref 0), some (.int p0), none], [.int q6], σ) _ _
    refine rf_b wf0 rc_X9_span_ok 14 3 (29, [some (.ref 0), some (.int p0), some (.int q6)], [.int q6, .ref 0], σ) rfl ?_
    obtain ⟨q8, h9, h⟩ := Option.bind_eq_some_iff.mp h
    refine rf_cs1 (Mt := mJ6_bitCount_0f7a4) rc_X9_span_ok 17 false rfl (List.mem_of_getElem? (i := 95) rfl) mw_J_bitCount rfl [.int q6] [.ref 0] rfl rfl (Nat.le_of_ble_eq_true rfl) (ok_J_bitCount (d + 5) q6 σ q8 h9) ?_
    show rf_G _ _ _ (32, [some (.ref 0), some (.int p0), some (.int q6)], [.int q8, .ref 0], σ) _ _
    refine rf_b wf0 rc_X9_span_ok 18 2 (36, [some (.ref 0), some (.int p0), some (.int q6)], [.int q6], (rf_sI σ 0 10 q8)) rfl ?_
    obtain rfl := Option.some.inj h
    exact rf_ri rc_X9_span_ok 20 rfl rfl
  · rw [if_neg c3] at h
    refine rf_f wf0 rc_X9_span_ok 3 (8, [some (.ref 0), some (.int p0), none], [], σ) rfl rfl c3 rfl ?_
    refine rf_b wf0 rc_X9_span_ok 4 1 (9, [some (.ref 0), some (.int p0), none], [.int (-1)], σ) rfl ?_
    obtain rfl := Option.some.inj h
    exact rf_ri rc_X9_span_ok 5 rfl rfl
def rc_X9_spanBy : List rf_E := [(0, .aload_n 0, 1, 0), (1, .iload_n 1, 1, 1), (2, .invokevirtual 161, 3, 0), (5, .ifCond .eq 14, 3, 19), (8, .aload_n 0, 1, 0), (9, .getfield 33, 3, 903), (12, .iload_n 2, 1, 2), (13, .invokevirtual 268, 3, 0), (16, .ifCond .ne 5, 3, 21), (19, .iconst (-1), 1, 0), (20, .ireturn, 1, 0), (21, .aload_n 0, 1, 0), (22, .getfield 33, 3, 903), (25, .iload_n 1, 1, 1), (26, .iload_n 2, 1, 2), (27, .invokevirtual 265, 3, 0), (30, .invokestatic 185, 3, 0), (33, .ireturn, 1, 0)]
theorem rc_X9_spanBy_ok : rf_rc mX9_spanBy rc_X9_spanBy = true := by decide +kernel
theorem mw_X9_spanBy : rf_mw mX9_spanBy := ⟨rf_mt_ok _ (List.mem_of_getElem? (i := 98) rfl), fun h => absurd h (by decide), fun _ => ⟨rf_mi_ok _ (List.mem_of_getElem? (i := 93) rfl), rf_mv_ok _ (List.mem_of_getElem? (i := 93) rfl)⟩, rf_mq_3 _ (List.mem_of_getElem? (i := 23) rfl)⟩
def f_X9_spanBy (p0 : Int32) (p1 : Int32) (σ : rf_S) : Option Int32 := (f_X9_isRoom p0 σ).bind (fun q1 => if q1 = 0 then (some (-1)) else ((f_X8_isSet p1 σ).bind (fun q4 => if q4 ≠ 0 then ((f_X8_spanIn p0 p1 σ).bind (fun q7 => (f_J_bitCount q7 σ).bind (fun q9 => some q9))) else (some (-1)))))
set_option maxHeartbeats 2000000 in
theorem ok_X9_spanBy (d : Nat) (p0 : Int32) (p1 : Int32) (σ : rf_S) (q : Int32) (h : f_X9_spanBy p0 p1 σ = some q) : rf_Ex ly0 (d + 7) mX9_spanBy [.ref 0, .int p0, .int p1] σ (some (.int q) : Option Value) σ := by
  unfold f_X9_spanBy at h
  refine rf_ex mw_X9_spanBy [some (.ref 0), some (.int p0), some (.int p1)] (Nat.le_of_ble_eq_true rfl) rfl ?_
  refine rf_b wf0 rc_X9_spanBy_ok 0 2 (2, [some (.ref 0), some (.int p0), some (.int p1)], [.int p0, .ref 0], σ) rfl ?_
  obtain ⟨q1, h2, h⟩ := Option.bind_eq_some_iff.mp h
  refine rf_cv1 (Mt := mX9_isRoom) wf0 rc_X9_spanBy_ok 2 false rfl (List.mem_of_getElem? (i := 88) rfl) mw_X9_isRoom rfl 0 [.int p0] [] rfl rfl rfl (Nat.le_of_ble_eq_true rfl) (ok_X9_isRoom (d + 4) p0 σ q1 h2) ?_
  show rf_G _ _ _ (5, [some (.ref 0), some (.int p0), some (.int p1)], [.int q1], σ) _ _
  by_cases c3 : q1 = 0
  · rw [if_pos c3] at h
    refine rf_t wf0 rc_X9_spanBy_ok 3 (19, [some (.ref 0), some (.int p0), some (.int p1)], [], σ) rfl rfl c3 rfl ?_
    refine rf_b wf0 rc_X9_spanBy_ok 9 1 (20, [some (.ref 0), some (.int p0), some (.int p1)], [.int (-1)], σ) rfl ?_
    obtain rfl := Option.some.inj h
    exact rf_ri rc_X9_spanBy_ok 10 rfl rfl
  · rw [if_neg c3] at h
    refine rf_f wf0 rc_X9_spanBy_ok 3 (8, [some (.ref 0), some (.int p0), some (.int p1)], [], σ) rfl rfl c3 rfl ?_
    refine rf_b wf0 rc_X9_spanBy_ok 4 3 (13, [some (.ref 0), some (.int p0), some (.int p1)], [.int p1, .ref 25], σ) rfl ?_
    obtain ⟨q4, h5, h⟩ := Option.bind_eq_some_iff.mp h
    refine rf_cv1 (Mt := mX8_isSet) wf0 rc_X9_spanBy_ok 7 false rfl (List.mem_of_getElem? (i := 112) rfl) mw_X8_isSet rfl 25 [.int p1] [] rfl rfl rfl (Nat.le_of_ble_eq_true rfl) (ok_X8_isSet (d + 4) p1 σ q4 h5) ?_
    show rf_G _ _ _ (16, [some (.ref 0), some (.int p0), some (.int p1)], [.int q4], σ) _ _
    by_cases c6 : q4 ≠ 0
    · rw [if_pos c6] at h
      refine rf_t wf0 rc_X9_spanBy_ok 8 (21, [some (.ref 0), some (.int p0), some (.int p1)], [], σ) rfl rfl c6 rfl ?_
      refine rf_b wf0 rc_X9_spanBy_ok 11 4 (27, [some (.ref 0), some (.int p0), some (.int p1)], [.int p1, .int p0, .ref 25], σ) rfl ?_
      obtain ⟨q7, h8, h⟩ := Option.bind_eq_some_iff.mp h
      refine rf_cv1 (Mt := mX8_spanIn) wf0 rc_X9_spanBy_ok 15 false rfl (List.mem_of_getElem? (i := 111) rfl) mw_X8_spanIn rfl 25 [.int p0, .int p1] [] rfl rfl rfl (Nat.le_of_ble_eq_true rfl) (ok_X8_spanIn d p0 p1 σ q7 h8) ?_
      show rf_G _ _ _ (30, [some (.ref 0), some (.int p0), some (.int p1)], [.int q7], σ) _ _
      obtain ⟨q9, h10, h⟩ := Option.bind_eq_some_iff.mp h
      refine rf_cs1 (Mt := mJ6_bitCount_0f7a4) rc_X9_spanBy_ok 16 false rfl (List.mem_of_getElem? (i := 95) rfl) mw_J_bitCount rfl [.int q7] [] rfl rfl (Nat.le_of_ble_eq_true rfl) (ok_J_bitCount (d + 5) q7 σ q9 h10) ?_
      show rf_G _ _ _ (33, [some (.ref 0), some (.int p0), some (.int p1)], [.int q9], σ) _ _
      obtain rfl := Option.some.inj h
      exact rf_ri rc_X9_spanBy_ok 17 rfl rfl
    · rw [if_neg c6] at h
      refine rf_f wf0 rc_X9_spanBy_ok 8 (19, [some (.ref 0), some (.int p0), some (.int p1)], [], σ) rfl rfl c6 rfl ?_
      refine rf_b wf0 rc_X9_spanBy_ok 9 1 (20, [some (.ref 0), some (.int p0), some (.int p1)], [.int (-1)], σ) rfl ?_
      obtain rfl := Option.some.inj h
      exact rf_ri rc_X9_spanBy_ok 10 rfl rfl
def rc_X9_known : List rf_E := [(0, .iconst 0, 1, 0), (1, .istore_n 1, 1, 1), (2, .iconst 0, 1, 0), (3, .istore_n 2, 1, 2), (4, .iload_n 2, 1, 2), (5, .aload_n 0, 1, 0), (6, .getfield 33, 3, 903), (9, .invokevirtual 271, 3, 0), (12, .if_icmp .ge 45, 3, 57), (15, .aload_n 0, 1, 0), (16, .getfield 33, 3, 903), (19, .iload_n 2, 1, 2), (20, .aload_n 0, 1, 0), (21, .getfield 33, 3, 903), (24, .iload_n 2, 1, 2), (25, .invokevirtual 170, 3, 0), (28, .invokevirtual 265, 3, 0), (31, .invokestatic 185, 3, 0), (34, .aload_n 0, 1, 0), (35, .getfield 33, 3, 903), (38, .iload_n 2, 1, 2), (39, .invokevirtual 167, 3, 0), (42, .if_icmp .gt 9, 3, 51), (45, .iload_n 1, 1, 1), (46, .iconst 1, 1, 0), (47, .iload_n 2, 1, 2), (48, .ishl, 1, 0), (49, .ior, 1, 0), (50, .istore_n 1, 1, 1), (51, .iinc 2 1, 3, 2), (54, .goto (-50), 3, 4), (57, .iload_n 1, 1, 1), (58, .ireturn, 1, 0)]
theorem rc_X9_known_ok : rf_rc mX9_known rc_X9_known = true := by decide +kernel
theorem mw_X9_known : rf_mw mX9_known := ⟨rf_mt_ok _ (List.mem_of_getElem? (i := 99) rfl), fun h => absurd h (by decide), fun _ => ⟨rf_mi_ok _ (List.mem_of_getElem? (i := 94) rfl), rf_mv_ok _ (List.mem_of_getElem? (i := 94) rfl)⟩, rf_mq_3 _ (List.mem_of_getElem? (i := 24) rfl)⟩
def f_X9_known_j51 (l1 : Int32) (l2 : Int32) (σ : rf_S) : Option ((Int32 × Int32) ⊕ (Int32)) := some (.inl (l1, (l2 + 1)))
set_option maxHeartbeats 2000000 in
theorem ok_X9_known_j51 (d : Nat) (l1 : Int32) (l2 : Int32) (σ : rf_S) (o : ((Int32 × Int32) ⊕ (Int32))) (h : f_X9_known_j51 l1 l2 σ = some o) {r : Option Value} {σr : rf_S} (kl : ∀ s', o = .inl s' → rf_G ly0 (d + 6) mX9_known (4, [some (.ref 0), some (.int s'.1), some (.int s'.2)], [], σ) r σr) (kx : ∀ e, o = .inr e → rf_G ly0 (d + 6) mX9_known (57, [none, some (.int e), none], [], σ) r σr) : rf_G ly0 (d + 6) mX9_known (51, [some (.ref 0), some (.int l1), some (.int l2)], [], σ) r σr := by
  unfold f_X9_known_j51 at h
  refine rf_b wf0 rc_X9_known_ok 29 2 (4, [some (.ref 0), some (.int l1), some (.int (l2 + 1))], [], σ) rfl ?_
  exact kl (l1, (l2 + 1)) (Option.some.inj h).symm
def f_X9_known_b4 (σ : rf_S) (s4 : Int32 × Int32) : Option ((Int32 × Int32) ⊕ (Int32)) := (f_X8_rooms σ).bind (fun q1 => if q1 ≤ s4.2 then (some (.inr s4.1)) else ((f_X8_there s4.2 σ).bind (fun q4 => (f_X8_spanIn s4.2 q4 σ).bind (fun q6 => (f_J_bitCount q6 σ).bind (fun q8 => (f_X8_needOf s4.2 σ).bind (fun q10 => if q10 < q8 then (f_X9_known_j51 s4.1 s4.2 σ) else (f_X9_known_j51 (s4.1 ||| (1 <<< (s4.2 &&& 31))) s4.2 σ)))))))
set_option maxHeartbeats 2000000 in
theorem ok_X9_known_b4 (d : Nat) (σ : rf_S) (s4 : Int32 × Int32) (o : ((Int32 × Int32) ⊕ (Int32))) (h : f_X9_known_b4 σ s4 = some o) {r : Option Value} {σr : rf_S} (kl : ∀ s', o = .inl s' → rf_G ly0 (d + 6) mX9_known (4, [some (.ref 0), some (.int s'.1), some (.int s'.2)], [], σ) r σr) (kx : ∀ e, o = .inr e → rf_G ly0 (d + 6) mX9_known (57, [none, some (.int e), none], [], σ) r σr) : rf_G ly0 (d + 6) mX9_known (4, [some (.ref 0), some (.int s4.1), some (.int s4.2)], [], σ) r σr := by
  unfold f_X9_known_b4 at h
  refine rf_b wf0 rc_X9_known_ok 4 3 (9, [some (.ref 0), some (.int s4.1), some (.int s4.2)], [.ref 25, .int s4.2], σ) rfl ?_
  obtain ⟨q1, h2, h⟩ := Option.bind_eq_some_iff.mp h
  refine rf_cv1 (Mt := mX8_rooms) wf0 rc_X9_known_ok 7 false rfl (List.mem_of_getElem? (i := 113) rfl) mw_X8_rooms rfl 25 [] [.int s4.2] rfl rfl rfl (Nat.le_of_ble_eq_true rfl) (ok_X8_rooms (d + 5)  σ q1 h2) ?_
  show rf_G _ _ _ (12, [some (.ref 0), some (.int s4.1), some (.int s4.2)], [.int q1, .int s4.2], σ) _ _
  by_cases c3 : q1 ≤ s4.2
  · rw [if_pos c3] at h
    refine rf_t wf0 rc_X9_known_ok 8 (57, [some (.ref 0), some (.int s4.1), some (.int s4.2)], [], σ) rfl rfl c3 rfl ?_
    refine rf_fg [false, true, false] [none, some (.int s4.1), none] rfl ?_
    exact kx s4.1 (Option.some.inj h).symm
  · rw [if_neg c3] at h
    refine rf_f wf0 rc_X9_known_ok 8 (15, [some (.ref 0), some (.int s4.1), some (.int s4.2)], [], σ) rfl rfl c3 rfl ?_
    refine rf_b wf0 rc_X9_known_ok 9 6 (25, [some (.ref 0), some (.int s4.1), some (.int s4.2)], [.int s4.2, .ref 25, .int s4.2, .ref 25], σ) rfl ?_
    obtain ⟨q4, h5, h⟩ := Option.bind_eq_some_iff.mp h
    refine rf_cv1 (Mt := mX8_there) wf0 rc_X9_known_ok 15 false rfl (List.mem_of_getElem? (i := 90) rfl) mw_X8_there rfl 25 [.int s4.2] [.int s4.2, .ref 25] rfl rfl rfl (Nat.le_of_ble_eq_true rfl) (ok_X8_there (d + 5) s4.2 σ q4 h5) ?_
    show rf_G _ _ _ (28, [some (.ref 0), some (.int s4.1), some (.int s4.2)], [.int q4, .int s4.2, .ref 25], σ) _ _
    obtain ⟨q6, h7, h⟩ := Option.bind_eq_some_iff.mp h
    refine rf_cv1 (Mt := mX8_spanIn) wf0 rc_X9_known_ok 16 false rfl (List.mem_of_getElem? (i := 111) rfl) mw_X8_spanIn rfl 25 [.int s4.2, .int q4] [] rfl rfl rfl (Nat.le_of_ble_eq_true rfl) (ok_X8_spanIn d s4.2 q4 σ q6 h7) ?_
    show rf_G _ _ _ (31, [some (.ref 0), some (.int s4.1), some (.int s4.2)], [.int q6], σ) _ _
    obtain ⟨q8, h9, h⟩ := Option.bind_eq_some_iff.mp h
    refine rf_cs1 (Mt := mJ6_bitCount_0f7a4) rc_X9_known_ok 17 false rfl (List.mem_of_getElem? (i := 95) rfl) mw_J_bitCount rfl [.int q6] [] rfl rfl (Nat.le_of_ble_eq_true rfl) (ok_J_bitCount (d + 5) q6 σ q8 h9) ?_
    show rf_G _ _ _ (34, [some (.ref 0), some (.int s4.1), some (.int s4.2)], [.int q8], σ) _ _
    refine rf_b wf0 rc_X9_known_ok 18 3 (39, [some (.ref 0), some (.int s4.1), some (.int s4.2)], [.int s4.2, .ref 25, .int q8], σ) rfl ?_
    obtain ⟨q10, h11, h⟩ := Option.bind_eq_some_iff.mp h
    refine rf_cv1 (Mt := mX8_needOf) wf0 rc_X9_known_ok 21 false rfl (List.mem_of_getElem? (i := 89) rfl) mw_X8_needOf rfl 25 [.int s4.2] [.int q8] rfl rfl rfl (Nat.le_of_ble_eq_true rfl) (ok_X8_needOf (d + 5) s4.2 σ q10 h11) ?_
    show rf_G _ _ _ (42, [some (.ref 0), some (.int s4.1), some (.int s4.2)], [.int q10, .int q8], σ) _ _
    by_cases c12 : q10 < q8
    · rw [if_pos c12] at h
      refine rf_t wf0 rc_X9_known_ok 22 (51, [some (.ref 0), some (.int s4.1), some (.int s4.2)], [], σ) rfl rfl c12 rfl ?_
      exact ok_X9_known_j51 d s4.1 s4.2 σ o h kl kx
    · rw [if_neg c12] at h
      refine rf_f wf0 rc_X9_known_ok 22 (45, [some (.ref 0), some (.int s4.1), some (.int s4.2)], [], σ) rfl rfl c12 rfl ?_
      refine rf_b wf0 rc_X9_known_ok 23 6 (51, [some (.ref 0), some (.int (s4.1 ||| (1 <<< (s4.2 &&& 31)))), some (.int s4.2)], [], σ) rfl ?_
      exact ok_X9_known_j51 d (s4.1 ||| (1 <<< (s4.2 &&& 31))) s4.2 σ o h kl kx
def f_X9_known (σ : rf_S) : Option Int32 := (rf_lp (f_X9_known_b4 σ) 5000 (0, 0)).bind (fun e13 => some e13)
set_option maxHeartbeats 2000000 in
theorem ok_X9_known (d : Nat) (σ : rf_S) (q : Int32) (h : f_X9_known σ = some q) : rf_Ex ly0 (d + 7) mX9_known [.ref 0] σ (some (.int q) : Option Value) σ := by
  unfold f_X9_known at h
  refine rf_ex mw_X9_known [some (.ref 0), none, none] (Nat.le_of_ble_eq_true rfl) rfl ?_
  refine rf_b wf0 rc_X9_known_ok 0 4 (4, [some (.ref 0), some (.int 0), some (.int 0)], [], σ) rfl ?_
  obtain ⟨e13, h14, h⟩ := Option.bind_eq_some_iff.mp h
  refine rf_lpG (b := f_X9_known_b4 σ) (G := fun (s4 : Int32 × Int32) => rf_G ly0 (d + 6) mX9_known (4, [some (.ref 0), some (.int s4.1), some (.int s4.2)], [], σ) (some (.int q) : Option Value) σ) (K := fun (e : (Int32)) => rf_G ly0 (d + 6) mX9_known (57, [none, some (.int e), none], [], σ) (some (.int q) : Option Value) σ) (fun (s4 : Int32 × Int32) (o : (Int32 × Int32) ⊕ (Int32)) hb kl kx => ok_X9_known_b4 d σ s4 o hb kl kx) 5000 (0, 0) e13 h14 ?_
  show rf_G _ _ _ (57, [none, some (.int e13), none], [], σ) _ _
  refine rf_b wf0 rc_X9_known_ok 31 1 (58, [none, some (.int e13), none], [.int e13], σ) rfl ?_
  obtain rfl := Option.some.inj h
  exact rf_ri rc_X9_known_ok 32 rfl rfl
def rc_X9_box : List rf_E := [(0, .aload_n 0, 1, 0), (1, .iload_n 1, 1, 1), (2, .invokevirtual 161, 3, 0), (5, .ifCond .eq 13, 3, 18), (8, .iload_n 2, 1, 2), (9, .ifCond .lt 9, 3, 18), (12, .iload_n 2, 1, 2), (13, .bipush 6, 2, 0), (15, .if_icmp .le 5, 3, 20), (18, .iconst (-1), 1, 0), (19, .ireturn, 1, 0), (20, .iload_n 2, 1, 2), (21, .aload_n 0, 1, 0), (22, .getfield 33, 3, 903), (25, .invokevirtual 151, 3, 0), (28, .if_icmp .le 6, 3, 34), (31, .bipush (-9), 2, 0), (33, .ireturn, 1, 0), (34, .iconst 0, 1, 0), (35, .istore_n 3, 1, 3), (36, .bipush 32, 2, 0), (38, .istore 4, 2, 4), (40, .iconst 0, 1, 0), (41, .istore 5, 2, 5), (43, .iload 5, 2, 5), (45, .aload_n 0, 1, 0), (46, .getfield 33, 3, 903), (49, .invokevirtual 274, 3, 0), (52, .if_icmp .gt 47, 3, 99), (55, .iload 5, 2, 5), (57, .invokestatic 185, 3, 0), (60, .iload_n 2, 1, 2), (61, .if_icmp .ne 32, 3, 93), (64, .aload_n 0, 1, 0), (65, .getfield 33, 3, 903), (68, .iload_n 1, 1, 1), (69, .iload 5, 2, 5), (71, .invokevirtual 265, 3, 0), (74, .invokestatic 185, 3, 0), (77, .istore 6, 2, 6), (79, .iload 6, 2, 6), (81, .iload 4, 2, 4), (83, .if_icmp .ge 10, 3, 93), (86, .iload 6, 2, 6), (88, .istore 4, 2, 4), (90, .iload 5, 2, 5), (92, .istore_n 3, 1, 3), (93, .iinc 5 1, 3, 5), (96, .goto (-53), 3, 43), (99, .aload_n 0, 1, 0), (100, .iload 4, 2, 4), (102, .putfield 88, 3, 910), (105, .iload_n 3, 1, 3), (106, .ireturn, 1, 0)]
theorem rc_X9_box_ok : rf_rc mX9_box rc_X9_box = true := by decide +kernel
theorem mw_X9_box : rf_mw mX9_box := ⟨rf_mt_ok _ (List.mem_of_getElem? (i := 100) rfl), fun h => absurd h (by decide), fun _ => ⟨rf_mi_ok _ (List.mem_of_getElem? (i := 95) rfl), rf_mv_ok _ (List.mem_of_getElem? (i := 95) rfl)⟩, rf_mq_4 _ (List.mem_of_getElem? (i := 0) rfl)⟩
def f_X9_box_j93 (l1 : Int32) (l2 : Int32) (l3 : Int32) (l4 : Int32) (l5 : Int32) (σ : rf_S) : Option ((Int32 × Int32 × Int32) ⊕ (Int32 × Int32)) := some (.inl (l3, l4, (l5 + 1)))
set_option maxHeartbeats 2000000 in
theorem ok_X9_box_j93 (d : Nat) (l1 : Int32) (l2 : Int32) (l3 : Int32) (l4 : Int32) (l5 : Int32) (σ : rf_S) (o : ((Int32 × Int32 × Int32) ⊕ (Int32 × Int32))) (h : f_X9_box_j93 l1 l2 l3 l4 l5 σ = some o) {r : Option Value} {σr : rf_S} (kl : ∀ s', o = .inl s' → rf_G ly0 (d + 6) mX9_box (43, [some (.ref 0), some (.int l1), some (.int l2), some (.int s'.1), some (.int s'.2.1), some (.int s'.2.2), none], [], σ) r σr) (kx : ∀ e, o = .inr e → rf_G ly0 (d + 6) mX9_box (99, [some (.ref 0), none, none, some (.int e.1), some (.int e.2), none, none], [], σ) r σr) : rf_G ly0 (d + 6) mX9_box (93, [some (.ref 0), some (.int l1), some (.int l2), some (.int l3), some (.int l4), some (.int l5), none], [], σ) r σr := by
  unfold f_X9_box_j93 at h
  refine rf_b wf0 rc_X9_box_ok 47 2 (43, [some (.ref 0), some (.int l1), some (.int l2), some (.int l3), some (.int l4), some (.int (l5 + 1)), none], [], σ) rfl ?_
  exact kl (l3, l4, (l5 + 1)) (Option.some.inj h).symm
def f_X9_box_b43 (l1 : Int32) (l2 : Int32) (σ : rf_S) (s43 : Int32 × Int32 × Int32) : Option ((Int32 × Int32 × Int32) ⊕ (Int32 × Int32)) := (f_X8_everybody σ).bind (fun q9 => if q9 < s43.2.2 then (some (.inr (s43.1, s43.2.1))) else ((f_J_bitCount s43.2.2 σ).bind (fun q12 => if q12 ≠ l2 then (f_X9_box_j93 l1 l2 s43.1 s43.2.1 s43.2.2 σ) else ((f_X8_spanIn l1 s43.2.2 σ).bind (fun q15 => (f_J_bitCount q15 σ).bind (fun q17 => if s43.2.1 ≤ q17 then (f_X9_box_j93 l1 l2 s43.1 s43.2.1 s43.2.2 σ) else (f_X9_box_j93 l1 l2 s43.2.2 q17 s43.2.2 σ)))))))
set_option maxHeartbeats 2000000 in
theorem ok_X9_box_b43 (d : Nat) (l1 : Int32) (l2 : Int32) (σ : rf_S) (s43 : Int32 × Int32 × Int32) (o : ((Int32 × Int32 × Int32) ⊕ (Int32 × Int32))) (h : f_X9_box_b43 l1 l2 σ s43 = some o) {r : Option Value} {σr : rf_S} (kl : ∀ s', o = .inl s' → rf_G ly0 (d + 6) mX9_box (43, [some (.ref 0), some (.int l1), some (.int l2), some (.int s'.1), some (.int s'.2.1), some (.int s'.2.2), none], [], σ) r σr) (kx : ∀ e, o = .inr e → rf_G ly0 (d + 6) mX9_box (99, [some (.ref 0), none, none, some (.int e.1), some (.int e.2), none, none], [], σ) r σr) : rf_G ly0 (d + 6) mX9_box (43, [some (.ref 0), some (.int l1), some (.int l2), some (.int s43.1), some (.int s43.2.1), some (.int s43.2.2), none], [], σ) r σr := by
  unfold f_X9_box_b43 at h
  refine rf_b wf0 rc_X9_box_ok 24 3 (49, [some (.ref 0), some (.int l1), some (.int l2), some (.int s43.1), some (.int s43.2.1), some (.int s43.2.2), none], [.ref 25, .int s43.2.2], σ) rfl ?_
  obtain ⟨q9, h10, h⟩ := Option.bind_eq_some_iff.mp h
  refine rf_cv1 (Mt := mX8_everybody) wf0 rc_X9_box_ok 27 false rfl (List.mem_of_getElem? (i := 114) rfl) mw_X8_everybody rfl 25 [] [.int s43.2.2] rfl rfl rfl (Nat.le_of_ble_eq_true rfl) (ok_X8_everybody (d + 5)  σ q9 h10) ?_
  show rf_G _ _ _ (52, [some (.ref 0), some (.int l1), some (.int l2), some (.int s43.1), some (.int s43.2.1), some (.int s43.2.2), none], [.int q9, .int s43.2.2], σ) _ _
  by_cases c11 : q9 < s43.2.2
  · rw [if_pos c11] at h
    refine rf_t wf0 rc_X9_box_ok 28 (99, [some (.ref 0), some (.int l1), some (.int l2), some (.int s43.1), some (.int s43.2.1), some (.int s43.2.2), none], [], σ) rfl rfl c11 rfl ?_
    refine rf_fg [true, false, false, true, true, false, true] [some (.ref 0), none, none, some (.int s43.1), some (.int s43.2.1), none, none] rfl ?_
    exact kx (s43.1, s43.2.1) (Option.some.inj h).symm
  · rw [if_neg c11] at h
    refine rf_f wf0 rc_X9_box_ok 28 (55, [some (.ref 0), some (.int l1), some (.int l2), some (.int s43.1), some (.int s43.2.1), some (.int s43.2.2), none], [], σ) rfl rfl c11 rfl ?_
    refine rf_b wf0 rc_X9_box_ok 29 1 (57, [some (.ref 0), some (.int l1), some (.int l2), some (.int s43.1), some (.int s43.2.1), some (.int s43.2.2), none], [.int s43.2.2], σ) rfl ?_
    obtain ⟨q12, h13, h⟩ := Option.bind_eq_some_iff.mp h
    refine rf_cs1 (Mt := mJ6_bitCount_0f7a4) rc_X9_box_ok 30 false rfl (List.mem_of_getElem? (i := 95) rfl) mw_J_bitCount rfl [.int s43.2.2] [] rfl rfl (Nat.le_of_ble_eq_true rfl) (ok_J_bitCount (d + 5) s43.2.2 σ q12 h13) ?_
    show rf_G _ _ _ (60, [some (.ref 0), some (.int l1), some (.int l2), some (.int s43.1), some (.int s43.2.1), some (.int s43.2.2), none], [.int q12], σ) _ _
    refine rf_b wf0 rc_X9_box_ok 31 1 (61, [some (.ref 0), some (.int l1), some (.int l2), some (.int s43.1), some (.int s43.2.1), some (.int s43.2.2), none], [.int l2, .int q12], σ) rfl ?_
    by_cases c14 : q12 ≠ l2
    · rw [if_pos c14] at h
      refine rf_t wf0 rc_X9_box_ok 32 (93, [some (.ref 0), some (.int l1), some (.int l2), some (.int s43.1), some (.int s43.2.1), some (.int s43.2.2), none], [], σ) rfl rfl c14 rfl ?_
      exact ok_X9_box_j93 d l1 l2 s43.1 s43.2.1 s43.2.2 σ o h kl kx
    · rw [if_neg c14] at h
      refine rf_f wf0 rc_X9_box_ok 32 (64, [some (.ref 0), some (.int l1), some (.int l2), some (.int s43.1), some (.int s43.2.1), some (.int s43.2.2), none], [], σ) rfl rfl c14 rfl ?_
      refine rf_b wf0 rc_X9_box_ok 33 4 (71, [some (.ref 0), some (.int l1), some (.int l2), some (.int s43.1), some (.int s43.2.1), some (.int s43.2.2), none], [.int s43.2.2, .int l1, .ref 25], σ) rfl ?_
      obtain ⟨q15, h16, h⟩ := Option.bind_eq_some_iff.mp h
      refine rf_cv1 (Mt := mX8_spanIn) wf0 rc_X9_box_ok 37 false rfl (List.mem_of_getElem? (i := 111) rfl) mw_X8_spanIn rfl 25 [.int l1, .int s43.2.2] [] rfl rfl rfl (Nat.le_of_ble_eq_true rfl) (ok_X8_spanIn d l1 s43.2.2 σ q15 h16) ?_
      show rf_G _ _ _ (74, [some (.ref 0), some (.int l1), some (.int l2), some (.int s43.1), some (.int s43.2.1), some (.int s43.2.2), none], [.int q15], σ) _ _
      obtain ⟨q17, h18, h⟩ := Option.bind_eq_some_iff.mp h
      refine rf_cs1 (Mt := mJ6_bitCount_0f7a4) rc_X9_box_ok 38 false rfl (List.mem_of_getElem? (i := 95) rfl) mw_J_bitCount rfl [.int q15] [] rfl rfl (Nat.le_of_ble_eq_true rfl) (ok_J_bitCount (d + 5) q15 σ q17 h18) ?_
      show rf_G _ _ _ (77, [some (.ref 0), some (.int l1), some (.int l2), some (.int s43.1), some (.int s43.2.1), some (.int s43.2.2), none], [.int q17], σ) _ _
      refine rf_b wf0 rc_X9_box_ok 39 3 (83, [some (.ref 0), some (.int l1), some (.int l2), some (.int s43.1), some (.int s43.2.1), some (.int s43.2.2), some (.int q17)], [.int s43.2.1, .int q17], σ) rfl ?_
      by_cases c19 : s43.2.1 ≤ q17
      · rw [if_pos c19] at h
        refine rf_t wf0 rc_X9_box_ok 42 (93, [some (.ref 0), some (.int l1), some (.int l2), some (.int s43.1), some (.int s43.2.1), some (.int s43.2.2), some (.int q17)], [], σ) rfl rfl c19 rfl ?_
        refine rf_fg [true, true, true, true, true, true, false] [some (.ref 0), some (.int l1), some (.int l2), some (.int s43.1), some (.int s43.2.1), some (.int s43.2.2), none] rfl ?_
        exact ok_X9_box_j93 d l1 l2 s43.1 s43.2.1 s43.2.2 σ o h kl kx
      · rw [if_neg c19] at h
        refine rf_f wf0 rc_X9_box_ok 42 (86, [some (.ref 0), some (.int l1), some (.int l2), some (.int s43.1), some (.int s43.2.1), some (.int s43.2.2), some (.int q17)], [], σ) rfl rfl c19 rfl ?_
        refine rf_b wf0 rc_X9_box_ok 43 4 (93, [some (.ref 0), some (.int l1), some (.int l2), some (.int s43.2.2), some (.int q17), some (.int s43.2.2), some (.int q17)], [], σ) rfl ?_
        refine rf_fg [true, true, true, true, true, true, false] [some (.ref 0), some (.int l1), some (.int l2), some (.int s43.2.2), some (.int q17), some (.int s43.2.2), none] rfl ?_
        exact ok_X9_box_j93 d l1 l2 s43.2.2 q17 s43.2.2 σ o h kl kx
def f_X9_box (p0 : Int32) (p1 : Int32) (σ : rf_S) : Option (Int32 × rf_S) := (f_X9_isRoom p0 σ).bind (fun q1 => if q1 = 0 then (some ((-1), σ)) else (if p1 < 0 then (some ((-1), σ)) else (if p1 ≤ 6 then ((f_X8_members σ).bind (fun q6 => if p1 ≤ q6 then ((rf_lp (f_X9_box_b43 p0 p1 σ) 5000 (0, 32, 0)).bind (fun e20 => some (e20.1, (rf_sI σ 0 10 e20.2)))) else (some ((-9), σ)))) else (some ((-1), σ)))))
set_option maxHeartbeats 2000000 in
theorem ok_X9_box (d : Nat) (p0 : Int32) (p1 : Int32) (σ : rf_S) (q : (Int32 × rf_S)) (h : f_X9_box p0 p1 σ = some q) : rf_Ex ly0 (d + 7) mX9_box [.ref 0, .int p0, .int p1] σ (some (.int q.1) : Option Value) q.2 := by
  unfold f_X9_box at h
  refine rf_ex mw_X9_box [some (.ref 0), some (.int p0), some (.int p1), none, none, none, none] (Nat.le_of_ble_eq_true rfl) rfl ?_
  refine rf_b wf0 rc_X9_box_ok 0 2 (2, [some (.ref 0), some (.int p0), some (.int p1), none, none, none, none], [.int p0, .ref 0], σ) rfl ?_
  obtain ⟨q1, h2, h⟩ := Option.bind_eq_some_iff.mp h
  refine rf_cv1 (Mt := mX9_isRoom) wf0 rc_X9_box_ok 2 false rfl (List.mem_of_getElem? (i := 88) rfl) mw_X9_isRoom rfl 0 [.int p0] [] rfl rfl rfl (Nat.le_of_ble_eq_true rfl) (ok_X9_isRoom (d + 4) p0 σ q1 h2) ?_
  show rf_G _ _ _ (5, [some (.ref 0), some (.int p0), some (.int p1), none, none, none, none], [.int q1], σ) _ _
  by_cases c3 : q1 = 0
  · rw [if_pos c3] at h
    refine rf_t wf0 rc_X9_box_ok 3 (18, [some (.ref 0), some (.int p0), some (.int p1), none, none, none, none], [], σ) rfl rfl c3 rfl ?_
    refine rf_b wf0 rc_X9_box_ok 9 1 (19, [some (.ref 0), some (.int p0), some (.int p1), none, none, none, none], [.int (-1)], σ) rfl ?_
    obtain rfl := Option.some.inj h
    exact rf_ri rc_X9_box_ok 10 rfl rfl
  · rw [if_neg c3] at h
    refine rf_f wf0 rc_X9_box_ok 3 (8, [some (.ref 0), some (.int p0), some (.int p1), none, none, none, none], [], σ) rfl rfl c3 rfl ?_
    refine rf_b wf0 rc_X9_box_ok 4 1 (9, [some (.ref 0), some (.int p0), some (.int p1), none, none, none, none], [.int p1], σ) rfl ?_
    by_cases c4 : p1 < 0
    · rw [if_pos c4] at h
      refine rf_t wf0 rc_X9_box_ok 5 (18, [some (.ref 0), some (.int p0), some (.int p1), none, none, none, none], [], σ) rfl rfl c4 rfl ?_
      refine rf_b wf0 rc_X9_box_ok 9 1 (19, [some (.ref 0), some (.int p0), some (.int p1), none, none, none, none], [.int (-1)], σ) rfl ?_
      obtain rfl := Option.some.inj h
      exact rf_ri rc_X9_box_ok 10 rfl rfl
    · rw [if_neg c4] at h
      refine rf_f wf0 rc_X9_box_ok 5 (12, [some (.ref 0), some (.int p0), some (.int p1), none, none, none, none], [], σ) rfl rfl c4 rfl ?_
      refine rf_b wf0 rc_X9_box_ok 6 2 (15, [some (.ref 0), some (.int p0), some (.int p1), none, none, none, none], [.int 6, .int p1], σ) rfl ?_
      by_cases c5 : p1 ≤ 6
      · rw [if_pos c5] at h
        refine rf_t wf0 rc_X9_box_ok 8 (20, [some (.ref 0), some (.int p0), some (.int p1), none, none, none, none], [], σ) rfl rfl c5 rfl ?_
        refine rf_b wf0 rc_X9_box_ok 11 3 (25, [some (.ref 0), some (.int p0), some (.int p1), none, none, none, none], [.ref 25, .int p1], σ) rfl ?_
        obtain ⟨q6, h7, h⟩ := Option.bind_eq_some_iff.mp h
        refine rf_cv1 (Mt := mX8_members) wf0 rc_X9_box_ok 14 false rfl (List.mem_of_getElem? (i := 85) rfl) mw_X8_members rfl 25 [] [.int p1] rfl rfl rfl (Nat.le_of_ble_eq_true rfl) (ok_X8_members (d + 5)  σ q6 h7) ?_
        show rf_G _ _ _ (28, [some (.ref 0), some (.int p0), some (.int p1), none, none, none, none], [.int q6, .int p1], σ) _ _
        by_cases c8 : p1 ≤ q6
        · rw [if_pos c8] at h
          refine rf_t wf0 rc_X9_box_ok 15 (34, [some (.ref 0), some (.int p0), some (.int p1), none, none, none, none], [], σ) rfl rfl c8 rfl ?_
          refine rf_b wf0 rc_X9_box_ok 18 6 (43, [some (.ref 0), some (.int p0), some (.int p1), some (.int 0), some (.int 32), some (.int 0), none], [], σ) rfl ?_
          obtain ⟨e20, h21, h⟩ := Option.bind_eq_some_iff.mp h
          refine rf_lpG (b := f_X9_box_b43 p0 p1 σ) (G := fun (s43 : Int32 × Int32 × Int32) => rf_G ly0 (d + 6) mX9_box (43, [some (.ref 0), some (.int p0), some (.int p1), some (.int s43.1), some (.int s43.2.1), some (.int s43.2.2), none], [], σ) (some (.int q.1) : Option Value) q.2) (K := fun (e : (Int32 × Int32)) => rf_G ly0 (d + 6) mX9_box (99, [some (.ref 0), none, none, some (.int e.1), some (.int e.2), none, none], [], σ) (some (.int q.1) : Option Value) q.2) (fun (s43 : Int32 × Int32 × Int32) (o : (Int32 × Int32 × Int32) ⊕ (Int32 × Int32)) hb kl kx => ok_X9_box_b43 d p0 p1 σ s43 o hb kl kx) 5000 (0, 32, 0) e20 h21 ?_
          show rf_G _ _ _ (99, [some (.ref 0), none, none, some (.int e20.1), some (.int e20.2), none, none], [], σ) _ _
          refine rf_b wf0 rc_X9_box_ok 49 4 (106, [some (.ref 0), none, none, some (.int e20.1), some (.int e20.2), none, none], [.int e20.1], (rf_sI σ 0 10 e20.2)) rfl ?_
          obtain rfl := Option.some.inj h
          exact rf_ri rc_X9_box_ok 53 rfl rfl
        · rw [if_neg c8] at h
          refine rf_f wf0 rc_X9_box_ok 15 (31, [some (.ref 0), some (.int p0), some (.int p1), none, none, none, none], [], σ) rfl rfl c8 rfl ?_
          refine rf_b wf0 rc_X9_box_ok 16 1 (33, [some (.ref 0), some (.int p0), some (.int p1), none, none, none, none], [.int (-9)], σ) rfl ?_
          obtain rfl := Option.some.inj h
          exact rf_ri rc_X9_box_ok 17 rfl rfl
      · rw [if_neg c5] at h
        refine rf_f wf0 rc_X9_box_ok 8 (18, [some (.ref 0), some (.int p0), some (.int p1), none, none, none, none], [], σ) rfl rfl c5 rfl ?_
        refine rf_b wf0 rc_X9_box_ok 9 1 (19, [some (.ref 0), some (.int p0), some (.int p1), none, none, none, none], [.int (-1)], σ) rfl ?_
        obtain rfl := Option.some.inj h
        exact rf_ri rc_X9_box_ok 10 rfl rfl
def rc_X9_send : List rf_E := [(0, .iload_n 1, 1, 1), (1, .invokestatic 69, 3, 0), (4, .ifCond .ne 5, 3, 9), (7, .iconst (-1), 1, 0), (8, .ireturn, 1, 0), (9, .aload_n 0, 1, 0), (10, .getfield 33, 3, 903), (13, .invokevirtual 252, 3, 0), (16, .ifCond .eq 6, 3, 22), (19, .bipush (-4), 2, 0), (21, .ireturn, 1, 0), (22, .aload_n 0, 1, 0), (23, .getfield 47, 3, 905), (26, .aload_n 0, 1, 0), (27, .getfield 33, 3, 903), (30, .bipush 18, 2, 0), (32, .invokevirtual 277, 3, 0), (35, .aload_n 0, 1, 0), (36, .getfield 47, 3, 905), (39, .getfield 280, 3, 504), (42, .aload_n 0, 1, 0), (43, .getfield 33, 3, 903), (46, .invokevirtual 271, 3, 0), (49, .if_icmp .ge 6, 3, 55), (52, .bipush (-9), 2, 0), (54, .ireturn, 1, 0), (55, .aload_n 0, 1, 0), (56, .getfield 10, 3, 900), (59, .iload_n 1, 1, 1), (60, .aload_n 0, 1, 0), (61, .getfield 33, 3, 903), (64, .invokevirtual 151, 3, 0), (67, .invokevirtual 77, 3, 0), (70, .iconst 0, 1, 0), (71, .istore_n 2, 1, 2), (72, .iload_n 2, 1, 2), (73, .aload_n 0, 1, 0), (74, .getfield 33, 3, 903), (77, .invokevirtual 151, 3, 0), (80, .if_icmp .ge 27, 3, 107), (83, .aload_n 0, 1, 0), (84, .getfield 10, 3, 900), (87, .iload_n 1, 1, 1), (88, .iload_n 2, 1, 2), (89, .aload_n 0, 1, 0), (90, .getfield 47, 3, 905), (93, .getfield 283, 3, 503), (96, .iload_n 2, 1, 2), (97, .iaload, 1, 0), (98, .invokevirtual 92, 3, 0), (101, .iinc 2 1, 3, 2), (104, .goto (-32), 3, 72), (107, .aload_n 0, 1, 0), (108, .getfield 47, 3, 905), (111, .getfield 286, 3, 505), (114, .ireturn, 1, 0)]
theorem rc_X9_send_ok : rf_rc mX9_send rc_X9_send = true := by decide +kernel
theorem mw_X9_send : rf_mw mX9_send := ⟨rf_mt_ok _ (List.mem_of_getElem? (i := 101) rfl), fun h => absurd h (by decide), fun _ => ⟨rf_mi_ok _ (List.mem_of_getElem? (i := 96) rfl), rf_mv_ok _ (List.mem_of_getElem? (i := 96) rfl)⟩, rf_mq_4 _ (List.mem_of_getElem? (i := 1) rfl)⟩
def f_X9_send_b72 (l1 : Int32) (s72 : Int32 × rf_S) : Option ((Int32 × rf_S) ⊕ (rf_S)) := (f_X8_members s72.2).bind (fun q16 => if q16 ≤ s72.1 then (some (.inr s72.2)) else (if rf_ck ly0 0 49 s72.1 = true then ((f_X4_set l1 s72.1 (s72.2.1 49 s72.1.toNatClampNeg) s72.2).bind (fun q20 => some (.inl ((s72.1 + 1), q20)))) else none))
set_option maxHeartbeats 2000000 in
theorem ok_X9_send_b72 (d : Nat) (l1 : Int32) (s72 : Int32 × rf_S) (o : ((Int32 × rf_S) ⊕ (rf_S))) (h : f_X9_send_b72 l1 s72 = some o) {r : Option Value} {σr : rf_S} (kl : ∀ s', o = .inl s' → rf_G ly0 (d + 12) mX9_send (72, [some (.ref 0), some (.int l1), some (.int s'.1)], [], s'.2) r σr) (kx : ∀ e, o = .inr e → rf_G ly0 (d + 12) mX9_send (107, [some (.ref 0), none, none], [], e) r σr) : rf_G ly0 (d + 12) mX9_send (72, [some (.ref 0), some (.int l1), some (.int s72.1)], [], s72.2) r σr := by
  unfold f_X9_send_b72 at h
  refine rf_b wf0 rc_X9_send_ok 35 3 (77, [some (.ref 0), some (.int l1), some (.int s72.1)], [.ref 25, .int s72.1], s72.2) rfl ?_
  obtain ⟨q16, h17, h⟩ := Option.bind_eq_some_iff.mp h
  refine rf_cv1 (Mt := mX8_members) wf0 rc_X9_send_ok 38 false rfl (List.mem_of_getElem? (i := 85) rfl) mw_X8_members rfl 25 [] [.int s72.1] rfl rfl rfl (Nat.le_of_ble_eq_true rfl) (ok_X8_members (d + 11)  s72.2 q16 h17) ?_
  show rf_G _ _ _ (80, [some (.ref 0), some (.int l1), some (.int s72.1)], [.int q16, .int s72.1], s72.2) _ _
  by_cases c18 : q16 ≤ s72.1
  · rw [if_pos c18] at h
    refine rf_t wf0 rc_X9_send_ok 39 (107, [some (.ref 0), some (.int l1), some (.int s72.1)], [], s72.2) rfl rfl c18 rfl ?_
    refine rf_fg [true, false, false] [some (.ref 0), none, none] rfl ?_
    exact kx s72.2 (Option.some.inj h).symm
  · rw [if_neg c18] at h
    refine rf_f wf0 rc_X9_send_ok 39 (83, [some (.ref 0), some (.int l1), some (.int s72.1)], [], s72.2) rfl rfl c18 rfl ?_
    refine rf_b wf0 rc_X9_send_ok 40 8 (97, [some (.ref 0), some (.int l1), some (.int s72.1)], [.int s72.1, .ref 49, .int s72.1, .int l1, .ref 1], s72.2) rfl ?_
    obtain ⟨g19, h⟩ := rf_ifn h
    refine rf_gd wf0 rc_X9_send_ok 48 (98, [some (.ref 0), some (.int l1), some (.int s72.1)], [.int (s72.2.1 49 s72.1.toNatClampNeg), .int s72.1, .int l1, .ref 1], s72.2) rfl rfl g19 rfl ?_
    obtain ⟨q20, h21, h⟩ := Option.bind_eq_some_iff.mp h
    refine rf_cv1 (Mt := mX4_set) wf0 rc_X9_send_ok 49 false rfl (List.mem_of_getElem? (i := 68) rfl) mw_X4_set rfl 1 [.int l1, .int s72.1, .int (s72.2.1 49 s72.1.toNatClampNeg)] [] rfl rfl rfl (Nat.le_of_ble_eq_true rfl) (ok_X4_set (d + 11) l1 s72.1 (s72.2.1 49 s72.1.toNatClampNeg) s72.2 q20 h21) ?_
    show rf_G _ _ _ (101, [some (.ref 0), some (.int l1), some (.int s72.1)], [], q20) _ _
    refine rf_b wf0 rc_X9_send_ok 50 2 (72, [some (.ref 0), some (.int l1), some (.int (s72.1 + 1))], [], q20) rfl ?_
    exact kl ((s72.1 + 1), q20) (Option.some.inj h).symm
def f_X9_send (p0 : Int32) (σ : rf_S) : Option (Int32 × rf_S) := (f_X9_isRow p0 σ).bind (fun q1 => if q1 ≠ 0 then ((f_X8_isEmpty σ).bind (fun q4 => if q4 = 0 then ((f_X5_seek 18 σ).bind (fun q7 => (f_X8_rooms q7).bind (fun q9 => if q9 ≤ (q7.1 45 4) then ((f_X8_members q7).bind (fun q12 => (f_X4_make p0 q12 q7).bind (fun q14 => (rf_lp (f_X9_send_b72 p0) 5000 (0, q14)).bind (fun e22 => some ((e22.1 45 5), e22))))) else (some ((-9), q7))))) else (some ((-4), σ)))) else (some ((-1), σ)))
set_option maxHeartbeats 2000000 in
theorem ok_X9_send (d : Nat) (p0 : Int32) (σ : rf_S) (q : (Int32 × rf_S)) (h : f_X9_send p0 σ = some q) : rf_Ex ly0 (d + 13) mX9_send [.ref 0, .int p0] σ (some (.int q.1) : Option Value) q.2 := by
  unfold f_X9_send at h
  refine rf_ex mw_X9_send [some (.ref 0), some (.int p0), none] (Nat.le_of_ble_eq_true rfl) rfl ?_
  refine rf_b wf0 rc_X9_send_ok 0 1 (1, [some (.ref 0), some (.int p0), none], [.int p0], σ) rfl ?_
  obtain ⟨q1, h2, h⟩ := Option.bind_eq_some_iff.mp h
  refine rf_cs1 (Mt := mX9_isRow) rc_X9_send_ok 1 false rfl (List.mem_of_getElem? (i := 63) rfl) mw_X9_isRow rfl [.int p0] [] rfl rfl (Nat.le_of_ble_eq_true rfl) (ok_X9_isRow (d + 11) p0 σ q1 h2) ?_
  show rf_G _ _ _ (4, [some (.ref 0), some (.int p0), none], [.int q1], σ) _ _
  by_cases c3 : q1 ≠ 0
  · rw [if_pos c3] at h
    refine rf_t wf0 rc_X9_send_ok 2 (9, [some (.ref 0), some (.int p0), none], [], σ) rfl rfl c3 rfl ?_
    refine rf_b wf0 rc_X9_send_ok 5 2 (13, [some (.ref 0), some (.int p0), none], [.ref 25], σ) rfl ?_
    obtain ⟨q4, h5, h⟩ := Option.bind_eq_some_iff.mp h
    refine rf_cv1 (Mt := mX8_isEmpty) wf0 rc_X9_send_ok 7 false rfl (List.mem_of_getElem? (i := 108) rfl) mw_X8_isEmpty rfl 25 [] [] rfl rfl rfl (Nat.le_of_ble_eq_true rfl) (ok_X8_isEmpty (d + 11)  σ q4 h5) ?_
    show rf_G _ _ _ (16, [some (.ref 0), some (.int p0), none], [.int q4], σ) _ _
    by_cases c6 : q4 = 0
    · rw [if_pos c6] at h
      refine rf_t wf0 rc_X9_send_ok 8 (22, [some (.ref 0), some (.int p0), none], [], σ) rfl rfl c6 rfl ?_
      refine rf_b wf0 rc_X9_send_ok 11 5 (32, [some (.ref 0), some (.int p0), none], [.int 18, .ref 25, .ref 45], σ) rfl ?_
      obtain ⟨q7, h8, h⟩ := Option.bind_eq_some_iff.mp h
      refine rf_cv1 (Mt := mX5_seek) wf0 rc_X9_send_ok 16 false rfl (List.mem_of_getElem? (i := 115) rfl) mw_X5_seek rfl 45 [.ref 25, .int 18] [] rfl rfl rfl (Nat.le_of_ble_eq_true rfl) (ok_X5_seek d 18 σ q7 h8) ?_
      show rf_G _ _ _ (35, [some (.ref 0), some (.int p0), none], [], q7) _ _
      refine rf_b wf0 rc_X9_send_ok 17 5 (46, [some (.ref 0), some (.int p0), none], [.ref 25, .int (q7.1 45 4)], q7) rfl ?_
      obtain ⟨q9, h10, h⟩ := Option.bind_eq_some_iff.mp h
      refine rf_cv1 (Mt := mX8_rooms) wf0 rc_X9_send_ok 22 false rfl (List.mem_of_getElem? (i := 113) rfl) mw_X8_rooms rfl 25 [] [.int (q7.1 45 4)] rfl rfl rfl (Nat.le_of_ble_eq_true rfl) (ok_X8_rooms (d + 11)  q7 q9 h10) ?_
      show rf_G _ _ _ (49, [some (.ref 0), some (.int p0), none], [.int q9, .int (q7.1 45 4)], q7) _ _
      by_cases c11 : q9 ≤ (q7.1 45 4)
      · rw [if_pos c11] at h
        refine rf_t wf0 rc_X9_send_ok 23 (55, [some (.ref 0), some (.int p0), none], [], q7) rfl rfl c11 rfl ?_
        refine rf_b wf0 rc_X9_send_ok 26 5 (64, [some (.ref 0), some (.int p0), none], [.ref 25, .int p0, .ref 1], q7) rfl ?_
        obtain ⟨q12, h13, h⟩ := Option.bind_eq_some_iff.mp h
        refine rf_cv1 (Mt := mX8_members) wf0 rc_X9_send_ok 31 false rfl (List.mem_of_getElem? (i := 85) rfl) mw_X8_members rfl 25 [] [.int p0, .ref 1] rfl rfl rfl (Nat.le_of_ble_eq_true rfl) (ok_X8_members (d + 11)  q7 q12 h13) ?_
        show rf_G _ _ _ (67, [some (.ref 0), some (.int p0), none], [.int q12, .int p0, .ref 1], q7) _ _
        obtain ⟨q14, h15, h⟩ := Option.bind_eq_some_iff.mp h
        refine rf_cv1 (Mt := mX4_make) wf0 rc_X9_send_ok 32 false rfl (List.mem_of_getElem? (i := 65) rfl) mw_X4_make rfl 1 [.int p0, .int q12] [] rfl rfl rfl (Nat.le_of_ble_eq_true rfl) (ok_X4_make (d + 10) p0 q12 q7 q14 h15) ?_
        show rf_G _ _ _ (70, [some (.ref 0), some (.int p0), none], [], q14) _ _
        refine rf_b wf0 rc_X9_send_ok 33 2 (72, [some (.ref 0), some (.int p0), some (.int 0)], [], q14) rfl ?_
        obtain ⟨e22, h23, h⟩ := Option.bind_eq_some_iff.mp h
        refine rf_lpG (b := f_X9_send_b72 p0) (G := fun (s72 : Int32 × rf_S) => rf_G ly0 (d + 12) mX9_send (72, [some (.ref 0), some (.int p0), some (.int s72.1)], [], s72.2) (some (.int q.1) : Option Value) q.2) (K := fun (e : (rf_S)) => rf_G ly0 (d + 12) mX9_send (107, [some (.ref 0), none, none], [], e) (some (.int q.1) : Option Value) q.2) (fun (s72 : Int32 × rf_S) (o : (Int32 × rf_S) ⊕ (rf_S)) hb kl kx => ok_X9_send_b72 d p0 s72 o hb kl kx) 5000 (0, q14) e22 h23 ?_
        show rf_G _ _ _ (107, [some (.ref 0), none, none], [], e22) _ _
        refine rf_b wf0 rc_X9_send_ok 52 3 (114, [some (.ref 0), none, none], [.int (e22.1 45 5)], e22) rfl ?_
        obtain rfl := Option.some.inj h
        exact rf_ri rc_X9_send_ok 55 rfl rfl
      · rw [if_neg c11] at h
        refine rf_f wf0 rc_X9_send_ok 23 (52, [some (.ref 0), some (.int p0), none], [], q7) rfl rfl c11 rfl ?_
        refine rf_b wf0 rc_X9_send_ok 24 1 (54, [some (.ref 0), some (.int p0), none], [.int (-9)], q7) rfl ?_
        obtain rfl := Option.some.inj h
        exact rf_ri rc_X9_send_ok 25 rfl rfl
    · rw [if_neg c6] at h
      refine rf_f wf0 rc_X9_send_ok 8 (19, [some (.ref 0), some (.int p0), none], [], σ) rfl rfl c6 rfl ?_
      refine rf_b wf0 rc_X9_send_ok 9 1 (21, [some (.ref 0), some (.int p0), none], [.int (-4)], σ) rfl ?_
      obtain rfl := Option.some.inj h
      exact rf_ri rc_X9_send_ok 10 rfl rfl
  · rw [if_neg c3] at h
    refine rf_f wf0 rc_X9_send_ok 2 (7, [some (.ref 0), some (.int p0), none], [], σ) rfl rfl c3 rfl ?_
    refine rf_b wf0 rc_X9_send_ok 3 1 (8, [some (.ref 0), some (.int p0), none], [.int (-1)], σ) rfl ?_
    obtain rfl := Option.some.inj h
    exact rf_ri rc_X9_send_ok 4 rfl rfl
def rc_X9_most : List rf_E := [(0, .iload_n 1, 1, 1), (1, .ifCond .lt 9, 3, 10), (4, .iload_n 1, 1, 1), (5, .bipush 18, 2, 0), (7, .if_icmp .le 5, 3, 12), (10, .iconst (-1), 1, 0), (11, .ireturn, 1, 0), (12, .aload_n 0, 1, 0), (13, .getfield 33, 3, 903), (16, .invokevirtual 252, 3, 0), (19, .ifCond .eq 6, 3, 25), (22, .bipush (-4), 2, 0), (24, .ireturn, 1, 0), (25, .aload_n 0, 1, 0), (26, .getfield 47, 3, 905), (29, .aload_n 0, 1, 0), (30, .getfield 33, 3, 903), (33, .iload_n 1, 1, 1), (34, .invokevirtual 277, 3, 0), (37, .aload_n 0, 1, 0), (38, .aload_n 0, 1, 0), (39, .getfield 47, 3, 905), (42, .getfield 286, 3, 505), (45, .putfield 88, 3, 910), (48, .aload_n 0, 1, 0), (49, .getfield 47, 3, 905), (52, .getfield 280, 3, 504), (55, .ireturn, 1, 0)]
theorem rc_X9_most_ok : rf_rc mX9_most rc_X9_most = true := by decide +kernel
theorem mw_X9_most : rf_mw mX9_most := ⟨rf_mt_ok _ (List.mem_of_getElem? (i := 102) rfl), fun h => absurd h (by decide), fun _ => ⟨rf_mi_ok _ (List.mem_of_getElem? (i := 97) rfl), rf_mv_ok _ (List.mem_of_getElem? (i := 97) rfl)⟩, rf_mq_4 _ (List.mem_of_getElem? (i := 2) rfl)⟩
def f_X9_most (p0 : Int32) (σ : rf_S) : Option (Int32 × rf_S) := if p0 < 0 then (some ((-1), σ)) else (if p0 ≤ 18 then ((f_X8_isEmpty σ).bind (fun q3 => if q3 = 0 then ((f_X5_seek p0 σ).bind (fun q6 => some (((rf_sI q6 0 10 (q6.1 45 5)).1 45 4), (rf_sI q6 0 10 (q6.1 45 5))))) else (some ((-4), σ)))) else (some ((-1), σ)))
set_option maxHeartbeats 2000000 in
theorem ok_X9_most (d : Nat) (p0 : Int32) (σ : rf_S) (q : (Int32 × rf_S)) (h : f_X9_most p0 σ = some q) : rf_Ex ly0 (d + 13) mX9_most [.ref 0, .int p0] σ (some (.int q.1) : Option Value) q.2 := by
  unfold f_X9_most at h
  refine rf_ex mw_X9_most [some (.ref 0), some (.int p0)] (Nat.le_of_ble_eq_true rfl) rfl ?_
  refine rf_b wf0 rc_X9_most_ok 0 1 (1, [some (.ref 0), some (.int p0)], [.int p0], σ) rfl ?_
  by_cases c1 : p0 < 0
  · rw [if_pos c1] at h
    refine rf_t wf0 rc_X9_most_ok 1 (10, [some (.ref 0), some (.int p0)], [], σ) rfl rfl c1 rfl ?_
    refine rf_b wf0 rc_X9_most_ok 5 1 (11, [some (.ref 0), some (.int p0)], [.int (-1)], σ) rfl ?_
    obtain rfl := Option.some.inj h
    exact rf_ri rc_X9_most_ok 6 rfl rfl
  · rw [if_neg c1] at h
    refine rf_f wf0 rc_X9_most_ok 1 (4, [some (.ref 0), some (.int p0)], [], σ) rfl rfl c1 rfl ?_
    refine rf_b wf0 rc_X9_most_ok 2 2 (7, [some (.ref 0), some (.int p0)], [.int 18, .int p0], σ) rfl ?_
    by_cases c2 : p0 ≤ 18
    · rw [if_pos c2] at h
      refine rf_t wf0 rc_X9_most_ok 4 (12, [some (.ref 0), some (.int p0)], [], σ) rfl rfl c2 rfl ?_
      refine rf_b wf0 rc_X9_most_ok 7 2 (16, [some (.ref 0), some (.int p0)], [.ref 25], σ) rfl ?_
      obtain ⟨q3, h4, h⟩ := Option.bind_eq_some_iff.mp h
      refine rf_cv1 (Mt := mX8_isEmpty) wf0 rc_X9_most_ok 9 false rfl (List.mem_of_getElem? (i := 108) rfl) mw_X8_isEmpty rfl 25 [] [] rfl rfl rfl (Nat.le_of_ble_eq_true rfl) (ok_X8_isEmpty (d + 11)  σ q3 h4) ?_
      show rf_G _ _ _ (19, [some (.ref 0), some (.int p0)], [.int q3], σ) _ _
      by_cases c5 : q3 = 0
      · rw [if_pos c5] at h
        refine rf_t wf0 rc_X9_most_ok 10 (25, [some (.ref 0), some (.int p0)], [], σ) rfl rfl c5 rfl ?_
        refine rf_b wf0 rc_X9_most_ok 13 5 (34, [some (.ref 0), some (.int p0)], [.int p0, .ref 25, .ref 45], σ) rfl ?_
        obtain ⟨q6, h7, h⟩ := Option.bind_eq_some_iff.mp h
        refine rf_cv1 (Mt := mX5_seek) wf0 rc_X9_most_ok 18 false rfl (List.mem_of_getElem? (i := 115) rfl) mw_X5_seek rfl 45 [.ref 25, .int p0] [] rfl rfl rfl (Nat.le_of_ble_eq_true rfl) (ok_X5_seek d p0 σ q6 h7) ?_
        show rf_G _ _ _ (37, [some (.ref 0), some (.int p0)], [], q6) _ _
        refine rf_b wf0 rc_X9_most_ok 19 8 (55, [some (.ref 0), some (.int p0)], [.int ((rf_sI q6 0 10 (q6.1 45 5)).1 45 4)], (rf_sI q6 0 10 (q6.1 45 5))) rfl ?_
        obtain rfl := Option.some.inj h
        exact rf_ri rc_X9_most_ok 27 rfl rfl
      · rw [if_neg c5] at h
        refine rf_f wf0 rc_X9_most_ok 10 (22, [some (.ref 0), some (.int p0)], [], σ) rfl rfl c5 rfl ?_
        refine rf_b wf0 rc_X9_most_ok 11 1 (24, [some (.ref 0), some (.int p0)], [.int (-4)], σ) rfl ?_
        obtain rfl := Option.some.inj h
        exact rf_ri rc_X9_most_ok 12 rfl rfl
    · rw [if_neg c2] at h
      refine rf_f wf0 rc_X9_most_ok 4 (10, [some (.ref 0), some (.int p0)], [], σ) rfl rfl c2 rfl ?_
      refine rf_b wf0 rc_X9_most_ok 5 1 (11, [some (.ref 0), some (.int p0)], [.int (-1)], σ) rfl ?_
      obtain rfl := Option.some.inj h
      exact rf_ri rc_X9_most_ok 6 rfl rfl
def rc_X9_parts : List rf_E := [(0, .aload_n 0, 1, 0), (1, .getfield 33, 3, 903), (4, .invokevirtual 252, 3, 0), (7, .ifCond .eq 6, 3, 13), (10, .bipush (-4), 2, 0), (12, .ireturn, 1, 0), (13, .aload_n 0, 1, 0), (14, .getfield 33, 3, 903), (17, .iload_n 1, 1, 1), (18, .invokevirtual 268, 3, 0), (21, .ifCond .ne 5, 3, 26), (24, .iconst (-1), 1, 0), (25, .ireturn, 1, 0), (26, .aload_n 0, 1, 0), (27, .getfield 54, 3, 906), (30, .aload_n 0, 1, 0), (31, .getfield 33, 3, 903), (34, .invokevirtual 289, 3, 0), (37, .aload_n 0, 1, 0), (38, .getfield 54, 3, 906), (41, .iload_n 1, 1, 1), (42, .invokevirtual 293, 3, 0), (45, .istore_n 2, 1, 2), (46, .aload_n 0, 1, 0), (47, .aload_n 0, 1, 0), (48, .getfield 54, 3, 906), (51, .getfield 296, 3, 602), (54, .putfield 88, 3, 910), (57, .iload_n 2, 1, 2), (58, .ireturn, 1, 0)]
theorem rc_X9_parts_ok : rf_rc mX9_parts rc_X9_parts = true := by decide +kernel
theorem mw_X9_parts : rf_mw mX9_parts := ⟨rf_mt_ok _ (List.mem_of_getElem? (i := 103) rfl), fun h => absurd h (by decide), fun _ => ⟨rf_mi_ok _ (List.mem_of_getElem? (i := 98) rfl), rf_mv_ok _ (List.mem_of_getElem? (i := 98) rfl)⟩, rf_mq_4 _ (List.mem_of_getElem? (i := 3) rfl)⟩
def f_X9_parts (p0 : Int32) (σ : rf_S) : Option (Int32 × rf_S) := (f_X8_isEmpty σ).bind (fun q1 => if q1 = 0 then ((f_X8_isSet p0 σ).bind (fun q4 => if q4 ≠ 0 then ((f_X6_look σ).bind (fun q7 => (f_X6_partsBy p0 q7).bind (fun q9 => some (q9.1, (rf_sI q9.2 0 10 (q9.2.1 50 2)))))) else (some ((-1), σ)))) else (some ((-4), σ)))
set_option maxHeartbeats 2000000 in
theorem ok_X9_parts (d : Nat) (p0 : Int32) (σ : rf_S) (q : (Int32 × rf_S)) (h : f_X9_parts p0 σ = some q) : rf_Ex ly0 (d + 5) mX9_parts [.ref 0, .int p0] σ (some (.int q.1) : Option Value) q.2 := by
  unfold f_X9_parts at h
  refine rf_ex mw_X9_parts [some (.ref 0), some (.int p0), none] (Nat.le_of_ble_eq_true rfl) rfl ?_
  refine rf_b wf0 rc_X9_parts_ok 0 2 (4, [some (.ref 0), some (.int p0), none], [.ref 25], σ) rfl ?_
  obtain ⟨q1, h2, h⟩ := Option.bind_eq_some_iff.mp h
  refine rf_cv1 (Mt := mX8_isEmpty) wf0 rc_X9_parts_ok 2 false rfl (List.mem_of_getElem? (i := 108) rfl) mw_X8_isEmpty rfl 25 [] [] rfl rfl rfl (Nat.le_of_ble_eq_true rfl) (ok_X8_isEmpty (d + 3)  σ q1 h2) ?_
  show rf_G _ _ _ (7, [some (.ref 0), some (.int p0), none], [.int q1], σ) _ _
  by_cases c3 : q1 = 0
  · rw [if_pos c3] at h
    refine rf_t wf0 rc_X9_parts_ok 3 (13, [some (.ref 0), some (.int p0), none], [], σ) rfl rfl c3 rfl ?_
    refine rf_b wf0 rc_X9_parts_ok 6 3 (18, [some (.ref 0), some (.int p0), none], [.int p0, .ref 25], σ) rfl ?_
    obtain ⟨q4, h5, h⟩ := Option.bind_eq_some_iff.mp h
    refine rf_cv1 (Mt := mX8_isSet) wf0 rc_X9_parts_ok 9 false rfl (List.mem_of_getElem? (i := 112) rfl) mw_X8_isSet rfl 25 [.int p0] [] rfl rfl rfl (Nat.le_of_ble_eq_true rfl) (ok_X8_isSet (d + 2) p0 σ q4 h5) ?_
    show rf_G _ _ _ (21, [some (.ref 0), some (.int p0), none], [.int q4], σ) _ _
    by_cases c6 : q4 ≠ 0
    · rw [if_pos c6] at h
      refine rf_t wf0 rc_X9_parts_ok 10 (26, [some (.ref 0), some (.int p0), none], [], σ) rfl rfl c6 rfl ?_
      refine rf_b wf0 rc_X9_parts_ok 13 4 (34, [some (.ref 0), some (.int p0), none], [.ref 25, .ref 50], σ) rfl ?_
      obtain ⟨q7, h8, h⟩ := Option.bind_eq_some_iff.mp h
      refine rf_cv1 (Mt := mX6_look) wf0 rc_X9_parts_ok 17 false rfl (List.mem_of_getElem? (i := 116) rfl) mw_X6_look rfl 50 [.ref 25] [] rfl rfl rfl (Nat.le_of_ble_eq_true rfl) (ok_X6_look d  σ q7 h8) ?_
      show rf_G _ _ _ (37, [some (.ref 0), some (.int p0), none], [], q7) _ _
      refine rf_b wf0 rc_X9_parts_ok 18 3 (42, [some (.ref 0), some (.int p0), none], [.int p0, .ref 50], q7) rfl ?_
      obtain ⟨q9, h10, h⟩ := Option.bind_eq_some_iff.mp h
      refine rf_cv1 (Mt := mX6_partsBy) wf0 rc_X9_parts_ok 21 false rfl (List.mem_of_getElem? (i := 117) rfl) mw_X6_partsBy rfl 50 [.int p0] [] rfl rfl rfl (Nat.le_of_ble_eq_true rfl) (ok_X6_partsBy (d + 2) p0 q7 q9 h10) ?_
      show rf_G _ _ _ (45, [some (.ref 0), some (.int p0), none], [.int q9.1], q9.2) _ _
      refine rf_b wf0 rc_X9_parts_ok 22 7 (58, [some (.ref 0), some (.int p0), some (.int q9.1)], [.int q9.1], (rf_sI q9.2 0 10 (q9.2.1 50 2))) rfl ?_
      obtain rfl := Option.some.inj h
      exact rf_ri rc_X9_parts_ok 29 rfl rfl
    · rw [if_neg c6] at h
      refine rf_f wf0 rc_X9_parts_ok 10 (24, [some (.ref 0), some (.int p0), none], [], σ) rfl rfl c6 rfl ?_
      refine rf_b wf0 rc_X9_parts_ok 11 1 (25, [some (.ref 0), some (.int p0), none], [.int (-1)], σ) rfl ?_
      obtain rfl := Option.some.inj h
      exact rf_ri rc_X9_parts_ok 12 rfl rfl
  · rw [if_neg c3] at h
    refine rf_f wf0 rc_X9_parts_ok 3 (10, [some (.ref 0), some (.int p0), none], [], σ) rfl rfl c3 rfl ?_
    refine rf_b wf0 rc_X9_parts_ok 4 1 (12, [some (.ref 0), some (.int p0), none], [.int (-4)], σ) rfl ?_
    obtain rfl := Option.some.inj h
    exact rf_ri rc_X9_parts_ok 5 rfl rfl
def rc_X9_fewest : List rf_E := [(0, .aload_n 0, 1, 0), (1, .getfield 33, 3, 903), (4, .invokevirtual 252, 3, 0), (7, .ifCond .eq 6, 3, 13), (10, .bipush (-4), 2, 0), (12, .ireturn, 1, 0), (13, .aload_n 0, 1, 0), (14, .getfield 54, 3, 906), (17, .aload_n 0, 1, 0), (18, .getfield 33, 3, 903), (21, .invokevirtual 289, 3, 0), (24, .aload_n 0, 1, 0), (25, .getfield 54, 3, 906), (28, .aload_n 0, 1, 0), (29, .getfield 33, 3, 903), (32, .invokevirtual 274, 3, 0), (35, .invokevirtual 293, 3, 0), (38, .istore_n 1, 1, 1), (39, .aload_n 0, 1, 0), (40, .getfield 33, 3, 903), (43, .invokevirtual 274, 3, 0), (46, .istore_n 2, 1, 2), (47, .iconst 0, 1, 0), (48, .istore_n 3, 1, 3), (49, .iload_n 3, 1, 3), (50, .aload_n 0, 1, 0), (51, .getfield 33, 3, 903), (54, .invokevirtual 274, 3, 0), (57, .if_icmp .gt 34, 3, 91), (60, .iload_n 3, 1, 3), (61, .invokestatic 185, 3, 0), (64, .iload_n 2, 1, 2), (65, .invokestatic 185, 3, 0), (68, .if_icmp .ge 17, 3, 85), (71, .aload_n 0, 1, 0), (72, .getfield 54, 3, 906), (75, .iload_n 3, 1, 3), (76, .invokevirtual 293, 3, 0), (79, .iload_n 1, 1, 1), (80, .if_icmp .ne 5, 3, 85), (83, .iload_n 3, 1, 3), (84, .istore_n 2, 1, 2), (85, .iinc 3 1, 3, 3), (88, .goto (-39), 3, 49), (91, .aload_n 0, 1, 0), (92, .iload_n 2, 1, 2), (93, .putfield 88, 3, 910), (96, .iload_n 2, 1, 2), (97, .invokestatic 185, 3, 0), (100, .ireturn, 1, 0)]
theorem rc_X9_fewest_ok : rf_rc mX9_fewest rc_X9_fewest = true := by decide +kernel
theorem mw_X9_fewest : rf_mw mX9_fewest := ⟨rf_mt_ok _ (List.mem_of_getElem? (i := 104) rfl), fun h => absurd h (by decide), fun _ => ⟨rf_mi_ok _ (List.mem_of_getElem? (i := 99) rfl), rf_mv_ok _ (List.mem_of_getElem? (i := 99) rfl)⟩, rf_mq_4 _ (List.mem_of_getElem? (i := 4) rfl)⟩
def f_X9_fewest_j85 (l1 : Int32) (l2 : Int32) (l3 : Int32) (σ : rf_S) : Option ((Int32 × Int32 × rf_S) ⊕ (Int32 × rf_S)) := some (.inl (l2, (l3 + 1), σ))
set_option maxHeartbeats 2000000 in
theorem ok_X9_fewest_j85 (d : Nat) (l1 : Int32) (l2 : Int32) (l3 : Int32) (σ : rf_S) (o : ((Int32 × Int32 × rf_S) ⊕ (Int32 × rf_S))) (h : f_X9_fewest_j85 l1 l2 l3 σ = some o) {r : Option Value} {σr : rf_S} (kl : ∀ s', o = .inl s' → rf_G ly0 (d + 4) mX9_fewest (49, [some (.ref 0), some (.int l1), some (.int s'.1), some (.int s'.2.1)], [], s'.2.2) r σr) (kx : ∀ e, o = .inr e → rf_G ly0 (d + 4) mX9_fewest (91, [some (.ref 0), none, some (.int e.1), none], [], e.2) r σr) : rf_G ly0 (d + 4) mX9_fewest (85, [some (.ref 0), some (.int l1), some (.int l2), some (.int l3)], [], σ) r σr := by
  unfold f_X9_fewest_j85 at h
  refine rf_b wf0 rc_X9_fewest_ok 42 2 (49, [some (.ref 0), some (.int l1), some (.int l2), some (.int (l3 + 1))], [], σ) rfl ?_
  exact kl (l2, (l3 + 1), σ) (Option.some.inj h).symm
def f_X9_fewest_b49 (l1 : Int32) (s49 : Int32 × Int32 × rf_S) : Option ((Int32 × Int32 × rf_S) ⊕ (Int32 × rf_S)) := (f_X8_everybody s49.2.2).bind (fun q12 => if q12 < s49.2.1 then (some (.inr (s49.1, s49.2.2))) else ((f_J_bitCount s49.2.1 s49.2.2).bind (fun q15 => (f_J_bitCount s49.1 s49.2.2).bind (fun q17 => if q17 ≤ q15 then (f_X9_fewest_j85 l1 s49.1 s49.2.1 s49.2.2) else ((f_X6_partsBy s49.2.1 s49.2.2).bind (fun q20 => if q20.1 ≠ l1 then (f_X9_fewest_j85 l1 s49.1 s49.2.1 q20.2) else (f_X9_fewest_j85 l1 s49.2.1 s49.2.1 q20.2)))))))
set_option maxHeartbeats 2000000 in
theorem ok_X9_fewest_b49 (d : Nat) (l1 : Int32) (s49 : Int32 × Int32 × rf_S) (o : ((Int32 × Int32 × rf_S) ⊕ (Int32 × rf_S))) (h : f_X9_fewest_b49 l1 s49 = some o) {r : Option Value} {σr : rf_S} (kl : ∀ s', o = .inl s' → rf_G ly0 (d + 4) mX9_fewest (49, [some (.ref 0), some (.int l1), some (.int s'.1), some (.int s'.2.1)], [], s'.2.2) r σr) (kx : ∀ e, o = .inr e → rf_G ly0 (d + 4) mX9_fewest (91, [some (.ref 0), none, some (.int e.1), none], [], e.2) r σr) : rf_G ly0 (d + 4) mX9_fewest (49, [some (.ref 0), some (.int l1), some (.int s49.1), some (.int s49.2.1)], [], s49.2.2) r σr := by
  unfold f_X9_fewest_b49 at h
  refine rf_b wf0 rc_X9_fewest_ok 24 3 (54, [some (.ref 0), some (.int l1), some (.int s49.1), some (.int s49.2.1)], [.ref 25, .int s49.2.1], s49.2.2) rfl ?_
  obtain ⟨q12, h13, h⟩ := Option.bind_eq_some_iff.mp h
  refine rf_cv1 (Mt := mX8_everybody) wf0 rc_X9_fewest_ok 27 false rfl (List.mem_of_getElem? (i := 114) rfl) mw_X8_everybody rfl 25 [] [.int s49.2.1] rfl rfl rfl (Nat.le_of_ble_eq_true rfl) (ok_X8_everybody (d + 3)  s49.2.2 q12 h13) ?_
  show rf_G _ _ _ (57, [some (.ref 0), some (.int l1), some (.int s49.1), some (.int s49.2.1)], [.int q12, .int s49.2.1], s49.2.2) _ _
  by_cases c14 : q12 < s49.2.1
  · rw [if_pos c14] at h
    refine rf_t wf0 rc_X9_fewest_ok 28 (91, [some (.ref 0), some (.int l1), some (.int s49.1), some (.int s49.2.1)], [], s49.2.2) rfl rfl c14 rfl ?_
    refine rf_fg [true, false, true, false] [some (.ref 0), none, some (.int s49.1), none] rfl ?_
    exact kx (s49.1, s49.2.2) (Option.some.inj h).symm
  · rw [if_neg c14] at h
    refine rf_f wf0 rc_X9_fewest_ok 28 (60, [some (.ref 0), some (.int l1), some (.int s49.1), some (.int s49.2.1)], [], s49.2.2) rfl rfl c14 rfl ?_
    refine rf_b wf0 rc_X9_fewest_ok 29 1 (61, [some (.ref 0), some (.int l1), some (.int s49.1), some (.int s49.2.1)], [.int s49.2.1], s49.2.2) rfl ?_
    obtain ⟨q15, h16, h⟩ := Option.bind_eq_some_iff.mp h
    refine rf_cs1 (Mt := mJ6_bitCount_0f7a4) rc_X9_fewest_ok 30 false rfl (List.mem_of_getElem? (i := 95) rfl) mw_J_bitCount rfl [.int s49.2.1] [] rfl rfl (Nat.le_of_ble_eq_true rfl) (ok_J_bitCount (d + 3) s49.2.1 s49.2.2 q15 h16) ?_
    show rf_G _ _ _ (64, [some (.ref 0), some (.int l1), some (.int s49.1), some (.int s49.2.1)], [.int q15], s49.2.2) _ _
    refine rf_b wf0 rc_X9_fewest_ok 31 1 (65, [some (.ref 0), some (.int l1), some (.int s49.1), some (.int s49.2.1)], [.int s49.1, .int q15], s49.2.2) rfl ?_
    obtain ⟨q17, h18, h⟩ := Option.bind_eq_some_iff.mp h
    refine rf_cs1 (Mt := mJ6_bitCount_0f7a4) rc_X9_fewest_ok 32 false rfl (List.mem_of_getElem? (i := 95) rfl) mw_J_bitCount rfl [.int s49.1] [.int q15] rfl rfl (Nat.le_of_ble_eq_true rfl) (ok_J_bitCount (d + 3) s49.1 s49.2.2 q17 h18) ?_
    show rf_G _ _ _ (68, [some (.ref 0), some (.int l1), some (.int s49.1), some (.int s49.2.1)], [.int q17, .int q15], s49.2.2) _ _
    by_cases c19 : q17 ≤ q15
    · rw [if_pos c19] at h
      refine rf_t wf0 rc_X9_fewest_ok 33 (85, [some (.ref 0), some (.int l1), some (.int s49.1), some (.int s49.2.1)], [], s49.2.2) rfl rfl c19 rfl ?_
      exact ok_X9_fewest_j85 d l1 s49.1 s49.2.1 s49.2.2 o h kl kx
    · rw [if_neg c19] at h
      refine rf_f wf0 rc_X9_fewest_ok 33 (71, [some (.ref 0), some (.int l1), some (.int s49.1), some (.int s49.2.1)], [], s49.2.2) rfl rfl c19 rfl ?_
      refine rf_b wf0 rc_X9_fewest_ok 34 3 (76, [some (.ref 0), some (.int l1), some (.int s49.1), some (.int s49.2.1)], [.int s49.2.1, .ref 50], s49.2.2) rfl ?_
      obtain ⟨q20, h21, h⟩ := Option.bind_eq_some_iff.mp h
      refine rf_cv1 (Mt := mX6_partsBy) wf0 rc_X9_fewest_ok 37 false rfl (List.mem_of_getElem? (i := 117) rfl) mw_X6_partsBy rfl 50 [.int s49.2.1] [] rfl rfl rfl (Nat.le_of_ble_eq_true rfl) (ok_X6_partsBy (d + 2) s49.2.1 s49.2.2 q20 h21) ?_
      show rf_G _ _ _ (79, [some (.ref 0), some (.int l1), some (.int s49.1), some (.int s49.2.1)], [.int q20.1], q20.2) _ _
      refine rf_b wf0 rc_X9_fewest_ok 38 1 (80, [some (.ref 0), some (.int l1), some (.int s49.1), some (.int s49.2.1)], [.int l1, .int q20.1], q20.2) rfl ?_
      by_cases c22 : q20.1 ≠ l1
      · rw [if_pos c22] at h
        refine rf_t wf0 rc_X9_fewest_ok 39 (85, [some (.ref 0), some (.int l1), some (.int s49.1), some (.int s49.2.1)], [], q20.2) rfl rfl c22 rfl ?_
        exact ok_X9_fewest_j85 d l1 s49.1 s49.2.1 q20.2 o h kl kx
      · rw [if_neg c22] at h
        refine rf_f wf0 rc_X9_fewest_ok 39 (83, [some (.ref 0), some (.int l1), some (.int s49.1), some (.int s49.2.1)], [], q20.2) rfl rfl c22 rfl ?_
        refine rf_b wf0 rc_X9_fewest_ok 40 2 (85, [some (.ref 0), some (.int l1), some (.int s49.2.1), some (.int s49.2.1)], [], q20.2) rfl ?_
        exact ok_X9_fewest_j85 d l1 s49.2.1 s49.2.1 q20.2 o h kl kx
def f_X9_fewest (σ : rf_S) : Option (Int32 × rf_S) := (f_X8_isEmpty σ).bind (fun q1 => if q1 = 0 then ((f_X6_look σ).bind (fun q4 => (f_X8_everybody q4).bind (fun q6 => (f_X6_partsBy q6 q4).bind (fun q8 => (f_X8_everybody q8.2).bind (fun q10 => (rf_lp (f_X9_fewest_b49 q8.1) 5000 (q10, 0, q8.2)).bind (fun e23 => (f_J_bitCount e23.1 (rf_sI e23.2 0 10 e23.1)).bind (fun q25 => some (q25, (rf_sI e23.2 0 10 e23.1))))))))) else (some ((-4), σ)))
set_option maxHeartbeats 2000000 in
theorem ok_X9_fewest (d : Nat) (σ : rf_S) (q : (Int32 × rf_S)) (h : f_X9_fewest σ = some q) : rf_Ex ly0 (d + 5) mX9_fewest [.ref 0] σ (some (.int q.1) : Option Value) q.2 := by
  unfold f_X9_fewest at h
  refine rf_ex mw_X9_fewest [some (.ref 0), none, none, none] (Nat.le_of_ble_eq_true rfl) rfl ?_
  refine rf_b wf0 rc_X9_fewest_ok 0 2 (4, [some (.ref 0), none, none, none], [.ref 25], σ) rfl ?_
  obtain ⟨q1, h2, h⟩ := Option.bind_eq_some_iff.mp h
  refine rf_cv1 (Mt := mX8_isEmpty) wf0 rc_X9_fewest_ok 2 false rfl (List.mem_of_getElem? (i := 108) rfl) mw_X8_isEmpty rfl 25 [] [] rfl rfl rfl (Nat.le_of_ble_eq_true rfl) (ok_X8_isEmpty (d + 3)  σ q1 h2) ?_
  show rf_G _ _ _ (7, [some (.ref 0), none, none, none], [.int q1], σ) _ _
  by_cases c3 : q1 = 0
  · rw [if_pos c3] at h
    refine rf_t wf0 rc_X9_fewest_ok 3 (13, [some (.ref 0), none, none, none], [], σ) rfl rfl c3 rfl ?_
    refine rf_b wf0 rc_X9_fewest_ok 6 4 (21, [some (.ref 0), none, none, none], [.ref 25, .ref 50], σ) rfl ?_
    obtain ⟨q4, h5, h⟩ := Option.bind_eq_some_iff.mp h
    refine rf_cv1 (Mt := mX6_look) wf0 rc_X9_fewest_ok 10 false rfl (List.mem_of_getElem? (i := 116) rfl) mw_X6_look rfl 50 [.ref 25] [] rfl rfl rfl (Nat.le_of_ble_eq_true rfl) (ok_X6_look d  σ q4 h5) ?_
    show rf_G _ _ _ (24, [some (.ref 0), none, none, none], [], q4) _ _
    refine rf_b wf0 rc_X9_fewest_ok 11 4 (32, [some (.ref 0), none, none, none], [.ref 25, .ref 50], q4) rfl ?_
    obtain ⟨q6, h7, h⟩ := Option.bind_eq_some_iff.mp h
    refine rf_cv1 (Mt := mX8_everybody) wf0 rc_X9_fewest_ok 15 false rfl (List.mem_of_getElem? (i := 114) rfl) mw_X8_everybody rfl 25 [] [.ref 50] rfl rfl rfl (Nat.le_of_ble_eq_true rfl) (ok_X8_everybody (d + 3)  q4 q6 h7) ?_
    show rf_G _ _ _ (35, [some (.ref 0), none, none, none], [.int q6, .ref 50], q4) _ _
    obtain ⟨q8, h9, h⟩ := Option.bind_eq_some_iff.mp h
    refine rf_cv1 (Mt := mX6_partsBy) wf0 rc_X9_fewest_ok 16 false rfl (List.mem_of_getElem? (i := 117) rfl) mw_X6_partsBy rfl 50 [.int q6] [] rfl rfl rfl (Nat.le_of_ble_eq_true rfl) (ok_X6_partsBy (d + 2) q6 q4 q8 h9) ?_
    show rf_G _ _ _ (38, [some (.ref 0), none, none, none], [.int q8.1], q8.2) _ _
    refine rf_b wf0 rc_X9_fewest_ok 17 3 (43, [some (.ref 0), some (.int q8.1), none, none], [.ref 25], q8.2) rfl ?_
    obtain ⟨q10, h11, h⟩ := Option.bind_eq_some_iff.mp h
    refine rf_cv1 (Mt := mX8_everybody) wf0 rc_X9_fewest_ok 20 false rfl (List.mem_of_getElem? (i := 114) rfl) mw_X8_everybody rfl 25 [] [] rfl rfl rfl (Nat.le_of_ble_eq_true rfl) (ok_X8_everybody (d + 3)  q8.2 q10 h11) ?_
    show rf_G _ _ _ (46, [some (.ref 0), some (.int q8.1), none, none], [.int q10], q8.2) _ _
    refine rf_b wf0 rc_X9_fewest_ok 21 3 (49, [some (.ref 0), some (.int q8.1), some (.int q10), some (.int 0)], [], q8.2) rfl ?_
    obtain ⟨e23, h24, h⟩ := Option.bind_eq_some_iff.mp h
    refine rf_lpG (b := f_X9_fewest_b49 q8.1) (G := fun (s49 : Int32 × Int32 × rf_S) => rf_G ly0 (d + 4) mX9_fewest (49, [some (.ref 0), some (.int q8.1), some (.int s49.1), some (.int s49.2.1)], [], s49.2.2) (some (.int q.1) : Option Value) q.2) (K := fun (e : (Int32 × rf_S)) => rf_G ly0 (d + 4) mX9_fewest (91, [some (.ref 0), none, some (.int e.1), none], [], e.2) (some (.int q.1) : Option Value) q.2) (fun (s49 : Int32 × Int32 × rf_S) (o : (Int32 × Int32 × rf_S) ⊕ (Int32 × rf_S)) hb kl kx => ok_X9_fewest_b49 d q8.1 s49 o hb kl kx) 5000 (q10, 0, q8.2) e23 h24 ?_
    show rf_G _ _ _ (91, [some (.ref 0), none, some (.int e23.1), none], [], e23.2) _ _
    refine rf_b wf0 rc_X9_fewest_ok 44 4 (97, [some (.ref 0), none, some (.int e23.1), none], [.int e23.1], (rf_sI e23.2 0 10 e23.1)) rfl ?_
    obtain ⟨q25, h26, h⟩ := Option.bind_eq_some_iff.mp h
    refine rf_cs1 (Mt := mJ6_bitCount_0f7a4) rc_X9_fewest_ok 48 false rfl (List.mem_of_getElem? (i := 95) rfl) mw_J_bitCount rfl [.int e23.1] [] rfl rfl (Nat.le_of_ble_eq_true rfl) (ok_J_bitCount (d + 3) e23.1 (rf_sI e23.2 0 10 e23.1) q25 h26) ?_
    show rf_G _ _ _ (100, [some (.ref 0), none, some (.int e23.1), none], [.int q25], (rf_sI e23.2 0 10 e23.1)) _ _
    obtain rfl := Option.some.inj h
    exact rf_ri rc_X9_fewest_ok 49 rfl rfl
  · rw [if_neg c3] at h
    refine rf_f wf0 rc_X9_fewest_ok 3 (10, [some (.ref 0), none, none, none], [], σ) rfl rfl c3 rfl ?_
    refine rf_b wf0 rc_X9_fewest_ok 4 1 (12, [some (.ref 0), none, none, none], [.int (-4)], σ) rfl ?_
    obtain rfl := Option.some.inj h
    exact rf_ri rc_X9_fewest_ok 5 rfl rfl
def rc_X9_alike : List rf_E := [(0, .iload_n 1, 1, 1), (1, .invokestatic 239, 3, 0), (4, .ifCond .ne 5, 3, 9), (7, .iconst (-1), 1, 0), (8, .ireturn, 1, 0), (9, .aload_n 0, 1, 0), (10, .getfield 33, 3, 903), (13, .invokevirtual 252, 3, 0), (16, .ifCond .eq 6, 3, 22), (19, .bipush (-4), 2, 0), (21, .ireturn, 1, 0), (22, .aload_n 0, 1, 0), (23, .getfield 33, 3, 903), (26, .iload_n 1, 1, 1), (27, .aload_n 0, 1, 0), (28, .getfield 33, 3, 903), (31, .invokevirtual 274, 3, 0), (34, .invokevirtual 299, 3, 0), (37, .ireturn, 1, 0)]
theorem rc_X9_alike_ok : rf_rc mX9_alike rc_X9_alike = true := by decide +kernel
theorem mw_X9_alike : rf_mw mX9_alike := ⟨rf_mt_ok _ (List.mem_of_getElem? (i := 105) rfl), fun h => absurd h (by decide), fun _ => ⟨rf_mi_ok _ (List.mem_of_getElem? (i := 100) rfl), rf_mv_ok _ (List.mem_of_getElem? (i := 100) rfl)⟩, rf_mq_4 _ (List.mem_of_getElem? (i := 5) rfl)⟩
def f_X9_alike (p0 : Int32) (σ : rf_S) : Option Int32 := (f_X9_isDegree p0 σ).bind (fun q1 => if q1 ≠ 0 then ((f_X8_isEmpty σ).bind (fun q4 => if q4 = 0 then ((f_X8_everybody σ).bind (fun q7 => (f_X8_spanAt p0 q7 σ).bind (fun q9 => some q9))) else (some (-4)))) else (some (-1)))
set_option maxHeartbeats 2000000 in
theorem ok_X9_alike (d : Nat) (p0 : Int32) (σ : rf_S) (q : Int32) (h : f_X9_alike p0 σ = some q) : rf_Ex ly0 (d + 6) mX9_alike [.ref 0, .int p0] σ (some (.int q) : Option Value) σ := by
  unfold f_X9_alike at h
  refine rf_ex mw_X9_alike [some (.ref 0), some (.int p0)] (Nat.le_of_ble_eq_true rfl) rfl ?_
  refine rf_b wf0 rc_X9_alike_ok 0 1 (1, [some (.ref 0), some (.int p0)], [.int p0], σ) rfl ?_
  obtain ⟨q1, h2, h⟩ := Option.bind_eq_some_iff.mp h
  refine rf_cs1 (Mt := mX9_isDegree) rc_X9_alike_ok 1 false rfl (List.mem_of_getElem? (i := 105) rfl) mw_X9_isDegree rfl [.int p0] [] rfl rfl (Nat.le_of_ble_eq_true rfl) (ok_X9_isDegree (d + 4) p0 σ q1 h2) ?_
  show rf_G _ _ _ (4, [some (.ref 0), some (.int p0)], [.int q1], σ) _ _
  by_cases c3 : q1 ≠ 0
  · rw [if_pos c3] at h
    refine rf_t wf0 rc_X9_alike_ok 2 (9, [some (.ref 0), some (.int p0)], [], σ) rfl rfl c3 rfl ?_
    refine rf_b wf0 rc_X9_alike_ok 5 2 (13, [some (.ref 0), some (.int p0)], [.ref 25], σ) rfl ?_
    obtain ⟨q4, h5, h⟩ := Option.bind_eq_some_iff.mp h
    refine rf_cv1 (Mt := mX8_isEmpty) wf0 rc_X9_alike_ok 7 false rfl (List.mem_of_getElem? (i := 108) rfl) mw_X8_isEmpty rfl 25 [] [] rfl rfl rfl (Nat.le_of_ble_eq_true rfl) (ok_X8_isEmpty (d + 4)  σ q4 h5) ?_
    show rf_G _ _ _ (16, [some (.ref 0), some (.int p0)], [.int q4], σ) _ _
    by_cases c6 : q4 = 0
    · rw [if_pos c6] at h
      refine rf_t wf0 rc_X9_alike_ok 8 (22, [some (.ref 0), some (.int p0)], [], σ) rfl rfl c6 rfl ?_
      refine rf_b wf0 rc_X9_alike_ok 11 5 (31, [some (.ref 0), some (.int p0)], [.ref 25, .int p0, .ref 25], σ) rfl ?_
      obtain ⟨q7, h8, h⟩ := Option.bind_eq_some_iff.mp h
      refine rf_cv1 (Mt := mX8_everybody) wf0 rc_X9_alike_ok 16 false rfl (List.mem_of_getElem? (i := 114) rfl) mw_X8_everybody rfl 25 [] [.int p0, .ref 25] rfl rfl rfl (Nat.le_of_ble_eq_true rfl) (ok_X8_everybody (d + 4)  σ q7 h8) ?_
      show rf_G _ _ _ (34, [some (.ref 0), some (.int p0)], [.int q7, .int p0, .ref 25], σ) _ _
      obtain ⟨q9, h10, h⟩ := Option.bind_eq_some_iff.mp h
      refine rf_cv1 (Mt := mX8_spanAt) wf0 rc_X9_alike_ok 17 false rfl (List.mem_of_getElem? (i := 118) rfl) mw_X8_spanAt rfl 25 [.int p0, .int q7] [] rfl rfl rfl (Nat.le_of_ble_eq_true rfl) (ok_X8_spanAt d p0 q7 σ q9 h10) ?_
      show rf_G _ _ _ (37, [some (.ref 0), some (.int p0)], [.int q9], σ) _ _
      obtain rfl := Option.some.inj h
      exact rf_ri rc_X9_alike_ok 18 rfl rfl
    · rw [if_neg c6] at h
      refine rf_f wf0 rc_X9_alike_ok 8 (19, [some (.ref 0), some (.int p0)], [], σ) rfl rfl c6 rfl ?_
      refine rf_b wf0 rc_X9_alike_ok 9 1 (21, [some (.ref 0), some (.int p0)], [.int (-4)], σ) rfl ?_
      obtain rfl := Option.some.inj h
      exact rf_ri rc_X9_alike_ok 10 rfl rfl
  · rw [if_neg c3] at h
    refine rf_f wf0 rc_X9_alike_ok 2 (7, [some (.ref 0), some (.int p0)], [], σ) rfl rfl c3 rfl ?_
    refine rf_b wf0 rc_X9_alike_ok 3 1 (8, [some (.ref 0), some (.int p0)], [.int (-1)], σ) rfl ?_
    obtain rfl := Option.some.inj h
    exact rf_ri rc_X9_alike_ok 4 rfl rfl
def rc_X9_refusedPairs : List rf_E := [(0, .aload_n 0, 1, 0), (1, .getfield 10, 3, 900), (4, .iload_n 1, 1, 1), (5, .invokevirtual 103, 3, 0), (8, .ifCond .eq 9, 3, 17), (11, .aload_n 0, 1, 0), (12, .iconst 1, 1, 0), (13, .invokevirtual 73, 3, 0), (16, .ireturn, 1, 0), (17, .aload_n 0, 1, 0), (18, .getfield 10, 3, 900), (21, .iload_n 1, 1, 1), (22, .invokevirtual 114, 3, 0), (25, .iconst 2, 1, 0), (26, .irem, 1, 0), (27, .ifCond .eq 9, 3, 36), (30, .aload_n 0, 1, 0), (31, .iconst 5, 1, 0), (32, .invokevirtual 73, 3, 0), (35, .ireturn, 1, 0), (36, .aload_n 0, 1, 0), (37, .getfield 10, 3, 900), (40, .iload_n 1, 1, 1), (41, .iload_n 2, 1, 2), (42, .invokevirtual 391, 3, 0), (45, .ifCond .eq 7, 3, 52), (48, .iconst 0, 1, 0), (49, .goto 8, 3, 57), (52, .aload_n 0, 1, 0), (53, .iconst 3, 1, 0), (54, .invokevirtual 73, 3, 0), (57, .ireturn, 1, 0)]
theorem rc_X9_refusedPairs_ok : rf_rc mX9_refusedPairs rc_X9_refusedPairs = true := by decide +kernel
theorem mw_X9_refusedPairs : rf_mw mX9_refusedPairs := ⟨rf_mt_ok _ (List.mem_of_getElem? (i := 138) rfl), fun h => absurd h (by decide), fun _ => ⟨rf_mi_ok _ (List.mem_of_getElem? (i := 129) rfl), rf_mv_ok _ (List.mem_of_getElem? (i := 129) rfl)⟩, rf_mq_5 _ (List.mem_of_getElem? (i := 13) rfl)⟩
def f_X9_refusedPairs (p0 : Int32) (p1 : Int32) (σ : rf_S) : Option (Int32 × rf_S) := (f_X4_isMissing p0 σ).bind (fun q1 => if q1 = 0 then ((f_X4_sizeOf p0 σ).bind (fun q4 => if (q4 - q4 / 2 * 2) = 0 then ((f_X4_arePairs p0 p1 σ).bind (fun q8 => if q8 = 0 then ((f_X9_find 3 σ).bind (fun q11 => some (q11.1, q11.2))) else (some (0, σ)))) else ((f_X9_find 5 σ).bind (fun q13 => some (q13.1, q13.2))))) else ((f_X9_find 1 σ).bind (fun q15 => some (q15.1, q15.2))))
set_option maxHeartbeats 2000000 in
theorem ok_X9_refusedPairs (d : Nat) (p0 : Int32) (p1 : Int32) (σ : rf_S) (q : (Int32 × rf_S)) (h : f_X9_refusedPairs p0 p1 σ = some q) : rf_Ex ly0 (d + 2) mX9_refusedPairs [.ref 0, .int p0, .int p1] σ (some (.int q.1) : Option Value) q.2 := by
  unfold f_X9_refusedPairs at h
  refine rf_ex mw_X9_refusedPairs [some (.ref 0), some (.int p0), some (.int p1)] (Nat.le_of_ble_eq_true rfl) rfl ?_
  refine rf_b wf0 rc_X9_refusedPairs_ok 0 3 (5, [some (.ref 0), some (.int p0), some (.int p1)], [.int p0, .ref 1], σ) rfl ?_
  obtain ⟨q1, h2, h⟩ := Option.bind_eq_some_iff.mp h
  refine rf_cv1 (Mt := mX4_isMissing) wf0 rc_X9_refusedPairs_ok 3 false rfl (List.mem_of_getElem? (i := 71) rfl) mw_X4_isMissing rfl 1 [.int p0] [] rfl rfl rfl (Nat.le_of_ble_eq_true rfl) (ok_X4_isMissing d p0 σ q1 h2) ?_
  show rf_G _ _ _ (8, [some (.ref 0), some (.int p0), some (.int p1)], [.int q1], σ) _ _
  by_cases c3 : q1 = 0
  · rw [if_pos c3] at h
    refine rf_t wf0 rc_X9_refusedPairs_ok 4 (17, [some (.ref 0), some (.int p0), some (.int p1)], [], σ) rfl rfl c3 rfl ?_
    refine rf_b wf0 rc_X9_refusedPairs_ok 9 3 (22, [some (.ref 0), some (.int p0), some (.int p1)], [.int p0, .ref 1], σ) rfl ?_
    obtain ⟨q4, h5, h⟩ := Option.bind_eq_some_iff.mp h
    refine rf_cv1 (Mt := mX4_sizeOf) wf0 rc_X9_refusedPairs_ok 12 false rfl (List.mem_of_getElem? (i := 74) rfl) mw_X4_sizeOf rfl 1 [.int p0] [] rfl rfl rfl (Nat.le_of_ble_eq_true rfl) (ok_X4_sizeOf d p0 σ q4 h5) ?_
    show rf_G _ _ _ (25, [some (.ref 0), some (.int p0), some (.int p1)], [.int q4], σ) _ _
    refine rf_b wf0 rc_X9_refusedPairs_ok 13 1 (26, [some (.ref 0), some (.int p0), some (.int p1)], [.int 2, .int q4], σ) rfl ?_
    refine rf_nz wf0 rc_X9_refusedPairs_ok 14 (27, [some (.ref 0), some (.int p0), some (.int p1)], [.int (q4 - q4 / 2 * 2)], σ) rfl rfl (c := (2 : Int32) = 0) (by decide) rfl ?_
    by_cases c7 : (q4 - q4 / 2 * 2) = 0
    · rw [if_pos c7] at h
      refine rf_t wf0 rc_X9_refusedPairs_ok 15 (36, [some (.ref 0), some (.int p0), some (.int p1)], [], σ) rfl rfl c7 rfl ?_
      refine rf_b wf0 rc_X9_refusedPairs_ok 20 4 (42, [some (.ref 0), some (.int p0), some (.int p1)], [.int p1, .int p0, .ref 1], σ) rfl ?_
      obtain ⟨q8, h9, h⟩ := Option.bind_eq_some_iff.mp h
      refine rf_cv1 (Mt := mX4_arePairs) wf0 rc_X9_refusedPairs_ok 24 false rfl (List.mem_of_getElem? (i := 140) rfl) mw_X4_arePairs rfl 1 [.int p0, .int p1] [] rfl rfl rfl (Nat.le_of_ble_eq_true rfl) (ok_X4_arePairs d p0 p1 σ q8 h9) ?_
      show rf_G _ _ _ (45, [some (.ref 0), some (.int p0), some (.int p1)], [.int q8], σ) _ _
      by_cases c10 : q8 = 0
      · rw [if_pos c10] at h
        refine rf_t wf0 rc_X9_refusedPairs_ok 25 (52, [some (.ref 0), some (.int p0), some (.int p1)], [], σ) rfl rfl c10 rfl ?_
        refine rf_b wf0 rc_X9_refusedPairs_ok 28 2 (54, [some (.ref 0), some (.int p0), some (.int p1)], [.int 3, .ref 0], σ) rfl ?_
        obtain ⟨q11, h12, h⟩ := Option.bind_eq_some_iff.mp h
        refine rf_cv1 (Mt := mX9_find) wf0 rc_X9_refusedPairs_ok 30 false rfl (List.mem_of_getElem? (i := 64) rfl) mw_X9_find rfl 0 [.int 3] [] rfl rfl rfl (Nat.le_of_ble_eq_true rfl) (ok_X9_find d 3 σ q11 h12) ?_
        show rf_G _ _ _ (57, [some (.ref 0), some (.int p0), some (.int p1)], [.int q11.1], q11.2) _ _
        obtain rfl := Option.some.inj h
        exact rf_ri rc_X9_refusedPairs_ok 31 rfl rfl
      · rw [if_neg c10] at h
        refine rf_f wf0 rc_X9_refusedPairs_ok 25 (48, [some (.ref 0), some (.int p0), some (.int p1)], [], σ) rfl rfl c10 rfl ?_
        refine rf_b wf0 rc_X9_refusedPairs_ok 26 2 (57, [some (.ref 0), some (.int p0), some (.int p1)], [.int 0], σ) rfl ?_
        obtain rfl := Option.some.inj h
        exact rf_ri rc_X9_refusedPairs_ok 31 rfl rfl
    · rw [if_neg c7] at h
      refine rf_f wf0 rc_X9_refusedPairs_ok 15 (30, [some (.ref 0), some (.int p0), some (.int p1)], [], σ) rfl rfl c7 rfl ?_
      refine rf_b wf0 rc_X9_refusedPairs_ok 16 2 (32, [some (.ref 0), some (.int p0), some (.int p1)], [.int 5, .ref 0], σ) rfl ?_
      obtain ⟨q13, h14, h⟩ := Option.bind_eq_some_iff.mp h
      refine rf_cv1 (Mt := mX9_find) wf0 rc_X9_refusedPairs_ok 18 false rfl (List.mem_of_getElem? (i := 64) rfl) mw_X9_find rfl 0 [.int 5] [] rfl rfl rfl (Nat.le_of_ble_eq_true rfl) (ok_X9_find d 5 σ q13 h14) ?_
      show rf_G _ _ _ (35, [some (.ref 0), some (.int p0), some (.int p1)], [.int q13.1], q13.2) _ _
      obtain rfl := Option.some.inj h
      exact rf_ri rc_X9_refusedPairs_ok 19 rfl rfl
  · rw [if_neg c3] at h
    refine rf_f wf0 rc_X9_refusedPairs_ok 4 (11, [some (.ref 0), some (.int p0), some (.int p1)], [], σ) rfl rfl c3 rfl ?_
    refine rf_b wf0 rc_X9_refusedPairs_ok 5 2 (13, [some (.ref 0), some (.int p0), some (.int p1)], [.int 1, .ref 0], σ) rfl ?_
    obtain ⟨q15, h16, h⟩ := Option.bind_eq_some_iff.mp h
    refine rf_cv1 (Mt := mX9_find) wf0 rc_X9_refusedPairs_ok 7 false rfl (List.mem_of_getElem? (i := 64) rfl) mw_X9_find rfl 0 [.int 1] [] rfl rfl rfl (Nat.le_of_ble_eq_true rfl) (ok_X9_find d 1 σ q15 h16) ?_
    show rf_G _ _ _ (16, [some (.ref 0), some (.int p0), some (.int p1)], [.int q15.1], q15.2) _ _
    obtain rfl := Option.some.inj h
    exact rf_ri rc_X9_refusedPairs_ok 8 rfl rfl
def rc_X9_refusedRecord : List rf_E := [(0, .iload_n 1, 1, 1), (1, .invokestatic 69, 3, 0), (4, .ifCond .ne 5, 3, 9), (7, .iconst (-1), 1, 0), (8, .ireturn, 1, 0), (9, .aload_n 0, 1, 0), (10, .getfield 33, 3, 903), (13, .invokevirtual 252, 3, 0), (16, .ifCond .eq 6, 3, 22), (19, .bipush (-4), 2, 0), (21, .ireturn, 1, 0), (22, .aload_n 0, 1, 0), (23, .iload_n 1, 1, 1), (24, .aload_n 0, 1, 0), (25, .getfield 33, 3, 903), (28, .invokevirtual 151, 3, 0), (31, .invokevirtual 388, 3, 0), (34, .ireturn, 1, 0)]
theorem rc_X9_refusedRecord_ok : rf_rc mX9_refusedRecord rc_X9_refusedRecord = true := by decide +kernel
theorem mw_X9_refusedRecord : rf_mw mX9_refusedRecord := ⟨rf_mt_ok _ (List.mem_of_getElem? (i := 136) rfl), fun h => absurd h (by decide), fun _ => ⟨rf_mi_ok _ (List.mem_of_getElem? (i := 127) rfl), rf_mv_ok _ (List.mem_of_getElem? (i := 127) rfl)⟩, rf_mq_5 _ (List.mem_of_getElem? (i := 11) rfl)⟩
def f_X9_refusedRecord (p0 : Int32) (σ : rf_S) : Option (Int32 × rf_S) := (f_X9_isRow p0 σ).bind (fun q1 => if q1 ≠ 0 then ((f_X8_isEmpty σ).bind (fun q4 => if q4 = 0 then ((f_X8_members σ).bind (fun q7 => (f_X9_refusedPairs p0 q7 σ).bind (fun q9 => some (q9.1, q9.2)))) else (some ((-4), σ)))) else (some ((-1), σ)))
set_option maxHeartbeats 2000000 in
theorem ok_X9_refusedRecord (d : Nat) (p0 : Int32) (σ : rf_S) (q : (Int32 × rf_S)) (h : f_X9_refusedRecord p0 σ = some q) : rf_Ex ly0 (d + 3) mX9_refusedRecord [.ref 0, .int p0] σ (some (.int q.1) : Option Value) q.2 := by
  unfold f_X9_refusedRecord at h
  refine rf_ex mw_X9_refusedRecord [some (.ref 0), some (.int p0)] (Nat.le_of_ble_eq_true rfl) rfl ?_
  refine rf_b wf0 rc_X9_refusedRecord_ok 0 1 (1, [some (.ref 0), some (.int p0)], [.int p0], σ) rfl ?_
  obtain ⟨q1, h2, h⟩ := Option.bind_eq_some_iff.mp h
  refine rf_cs1 (Mt := mX9_isRow) rc_X9_refusedRecord_ok 1 false rfl (List.mem_of_getElem? (i := 63) rfl) mw_X9_isRow rfl [.int p0] [] rfl rfl (Nat.le_of_ble_eq_true rfl) (ok_X9_isRow (d + 1) p0 σ q1 h2) ?_
  show rf_G _ _ _ (4, [some (.ref 0), some (.int p0)], [.int q1], σ) _ _
  by_cases c3 : q1 ≠ 0
  · rw [if_pos c3] at h
    refine rf_t wf0 rc_X9_refusedRecord_ok 2 (9, [some (.ref 0), some (.int p0)], [], σ) rfl rfl c3 rfl ?_
    refine rf_b wf0 rc_X9_refusedRecord_ok 5 2 (13, [some (.ref 0), some (.int p0)], [.ref 25], σ) rfl ?_
    obtain ⟨q4, h5, h⟩ := Option.bind_eq_some_iff.mp h
    refine rf_cv1 (Mt := mX8_isEmpty) wf0 rc_X9_refusedRecord_ok 7 false rfl (List.mem_of_getElem? (i := 108) rfl) mw_X8_isEmpty rfl 25 [] [] rfl rfl rfl (Nat.le_of_ble_eq_true rfl) (ok_X8_isEmpty (d + 1)  σ q4 h5) ?_
    show rf_G _ _ _ (16, [some (.ref 0), some (.int p0)], [.int q4], σ) _ _
    by_cases c6 : q4 = 0
    · rw [if_pos c6] at h
      refine rf_t wf0 rc_X9_refusedRecord_ok 8 (22, [some (.ref 0), some (.int p0)], [], σ) rfl rfl c6 rfl ?_
      refine rf_b wf0 rc_X9_refusedRecord_ok 11 4 (28, [some (.ref 0), some (.int p0)], [.ref 25, .int p0, .ref 0], σ) rfl ?_
      obtain ⟨q7, h8, h⟩ := Option.bind_eq_some_iff.mp h
      refine rf_cv1 (Mt := mX8_members) wf0 rc_X9_refusedRecord_ok 15 false rfl (List.mem_of_getElem? (i := 85) rfl) mw_X8_members rfl 25 [] [.int p0, .ref 0] rfl rfl rfl (Nat.le_of_ble_eq_true rfl) (ok_X8_members (d + 1)  σ q7 h8) ?_
      show rf_G _ _ _ (31, [some (.ref 0), some (.int p0)], [.int q7, .int p0, .ref 0], σ) _ _
      obtain ⟨q9, h10, h⟩ := Option.bind_eq_some_iff.mp h
      refine rf_cv1 (Mt := mX9_refusedPairs) wf0 rc_X9_refusedRecord_ok 16 false rfl (List.mem_of_getElem? (i := 139) rfl) mw_X9_refusedPairs rfl 0 [.int p0, .int q7] [] rfl rfl rfl (Nat.le_of_ble_eq_true rfl) (ok_X9_refusedPairs d p0 q7 σ q9 h10) ?_
      show rf_G _ _ _ (34, [some (.ref 0), some (.int p0)], [.int q9.1], q9.2) _ _
      obtain rfl := Option.some.inj h
      exact rf_ri rc_X9_refusedRecord_ok 17 rfl rfl
    · rw [if_neg c6] at h
      refine rf_f wf0 rc_X9_refusedRecord_ok 8 (19, [some (.ref 0), some (.int p0)], [], σ) rfl rfl c6 rfl ?_
      refine rf_b wf0 rc_X9_refusedRecord_ok 9 1 (21, [some (.ref 0), some (.int p0)], [.int (-4)], σ) rfl ?_
      obtain rfl := Option.some.inj h
      exact rf_ri rc_X9_refusedRecord_ok 10 rfl rfl
  · rw [if_neg c3] at h
    refine rf_f wf0 rc_X9_refusedRecord_ok 2 (7, [some (.ref 0), some (.int p0)], [], σ) rfl rfl c3 rfl ?_
    refine rf_b wf0 rc_X9_refusedRecord_ok 3 1 (8, [some (.ref 0), some (.int p0)], [.int (-1)], σ) rfl ?_
    obtain rfl := Option.some.inj h
    exact rf_ri rc_X9_refusedRecord_ok 4 rfl rfl
def rc_X9_fitting : List rf_E := [(0, .ldc_w 394, 3, 2147483647), (3, .istore_n 3, 1, 3), (4, .iconst 0, 1, 0), (5, .istore 4, 2, 4), (7, .iload 4, 2, 4), (9, .iconst 1, 1, 0), (10, .iadd, 1, 0), (11, .aload_n 0, 1, 0), (12, .getfield 10, 3, 900), (15, .iload_n 1, 1, 1), (16, .invokevirtual 114, 3, 0), (19, .if_icmp .ge 76, 3, 95), (22, .aload_n 0, 1, 0), (23, .getfield 10, 3, 900), (26, .iload_n 1, 1, 1), (27, .iload 4, 2, 4), (29, .iconst 1, 1, 0), (30, .iadd, 1, 0), (31, .invokevirtual 85, 3, 0), (34, .iconst 1, 1, 0), (35, .if_icmp .ne 7, 3, 42), (38, .iconst 1, 1, 0), (39, .goto 4, 3, 43), (42, .iconst 0, 1, 0), (43, .iload 4, 2, 4), (45, .iload_n 2, 1, 2), (46, .if_icmp .ne 7, 3, 53), (49, .iconst 1, 1, 0), (50, .goto 4, 3, 54), (53, .iconst 0, 1, 0), (54, .if_icmp .eq 7, 3, 61), (57, .iconst 1, 1, 0), (58, .goto 4, 3, 62), (61, .iconst 0, 1, 0), (62, .istore 5, 2, 5), (64, .iload_n 3, 1, 3), (65, .aload_n 0, 1, 0), (66, .getfield 33, 3, 903), (69, .aload_n 0, 1, 0), (70, .getfield 10, 3, 900), (73, .iload_n 1, 1, 1), (74, .iload 4, 2, 4), (76, .invokevirtual 85, 3, 0), (79, .invokevirtual 182, 3, 0), (82, .iload 5, 2, 5), (84, .invokestatic 395, 3, 0), (87, .iand, 1, 0), (88, .istore_n 3, 1, 3), (89, .iinc 4 2, 3, 4), (92, .goto (-85), 3, 7), (95, .iload_n 3, 1, 3), (96, .ireturn, 1, 0)]
theorem rc_X9_fitting_ok : rf_rc mX9_fitting rc_X9_fitting = true := by decide +kernel
theorem mw_X9_fitting : rf_mw mX9_fitting := ⟨rf_mt_ok _ (List.mem_of_getElem? (i := 139) rfl), fun h => absurd h (by decide), fun _ => ⟨rf_mi_ok _ (List.mem_of_getElem? (i := 130) rfl), rf_mv_ok _ (List.mem_of_getElem? (i := 130) rfl)⟩, rf_mq_5 _ (List.mem_of_getElem? (i := 14) rfl)⟩
def f_X9_fitting_j62 (l1 : Int32) (l2 : Int32) (l3 : Int32) (l4 : Int32) (t0 : Int32) (σ : rf_S) : Option ((Int32 × Int32) ⊕ (Int32)) := (f_X4_get l1 l4 σ).bind (fun q9 => (f_X8_would q9 σ).bind (fun q11 => (f_X9_seen q11 t0 σ).bind (fun q13 => some (.inl ((l3 &&& q13), (l4 + 2))))))
set_option maxHeartbeats 2000000 in
theorem ok_X9_fitting_j62 (d : Nat) (l1 : Int32) (l2 : Int32) (l3 : Int32) (l4 : Int32) (t0 : Int32) (σ : rf_S) (o : ((Int32 × Int32) ⊕ (Int32))) (h : f_X9_fitting_j62 l1 l2 l3 l4 t0 σ = some o) {r : Option Value} {σr : rf_S} (kl : ∀ s', o = .inl s' → rf_G ly0 (d + 3) mX9_fitting (7, [some (.ref 0), some (.int l1), some (.int l2), some (.int s'.1), some (.int s'.2), none], [], σ) r σr) (kx : ∀ e, o = .inr e → rf_G ly0 (d + 3) mX9_fitting (95, [none, none, none, some (.int e), none, none], [], σ) r σr) : rf_G ly0 (d + 3) mX9_fitting (62, [some (.ref 0), some (.int l1), some (.int l2), some (.int l3), some (.int l4), none], [.int t0], σ) r σr := by
  unfold f_X9_fitting_j62 at h
  refine rf_b wf0 rc_X9_fitting_ok 34 8 (76, [some (.ref 0), some (.int l1), some (.int l2), some (.int l3), some (.int l4), some (.int t0)], [.int l4, .int l1, .ref 1, .ref 25, .int l3], σ) rfl ?_
  obtain ⟨q9, h10, h⟩ := Option.bind_eq_some_iff.mp h
  refine rf_cv1 (Mt := mX4_get) wf0 rc_X9_fitting_ok 42 false rfl (List.mem_of_getElem? (i := 67) rfl) mw_X4_get rfl 1 [.int l1, .int l4] [.ref 25, .int l3] rfl rfl rfl (Nat.le_of_ble_eq_true rfl) (ok_X4_get (d + 2) l1 l4 σ q9 h10) ?_
  show rf_G _ _ _ (79, [some (.ref 0), some (.int l1), some (.int l2), some (.int l3), some (.int l4), some (.int t0)], [.int q9, .ref 25, .int l3], σ) _ _
  obtain ⟨q11, h12, h⟩ := Option.bind_eq_some_iff.mp h
  refine rf_cv1 (Mt := mX8_would) wf0 rc_X9_fitting_ok 43 false rfl (List.mem_of_getElem? (i := 94) rfl) mw_X8_would rfl 25 [.int q9] [.int l3] rfl rfl rfl (Nat.le_of_ble_eq_true rfl) (ok_X8_would d q9 σ q11 h12) ?_
  show rf_G _ _ _ (82, [some (.ref 0), some (.int l1), some (.int l2), some (.int l3), some (.int l4), some (.int t0)], [.int q11, .int l3], σ) _ _
  refine rf_b wf0 rc_X9_fitting_ok 44 1 (84, [some (.ref 0), some (.int l1), some (.int l2), some (.int l3), some (.int l4), some (.int t0)], [.int t0, .int q11, .int l3], σ) rfl ?_
  obtain ⟨q13, h14, h⟩ := Option.bind_eq_some_iff.mp h
  refine rf_cs1 (Mt := mX9_seen) rc_X9_fitting_ok 45 false rfl (List.mem_of_getElem? (i := 141) rfl) mw_X9_seen rfl [.int q11, .int t0] [.int l3] rfl rfl (Nat.le_of_ble_eq_true rfl) (ok_X9_seen (d + 2) q11 t0 σ q13 h14) ?_
  show rf_G _ _ _ (87, [some (.ref 0), some (.int l1), some (.int l2), some (.int l3), some (.int l4), some (.int t0)], [.int q13, .int l3], σ) _ _
  refine rf_b wf0 rc_X9_fitting_ok 46 4 (7, [some (.ref 0), some (.int l1), some (.int l2), some (.int (l3 &&& q13)), some (.int (l4 + 2)), some (.int t0)], [], σ) rfl ?_
  refine rf_fg [true, true, true, true, true, false] [some (.ref 0), some (.int l1), some (.int l2), some (.int (l3 &&& q13)), some (.int (l4 + 2)), none] rfl ?_
  exact kl ((l3 &&& q13), (l4 + 2)) (Option.some.inj h).symm
def f_X9_fitting_j54 (l1 : Int32) (l2 : Int32) (l3 : Int32) (l4 : Int32) (t0 : Int32) (t1 : Int32) (σ : rf_S) : Option ((Int32 × Int32) ⊕ (Int32)) := if t1 = t0 then (f_X9_fitting_j62 l1 l2 l3 l4 0 σ) else (f_X9_fitting_j62 l1 l2 l3 l4 1 σ)
set_option maxHeartbeats 2000000 in
theorem ok_X9_fitting_j54 (d : Nat) (l1 : Int32) (l2 : Int32) (l3 : Int32) (l4 : Int32) (t0 : Int32) (t1 : Int32) (σ : rf_S) (o : ((Int32 × Int32) ⊕ (Int32))) (h : f_X9_fitting_j54 l1 l2 l3 l4 t0 t1 σ = some o) {r : Option Value} {σr : rf_S} (kl : ∀ s', o = .inl s' → rf_G ly0 (d + 3) mX9_fitting (7, [some (.ref 0), some (.int l1), some (.int l2), some (.int s'.1), some (.int s'.2), none], [], σ) r σr) (kx : ∀ e, o = .inr e → rf_G ly0 (d + 3) mX9_fitting (95, [none, none, none, some (.int e), none, none], [], σ) r σr) : rf_G ly0 (d + 3) mX9_fitting (54, [some (.ref 0), some (.int l1), some (.int l2), some (.int l3), some (.int l4), none], [.int t0, .int t1], σ) r σr := by
  unfold f_X9_fitting_j54 at h
  by_cases c8 : t1 = t0
  · rw [if_pos c8] at h
    refine rf_t wf0 rc_X9_fitting_ok 30 (61, [some (.ref 0), some (.int l1), some (.int l2), some (.int l3), some (.int l4), none], [], σ) rfl rfl c8 rfl ?_
    refine rf_b wf0 rc_X9_fitting_ok 33 1 (62, [some (.ref 0), some (.int l1), some (.int l2), some (.int l3), some (.int l4), none], [.int 0], σ) rfl ?_
    exact ok_X9_fitting_j62 d l1 l2 l3 l4 0 σ o h kl kx
  · rw [if_neg c8] at h
    refine rf_f wf0 rc_X9_fitting_ok 30 (57, [some (.ref 0), some (.int l1), some (.int l2), some (.int l3), some (.int l4), none], [], σ) rfl rfl c8 rfl ?_
    refine rf_b wf0 rc_X9_fitting_ok 31 2 (62, [some (.ref 0), some (.int l1), some (.int l2), some (.int l3), some (.int l4), none], [.int 1], σ) rfl ?_
    exact ok_X9_fitting_j62 d l1 l2 l3 l4 1 σ o h kl kx
def f_X9_fitting_j43 (l1 : Int32) (l2 : Int32) (l3 : Int32) (l4 : Int32) (t0 : Int32) (σ : rf_S) : Option ((Int32 × Int32) ⊕ (Int32)) := if l4 ≠ l2 then (f_X9_fitting_j54 l1 l2 l3 l4 0 t0 σ) else (f_X9_fitting_j54 l1 l2 l3 l4 1 t0 σ)
set_option maxHeartbeats 2000000 in
theorem ok_X9_fitting_j43 (d : Nat) (l1 : Int32) (l2 : Int32) (l3 : Int32) (l4 : Int32) (t0 : Int32) (σ : rf_S) (o : ((Int32 × Int32) ⊕ (Int32))) (h : f_X9_fitting_j43 l1 l2 l3 l4 t0 σ = some o) {r : Option Value} {σr : rf_S} (kl : ∀ s', o = .inl s' → rf_G ly0 (d + 3) mX9_fitting (7, [some (.ref 0), some (.int l1), some (.int l2), some (.int s'.1), some (.int s'.2), none], [], σ) r σr) (kx : ∀ e, o = .inr e → rf_G ly0 (d + 3) mX9_fitting (95, [none, none, none, some (.int e), none, none], [], σ) r σr) : rf_G ly0 (d + 3) mX9_fitting (43, [some (.ref 0), some (.int l1), some (.int l2), some (.int l3), some (.int l4), none], [.int t0], σ) r σr := by
  unfold f_X9_fitting_j43 at h
  refine rf_b wf0 rc_X9_fitting_ok 24 2 (46, [some (.ref 0), some (.int l1), some (.int l2), some (.int l3), some (.int l4), none], [.int l2, .int l4, .int t0], σ) rfl ?_
  by_cases c7 : l4 ≠ l2
  · rw [if_pos c7] at h
    refine rf_t wf0 rc_X9_fitting_ok 26 (53, [some (.ref 0), some (.int l1), some (.int l2), some (.int l3), some (.int l4), none], [.int t0], σ) rfl rfl c7 rfl ?_
    refine rf_b wf0 rc_X9_fitting_ok 29 1 (54, [some (.ref 0), some (.int l1), some (.int l2), some (.int l3), some (.int l4), none], [.int 0, .int t0], σ) rfl ?_
    exact ok_X9_fitting_j54 d l1 l2 l3 l4 0 t0 σ o h kl kx
  · rw [if_neg c7] at h
    refine rf_f wf0 rc_X9_fitting_ok 26 (49, [some (.ref 0), some (.int l1), some (.int l2), some (.int l3), some (.int l4), none], [.int t0], σ) rfl rfl c7 rfl ?_
    refine rf_b wf0 rc_X9_fitting_ok 27 2 (54, [some (.ref 0), some (.int l1), some (.int l2), some (.int l3), some (.int l4), none], [.int 1, .int t0], σ) rfl ?_
    exact ok_X9_fitting_j54 d l1 l2 l3 l4 1 t0 σ o h kl kx
def f_X9_fitting_b7 (l1 : Int32) (l2 : Int32) (σ : rf_S) (s7 : Int32 × Int32) : Option ((Int32 × Int32) ⊕ (Int32)) := (f_X4_sizeOf l1 σ).bind (fun q1 => if q1 ≤ (s7.2 + 1) then (some (.inr s7.1)) else ((f_X4_get l1 (s7.2 + 1) σ).bind (fun q4 => if q4 ≠ 1 then (f_X9_fitting_j43 l1 l2 s7.1 s7.2 0 σ) else (f_X9_fitting_j43 l1 l2 s7.1 s7.2 1 σ))))
set_option maxHeartbeats 2000000 in
theorem ok_X9_fitting_b7 (d : Nat) (l1 : Int32) (l2 : Int32) (σ : rf_S) (s7 : Int32 × Int32) (o : ((Int32 × Int32) ⊕ (Int32))) (h : f_X9_fitting_b7 l1 l2 σ s7 = some o) {r : Option Value} {σr : rf_S} (kl : ∀ s', o = .inl s' → rf_G ly0 (d + 3) mX9_fitting (7, [some (.ref 0), some (.int l1), some (.int l2), some (.int s'.1), some (.int s'.2), none], [], σ) r σr) (kx : ∀ e, o = .inr e → rf_G ly0 (d + 3) mX9_fitting (95, [none, none, none, some (.int e), none, none], [], σ) r σr) : rf_G ly0 (d + 3) mX9_fitting (7, [some (.ref 0), some (.int l1), some (.int l2), some (.int s7.1), some (.int s7.2), none], [], σ) r σr := by
  unfold f_X9_fitting_b7 at h
  refine rf_b wf0 rc_X9_fitting_ok 4 6 (16, [some (.ref 0), some (.int l1), some (.int l2), some (.int s7.1), some (.int s7.2), none], [.int l1, .ref 1, .int (s7.2 + 1)], σ) rfl ?_
  obtain ⟨q1, h2, h⟩ := Option.bind_eq_some_iff.mp h
  refine rf_cv1 (Mt := mX4_sizeOf) wf0 rc_X9_fitting_ok 10 false rfl (List.mem_of_getElem? (i := 74) rfl) mw_X4_sizeOf rfl 1 [.int l1] [.int (s7.2 + 1)] rfl rfl rfl (Nat.le_of_ble_eq_true rfl) (ok_X4_sizeOf (d + 2) l1 σ q1 h2) ?_
  show rf_G _ _ _ (19, [some (.ref 0), some (.int l1), some (.int l2), some (.int s7.1), some (.int s7.2), none], [.int q1, .int (s7.2 + 1)], σ) _ _
  by_cases c3 : q1 ≤ (s7.2 + 1)
  · rw [if_pos c3] at h
    refine rf_t wf0 rc_X9_fitting_ok 11 (95, [some (.ref 0), some (.int l1), some (.int l2), some (.int s7.1), some (.int s7.2), none], [], σ) rfl rfl c3 rfl ?_
    refine rf_fg [false, false, false, true, false, true] [none, none, none, some (.int s7.1), none, none] rfl ?_
    exact kx s7.1 (Option.some.inj h).symm
  · rw [if_neg c3] at h
    refine rf_f wf0 rc_X9_fitting_ok 11 (22, [some (.ref 0), some (.int l1), some (.int l2), some (.int s7.1), some (.int s7.2), none], [], σ) rfl rfl c3 rfl ?_
    refine rf_b wf0 rc_X9_fitting_ok 12 6 (31, [some (.ref 0), some (.int l1), some (.int l2), some (.int s7.1), some (.int s7.2), none], [.int (s7.2 + 1), .int l1, .ref 1], σ) rfl ?_
    obtain ⟨q4, h5, h⟩ := Option.bind_eq_some_iff.mp h
    refine rf_cv1 (Mt := mX4_get) wf0 rc_X9_fitting_ok 18 false rfl (List.mem_of_getElem? (i := 67) rfl) mw_X4_get rfl 1 [.int l1, .int (s7.2 + 1)] [] rfl rfl rfl (Nat.le_of_ble_eq_true rfl) (ok_X4_get (d + 2) l1 (s7.2 + 1) σ q4 h5) ?_
    show rf_G _ _ _ (34, [some (.ref 0), some (.int l1), some (.int l2), some (.int s7.1), some (.int s7.2), none], [.int q4], σ) _ _
    refine rf_b wf0 rc_X9_fitting_ok 19 1 (35, [some (.ref 0), some (.int l1), some (.int l2), some (.int s7.1), some (.int s7.2), none], [.int 1, .int q4], σ) rfl ?_
    by_cases c6 : q4 ≠ 1
    · rw [if_pos c6] at h
      refine rf_t wf0 rc_X9_fitting_ok 20 (42, [some (.ref 0), some (.int l1), some (.int l2), some (.int s7.1), some (.int s7.2), none], [], σ) rfl rfl c6 rfl ?_
      refine rf_b wf0 rc_X9_fitting_ok 23 1 (43, [some (.ref 0), some (.int l1), some (.int l2), some (.int s7.1), some (.int s7.2), none], [.int 0], σ) rfl ?_
      exact ok_X9_fitting_j43 d l1 l2 s7.1 s7.2 0 σ o h kl kx
    · rw [if_neg c6] at h
      refine rf_f wf0 rc_X9_fitting_ok 20 (38, [some (.ref 0), some (.int l1), some (.int l2), some (.int s7.1), some (.int s7.2), none], [], σ) rfl rfl c6 rfl ?_
      refine rf_b wf0 rc_X9_fitting_ok 21 2 (43, [some (.ref 0), some (.int l1), some (.int l2), some (.int s7.1), some (.int s7.2), none], [.int 1], σ) rfl ?_
      exact ok_X9_fitting_j43 d l1 l2 s7.1 s7.2 1 σ o h kl kx
def f_X9_fitting (p0 : Int32) (p1 : Int32) (σ : rf_S) : Option Int32 := (rf_lp (f_X9_fitting_b7 p0 p1 σ) 5000 (2147483647, 0)).bind (fun e15 => some e15)
set_option maxHeartbeats 2000000 in
theorem ok_X9_fitting (d : Nat) (p0 : Int32) (p1 : Int32) (σ : rf_S) (q : Int32) (h : f_X9_fitting p0 p1 σ = some q) : rf_Ex ly0 (d + 4) mX9_fitting [.ref 0, .int p0, .int p1] σ (some (.int q) : Option Value) σ := by
  unfold f_X9_fitting at h
  refine rf_ex mw_X9_fitting [some (.ref 0), some (.int p0), some (.int p1), none, none, none] (Nat.le_of_ble_eq_true rfl) rfl ?_
  refine rf_b wf0 rc_X9_fitting_ok 0 4 (7, [some (.ref 0), some (.int p0), some (.int p1), some (.int 2147483647), some (.int 0), none], [], σ) rfl ?_
  obtain ⟨e15, h16, h⟩ := Option.bind_eq_some_iff.mp h
  refine rf_lpG (b := f_X9_fitting_b7 p0 p1 σ) (G := fun (s7 : Int32 × Int32) => rf_G ly0 (d + 3) mX9_fitting (7, [some (.ref 0), some (.int p0), some (.int p1), some (.int s7.1), some (.int s7.2), none], [], σ) (some (.int q) : Option Value) σ) (K := fun (e : (Int32)) => rf_G ly0 (d + 3) mX9_fitting (95, [none, none, none, some (.int e), none, none], [], σ) (some (.int q) : Option Value) σ) (fun (s7 : Int32 × Int32) (o : (Int32 × Int32) ⊕ (Int32)) hb kl kx => ok_X9_fitting_b7 d p0 p1 σ s7 o hb kl kx) 5000 (2147483647, 0) e15 h16 ?_
  show rf_G _ _ _ (95, [none, none, none, some (.int e15), none, none], [], σ) _ _
  refine rf_b wf0 rc_X9_fitting_ok 50 1 (96, [none, none, none, some (.int e15), none, none], [.int e15], σ) rfl ?_
  obtain rfl := Option.some.inj h
  exact rf_ri rc_X9_fitting_ok 51 rfl rfl
