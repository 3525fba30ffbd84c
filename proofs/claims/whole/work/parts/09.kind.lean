/-! ===== kindBySign: a loop over the class's constant row of signs ===== -/
def rc_X3_kindBySign : List rf_E := [(0, .iconst 0, 1, 0), (1, .istore_n 1, 1, 1), (2, .iload_n 1, 1, 1), (7, .if_icmp .ge 20, 3, 27), (15, .iload_n 0, 1, 0), (16, .if_icmp .ne 5, 3, 21), (19, .iload_n 1, 1, 1), (20, .ireturn, 1, 0), (21, .iinc 1 1, 3, 1), (24, .goto (-22), 3, 2), (27, .bipush (-9), 2, 0), (29, .ireturn, 1, 0)]
theorem rc_X3_kindBySign_ok : rf_rc mX3_kindBySign rc_X3_kindBySign = true := by decide +kernel
theorem mw_X3_kindBySign : rf_mw mX3_kindBySign := ⟨rf_mt_ok _ (List.mem_of_getElem? (i := 22) rfl), fun _ => rf_ms_ok _ (List.mem_of_getElem? (i := 2) rfl), fun h => absurd h (by decide), rf_mq_0 _ (List.mem_of_getElem? (i := 22) rfl)⟩
theorem kb_d3 : decode mX3_kindBySign.2.2.1 3 = .ok (.getstatic 85, 3) := by decide +kernel
theorem kb_d6 : decode mX3_kindBySign.2.2.1 6 = .ok (.arraylength, 1) := by decide +kernel
theorem kb_d10 : decode mX3_kindBySign.2.2.1 10 = .ok (.getstatic 85, 3) := by decide +kernel
theorem kb_d13 : decode mX3_kindBySign.2.2.1 13 = .ok (.iload_n 1, 1) := by decide +kernel
theorem kb_d14 : decode mX3_kindBySign.2.2.1 14 = .ok (.iaload, 1) := by decide +kernel
theorem kb_nw : Cond.fieldLinkNest "FeltCold$Reader" 85 "FeltCold" "KIND_SIGNS" "[I" "FeltCold" ∈ rf_nw := rf_in_nw (List.mem_of_getElem? (i := 514) (by decide +kernel)) rfl
theorem kb_len {d : Nat} {ls : List (Option Value)} {st : List Value} {σ : rf_S} {r : Option Value} {σ' : rf_S} (k : rf_G ly0 d mX3_kindBySign (7, ls, .int 6 :: st, σ) r σ') : rf_G ly0 d mX3_kindBySign (3, ls, st, σ) r σ' := by
  intro p l e s m args below meth c D ca ad tk A hH H locs lC hP hS hl
  have k := k p l e s m args below meth c D ca ad tk A hH
  obtain ⟨hx, hb, hml, hr, hlocks, hts, hown, hK, hN, hA, hD, hF, hZ, hT⟩ := hH
  refine va_getsN hx hb hZ hS hown ((hN _ kb_nw).use rfl) (fun _ h => h) kb_d3 ?_
  exact va_tlen hx hb hT hS rfl kb_d6 (k H locs lC hP hS hl)
theorem kb_at {d : Nat} {ls : List (Option Value)} {st : List Value} {σ : rf_S} {r : Option Value} {σ' : rf_S} {i : Int32} (hi : ls[1]? = some (some (.int i))) (hin : vp_in i 6) (k : rf_G ly0 d mX3_kindBySign (15, ls, .int (rf_kn i.toNatClampNeg) :: st, σ) r σ') : rf_G ly0 d mX3_kindBySign (10, ls, st, σ) r σ' := by
  intro p l e s m args below meth c D ca ad tk A hH H locs lC hP hS hl
  have k := k p l e s m args below meth c D ca ad tk A hH
  obtain ⟨hx, hb, hml, hr, hlocks, hts, hown, hK, hN, hA, hD, hF, hZ, hT⟩ := hH
  refine va_getsN hx hb hZ hS hown ((hN _ kb_nw).use rfl) (fun _ h => h) kb_d10 ?_
  refine lv_iload_n hx hb kb_d13 rfl (hl.2.2.2 1 _ hi) ?_
  exact va_ti hx hb hT hS hin rfl kb_d14 (k H locs lC hP hS hl)
theorem kb_step {d : Nat} {p0 : Int32} {σ : rf_S} {r : Option Value} {σ' : rf_S} (k : Nat) (hk : k < 6) (h1 : rf_kn k = p0 → rf_G ly0 d mX3_kindBySign (19, [some (.int p0), some (.int (nI k))], [], σ) r σ') (h2 : ¬ rf_kn k = p0 → rf_G ly0 d mX3_kindBySign (2, [some (.int p0), some (.int (nI (k + 1)))], [], σ) r σ') : rf_G ly0 d mX3_kindBySign (2, [some (.int p0), some (.int (nI k))], [], σ) r σ' := by
  refine rf_b wf0 rc_X3_kindBySign_ok 2 1 (3, [some (.int p0), some (.int (nI k))], [.int (nI k)], σ) rfl ?_
  refine kb_len ?_
  have hc : ¬ (6 : Int32) ≤ nI k := by
    have := nI_ge hk (by decide)
    exact this
  refine rf_f wf0 rc_X3_kindBySign_ok 3 (10, [some (.int p0), some (.int (nI k))], [], σ) rfl rfl hc rfl ?_
  refine kb_at (i := nI k) rfl (vp_in_nI hk (by decide)) ?_
  rw [nI_clamp (by omega)]
  refine rf_b wf0 rc_X3_kindBySign_ok 4 1 (16, [some (.int p0), some (.int (nI k))], [.int p0, .int (rf_kn k)], σ) rfl ?_
  by_cases hq : rf_kn k = p0
  · refine rf_f wf0 rc_X3_kindBySign_ok 5 (19, [some (.int p0), some (.int (nI k))], [], σ) rfl rfl (c := rf_kn k ≠ p0) (fun z => z hq) rfl ?_
    exact h1 hq
  · refine rf_t wf0 rc_X3_kindBySign_ok 5 (21, [some (.int p0), some (.int (nI k))], [], σ) rfl rfl (c := rf_kn k ≠ p0) hq rfl ?_
    refine rf_b wf0 rc_X3_kindBySign_ok 8 2 (2, [some (.int p0), some (.int (nI k + 1))], [], σ) rfl ?_
    rw [nI_1]
    exact h2 hq
def f_X3_kindBySign (p0 : Int32) (_ : rf_S) : Option Int32 := some (if 111 = p0 then 0 else if 115 = p0 then 1 else if 116 = p0 then 2 else if 109 = p0 then 3 else if 102 = p0 then 4 else if 97 = p0 then 5 else -9)
theorem kb_end {d : Nat} {p0 v w : Int32} {σ : rf_S} (h : v = w) : rf_G ly0 d mX3_kindBySign (19, [some (.int p0), some (.int v)], [], σ) (some (.int w)) σ := by
  subst h
  refine rf_b wf0 rc_X3_kindBySign_ok 6 1 (20, [some (.int p0), some (.int v)], [.int v], σ) rfl ?_
  exact rf_ri rc_X3_kindBySign_ok 7 rfl rfl
theorem ok_X3_kindBySign (d : Nat) (p0 : Int32) (σ : rf_S) (q : Int32) (h : f_X3_kindBySign p0 σ = some q) : rf_Ex ly0 (d + 1) mX3_kindBySign [.int p0] σ (some (.int q) : Option Value) σ := by
  unfold f_X3_kindBySign at h
  refine rf_ex mw_X3_kindBySign [some (.int p0), none] (Nat.le_of_ble_eq_true rfl) rfl ?_
  refine rf_b wf0 rc_X3_kindBySign_ok 0 2 (2, [some (.int p0), some (.int (nI 0))], [], σ) rfl ?_
  refine kb_step 0 (by decide) (fun z => kb_end ?_) (fun z0 => ?_)
  · have z : (111 : Int32) = p0 := z
    rw [if_pos z] at h; exact Option.some.inj h
  have z0 : ¬ (111 : Int32) = p0 := z0
  rw [if_neg z0] at h
  refine kb_step 1 (by decide) (fun z => kb_end ?_) (fun z1 => ?_)
  · have z : (115 : Int32) = p0 := z
    rw [if_pos z] at h; exact Option.some.inj h
  have z1 : ¬ (115 : Int32) = p0 := z1
  rw [if_neg z1] at h
  refine kb_step 2 (by decide) (fun z => kb_end ?_) (fun z2 => ?_)
  · have z : (116 : Int32) = p0 := z
    rw [if_pos z] at h; exact Option.some.inj h
  have z2 : ¬ (116 : Int32) = p0 := z2
  rw [if_neg z2] at h
  refine kb_step 3 (by decide) (fun z => kb_end ?_) (fun z3 => ?_)
  · have z : (109 : Int32) = p0 := z
    rw [if_pos z] at h; exact Option.some.inj h
  have z3 : ¬ (109 : Int32) = p0 := z3
  rw [if_neg z3] at h
  refine kb_step 4 (by decide) (fun z => kb_end ?_) (fun z4 => ?_)
  · have z : (102 : Int32) = p0 := z
    rw [if_pos z] at h; exact Option.some.inj h
  have z4 : ¬ (102 : Int32) = p0 := z4
  rw [if_neg z4] at h
  refine kb_step 5 (by decide) (fun z => kb_end ?_) (fun z5 => ?_)
  · have z : (97 : Int32) = p0 := z
    rw [if_pos z] at h; exact Option.some.inj h
  have z5 : ¬ (97 : Int32) = p0 := z5
  rw [if_neg z5] at h
  refine rf_b wf0 rc_X3_kindBySign_ok 2 1 (3, [some (.int p0), some (.int (nI 6))], [.int (nI 6)], σ) rfl ?_
  refine kb_len ?_
  refine rf_t wf0 rc_X3_kindBySign_ok 3 (27, [some (.int p0), some (.int (nI 6))], [], σ) (f2 := (10, [some (.int p0), some (.int (nI 6))], [], σ)) rfl rfl (c := (6 : Int32) ≤ nI 6) (by decide) rfl ?_
  refine rf_b wf0 rc_X3_kindBySign_ok 10 1 (29, [some (.int p0), some (.int (nI 6))], [.int (-9)], σ) rfl ?_
  cases h
  exact rf_ri rc_X3_kindBySign_ok 11 rfl rfl
