/-! ===== the law from its entry ===== -/
theorem isN_on (w : Cond) (h : rf_isN w = true) : w.onTables = true := by
  cases w <;> first | rfl | cases h
set_option maxHeartbeats 4000000 in
set_option maxRecDepth 100000 in
/-- from the entry, for every script of at most 3072 ints, the law comes to its end with true -/
theorem whole_start {p : Program} {e : Env} {s : State} {m : MethodId} {below : List Frame} {meth : Method} {c : Code} (l : Launch) {b L : Nat} {xs : Nat → Int32} (hL : L ≤ 3072) (C0 : lw_At p s m meth c b L xs) : W p l e room_1 s m #[Value.ref b] below meth c s.heap [] 0 0 (lw_Z below #[Value.ref b] s) (entryFrame m ([Value.ref b] : List Value).toArray 4) := by
  obtain ⟨hx, hb, hr, hml, hown, hts, hX, hbl, hlocks, hgv⟩ := id C0
  have hts' : ∀ w ∈ rf_tb, w.before #[Value.ref b] s = true := fun w hw => hts w (List.mem_filter.mp hw).1
  obtain ⟨c0, i0, k0⟩ := u_known (C := RX0) (T := TX0) (N := 2) (n := 2) hts rf_i0 (hts' _ (cf_in 42 rfl))
  obtain ⟨c1, i1, k1⟩ := u_known (C := RX1) (T := TX1) (N := 4) (n := 4) hts rf_i1 (hts' _ (cf_in 34 rfl))
  obtain ⟨c2, i2, k2⟩ := u_known (C := RX2) (T := TX2) (N := 8) (n := 8) hts rf_i2 (hts' _ (cf_in 29 rfl))
  obtain ⟨c3, i3, k3⟩ := u_known (C := RX3) (T := TX3) (N := 3) (n := 3) hts rf_i3 (hts' _ (cf_in 27 rfl))
  obtain ⟨c4, i4, k4⟩ := u_known (C := RX4) (T := TX4) (N := 2) (n := 2) hts rf_i4 (hts' _ (cf_in 19 rfl))
  obtain ⟨c5, i5, k5⟩ := u_known (C := RX5) (T := TX5) (N := 6) (n := 6) hts rf_i5 (hts' _ (cf_in 38 rfl))
  obtain ⟨c6, i6, k6⟩ := u_known (C := RX6) (T := TX6) (N := 3) (n := 3) hts rf_i6 (hts' _ (cf_in 40 rfl))
  obtain ⟨c7, i7, k7⟩ := u_known (C := RX7) (T := TX7) (N := 2) (n := 2) hts rf_i7 (hts' _ (cf_in 23 rfl))
  obtain ⟨c8, i8, k8⟩ := u_known (C := RX8) (T := TX8) (N := 9) (n := 9) hts rf_i8 (hts' _ (cf_in 31 rfl))
  obtain ⟨c9, i9, k9⟩ := u_known (C := RX9) (T := TX9) (N := 11) (n := 11) hts rf_i9 (hts' _ (cf_in 16 rfl))
  obtain ⟨c10, i10, k10⟩ := u_known (C := RX10) (T := TX10) (N := 30) (n := 30) hts rf_i10 (hts' _ (cf_in 44 rfl))
  obtain ⟨dC, dI, hKc⟩ : ∃ (dC : Nat → ClassId) (dI : Nat → Nat → Nat), ∀ (k : Nat) (q : vw_C), vwCl[k]? = some q → u_Kn s q.1 q.2.1 q.2.2 (dC k) (dI k) := by
    refine ⟨fun k => match k with | 0 => c0 | 1 => c1 | 2 => c2 | 3 => c3 | 4 => c4 | 5 => c5 | 6 => c6 | 7 => c7 | 8 => c8 | 9 => c9 | _ => c10, fun k => match k with | 0 => i0 | 1 => i1 | 2 => i2 | 3 => i3 | 4 => i4 | 5 => i5 | 6 => i6 | 7 => i7 | 8 => i8 | 9 => i9 | _ => i10, ?_⟩
    intro k q hq
    match k, hq with
    | 0, hq => cases hq; exact k0
    | 1, hq => cases hq; exact k1
    | 2, hq => cases hq; exact k2
    | 3, hq => cases hq; exact k3
    | 4, hq => cases hq; exact k4
    | 5, hq => cases hq; exact k5
    | 6, hq => cases hq; exact k6
    | 7, hq => cases hq; exact k7
    | 8, hq => cases hq; exact k8
    | 9, hq => cases hq; exact k9
    | 10, hq => cases hq; exact k10
    | k + 11, hq => simp [vwCl] at hq
  obtain ⟨cI, kI, mI, fI1, fI2, fI3⟩ := Cond.arrayClass_spec (hts' _ (cf_in 0 rfl))
  obtain ⟨cY, kY, mY, fY1, fY2, fY3⟩ := Cond.arrayClass_spec (hts' _ (cf_in 1 rfl))
  have oI : mu_AO .int s := mu_over (hts _ (cf_ov _ (List.mem_of_getElem? (i := 0) rfl)))
  have oY : mu_AO .byte s := mu_over (hts _ (cf_ov _ (List.mem_of_getElem? (i := 1) rfl)))
  obtain ⟨zI, cII, kII, gI1, gI2, gI3, gI4⟩ := id oI
  obtain ⟨zY, cYY, kYY, gY1, gY2, gY3, gY4⟩ := id oY
  obtain ⟨ca, hca⟩ : ∃ ca : Nat → ClassId, ca = fun k => match k with | 0 => cI | 1 => cY | 2 => cII | _ => cYY := ⟨_, rfl⟩
  have hK : va_K (dC, dI) vwCl (rf_ty ca) s := by
    refine ⟨hKc, fun k q hq => ?_⟩
    rw [hca] at hq
    match k, hq with
    | 0, hq => cases hq; exact ⟨fun n z => ⟨fun k h => (by cases h), kI, fI2, mI, fI3⟩, fI1⟩
    | 1, hq => cases hq; exact ⟨fun n z => ⟨fun k h => (by cases h), kY, fY2, mY, fY3⟩, fY1⟩
    | 2, hq => cases hq; exact ⟨fun n z => ⟨fun k h => (by cases h), kII, gI2, zI, gI3⟩, gI4⟩
    | 3, hq => cases hq; exact ⟨fun n z => ⟨fun k h => (by cases h), kYY, gY2, zY, gY3⟩, gY4⟩
    | k + 4, hq => simp [rf_ty] at hq
  have hNw : ∀ w ∈ rf_nw, va_Nw w s := fun w hw => va_Nw.of (isN_on w (List.mem_filter.mp hw).2) (hts w (List.mem_filter.mp hw).1)
  have hn := flat_of_before _ hgv
  have hnA : ∀ a : Nat, a < s.heap.size → ¬ (fun q : Nat => s.heap.size ≤ q) a := fun a h => Nat.not_le.mpr h
  obtain ⟨tk, htk, hT⟩ := va_Tof (tm := .static "FeltCold" "KIND_SIGNS" "[I") (ty := .int) (N := 6) (f := rf_ks) (A := fun q : Nat => s.heap.size ≤ q) (by decide) (hn (Cond.arrayOf (.static "FeltCold" "KIND_SIGNS" "[I") .int) (by decide +kernel)) (va_eqt (hn (Cond.eq (.length (.static "FeltCold" "KIND_SIGNS" "[I")) (.int 6)) (by decide +kernel))) (fun j hj => by
    match j, hj with
    | 0, _ => exact va_eqt (hn (Cond.eq (.elem (.static "FeltCold" "KIND_SIGNS" "[I") (.int 0)) (.int 111)) (by decide +kernel))
    | 1, _ => exact va_eqt (hn (Cond.eq (.elem (.static "FeltCold" "KIND_SIGNS" "[I") (.int 1)) (.int 115)) (by decide +kernel))
    | 2, _ => exact va_eqt (hn (Cond.eq (.elem (.static "FeltCold" "KIND_SIGNS" "[I") (.int 2)) (.int 116)) (by decide +kernel))
    | 3, _ => exact va_eqt (hn (Cond.eq (.elem (.static "FeltCold" "KIND_SIGNS" "[I") (.int 3)) (.int 109)) (by decide +kernel))
    | 4, _ => exact va_eqt (hn (Cond.eq (.elem (.static "FeltCold" "KIND_SIGNS" "[I") (.int 4)) (.int 102)) (by decide +kernel))
    | 5, _ => exact va_eqt (hn (Cond.eq (.elem (.static "FeltCold" "KIND_SIGNS" "[I") (.int 5)) (.int 97)) (by decide +kernel))
    | j + 6, hj => exact absurd hj (by omega)) hnA
  have hZ := va_Zref (A := fun q : Nat => s.heap.size ≤ q) (hts (.laysStatic "FeltCold" "KIND_SIGNS" "[I") (List.mem_of_getElem? (i := 515) (by decide +kernel))) (hts' (.initialized "FeltCold") (rf_ini (o := 9) (by decide))) htk hnA
  have E : cf_E R_law code 4 p s m #[Value.ref b] c (dC, dI) ca tk (fun q : Nat => s.heap.size ≤ q) := ⟨hx, hb, hml, hown, hts', hK, hNw, fun q h => h, hZ, hT, oI, oY⟩
  have hl := lv_entry ([.ref b]) (n := 4) (Nat.le_of_ble_eq_true rfl)
  rw [lg_entry_eq]
  generalize (lg_sl ([.ref b]) ++ List.replicate (4 - (lg_sl ([.ref b])).length) Slot.unset).toArray = ls at hl ⊢
  have hl : lv_has ls 4 [(0, .ref b)] := hl
  have G : cf_G p l e room_1 s m #[Value.ref b] below meth c (dC, dI) (fun q : Nat => s.heap.size ≤ q) (lw_Z below #[Value.ref b] s) [] 0 0 0 ls [] := ?_
  · exact G s.heap [] (fun k q h => by simp at h) ⟨fun i j p q h => by simp at h, fun k q h => by simp at h⟩ va_S.rf
  refine cf_nw E (ci := 9) (C := RX9) (T := TX9) (N := 11) (fs := [.null, .null, .null, .null, .null, .null, .null, .null, .null, .int 0, .int 0]) rfl tyX9 tyX9_ok (rf_cls_in (ci := 9) rfl).1 15 16 rfl rfl (rf_ini (o := 9) (by decide)) (fun j hj => match j, hj with | 0, _ => rfl | 1, _ => rfl | 2, _ => rfl | 3, _ => rfl | 4, _ => rfl | 5, _ => rfl | 6, _ => rfl | 7, _ => rfl | 8, _ => rfl | 9, _ => rfl | 10, _ => rfl | j + 11, hj => absurd hj (by omega)) (Nat.le_of_ble_eq_true rfl) (Nat.le_of_ble_eq_true rfl) (lx_dec (e := (0, .new 7, 3, 0)) lx_r0_ok (List.mem_of_getElem? (i := 0) rfl)) (fun q0 => ?_)
  refine cf_du E (lx_dec (e := (3, .dup, 1, 0)) lx_r0_ok (List.mem_of_getElem? (i := 1) rfl)) ?_
  refine cf_ca E (Mt := mX9_init) (List.mem_of_getElem? (i := 9) rfl) rfl rfl rfl ci_9 (Or.inl ⟨17, rfl⟩) hl.1 (Nat.le_of_ble_eq_true rfl) (Nat.le_of_ble_eq_true rfl) (Nat.le_of_ble_eq_true rfl) (Nat.le_of_ble_eq_true rfl) (Nat.le_of_ble_eq_true rfl) (lx_dec (e := (4, .invokespecial 9, 3, 0)) lx_r0_ok (List.mem_of_getElem? (i := 2) rfl)) (fun w0 hB0 => ?_)
  refine cf_ws (ws' := w0) rfl ?_
  intro H locs hP hD hS
  refine lv_astore_n (lv' := [(1, .ref q0), (0, .ref b)]) hx hb (lx_dec (e := (7, .astore_n 1, 1, 0)) lx_r0_ok (List.mem_of_getElem? (i := 3) rfl)) rfl hl (by decide) rfl (fun ls hl => ?_)
  have G : cf_G p l e room_1 s m #[Value.ref b] below meth c (dC, dI) (fun q : Nat => s.heap.size ≤ q) (lw_Z below #[Value.ref b] s) w0 (0 + 1 + 54) (0 + 11 + 946) 8 ls [] := ?_
  · exact G H locs hP hD hS
  clear hP hD hS H locs
  refine cf_nw E (ci := 10) (C := RX10) (T := TX10) (N := 30) (fs := [.null, .null, .null, .null, .int 0, .null, .int 0, .long 0, .long 0, .int 0, .int 0, .int 0, .int 0, .int 0, .null, .null, .int 0, .int 0, .null, .null, .null, .null, .null, .null, .null, .int 0, .null, .null, .null, .null]) rfl tyX10 tyX10_ok (rf_cls_in (ci := 10) rfl).1 43 44 rfl rfl (rf_ini (o := 10) (by decide)) (fun j hj => match j, hj with | 0, _ => rfl | 1, _ => rfl | 2, _ => rfl | 3, _ => rfl | 4, _ => rfl | 5, _ => rfl | 6, _ => rfl | 7, _ => rfl | 8, _ => rfl | 9, _ => rfl | 10, _ => rfl | 11, _ => rfl | 12, _ => rfl | 13, _ => rfl | 14, _ => rfl | 15, _ => rfl | 16, _ => rfl | 17, _ => rfl | 18, _ => rfl | 19, _ => rfl | 20, _ => rfl | 21, _ => rfl | 22, _ => rfl | 23, _ => rfl | 24, _ => rfl | 25, _ => rfl | 26, _ => rfl | 27, _ => rfl | 28, _ => rfl | 29, _ => rfl | j + 30, hj => absurd hj (by omega)) (Nat.le_of_ble_eq_true rfl) (Nat.le_of_ble_eq_true rfl) (lx_dec (e := (8, .new 10, 3, 0)) lx_r0_ok (List.mem_of_getElem? (i := 4) rfl)) (fun q1 => ?_)
  refine cf_du E (lx_dec (e := (11, .dup, 1, 0)) lx_r0_ok (List.mem_of_getElem? (i := 5) rfl)) ?_
  refine cf_ca E (Mt := mX10_init) (List.mem_of_getElem? (i := 10) rfl) rfl rfl rfl ci_10 (Or.inl ⟨45, rfl⟩) hl.1 (Nat.le_of_ble_eq_true rfl) (Nat.le_of_ble_eq_true rfl) (Nat.le_of_ble_eq_true rfl) (Nat.le_of_ble_eq_true rfl) (Nat.le_of_ble_eq_true rfl) (lx_dec (e := (12, .invokespecial 12, 3, 0)) lx_r0_ok (List.mem_of_getElem? (i := 6) rfl)) (fun w1 hB1 => ?_)
  obtain ⟨ad0, e00, ew0⟩ := bl9_w hB0
  obtain ⟨ad1, e10, ew1⟩ := bl10_w hB1
  intro H locs hP hD hS
  refine lv_astore_n (lv' := [(2, .ref q1), (1, .ref q0), (0, .ref b)]) hx hb (lx_dec (e := (15, .astore_n 2, 1, 0)) lx_r0_ok (List.mem_of_getElem? (i := 7) rfl)) rfl hl (by decide) rfl (fun ls hl => ?_)
  refine lv_iconst (v := 0) hx hb (lx_dec (e := (16, .iconst 0, 1, 0)) lx_r0_ok (List.mem_of_getElem? (i := 8) rfl)) (by decide) ?_
  refine lv_istore_n (lv' := [(3, .int 0), (2, .ref q1), (1, .ref q0), (0, .ref b)]) hx hb (lx_dec (e := (17, .istore_n 3, 1, 0)) lx_r0_ok (List.mem_of_getElem? (i := 9) rfl)) rfl hl (by decide) rfl (fun ls hl => ?_)
  subst ew0 ew1
  have up0 : ∀ (k : Nat) (q : Nat × va_E), (rf_w ca ad0 ly0 st0)[k]? = some q → (rf_w ca ad0 ly0 st0 ++ rf_w ca ad1 ly1 st1)[k]? = some q := fun k q hk => by
    rw [List.getElem?_append_left (List.getElem?_eq_some_iff.mp hk).1]
    exact hk
  have up1 : ∀ (k : Nat) (q : Nat × va_E), (rf_w ca ad1 ly1 st1)[k]? = some q → (rf_w ca ad0 ly0 st0 ++ rf_w ca ad1 ly1 st1)[(rf_w ca ad0 ly0 st0).length + k]? = some q := fun k q hk => by
    rw [List.getElem?_append_right (by omega), show (rf_w ca ad0 ly0 st0).length + k - (rf_w ca ad0 ly0 st0).length = k by omega]
    exact hk
  have hP0 : va_P (dC, dI) vwCl (rf_w ca ad0 ly0 st0) H := fun k q hk => hP k q (up0 k q hk)
  have hP1 : va_P (dC, dI) vwCl (rf_w ca ad1 ly1 st1) H := fun k q hk => hP _ q (up1 k q hk)
  have hD0 : va_D (fun q : Nat => s.heap.size ≤ q) (rf_w ca ad0 ly0 st0) := ⟨fun i j p q hi hj h => hD.1 i j p q (up0 i p hi) (up0 j q hj) h, fun k q hk => hD.2 k q (up0 k q hk)⟩
  have hD1 : va_D (fun q : Nat => s.heap.size ≤ q) (rf_w ca ad1 ly1 st1) := ⟨fun i j p q hi hj h => by
    have := hD.1 _ _ p q (up1 i p hi) (up1 j q hj) h
    omega, fun k q hk => hD.2 _ q (up1 k q hk)⟩
  have hdis : ∀ i j : Nat, i < ly0.length → j < ly1.length → ad0 i ≠ ad1 j := fun i j hi hj h => by
    have g1 := rf_w_at (ca := ca) (ad := ad0) (σ := st0) (List.getElem?_eq_getElem hi)
    have g2 := rf_w_at (ca := ca) (ad := ad1) (σ := st1) (List.getElem?_eq_getElem hj)
    have g3 := hD.1 _ _ _ _ (up0 i _ g1) (up1 j _ g2) h
    have g4 := (List.getElem?_eq_some_iff.mp g1).1
    omega
  have hC : lx_C p s m meth c b L xs (dC, dI) ca ad0 ad1 tk := ⟨C0, hK, fun σ => rf_D σ hD0, fun τ => rf_D τ hD1, hdis, hNw, hZ, hT⟩
  refine W.widen (k := 600000) (n := 7302250) (Nat.le_of_ble_eq_true rfl) (Nat.le_of_ble_eq_true rfl) ?_
  have hl' : lv_has ls 4 [(0, .ref b), (1, .ref (ad0 0)), (2, .ref (ad1 0)), (3, .int (nI 0))] := by
    rw [e00, e10]
    exact lv_sub hl [3, 2, 1, 0] rfl
  exact lx_loop hsim hC hL (L + 7) 0 st0 st1 (by omega) (by omega) sim_start H locs ls hP0 hP1 hS hl'
