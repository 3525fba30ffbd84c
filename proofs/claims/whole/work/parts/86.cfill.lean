/-! ===== constructors: rows filled, rows of rows ===== -/
def lyF (N : Nat) : List rf_C := [.inr (0, N, [])]
theorem wfF (N : Nat) : rf_wf (lyF N) := by
  intro c en h
  match c, h with
  | 0, h => cases h; rfl
  | j + 1, h => simp [lyF] at h
def fFb (N : Nat) (l0 : Nat) (l1 : Int32) (l3 : Int32) (s5 : Int32 × rf_S) : Option ((Int32 × rf_S) ⊕ (rf_S)) := if l3 ≤ s5.1 then (some (.inr s5.2)) else (if rf_ck (lyF N) 0 l0 s5.1 = true then (some (.inl ((s5.1 + 1), (rf_sI s5.2 l0 s5.1.toNatClampNeg l1)))) else none)
set_option maxHeartbeats 2000000 in
theorem okFb (N : Nat) (d : Nat) (l0 : Nat) (l1 : Int32) (l3 : Int32) (s5 : Int32 × rf_S) (o : ((Int32 × rf_S) ⊕ (rf_S))) (h : fFb N l0 l1 l3 s5 = some o) {r : Option Value} {σr : rf_S} (kl : ∀ s', o = .inl s' → rf_G (lyF N) (d) mJ7_fill_53178 (5, [some (.ref l0), some (.int l1), some (.int s'.1), some (.int l3)], [], s'.2) r σr) (kx : ∀ e, o = .inr e → rf_G (lyF N) (d) mJ7_fill_53178 (20, [none, none, none, none], [], e) r σr) : rf_G (lyF N) (d) mJ7_fill_53178 (5, [some (.ref l0), some (.int l1), some (.int s5.1), some (.int l3)], [], s5.2) r σr := by
  unfold fFb at h
  refine rf_b (wfF N) rc_J_fillI_ok 5 2 (7, [some (.ref l0), some (.int l1), some (.int s5.1), some (.int l3)], [.int l3, .int s5.1], s5.2) rfl ?_
  by_cases c2 : l3 ≤ s5.1
  · rw [if_pos c2] at h
    refine rf_t (wfF N) rc_J_fillI_ok 7 (20, [some (.ref l0), some (.int l1), some (.int s5.1), some (.int l3)], [], s5.2) rfl rfl c2 rfl ?_
    refine rf_fg [false, false, false, false] [none, none, none, none] rfl ?_
    exact kx s5.2 (Option.some.inj h).symm
  · rw [if_neg c2] at h
    refine rf_f (wfF N) rc_J_fillI_ok 7 (10, [some (.ref l0), some (.int l1), some (.int s5.1), some (.int l3)], [], s5.2) rfl rfl c2 rfl ?_
    refine rf_b (wfF N) rc_J_fillI_ok 8 3 (13, [some (.ref l0), some (.int l1), some (.int s5.1), some (.int l3)], [.int l1, .int s5.1, .ref l0], s5.2) rfl ?_
    obtain ⟨g3, h⟩ := rf_ifn h
    refine rf_gd (wfF N) rc_J_fillI_ok 11 (14, [some (.ref l0), some (.int l1), some (.int s5.1), some (.int l3)], [], (rf_sI s5.2 l0 s5.1.toNatClampNeg l1)) rfl rfl g3 rfl ?_
    refine rf_b (wfF N) rc_J_fillI_ok 12 2 (5, [some (.ref l0), some (.int l1), some (.int (s5.1 + 1)), some (.int l3)], [], (rf_sI s5.2 l0 s5.1.toNatClampNeg l1)) rfl ?_
    exact kl ((s5.1 + 1), (rf_sI s5.2 l0 s5.1.toNatClampNeg l1)) (Option.some.inj h).symm
def fF (N : Nat) (p0 : Nat) (p1 : Int32) (σ : rf_S) : Option rf_S := if rf_isA (lyF N) p0 = true then ((rf_lp (fFb N p0 p1 (Int32.ofNat (rf_len (lyF N) p0))) 5000 (0, σ)).bind (fun e4 => some e4)) else none
set_option maxHeartbeats 2000000 in
theorem okF (N : Nat) (d : Nat) (p0 : Nat) (p1 : Int32) (σ : rf_S) (q : rf_S) (h : fF N p0 p1 σ = some q) : rf_Ex (lyF N) (d + 1) mJ7_fill_53178 [.ref p0, .int p1] σ none q := by
  unfold fF at h
  refine rf_ex mw_J_fillI [some (.ref p0), some (.int p1), none, none] (Nat.le_of_ble_eq_true rfl) rfl ?_
  refine rf_b (wfF N) rc_J_fillI_ok 0 3 (3, [some (.ref p0), some (.int p1), some (.int 0), none], [.ref p0], σ) rfl ?_
  obtain ⟨g1, h⟩ := rf_ifn h
  refine rf_gd (wfF N) rc_J_fillI_ok 3 (4, [some (.ref p0), some (.int p1), some (.int 0), none], [.int (Int32.ofNat (rf_len (lyF N) p0))], σ) rfl rfl g1 rfl ?_
  refine rf_b (wfF N) rc_J_fillI_ok 4 1 (5, [some (.ref p0), some (.int p1), some (.int 0), some (.int (Int32.ofNat (rf_len (lyF N) p0)))], [], σ) rfl ?_
  obtain ⟨e4, h5, h⟩ := Option.bind_eq_some_iff.mp h
  refine rf_lpG (b := fFb N p0 p1 (Int32.ofNat (rf_len (lyF N) p0))) (G := fun (s5 : Int32 × rf_S) => rf_G (lyF N) (d) mJ7_fill_53178 (5, [some (.ref p0), some (.int p1), some (.int s5.1), some (.int (Int32.ofNat (rf_len (lyF N) p0)))], [], s5.2) none q) (K := fun (e : (rf_S)) => rf_G (lyF N) (d) mJ7_fill_53178 (20, [none, none, none, none], [], e) none q) (fun (s5 : Int32 × rf_S) (o : (Int32 × rf_S) ⊕ (rf_S)) hb kl kx => okFb N d p0 p1 (Int32.ofNat (rf_len (lyF N) p0)) s5 o hb kl kx) 5000 (0, σ) e4 h5 ?_
  show rf_G _ _ _ (20, [none, none, none, none], [], e4) _ _
  obtain rfl := Option.some.inj h
  exact rf_rv rc_J_fillI_ok 14 rfl rfl
theorem fF_ok {N : Nat} (hN : N < 5000) (v : Int32) (σ : rf_S) : fF N 0 v σ = some (rf_sA σ 0 (fun j => if j < N then v else σ.1 0 j)) := by
  have hck : ∀ z, rf_ck (lyF N) 0 0 z = rf_in z N := fun z => rfl
  unfold fF
  rw [if_pos (show rf_isA (lyF N) 0 = true from rfl), show rf_len (lyF N) 0 = N from rfl]
  have h0 : ((0 : Int32), σ) = (nI 0, rf_sA σ 0 (fun j => if j < 0 then v else σ.1 0 j)) := by
    refine Prod.ext rfl ?_
    show σ = _
    simp only [Nat.not_lt_zero, if_false]
    exact (sA_self σ 0).symm
  rw [h0, lp_for (N := 5000) (fun k => (nI k, rf_sA σ 0 (fun j => if j < k then v else σ.1 0 j))) N (e := rf_sA σ 0 (fun j => if j < N then v else σ.1 0 j)) ?_ ?_ hN]
  · rfl
  · intro k hkn
    unfold fFb
    simp only
    rw [if_neg (show ¬ Int32.ofNat N ≤ nI k from nI_ge hkn (by omega)), hck, if_pos (in_ok hkn (by omega)), nI_1, nI_clamp (by omega), sI_sA]
    congr 4
    funext j
    rw [upd_at]
    by_cases h1 : j = k
    · subst h1
      simp
    · by_cases h2 : j < k
      · simp [h1, h2, Nat.lt_succ_of_lt h2]
      · simp [h1, h2, show ¬ j < k + 1 by omega]
  · unfold fFb
    simp only
    rw [if_pos (show Int32.ofNat N ≤ nI N from nI_le (Nat.le_refl N) (by omega))]
section CF2
variable {p : Program} {l : Launch} {e : Env} {R : Room} {s : State} {m : MethodId} {args : Array Value} {below : List Frame} {meth : Method} {c : Code} {D : va_G} {ca : Nat → ClassId} {tk : Nat} {A : Nat → Prop} {Q : State → Prop} {own : String} {cc : ByteArray} {nL : Nat} {ws : va_W} {cells slots pc : Nat} {lC : Array Slot} {rest : List Value}
theorem cf_fi {o : Nat} (E : cf_E (rf_cn o) cc nL p s m args c D ca tk A) {N : Nat} (hN5 : N < 5000) {f : Nat → Int32} {wr : va_W} {a ix : Nat} {v : Int32} (hlk : (o, ix, false, mJ7_fill_53178.2.1) ∈ rf_cT) (hl : lC.size = nL) (hrs : (rest.map fun v => v.category).sum ≤ 8) (hfr : 2 ≤ R.frames) (hlo : 8 + (4 + 11) + 50 ≤ R.locals) (h1 : cells ≤ R.cells) (h2 : slots ≤ R.slots) (hd : decode cc pc = .ok (.invokestatic ix, 3)) (k : cf_G p l e R s m args below meth c D A Q (wr ++ [(a, .inl (ca 0, N, .inl (fun j => if j < N then v else f j)))]) cells slots (pc + 3) lC rest) : cf_G p l e R s m args below meth c D A Q (wr ++ [(a, .inl (ca 0, N, .inl f))]) cells slots pc lC (.int v :: .ref a :: rest) := by
  intro H locs hP hD hS
  obtain ⟨hx, hb, hml, hown, hts, hK, hN, hA, hZ, hT, hO1, hO2⟩ := E
  have hmt := mw_J_fillI
  obtain ⟨q1, q2, q3, q4, q5, q6, q7⟩ := rf_mq_spec hmt.2.2.2
  have hgood : GoodIn rf_tb (rf_ws mJ7_fill_53178) := rf_good mJ7_fill_53178 (fun w h => h) hmt.1
  have hini : (Cond.initialized mJ7_fill_53178.2.1.cls).before args s = true := by rw [q2]; exact hts _ (rf_ini q3)
  have hstat : (Cond.static mJ7_fill_53178.2.1).before args s = true := hts _ (rf_in_tb (hmt.2.1 rfl) rfl)
  have hlk2 : (Cond.methodLink (rf_cn o) ix mJ7_fill_53178.2.1).before args s = true := hts _ (rf_in_tb (show Cond.methodLink (rf_cn o) ix mJ7_fill_53178.2.1 ∈ lw_tbl from rf_cT_ok _ hlk) rfl)
  have hFc : ∀ z, va_A [(a, (.inl (ca 0, N, .inl f) : va_E))] H.size z → A z := va_free (wc := [(a, .inl (ca 0, N, .inl f))]) hD hS hA [wr.length] (last_map wr _)
  have hPc : va_P D vwCl [(a, .inl (ca 0, N, .inl f))] H := hP.sub (ws' := [(a, .inl (ca 0, N, .inl f))]) [wr.length] (by simp)
  have hDc : va_D (fun _ => True) [(a, (.inl (ca 0, N, .inl f) : va_E))] := (hD.sub (ws' := [(a, .inl (ca 0, N, .inl f))]) [wr.length] rfl (last_map wr _)).weaken (fun _ _ _ _ => trivial)
  obtain ⟨σ, hσ⟩ : ∃ σ : rf_S, σ = (fun _ => f, fun _ _ => 0) := ⟨_, rfl⟩
  have hw0 : rf_w ca (fun _ => a) (lyF N) σ = [(a, .inl (ca 0, N, .inl f))] := by
    rw [hσ]
    rfl
  have hw1 : rf_w ca (fun _ => a) (lyF N) (rf_sA σ 0 (fun j => if j < N then v else σ.1 0 j)) = [(a, .inl (ca 0, N, .inl (fun j => if j < N then v else f j)))] := by
    rw [hσ]
    rfl
  have hex := okF N 0 0 v σ _ (fF_ok hN5 v σ) l D ca (fun _ => a) tk H.size
  rw [hw0] at hex
  have hpre : PreS s H (va_Pc (([.ref 0, .int v] : List Value).map (rf_cv (fun _ => a))) (fun U => U.heap.size = H.size ∧ rf_X (lyF N) D ca (fun _ => a) tk (va_A [(a, .inl (ca 0, N, .inl f))] H.size) σ U)) [.ref a, .int v] := ⟨rf_blind _ _ _ _ _ _ _ _ _, fun U hU hW => ⟨rfl, by rw [hU], by rw [hU, hw0]; exact hPc, va_K.moved hW.alike hK, by rw [hw0]; exact hDc, fun w hw => rf_nwm hw hW (hN w hw), by
    rw [hU]
    exact ((hZ.moved hW.alike).kept (fun a h1 h2 => hS.2.1 a h1 h2)).narrow hFc, by
    rw [hU]
    exact ((hT.moved hW.alike).kept (fun a h1 h2 => hS.2.1 a h1 h2)).narrow hFc⟩⟩
  have hrun := va_runS (p := p) (l := l) (e := e) (R := R) (s := s) (m := m) (args := args) (below := below) (meth := meth) (c := c) (H := H) (locs := locs) (cells := cells) (slots := slots) (g := F0 m pc lC (.int v :: .ref a :: rest)) (Ts := rf_tb) (own := rf_cn o) (As := [.ref a, .int v]) (rest := rest) ⟨hx, hb, hml, hown, hts⟩ hex ⟨callB_of 2 hts hgood rfl rfl rfl hini hlk2 ⟨q5, q6, q7⟩ ⟨hfr, hlo⟩, hstat⟩ hpre rfl rfl hl rfl (lv_room hrs) hd ⟨h1, h2⟩
  intro T hTT X
  obtain ⟨v', st₀, t, T', L, g0, X', hL, e1, e2, ⟨hv, hP1, hz, hk⟩, st⟩ := hrun T hTT X
  cases hv
  rw [g0] at hz hk
  rw [hw1] at hP1
  have hD1 : va_D (va_A [(a, (.inl (ca 0, N, .inl f) : va_E))] H.size) [(a, .inl (ca 0, N, .inl (fun j => if j < N then v else f j)))] := by
    refine ⟨fun i j p q hi hj _ => ?_, fun k q hk => ?_⟩
    · have := (List.getElem?_eq_some_iff.mp hi).1
      have := (List.getElem?_eq_some_iff.mp hj).1
      simp at *
      omega
    · match k, hk with
      | 0, hk =>
        cases hk
        exact Or.inl ⟨0, _, rfl⟩
      | k + 1, hk => simp at hk
  obtain ⟨hP2, hD2⟩ := cf_join (H1 := T'.heap) hP hD (fun q h1 h2 => by rw [e1]; exact hk q h1 h2) hFc (by rw [e1]; exact hP1) hD1
  obtain ⟨t2, a1, b1⟩ := k T'.heap (locs ++ L) hP2 hD2 ⟨Nat.le_trans hS.1 (by rw [e1]; exact hz), fun q h1 h2 => by
    rw [e1, hk q (Nat.lt_of_lt_of_le h1 hS.1) (fun z => h2 (hFc q z))]
    exact hS.2.1 q h1 h2, fun q hq => by
    rcases List.mem_append.mp hq with h | h
    · exact hS.2.2 q h
    · exact hFc _ (hL q h)⟩ T' rfl X'
  exact ⟨t2, st t2 a1, b1⟩
end CF2
