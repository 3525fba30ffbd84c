/-! ===== constructors: rows of rows ===== -/
def mu_w (q N : Nat) (en er : va_E) : va_W := (q, en) :: (List.range N).map (fun j => (q + 1 + j, er))
theorem mu_w_at {q N : Nat} {en er : va_E} {k : Nat} {z : Nat × va_E} (h : (mu_w q N en er)[k]? = some z) : z.1 = q + k ∧ ((k = 0 ∧ z.2 = en) ∨ (∃ j, k = j + 1 ∧ j < N ∧ z.2 = er)) := by
  unfold mu_w at h
  match k, h with
  | 0, h =>
    cases h
    exact ⟨rfl, Or.inl ⟨rfl, rfl⟩⟩
  | j + 1, h =>
    rw [List.getElem?_cons_succ, List.getElem?_map] at h
    obtain ⟨i, h1, h2⟩ := Option.map_eq_some_iff.mp h
    have hj := (List.getElem?_eq_some_iff.mp h1).1
    rw [List.length_range] at hj
    rw [List.getElem?_range hj] at h1
    cases h1
    rw [← h2]
    exact ⟨by show q + 1 + j = q + (j + 1); omega, Or.inr ⟨j, rfl, hj, rfl⟩⟩
section CF3
variable {p : Program} {l : Launch} {e : Env} {R : Room} {s : State} {m : MethodId} {args : Array Value} {below : List Frame} {meth : Method} {c : Code} {D : va_G} {ca : Nat → ClassId} {tk : Nat} {A : Nat → Prop} {Q : State → Prop} {own : String} {cc : ByteArray} {nL : Nat} {ws : va_W} {cells slots pc : Nat} {lC : Array Slot} {rest : List Value}
theorem cf_mu (E : cf_E own cc nL p s m args c D ca tk A) {ty : FieldType} (ka kb : Nat) (hka : (rf_ty ca)[ka]? = some (ca ka, .array ty)) (hkb : (rf_ty ca)[kb]? = some (ca kb, ty)) (hrb : ∀ z, va_RA s z ty → s.vm.findClass ("[" ++ ty.toString) = some z) (hO : mu_AO ty s) (i1 i2 : Nat) (hw1 : cf_wl[i1]? = some (.arrayClass ty)) {ix : Nat} {S : String} (hw2 : cf_wl[i2]? = some (.classLink own ix S)) (hS2 : "[" ++ (FieldType.array ty).toString = S) (hstr : "[" ++ ty.toString = (FieldType.array ty).toString) (hbt : componentBytes ty ≤ 4) (hfit : fits ty (defaultValue ty) = true) (hdv : defaultValue ty = .int 0) {n k : Int32} {N K : Nat} (hn : ¬ n < 0) (hN : n.toNatClampNeg = N) (hk : ¬ k < 0) (hK : k.toNatClampNeg = K) (h0 : 0 < N) (hN1 : N ≤ 100) (hK1 : K ≤ 100) (h1 : cells + (1 + N) ≤ R.cells) (h2 : slots + (N + N * K) ≤ R.slots) (hd : decode cc pc = .ok (.multianewarray ix 2, 4)) (kk : ∀ q, cf_G p l e R s m args below meth c D A Q (ws ++ mu_w q N (.inl (ca ka, N, .inr (.inr (.inr (.inr (fun j => if j < N then some (q + 1 + j) else none)))))) (.inl (ca kb, K, .inl (fun _ => 0)))) (cells + 1 + N) (slots + N + N * K) (pc + 4) lC (.ref q :: rest)) : cf_G p l e R s m args below meth c D A Q ws cells slots pc lC (.int k :: .int n :: rest) := by
  intro H locs hP hD hS
  obtain ⟨hx, hb, hml, hown, hts, hKK, hN9, hA, -⟩ := E
  refine mu_W hx hb hown (by rw [hS2]; exact hts _ (cf_in i2 hw2)) hO (hts _ (cf_in i1 hw1)) hstr hbt hfit hn hN hk hK h0 hN1 hK1 hS.1 h1 h2 hd (fun cA cB H1 f1 f2 c1 c2 z1 o1 => ?_)
  have eA : cA = ca ka := by
    have := (hKK.2 ka _ hka).2
    exact Option.some.inj (f1.symm.trans this)
  have eB : cB = ca kb := Option.some.inj (f2.symm.trans (hrb _ (hKK.2 kb _ hkb).2))
  subst eA eB
  have hlt : ∀ (i : Nat) (z : Nat × va_E), ws[i]? = some z → z.1 < H.size := fun i z hz => (hP i z hz).lt
  refine kk H.size H1 locs ((hP.kept (fun i z hz => o1 z.1 (hlt i z hz))).app (fun i z hz => ?_)) (va_D.app hD ⟨fun i j z y hz hy hzy => ?_, fun i z hz => ?_⟩ (fun i j z y hz hy hzy => ?_)) ⟨Nat.le_trans hS.1 (by omega), fun q g1 g2 => (o1 q (Nat.lt_of_lt_of_le g1 hS.1)).trans (hS.2.1 q g1 g2), hS.2.2⟩
  · obtain ⟨g1, g2⟩ := mu_w_at hz
    obtain ⟨a, b⟩ := z
    rcases g2 with ⟨g2, g3⟩ | ⟨j, g2, g3, g4⟩
    · simp only at g1 g3
      subst g1 g2 g3
      show H1[H.size + 0]? = some (vp_cell _ _)
      exact c1
    · simp only at g1 g4
      subst g1 g2 g4
      show H1[H.size + (j + 1)]? = some (vp_cell _ _)
      have := c2 j g3
      rw [hdv] at this
      rw [show H.size + (j + 1) = H.size + 1 + j by omega]
      exact this
  · have a1 := (mu_w_at hz).1
    have a2 := (mu_w_at hy).1
    omega
  · have a1 := (mu_w_at hz).1
    rw [a1]
    exact hA _ (Nat.le_trans hS.1 (by omega))
  · have a1 := hlt i z hz
    have a2 := (mu_w_at hy).1
    omega
end CF3
