/-! ===== a small machine: cells that stay where they are; numbers that change. rf_S: ints and longs by cell and place; rf_C: a cell's make (object: class number, fields none int, some none long, some (some k) the cell k; array: kind 0 int 1 byte 2 int[][] 3 byte[][], length, the cells of a row of rows) ===== -/
abbrev rf_S : Type := (Nat → Nat → Int32) × (Nat → Nat → Int64)
abbrev rf_C : Type := (Nat × List (Option (Option Nat))) ⊕ (Nat × Nat × List Nat)
abbrev rf_F : Type := Nat × List (Option Value) × List Value × rf_S
abbrev rf_E : Type := Nat × Instr × Nat × Nat
abbrev rf_M : Type := Nat × MethodName × ByteArray × Nat × Option FieldType × Nat × Bool
def rf_sA (σ : rf_S) (c : Nat) (f : Nat → Int32) : rf_S := (fun k => if k = c then f else σ.1 k, σ.2)
def rf_sI (σ : rf_S) (c j : Nat) (x : Int32) : rf_S := rf_sA σ c (upd (σ.1 c) j x)
def rf_sL (σ : rf_S) (c j : Nat) (x : Int64) : rf_S := (σ.1, fun k => if k = c then vp_updL (σ.2 c) j x else σ.2 k)
def rf_cv (ad : Nat → Nat) (v : Value) : Value := match v with
  | .ref c => .ref (ad c)
  | v => v
theorem rf_cv_cat (ad : Nat → Nat) (v : Value) : (rf_cv ad v).category = v.category := by cases v <;> rfl
def rf_fv (σ : rf_S) (c j : Nat) (t : Option (Option Nat)) : Value := match t with
  | none => .int (σ.1 c j)
  | some none => .long (σ.2 c j)
  | some (some k) => .ref k
def rf_ce (ca : Nat → ClassId) (ad : Nat → Nat) (σ : rf_S) (c : Nat) (en : rf_C) : va_E := match en with
  | .inl q => .inr (q.1, q.2.mapIdx (fun j t => rf_cv ad (rf_fv σ c j t)))
  | .inr q => .inl (ca q.1, q.2.1, if q.1 < 2 then .inl (σ.1 c) else .inr (.inr (.inr (.inr (fun j => (q.2.2[j]?).map ad)))))
def rf_w (ca : Nat → ClassId) (ad : Nat → Nat) (ly : List rf_C) (σ : rf_S) : va_W := ly.mapIdx (fun c en => (ad c, rf_ce ca ad σ c en))
theorem rf_w_get {ca : Nat → ClassId} {ad : Nat → Nat} {ly : List rf_C} {σ : rf_S} (c : Nat) : (rf_w ca ad ly σ)[c]? = (ly[c]?).map (fun en => (ad c, rf_ce ca ad σ c en)) := by simp [rf_w]
theorem rf_w_at {ca : Nat → ClassId} {ad : Nat → Nat} {ly : List rf_C} {σ : rf_S} {c : Nat} {en : rf_C} (h : ly[c]? = some en) : (rf_w ca ad ly σ)[c]? = some (ad c, rf_ce ca ad σ c en) := by rw [rf_w_get, h]; rfl
theorem rf_w_set {ca : Nat → ClassId} {ad : Nat → Nat} {ly : List rf_C} {σ σ' : rf_S} {c : Nat} {en : rf_C} {x : va_E} (h : ly[c]? = some en) (hc : x = rf_ce ca ad σ' c en) (ho : ∀ k en, k ≠ c → rf_ce ca ad σ k en = rf_ce ca ad σ' k en) : (rf_w ca ad ly σ).set c (ad c, x) = rf_w ca ad ly σ' := by
  apply List.ext_getElem?
  intro k
  by_cases hk : k = c
  · subst hk
    have hl : k < (rf_w ca ad ly σ).length := (List.getElem?_eq_some_iff.mp (rf_w_at (ca := ca) (ad := ad) (σ := σ) h)).1
    rw [List.getElem?_set_self hl, rf_w_at h, hc]
  · rw [List.getElem?_set_ne (Ne.symm hk), rf_w_get, rf_w_get]
    cases ly[k]? with
    | none => rfl
    | some en => simp only [Option.map_some]; rw [ho k en hk]
theorem rf_ce_A {ca : Nat → ClassId} {ad : Nat → Nat} {σ : rf_S} {c : Nat} {f : Nat → Int32} (k : Nat) (en : rf_C) (hk : k ≠ c) : rf_ce ca ad σ k en = rf_ce ca ad (rf_sA σ c f) k en := by
  have e : (rf_sA σ c f).1 k = σ.1 k := if_neg hk
  unfold rf_ce
  cases en with
  | inl q =>
    simp only
    congr 3
    funext j t
    cases t with
    | none => simp only [rf_fv]; rw [e]
    | some t => cases t <;> rfl
  | inr q => simp only; rw [e]
theorem rf_ce_L {ca : Nat → ClassId} {ad : Nat → Nat} {σ : rf_S} {c j0 : Nat} {x : Int64} (k : Nat) (en : rf_C) (hk : k ≠ c) : rf_ce ca ad σ k en = rf_ce ca ad (rf_sL σ c j0 x) k en := by
  have e : (rf_sL σ c j0 x).2 k = σ.2 k := if_neg hk
  unfold rf_ce
  cases en with
  | inl q =>
    simp only
    congr 3
    funext j t
    cases t with
    | none => rfl
    | some t => cases t with
      | none => simp only [rf_fv]; rw [e]
      | some t => rfl
  | inr q => rfl
theorem rf_w_setA {ca : Nat → ClassId} {ad : Nat → Nat} {ly : List rf_C} {σ : rf_S} {c : Nat} {q : Nat × Nat × List Nat} (h : ly[c]? = some (.inr q)) (hk : q.1 < 2) (f : Nat → Int32) : (rf_w ca ad ly σ).set c (ad c, .inl (ca q.1, q.2.1, .inl f)) = rf_w ca ad ly (rf_sA σ c f) := by
  refine rf_w_set h ?_ (fun k en hk => rf_ce_A k en hk)
  have e : (rf_sA σ c f).1 c = f := if_pos rfl
  simp only [rf_ce]
  rw [if_pos hk, e]
theorem rf_w_setI {ca : Nat → ClassId} {ad : Nat → Nat} {ly : List rf_C} {σ : rf_S} {c j : Nat} {q : Nat × List (Option (Option Nat))} (h : ly[c]? = some (.inl q)) (hj : q.2[j]? = some none) (x : Int32) : (rf_w ca ad ly σ).set c (ad c, .inr (q.1, (q.2.mapIdx (fun j t => rf_cv ad (rf_fv σ c j t))).set j (.int x))) = rf_w ca ad ly (rf_sI σ c j x) := by
  refine rf_w_set h ?_ (fun k en hk => rf_ce_A k en hk)
  have e : (rf_sI σ c j x).1 c = upd (σ.1 c) j x := if_pos rfl
  simp only [rf_ce]
  congr 2
  apply List.ext_getElem?
  intro k
  by_cases hk : k = j
  · subst hk
    have hl : k < q.2.length := (List.getElem?_eq_some_iff.mp hj).1
    rw [List.getElem?_set_self (by simpa using hl), List.getElem?_mapIdx, hj]
    simp only [Option.map_some, rf_fv, rf_cv]
    rw [e]
    simp [upd]
  · rw [List.getElem?_set_ne (Ne.symm hk), List.getElem?_mapIdx, List.getElem?_mapIdx]
    cases q.2[k]? with
    | none => rfl
    | some t =>
      cases t with
      | none => simp only [Option.map_some, rf_fv, rf_cv]; rw [e]; simp [upd, hk]
      | some t => cases t <;> rfl
theorem rf_w_setL {ca : Nat → ClassId} {ad : Nat → Nat} {ly : List rf_C} {σ : rf_S} {c j : Nat} {q : Nat × List (Option (Option Nat))} (h : ly[c]? = some (.inl q)) (hj : q.2[j]? = some (some none)) (x : Int64) : (rf_w ca ad ly σ).set c (ad c, .inr (q.1, (q.2.mapIdx (fun j t => rf_cv ad (rf_fv σ c j t))).set j (.long x))) = rf_w ca ad ly (rf_sL σ c j x) := by
  refine rf_w_set h ?_ (fun k en hk => rf_ce_L k en hk)
  have e : (rf_sL σ c j x).2 c = vp_updL (σ.2 c) j x := if_pos rfl
  simp only [rf_ce]
  congr 2
  apply List.ext_getElem?
  intro k
  by_cases hk : k = j
  · subst hk
    have hl : k < q.2.length := (List.getElem?_eq_some_iff.mp hj).1
    rw [List.getElem?_set_self (by simpa using hl), List.getElem?_mapIdx, hj]
    simp only [Option.map_some, rf_fv, rf_cv]
    rw [e]
    simp [vp_updL]
  · rw [List.getElem?_set_ne (Ne.symm hk), List.getElem?_mapIdx, List.getElem?_mapIdx]
    cases q.2[k]? with
    | none => rfl
    | some t =>
      cases t with
      | none => rfl
      | some t => cases t with
        | none => simp only [Option.map_some, rf_fv, rf_cv]; rw [e]; simp [vp_updL, hk]
        | some t => rfl
theorem rf_D {A : Nat → Prop} {ca : Nat → ClassId} {ad : Nat → Nat} {ly : List rf_C} {σ : rf_S} (σ' : rf_S) (h : va_D A (rf_w ca ad ly σ)) : va_D A (rf_w ca ad ly σ') := by
  have key : ∀ (i : Nat) (p : Nat × va_E), (rf_w ca ad ly σ')[i]? = some p → ∃ p0, (rf_w ca ad ly σ)[i]? = some p0 ∧ p0.1 = p.1 := by
    intro i p hp
    rw [rf_w_get] at hp
    obtain ⟨en, h1, h2⟩ := Option.map_eq_some_iff.mp hp
    exact ⟨_, rf_w_at h1, by rw [← h2]⟩
  refine ⟨fun i j p q hi hj hpq => ?_, fun k q hk => ?_⟩
  · obtain ⟨p0, a1, a2⟩ := key i p hi
    obtain ⟨q0, b1, b2⟩ := key j q hj
    exact h.1 i j p0 q0 a1 b1 (a2.trans (hpq.trans b2.symm))
  · obtain ⟨q0, b1, b2⟩ := key k q hk
    rw [← b2]
    exact h.2 k q0 b1
theorem rf_A {ca : Nat → ClassId} {ad : Nat → Nat} {ly : List rf_C} {σ : rf_S} (σ' : rf_S) {sz sz' q : Nat} (hs : sz ≤ sz') (h : va_A (rf_w ca ad ly σ) sz' q) : va_A (rf_w ca ad ly σ') sz q := by
  rcases h with ⟨k, e, h⟩ | h
  · rw [rf_w_get] at h
    obtain ⟨en, h1, h2⟩ := Option.map_eq_some_iff.mp h
    have h3 : ad k = q := congrArg Prod.fst h2
    subst h3
    exact Or.inl ⟨k, _, rf_w_at h1⟩
  · exact Or.inr (Nat.le_trans hs h)
/-! the locals -/
def rf_lh (ad : Nat → Nat) (lC : Array Slot) (nL : Nat) (ls : List (Option Value)) : Prop := ls.length = nL ∧ lC.size = nL ∧ lv_wf lC ∧ ∀ (i : Nat) (v : Value), ls[i]? = some (some v) → lC[i]? = some (.val (rf_cv ad v))
def rf_en (ad : Nat → Nat) (ls : List (Option Value)) : List (Nat × Value) := (List.range ls.length).filterMap (fun i => match ls[i]? with | some (some v) => some (i, rf_cv ad v) | _ => none)
theorem rf_en_mem {ad : Nat → Nat} {ls : List (Option Value)} {i : Nat} {v : Value} (h : ls[i]? = some (some v)) : (i, rf_cv ad v) ∈ rf_en ad ls := by
  refine List.mem_filterMap.mpr ⟨i, List.mem_range.mpr (List.getElem?_eq_some_iff.mp h).1, ?_⟩
  rw [h]
theorem rf_en_of {ad : Nat → Nat} {ls : List (Option Value)} {q : Nat × Value} (h : q ∈ rf_en ad ls) : ∃ v, ls[q.1]? = some (some v) ∧ q.2 = rf_cv ad v := by
  obtain ⟨i, -, hi⟩ := List.mem_filterMap.mp h
  split at hi
  · rename_i v hv
    cases hi
    exact ⟨v, hv, rfl⟩
  · cases hi
theorem rf_lh.has {ad : Nat → Nat} {lC : Array Slot} {nL : Nat} {ls : List (Option Value)} (h : rf_lh ad lC nL ls) : lv_has lC nL (rf_en ad ls) := by
  refine ⟨h.2.1, h.2.2.1, fun q hq => ?_⟩
  obtain ⟨v, h1, h2⟩ := rf_en_of hq
  rw [h2]
  exact h.2.2.2 q.1 v h1
def rf_kl (ls : List (Option Value)) (i : Nat) : List (Option Value) := match i with
  | 0 => ls
  | j + 1 => match ls[j]? with
    | some (some (.long _)) => ls.set j none
    | some (some (.double _)) => ls.set j none
    | _ => ls
def rf_s1 (ls : List (Option Value)) (i : Nat) (v : Value) : List (Option Value) := (rf_kl ls i).set i (some v)
def rf_s2 (ls : List (Option Value)) (i : Nat) (v : Value) : List (Option Value) := ((rf_kl ls i).set i (some v)).set (i + 1) none
theorem rf_kl_len (ls : List (Option Value)) (i : Nat) : (rf_kl ls i).length = ls.length := by
  unfold rf_kl
  split
  · rfl
  · split <;> simp
theorem rf_kl_at {ls : List (Option Value)} {i k : Nat} {u : Value} (h : (rf_kl ls i)[k]? = some (some u)) : ls[k]? = some (some u) ∧ ¬ (k + 1 = i ∧ u.category = 2) := by
  unfold rf_kl at h
  split at h
  · exact ⟨h, fun q => by omega⟩
  · rename_i i j
    split at h
    · by_cases hk : j = k
      · subst hk
        rw [List.getElem?_set] at h
        split at h
        · split at h <;> cases h
        · rename_i hh; exact absurd rfl hh
      · rw [List.getElem?_set_ne hk] at h
        exact ⟨h, fun q => hk (by omega)⟩
    · by_cases hk : j = k
      · subst hk
        rw [List.getElem?_set] at h
        split at h
        · split at h <;> cases h
        · rename_i hh; exact absurd rfl hh
      · rw [List.getElem?_set_ne hk] at h
        exact ⟨h, fun q => hk (by omega)⟩
    · rename_i h1 h2
      refine ⟨h, fun q => ?_⟩
      have hk : k = j := by omega
      subst hk
      cases u with
      | long x => exact h1 x h
      | double x => exact h2 x h
      | _ => exact absurd q.2 (by simp [Value.category])
theorem rf_lh.s1 {ad : Nat → Nat} {lC lC' : Array Slot} {nL : Nat} {ls : List (Option Value)} {i : Nat} {v : Value} (h : rf_lh ad lC nL ls) (hi : i < nL) (h2 : lv_has lC' nL ((i, rf_cv ad v) :: (rf_en ad ls).filter (fun q => !(q.1 == i) && !(q.1 + 1 == i && q.2.category == 2)))) : rf_lh ad lC' nL (rf_s1 ls i v) := by
  refine ⟨by simp only [rf_s1, List.length_set, rf_kl_len]; exact h.1, h2.1, h2.2.1, fun k u hk => ?_⟩
  by_cases hki : k = i
  · subst hki
    unfold rf_s1 at hk
    rw [List.getElem?_set_self (by rw [rf_kl_len, h.1]; exact hi)] at hk
    cases hk
    exact h2.2.2 (k, rf_cv ad v) List.mem_cons_self
  · unfold rf_s1 at hk
    rw [List.getElem?_set_ne (Ne.symm hki)] at hk
    obtain ⟨a1, a2⟩ := rf_kl_at hk
    refine h2.2.2 (k, rf_cv ad u) (List.mem_cons_of_mem _ (List.mem_filter.mpr ⟨rf_en_mem a1, ?_⟩))
    simp only [rf_cv_cat]
    by_cases z : k + 1 = i
    · have : ¬ u.category = 2 := fun q => a2 ⟨z, q⟩
      simp [hki, z, this]
    · simp [hki, z]
theorem rf_lh.s2 {ad : Nat → Nat} {lC lC' : Array Slot} {nL : Nat} {ls : List (Option Value)} {i : Nat} {v : Value} (h : rf_lh ad lC nL ls) (hi : i + 1 < nL) (h2 : lv_has lC' nL ((i, rf_cv ad v) :: (rf_en ad ls).filter (fun q => !(q.1 == i) && (!(q.1 == i + 1) && !(q.1 + 1 == i && q.2.category == 2))))) : rf_lh ad lC' nL (rf_s2 ls i v) := by
  refine ⟨by simp only [rf_s2, List.length_set, rf_kl_len]; exact h.1, h2.1, h2.2.1, fun k u hk => ?_⟩
  unfold rf_s2 at hk
  by_cases hki : k = i + 1
  · subst hki
    rw [List.getElem?_set_self (by rw [List.length_set, rf_kl_len, h.1]; exact hi)] at hk
    cases hk
  · rw [List.getElem?_set_ne (Ne.symm hki)] at hk
    by_cases hk2 : k = i
    · subst hk2
      rw [List.getElem?_set_self (by rw [rf_kl_len, h.1]; omega)] at hk
      cases hk
      exact h2.2.2 (k, rf_cv ad v) List.mem_cons_self
    · rw [List.getElem?_set_ne (Ne.symm hk2)] at hk
      obtain ⟨a1, a2⟩ := rf_kl_at hk
      refine h2.2.2 (k, rf_cv ad u) (List.mem_cons_of_mem _ (List.mem_filter.mpr ⟨rf_en_mem a1, ?_⟩))
      simp only [rf_cv_cat]
      by_cases z : k + 1 = i
      · have : ¬ u.category = 2 := fun q => a2 ⟨z, q⟩
        simp [hki, hk2, z, this]
      · simp [hki, hk2, z]
/-- fewer known locals -/
def rf_mk : List Bool → List (Option Value) → List (Option Value)
  | b :: bs, a :: l => (if b = true then a else none) :: rf_mk bs l
  | _, l => l
theorem rf_mk_len : ∀ (bs : List Bool) (l : List (Option Value)), (rf_mk bs l).length = l.length
  | [], l => by simp [rf_mk]
  | b :: bs, [] => by simp [rf_mk]
  | b :: bs, a :: l => by simp [rf_mk, rf_mk_len bs l]
theorem rf_mk_at : ∀ (bs : List Bool) (l : List (Option Value)) (i : Nat) (v : Value), (rf_mk bs l)[i]? = some (some v) → l[i]? = some (some v)
  | [], l, i, v, h => by simpa [rf_mk] using h
  | b :: bs, [], i, v, h => by simp [rf_mk] at h
  | b :: bs, a :: l, 0, v, h => by
    simp only [rf_mk, List.getElem?_cons_zero] at h ⊢
    split at h
    · exact h
    · cases h
  | b :: bs, a :: l, i + 1, v, h => by
    simp only [rf_mk, List.getElem?_cons_succ] at h ⊢
    exact rf_mk_at bs l i v h
theorem rf_lh.mk {ad : Nat → Nat} {lC : Array Slot} {nL : Nat} {ls : List (Option Value)} (bs : List Bool) (h : rf_lh ad lC nL ls) : rf_lh ad lC nL (rf_mk bs ls) := ⟨by rw [rf_mk_len]; exact h.1, h.2.1, h.2.2.1, fun i v q => h.2.2.2 i v (rf_mk_at bs ls i v q)⟩
/-! reads of the layout -/
def rf_in (i : Int32) (n : Nat) : Bool := decide (¬ i < 0) && decide (i.toNatClampNeg < n)
def rf_len (ly : List rf_C) (c : Nat) : Nat := match ly[c]? with
  | some (.inr q) => q.2.1
  | _ => 0
def rf_isA (ly : List rf_C) (c : Nat) : Bool := match ly[c]? with
  | some (.inr _) => true
  | _ => false
def rf_kd (ly : List rf_C) (kd c : Nat) : Bool := match ly[c]? with
  | some (.inr q) => q.1 == kd
  | _ => false
def rf_ck (ly : List rf_C) (kd c : Nat) (i : Int32) : Bool := rf_kd ly kd c && rf_in i (rf_len ly c)
def rf_ra (ly : List rf_C) (c j : Nat) : Nat := match ly[c]? with
  | some (.inr q) => q.2.2.getD j 0
  | _ => 0
def rf_rk (ly : List rf_C) (c : Nat) (i : Int32) : Bool := (rf_kd ly 2 c || rf_kd ly 3 c) && rf_in i (rf_len ly c)
def rf_cp (ly : List rf_C) (a : Nat) (sp : Int32) (b : Nat) (dp n : Int32) : Bool := rf_kd ly 0 a && rf_kd ly 0 b && decide (¬ sp < 0) && decide (¬ dp < 0) && decide (¬ n < 0) && decide (sp.toNatClampNeg + n.toNatClampNeg ≤ rf_len ly a) && decide (dp.toNatClampNeg + n.toNatClampNeg ≤ rf_len ly b)
def rf_ci (n : Int) : Int32 := match n with
  | .ofNat k => Int32.ofNat k
  | .negSucc k => - Int32.ofNat (k + 1)

/-- one instruction that is no call, no return, no switch: x is its number (a local, a target, a field, a constant), np the next place -/
def rf_st (ly : List rf_C) (i : Instr) (x np : Nat) (ls : List (Option Value)) (st : List Value) (σ : rf_S) : Option rf_F := match i with
  | .iconst n => some (np, ls, .int (rf_ci n) :: st, σ)
  | .bipush n => some (np, ls, .int (rf_ci n) :: st, σ)
  | .sipush n => some (np, ls, .int (rf_ci n) :: st, σ)
  | .ldc _ => some (np, ls, .int (Int32.ofNat x) :: st, σ)
  | .ldc_w _ => some (np, ls, .int (Int32.ofNat x) :: st, σ)
  | .ldc2_w _ => some (np, ls, .long (Int64.ofNat x) :: st, σ)
  | .lconst _ => some (np, ls, .long (Int64.ofNat x) :: st, σ)
  | .iload _ => match ls[x]? with
    | some (some (.int a)) => some (np, ls, .int a :: st, σ)
    | _ => none
  | .iload_n _ => match ls[x]? with
    | some (some (.int a)) => some (np, ls, .int a :: st, σ)
    | _ => none
  | .lload _ => match ls[x]? with
    | some (some (.long a)) => some (np, ls, .long a :: st, σ)
    | _ => none
  | .lload_n _ => match ls[x]? with
    | some (some (.long a)) => some (np, ls, .long a :: st, σ)
    | _ => none
  | .aload _ => match ls[x]? with
    | some (some (.ref a)) => some (np, ls, .ref a :: st, σ)
    | _ => none
  | .aload_n _ => match ls[x]? with
    | some (some (.ref a)) => some (np, ls, .ref a :: st, σ)
    | _ => none
  | .istore _ => match st with
    | .int a :: r => some (np, rf_s1 ls x (.int a), r, σ)
    | _ => none
  | .istore_n _ => match st with
    | .int a :: r => some (np, rf_s1 ls x (.int a), r, σ)
    | _ => none
  | .lstore _ => match st with
    | .long a :: r => some (np, rf_s2 ls x (.long a), r, σ)
    | _ => none
  | .lstore_n _ => match st with
    | .long a :: r => some (np, rf_s2 ls x (.long a), r, σ)
    | _ => none
  | .astore _ => match st with
    | .ref a :: r => some (np, rf_s1 ls x (.ref a), r, σ)
    | _ => none
  | .astore_n _ => match st with
    | .ref a :: r => some (np, rf_s1 ls x (.ref a), r, σ)
    | _ => none
  | .iinc _ n => match ls[x]? with
    | some (some (.int a)) => some (np, rf_s1 ls x (.int (a + rf_ci n)), st, σ)
    | _ => none
  | .iadd => match st with
    | .int b :: .int a :: r => some (np, ls, .int (a + b) :: r, σ)
    | _ => none
  | .isub => match st with
    | .int b :: .int a :: r => some (np, ls, .int (a - b) :: r, σ)
    | _ => none
  | .imul => match st with
    | .int b :: .int a :: r => some (np, ls, .int (a * b) :: r, σ)
    | _ => none
  | .iand => match st with
    | .int b :: .int a :: r => some (np, ls, .int (a &&& b) :: r, σ)
    | _ => none
  | .ior => match st with
    | .int b :: .int a :: r => some (np, ls, .int (a ||| b) :: r, σ)
    | _ => none
  | .ixor => match st with
    | .int b :: .int a :: r => some (np, ls, .int (a ^^^ b) :: r, σ)
    | _ => none
  | .ishl => match st with
    | .int b :: .int a :: r => some (np, ls, .int (a <<< (b &&& 31)) :: r, σ)
    | _ => none
  | .ishr => match st with
    | .int b :: .int a :: r => some (np, ls, .int (a >>> (b &&& 31)) :: r, σ)
    | _ => none
  | .iushr => match st with
    | .int b :: .int a :: r => some (np, ls, .int ((a.toUInt32 >>> (b.toUInt32 &&& Int32.toUInt32 31)).toInt32) :: r, σ)
    | _ => none
  | .idiv => match st with
    | .int b :: .int a :: r => if b = 0 then none else some (np, ls, .int (a / b) :: r, σ)
    | _ => none
  | .irem => match st with
    | .int b :: .int a :: r => if b = 0 then none else some (np, ls, .int (a - a / b * b) :: r, σ)
    | _ => none
  | .ineg => match st with
    | .int a :: r => some (np, ls, .int (-a) :: r, σ)
    | _ => none
  | .ladd => match st with
    | .long b :: .long a :: r => some (np, ls, .long (a + b) :: r, σ)
    | _ => none
  | .lmul => match st with
    | .long b :: .long a :: r => some (np, ls, .long (a * b) :: r, σ)
    | _ => none
  | .ldiv => match st with
    | .long b :: .long a :: r => if b = 0 then none else some (np, ls, .long (a / b) :: r, σ)
    | _ => none
  | .lrem => match st with
    | .long b :: .long a :: r => if b = 0 then none else some (np, ls, .long (a - a / b * b) :: r, σ)
    | _ => none
  | .lcmp => match st with
    | .long b :: .long a :: r => some (np, ls, .int (lg_cmp a b) :: r, σ)
    | _ => none
  | .i2l => match st with
    | .int a :: r => some (np, ls, .long a.toInt64 :: r, σ)
    | _ => none
  | .l2i => match st with
    | .long a :: r => some (np, ls, .int a.toInt32 :: r, σ)
    | _ => none
  | .i2b => match st with
    | .int a :: r => some (np, ls, .int a.toInt8.toInt32 :: r, σ)
    | _ => none
  | .dup => match st with
    | a :: r => if a.category = 1 then some (np, ls, a :: a :: r, σ) else none
    | _ => none
  | .dup2 => match st with
    | a :: b :: r => if a.category = 1 ∧ b.category = 1 then some (np, ls, a :: b :: a :: b :: r, σ) else none
    | _ => none
  | .pop => match st with
    | a :: r => if a.category = 1 then some (np, ls, r, σ) else none
    | _ => none
  | .ifCond .eq _ => match st with
    | .int a :: r => if a = 0 then some (x, ls, r, σ) else some (np, ls, r, σ)
    | _ => none
  | .ifCond .ne _ => match st with
    | .int a :: r => if a ≠ 0 then some (x, ls, r, σ) else some (np, ls, r, σ)
    | _ => none
  | .ifCond .lt _ => match st with
    | .int a :: r => if a < 0 then some (x, ls, r, σ) else some (np, ls, r, σ)
    | _ => none
  | .ifCond .ge _ => match st with
    | .int a :: r => if 0 ≤ a then some (x, ls, r, σ) else some (np, ls, r, σ)
    | _ => none
  | .ifCond .gt _ => match st with
    | .int a :: r => if 0 < a then some (x, ls, r, σ) else some (np, ls, r, σ)
    | _ => none
  | .ifCond .le _ => match st with
    | .int a :: r => if a ≤ 0 then some (x, ls, r, σ) else some (np, ls, r, σ)
    | _ => none
  | .if_icmp .eq _ => match st with
    | .int b :: .int a :: r => if a = b then some (x, ls, r, σ) else some (np, ls, r, σ)
    | _ => none
  | .if_icmp .ne _ => match st with
    | .int b :: .int a :: r => if a ≠ b then some (x, ls, r, σ) else some (np, ls, r, σ)
    | _ => none
  | .if_icmp .lt _ => match st with
    | .int b :: .int a :: r => if a < b then some (x, ls, r, σ) else some (np, ls, r, σ)
    | _ => none
  | .if_icmp .ge _ => match st with
    | .int b :: .int a :: r => if b ≤ a then some (x, ls, r, σ) else some (np, ls, r, σ)
    | _ => none
  | .if_icmp .gt _ => match st with
    | .int b :: .int a :: r => if b < a then some (x, ls, r, σ) else some (np, ls, r, σ)
    | _ => none
  | .if_icmp .le _ => match st with
    | .int b :: .int a :: r => if a ≤ b then some (x, ls, r, σ) else some (np, ls, r, σ)
    | _ => none
  | .goto _ => some (x, ls, st, σ)
  | .getfield _ => match st with
    | .ref c :: r => (match ly[c]? with
      | some (.inl q) => if q.1 = x / 100 then (match q.2[x % 100]? with
        | some t => some (np, ls, rf_fv σ c (x % 100) t :: r, σ)
        | none => none) else none
      | _ => none)
    | _ => none
  | .putfield _ => match st with
    | .int a :: .ref c :: r => (match ly[c]? with
      | some (.inl q) => if q.1 = x / 100 then (match q.2[x % 100]? with
        | some none => some (np, ls, r, rf_sI σ c (x % 100) a)
        | _ => none) else none
      | _ => none)
    | .long a :: .ref c :: r => (match ly[c]? with
      | some (.inl q) => if q.1 = x / 100 then (match q.2[x % 100]? with
        | some (some none) => some (np, ls, r, rf_sL σ c (x % 100) a)
        | _ => none) else none
      | _ => none)
    | _ => none
  | .arraylength => match st with
    | .ref c :: r => if rf_isA ly c = true then some (np, ls, .int (Int32.ofNat (rf_len ly c)) :: r, σ) else none
    | _ => none
  | .iaload => match st with
    | .int j :: .ref c :: r => if rf_ck ly 0 c j = true then some (np, ls, .int (σ.1 c j.toNatClampNeg) :: r, σ) else none
    | _ => none
  | .baload => match st with
    | .int j :: .ref c :: r => if rf_ck ly 1 c j = true then some (np, ls, .int (σ.1 c j.toNatClampNeg) :: r, σ) else none
    | _ => none
  | .aaload => match st with
    | .int j :: .ref c :: r => if rf_rk ly c j = true then some (np, ls, .ref (rf_ra ly c j.toNatClampNeg) :: r, σ) else none
    | _ => none
  | .iastore => match st with
    | .int a :: .int j :: .ref c :: r => if rf_ck ly 0 c j = true then some (np, ls, r, rf_sI σ c j.toNatClampNeg a) else none
    | _ => none
  | .bastore => match st with
    | .int a :: .int j :: .ref c :: r => if rf_ck ly 1 c j = true then some (np, ls, r, rf_sI σ c j.toNatClampNeg (a.toInt8.toInt32)) else none
    | _ => none
  | .invokestatic _ => if x = 1000 then (match st with
    | .int n :: .int dp :: .ref b :: .int sp :: .ref a :: r => if rf_cp ly a sp b dp n = true then some (np, ls, r, rf_sA σ b (va_cpy (σ.1 a) (σ.1 b) sp.toNatClampNeg dp.toNatClampNeg n.toNatClampNeg)) else none
    | _ => none)
    else if x = 1001 then (match st with
    | .int a :: r => some (np, ls, .int (if 0 ≤ a then a else 0 - a) :: r, σ)
    | _ => none)
    else if x = 1002 then (match st with
    | .int b :: .int a :: r => some (np, ls, .int (if a < b then b else a) :: r, σ)
    | _ => none)
    else if x = 1003 then (match st with
    | .int b :: .int a :: r => some (np, ls, .int (if b < a then b else a) :: r, σ)
    | _ => none)
    else none
  | _ => none
