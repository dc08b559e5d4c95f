/-! the kit's lists of locals, and ours -/
def x_lv (n : Nat) (L : x_L) : List (Nat × Value) := (List.range n).filterMap (fun i => (L i).map (fun v => (i, v)))
theorem x_lv_mem {n : Nat} {L : x_L} {i : Nat} {v : Value} : (i, v) ∈ x_lv n L ↔ i < n ∧ L i = some v := by
  unfold x_lv
  rw [List.mem_filterMap]
  constructor
  · rintro ⟨j, hj, he⟩
    cases hL : L j with
    | none => rw [hL] at he; cases he
    | some w =>
      rw [hL] at he
      have he : (j, w) = (i, v) := Option.some.inj he
      cases he
      exact ⟨List.mem_range.mp hj, hL⟩
  · rintro ⟨h1, h2⟩
    exact ⟨i, List.mem_range.mpr h1, by rw [h2]; rfl⟩
theorem x_lv_at {ls : Array Slot} {n : Nat} {L : x_L} {i : Nat} {v : Value} (hl : lv_has ls n (x_lv n L)) (hi : i < n) (hv : L i = some v) : ls[i]? = some (.val v) := hl.2.2 (i, v) (x_lv_mem.mpr ⟨hi, hv⟩)
theorem x_blt {a b : Nat} (h : Nat.blt a b = true) : a < b := Nat.le_of_ble_eq_true h
theorem x_lv_mono {ls : Array Slot} {n : Nat} {l : List (Nat × Value)} {L : x_L} (hl : lv_has ls n l) (h : ∀ i v, i < n → L i = some v → (i, v) ∈ l) : lv_has ls n (x_lv n L) :=
  ⟨hl.1, hl.2.1, fun q hq => by
    obtain ⟨i, v⟩ := q
    obtain ⟨h1, h2⟩ := x_lv_mem.mp hq
    exact hl.2.2 _ (h i v h1 h2)⟩
theorem x_lv_st1 {ls : Array Slot} {n : Nat} {L : x_L} {i : Nat} {v : Value} (hl : lv_has ls n ((i, v) :: (x_lv n L).filter (fun q => !(q.1 == i) && !(q.1 + 1 == i && q.2.category == 2)))) : lv_has ls n (x_lv n (x_st1 L i v)) := by
  refine x_lv_mono hl fun j w hj hw => ?_
  unfold x_st1 at hw
  rw [x_beq, x_beq] at hw
  by_cases h1 : j = i
  · subst h1
    simp at hw
    subst hw
    exact List.mem_cons_self
  · refine List.mem_cons_of_mem _ (List.mem_filter.mpr ?_)
    simp only [h1, decide_false, cond_false] at hw
    by_cases h2 : j + 1 = i
    · simp only [h2, decide_true, Bool.true_and] at hw
      cases h3 : x_is2 (L j) with
      | true => rw [h3] at hw; simp at hw
      | false =>
        rw [h3] at hw
        have hw : L j = some w := by simpa using hw
        refine ⟨x_lv_mem.mpr ⟨hj, hw⟩, ?_⟩
        rw [hw, x_cat2] at h3
        simp [h1, h2, h3]
    · simp only [h2, decide_false, Bool.false_and, cond_false] at hw
      exact ⟨x_lv_mem.mpr ⟨hj, hw⟩, by simp [h1, h2]⟩
theorem x_lv_st2 {ls : Array Slot} {n : Nat} {L : x_L} {i : Nat} {v : Value} (hl : lv_has ls n ((i, v) :: (x_lv n L).filter (fun q => !(q.1 == i) && (!(q.1 == i + 1) && !(q.1 + 1 == i && q.2.category == 2))))) : lv_has ls n (x_lv n (x_st2 L i v)) := by
  refine x_lv_mono hl fun j w hj hw => ?_
  unfold x_st2 at hw
  rw [x_beq, x_beq, x_beq] at hw
  by_cases h1 : j = i
  · subst h1
    simp at hw
    subst hw
    exact List.mem_cons_self
  · refine List.mem_cons_of_mem _ (List.mem_filter.mpr ?_)
    simp only [h1, decide_false, cond_false] at hw
    by_cases h4 : j = i + 1
    · simp only [h4, decide_true, Bool.true_or, cond_true] at hw
      cases hw
    · simp only [h4, decide_false, Bool.false_or] at hw
      by_cases h2 : j + 1 = i
      · simp only [h2, decide_true, Bool.true_and] at hw
        cases h3 : x_is2 (L j) with
        | true => rw [h3] at hw; simp at hw
        | false =>
          rw [h3] at hw
          have hw : L j = some w := by simpa using hw
          refine ⟨x_lv_mem.mpr ⟨hj, hw⟩, ?_⟩
          rw [hw, x_cat2] at h3
          simp [h1, h2, h3, h4]
      · simp only [h2, decide_false, Bool.false_and, cond_false] at hw
        exact ⟨x_lv_mem.mpr ⟨hj, hw⟩, by simp [h1, h2, h4]⟩
theorem x_la_mem : ∀ (vs : List Value) (k i : Nat) (v : Value), x_la k vs i = some v → (i, v) ∈ lv_args k vs
  | [], k, i, v, h => by cases h
  | w :: vs, k, i, v, h => by
    unfold x_la at h
    rw [x_beq] at h
    by_cases h1 : i = k
    · subst h1
      simp at h
      subst h
      exact List.mem_cons_self
    · simp only [h1, decide_false, cond_false] at h
      refine List.mem_cons_of_mem _ ?_
      rw [x_cat2] at h
      by_cases h2 : w.category = 2
      · rw [if_pos h2]
        rw [h2] at h
        exact x_la_mem vs _ i v h
      · rw [if_neg h2]
        have h3 : (w.category == 2) = false := by simp [h2]
        rw [h3] at h
        exact x_la_mem vs _ i v h
theorem x_wd_len : ∀ vs : List Value, (lg_sl vs).length = x_wd vs
  | [] => rfl
  | v :: vs => by
    have ih := x_wd_len vs
    unfold lg_sl at ih ⊢
    rw [List.flatMap_cons, List.length_append, ih]
    show _ = (bif x_is2 (some v) then 2 else 1) + x_wd vs
    rw [x_cat2]
    by_cases h : v.category = 2
    · rw [if_pos h, h]; rfl
    · have h3 : (v.category == 2) = false := by simp [h]
      rw [if_neg h, h3]; rfl
theorem x_lv_entry (vs : List Value) {n : Nat} (h : x_wd vs ≤ n) : lv_has ((lg_sl vs ++ List.replicate (n - (lg_sl vs).length) Slot.unset).toArray) n (x_lv n (x_la 0 vs)) :=
  x_lv_mono (lv_entry vs (by rw [x_wd_len]; exact h)) fun i v _ hv => x_la_mem vs 0 i v hv
theorem x_lv_weak {ls : Array Slot} {n : Nat} {L L' : x_L} (hl : lv_has ls n (x_lv n L)) (h : ∀ i v, L' i = some v → L i = some v) : lv_has ls n (x_lv n L') :=
  x_lv_mono hl fun i v hi hv => x_lv_mem.mpr ⟨hi, h i v hv⟩
/-! plain references and the machine's -/
abbrev x_G : Type := va_G × (Nat → ClassId) × (Nat → Nat)
def x_ta (G : x_G) (base a : Nat) : Nat := if a < 1000000 then base + a else G.2.2 (a - 1000000)
def x_tv (G : x_G) (base : Nat) : Value → Value
  | .ref a => .ref (x_ta G base a)
  | v => v
def x_tL (G : x_G) (base : Nat) (L : x_L) : x_L := fun i => (L i).map (x_tv G base)
theorem x_tLs {G : x_G} {base : Nat} {L : x_L} {i : Nat} {v : Value} (h : L i = some v) : x_tL G base L i = some (x_tv G base v) := by unfold x_tL; rw [h]; rfl
theorem x_tvc {G : x_G} {base : Nat} {v : Value} : (x_tv G base v).category = v.category := by cases v <;> rfl
theorem x_tv2 {G : x_G} {base : Nat} {o : Option Value} : x_is2 (o.map (x_tv G base)) = x_is2 o := by
  cases o with
  | none => rfl
  | some v => cases v <;> rfl
theorem x_tL_st1 (G : x_G) (base : Nat) (L : x_L) (i : Nat) (v : Value) : x_tL G base (x_st1 L i v) = x_st1 (x_tL G base L) i (x_tv G base v) := by
  funext j
  unfold x_tL x_st1
  rw [x_tv2]
  cases Nat.beq j i <;> cases (Nat.beq (j + 1) i && x_is2 (L j)) <;> rfl
theorem x_tL_st2 (G : x_G) (base : Nat) (L : x_L) (i : Nat) (v : Value) : x_tL G base (x_st2 L i v) = x_st2 (x_tL G base L) i (x_tv G base v) := by
  funext j
  unfold x_tL x_st2
  rw [x_tv2]
  cases Nat.beq j i <;> cases (Nat.beq j (i + 1) || (Nat.beq (j + 1) i && x_is2 (L j))) <;> rfl
theorem x_tL_la (G : x_G) (base : Nat) : ∀ (vs : List Value) (k : Nat), x_tL G base (x_la k vs) = x_la k (vs.map (x_tv G base))
  | [], k => rfl
  | v :: vs, k => by
    have e : x_is2 (some (x_tv G base v)) = x_is2 (some v) := x_tv2 (o := some v)
    funext j
    unfold x_tL
    show Option.map _ (bif Nat.beq j k then some v else x_la (bif x_is2 (some v) then k + 2 else k + 1) vs j) = (bif Nat.beq j k then some (x_tv G base v) else x_la (bif x_is2 (some (x_tv G base v)) then k + 2 else k + 1) (vs.map (x_tv G base)) j)
    rw [e]
    cases Nat.beq j k
    · exact congrFun (x_tL_la G base vs _) j
    · rfl
theorem x_wd_t (G : x_G) (base : Nat) : ∀ vs : List Value, x_wd (vs.map (x_tv G base)) = x_wd vs
  | [] => rfl
  | v :: vs => by
    show (bif x_is2 (some (x_tv G base v)) then 2 else 1) + x_wd (vs.map (x_tv G base)) = _
    rw [x_wd_t G base vs, show x_is2 (some (x_tv G base v)) = x_is2 (some v) from x_tv2 (o := some v)]
    rfl
theorem x_sumt (G : x_G) (base : Nat) (st : List Value) : ((st.map (x_tv G base)).map fun v => v.category).sum = (st.map fun v => v.category).sum := by
  rw [List.map_map]
  congr 1
  exact List.map_congr_left fun v _ => x_tvc
theorem x_lv_s1 {G : x_G} {base : Nat} {ls : Array Slot} {n : Nat} {L : x_L} {i : Nat} (v : Value) (hl : lv_has ls n ((i, x_tv G base v) :: (x_lv n (x_tL G base L)).filter (fun q => !(q.1 == i) && !(q.1 + 1 == i && q.2.category == 2)))) : lv_has ls n (x_lv n (x_tL G base (x_st1 L i v))) := by
  rw [x_tL_st1]
  exact x_lv_st1 hl
theorem x_lv_s2 {G : x_G} {base : Nat} {ls : Array Slot} {n : Nat} {L : x_L} {i : Nat} (v : Value) (hl : lv_has ls n ((i, x_tv G base v) :: (x_lv n (x_tL G base L)).filter (fun q => !(q.1 == i) && (!(q.1 == i + 1) && !(q.1 + 1 == i && q.2.category == 2))))) : lv_has ls n (x_lv n (x_tL G base (x_st2 L i v))) := by
  rw [x_tL_st2]
  exact x_lv_st2 hl
theorem x_tret (G : x_G) (base : Nat) (w : Option Value) (rest : List Value) : (w.toList ++ rest).map (x_tv G base) = (w.map (x_tv G base)).toList ++ rest.map (x_tv G base) := by cases w <;> rfl
