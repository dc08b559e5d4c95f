/-! Row: TUPLES as numbers, DIMENSIONS in their order -/
/-- all but the places that S names stay -/
def frP (S : Nat → Nat → Prop) (I I' : x_M Int32) : Prop := ∀ k a i, ¬ S k a → I' k a i = I k a i
theorem frP_refl (S : Nat → Nat → Prop) (I : x_M Int32) : frP S I I := fun _ _ _ _ => rfl
theorem frP_trans {S : Nat → Nat → Prop} {I I1 I2 : x_M Int32} (h1 : frP S I I1) (h2 : frP S I1 I2) : frP S I I2 := fun k a i h => (h2 k a i h).trans (h1 k a i h)
theorem frP_at {S : Nat → Nat → Prop} {I I1 : x_M Int32} {k a i : Nat} {v : Int32} (h1 : frP S I I1) (hs : S k a) : frP S I (x_at I1 k a i v) := fun k' a' i' h => by
  rw [x_at_eq, if_neg (fun q => h (by rw [q.1, q.2.1]; exact hs))]
  exact h1 k' a' i' h
theorem frP_cp {S : Nat → Nat → Prop} {I I1 : x_M Int32} {k sa sp a dp n : Nat} (h1 : frP S I I1) (hs : S k a) : frP S I (x_cp I1 k sa sp a dp n) := fun k' a' i' h => by
  rw [x_cp_eq, if_neg (fun q => h (by rw [q.1, q.2.1]; exact hs))]
  exact h1 k' a' i' h
theorem frP_mono {S T : Nat → Nat → Prop} {I I' : x_M Int32} (h : frP S I I') (hs : ∀ k a, S k a → T k a) : frP T I I' := fun k a i ht => h k a i (fun q => ht (hs k a q))
/-- a row's own places -/
def rg (r k a : Nat) : Prop := (k = 1193 ∧ a = r) ∨ (k = 1195 ∧ a = r) ∨ (k = 1 ∧ (a = r + 1 ∨ a = r + 2))
def isRw (R : x_M (Option Nat)) (r : Nat) : Prop := x_kd0 r = (1003, 0) ∧ x_kd0 (r + 1) = (1, 200) ∧ x_kd0 (r + 2) = (1, 4) ∧ R 1192 r 0 = some (r + 1) ∧ R 1194 r 0 = some (r + 2)
/-- row r holds the DIMENSIONS o and the TUPLES l -/
def rw (I : x_M Int32) (r : Nat) (o l : List Nat) : Prop := I 1193 r 0 = iI l.length ∧ I 1195 r 0 = iI o.length ∧ l.length ≤ 200 ∧ o.length ≤ 4 ∧ (∀ i, i < o.length → I 1 (r + 2) i = iI (o.getD i 0)) ∧ (∀ i, i < l.length → I 1 (r + 1) i = iI (l.getD i 0)) ∧ (∀ x ∈ l, x < 1048576) ∧ ∀ x ∈ o, x < 4
theorem isRw_of {R : x_M (Option Nat)} (hR : x_fin R) {r : Nat} (h : r ∈ x_rows) : isRw R r := by
  have hd : ∀ r ∈ x_rows, x_kd0 r = (1003, 0) ∧ x_kd0 (r + 1) = (1, 200) ∧ x_kd0 (r + 2) = (1, 4) ∧ x_ft 1192 r 0 = some (r + 1) ∧ x_ft 1194 r 0 = some (r + 2) := by decide +kernel
  obtain ⟨h1, h2, h3, h4, h5⟩ := hd r h
  exact ⟨h1, h2, h3, hR _ _ _ _ h4, hR _ _ _ _ h5⟩
theorem getD_mem {l : List Nat} {i : Nat} (h : i < l.length) : l.getD i 0 ∈ l := by
  rw [List.getD_eq_getElem?_getD, List.getElem?_eq_getElem h]
  exact List.getElem_mem h
theorem rw_kept {I I' : x_M Int32} {r : Nat} {o l : List Nat} (h : rw I r o l) (h1 : ∀ k a i, rg r k a → I' k a i = I k a i) : rw I' r o l := by
  obtain ⟨a1, a2, a3, a4, a5, a6, a7, a8⟩ := h
  exact ⟨(h1 _ _ _ (Or.inl ⟨rfl, rfl⟩)).trans a1, (h1 _ _ _ (Or.inr (Or.inl ⟨rfl, rfl⟩))).trans a2, a3, a4, fun i hi => (h1 _ _ _ (Or.inr (Or.inr ⟨rfl, Or.inr rfl⟩))).trans (a5 i hi), fun i hi => (h1 _ _ _ (Or.inr (Or.inr ⟨rfl, Or.inl rfl⟩))).trans (a6 i hi), a7, a8⟩
theorem rw_fr {S : Nat → Nat → Prop} {I I' : x_M Int32} {r : Nat} {o l : List Nat} (h : rw I r o l) (hf : frP S I I') (hs : ∀ k a, rg r k a → ¬ S k a) : rw I' r o l := rw_kept h fun k a i hg => hf k a i (hs k a hg)
section
variable {E : x_E} {P : x_Pr} {d rc rs : Nat} {I : x_M Int32} {J : x_M Int64} {R : x_M (Option Nat)} {Q : x_Q} {r r2 : Nat} {o l o2 l2 : List Nat}
theorem c_rowClear (hP : x_closed E P) (hr : isRw R r) (k : ∀ I', rw I' r [] [] → frP (rg r) I I' → Q none (x_hp I' J R)) : P 48 d 0 (x_la 0 [.ref r]) [] (x_hp I J R) rc rs Q := by
  obtain ⟨g1, g2, g3, g4, g5⟩ := hr
  first | refine x_aload_n hP rfl rfl ?_ | refine x_aload_nN hP rfl rfl ?_
  refine x_iconst hP rfl ?_
  refine x_putI hP rfl (by first | rfl | assumption) ?_
  first | refine x_aload_n hP rfl rfl ?_ | refine x_aload_nN hP rfl rfl ?_
  refine x_iconst hP rfl ?_
  refine x_putI hP rfl (by first | rfl | assumption) ?_
  refine x_vret hP rfl rfl (k _ ⟨?_, ?_, by decide, by decide, fun i hi => absurd hi (Nat.not_lt_zero _), fun i hi => absurd hi (Nat.not_lt_zero _), fun x h => by cases h, fun x h => by cases h⟩ (frP_at (frP_at (frP_refl _ _) (Or.inl ⟨rfl, rfl⟩)) (Or.inr (Or.inl ⟨rfl, rfl⟩))))
  · rw [x_at_eq, if_neg (by omega), x_at_eq, if_pos ⟨rfl, rfl, rfl⟩]; rfl
  · rw [x_at_eq, if_pos ⟨rfl, rfl, rfl⟩]; rfl
theorem c_hasTuple (hP : x_closed E P) (hr : isRw R r) (hw : rw I r o l) {x : Int} (hx : -2147483648 ≤ x ∧ x < 2147483648) (k : Q (some (.int (bI (decide (0 ≤ x ∧ x < l.length))))) (x_hp I J R)) : P 135 d 0 (x_la 0 [.ref r, .int (iI x)]) [] (x_hp I J R) rc rs Q := by
  obtain ⟨g1, g2, g3, g4, g5⟩ := hr
  obtain ⟨a1, a2, a3, a4, a5, a6, a7, a8⟩ := hw
  refine x_iload_n hP rfl rfl ?_
  refine z_if_lt hP rfl (by omega) (fun c1 => ?_) (fun c1 => ?_)
  · rw [decide_eq_false (by omega)] at k
    refine x_iconst hP rfl ?_
    exact x_zret hP rfl rfl (Or.inl iI_0) k
  refine x_iload_n hP rfl rfl ?_
  first | refine x_aload_n hP rfl rfl ?_ | refine x_aload_nN hP rfl rfl ?_
  refine x_getI hP rfl (by first | rfl | assumption) (by first | assumption | exact hR _ _ _ _ rfl | rfl) ?_
  refine z_icmp_ge hP rfl (by omega) (by omega) (fun c9 => ?_) (fun c9 => ?_)
  · rw [decide_eq_false (by omega)] at k
    refine x_iconst hP rfl ?_
    exact x_zret hP rfl rfl (Or.inl iI_0) k
  · rw [decide_eq_true (by omega)] at k
    refine x_iconst hP rfl ?_
    refine x_goto hP rfl ?_
    exact x_zret hP rfl rfl (Or.inr iI_1) k
theorem c_rowAppend (hP : x_closed E P) (hr : isRw R r) (hw : rw I r o l) {x : Nat} (hx : x < 1048576) (k1 : l.length < 200 → ∀ I', rw I' r o (l ++ [x]) → frP (rg r) I I' → Q (some (.int (bI true))) (x_hp I' J R)) (k2 : l.length = 200 → Q (some (.int (bI false))) (x_hp I J R)) : P 108 d 0 (x_la 0 [.ref r, .int (iI x)]) [] (x_hp I J R) rc rs Q := by
  obtain ⟨g1, g2, g3, g4, g5⟩ := hr
  obtain ⟨a1, a2, a3, a4, a5, a6, a7, a8⟩ := hw
  first | refine x_aload_n hP rfl rfl ?_ | refine x_aload_nN hP rfl rfl ?_
  refine x_getI hP rfl (by first | rfl | assumption) (by first | assumption | exact hR _ _ _ _ rfl | rfl) ?_
  refine x_sipush hP rfl ?_
  refine z_icmp_lt hP rfl (by omega) (by omega) (fun c7 => ?_) (fun c7 => ?_)
  · first | refine x_aload_n hP rfl rfl ?_ | refine x_aload_nN hP rfl rfl ?_
    refine x_getR hP rfl (by first | rfl | assumption) (by first | assumption | exact hR _ _ _ _ rfl | rfl) ?_
    first | refine x_aload_n hP rfl rfl ?_ | refine x_aload_nN hP rfl rfl ?_
    refine x_getI hP rfl (by first | rfl | assumption) (by first | assumption | exact hR _ _ _ _ rfl | rfl) ?_
    refine x_iload_n hP rfl rfl ?_
    refine z_iast hP rfl (by first | rfl | assumption) (by decide) (by omega) ?_
    have a1' : (x_uI (x_hp I J R) 1 (r + 1) (l.length : Int).toNat (iI x)).2.2.1 1193 r 0 = iI l.length := a1
    first | refine x_aload_n hP rfl rfl ?_ | refine x_aload_nN hP rfl rfl ?_
    refine x_dup hP rfl rfl ?_
    refine x_getI hP rfl (by first | rfl | assumption) (by first | assumption | exact hR _ _ _ _ rfl | rfl) ?_
    refine x_iconst hP rfl ?_
    first | refine z_iadd hP rfl ?_ | refine x_iadd hP rfl ?_
    refine x_putI hP rfl (by first | rfl | assumption) ?_
    refine x_iconst hP rfl ?_
    refine x_zret hP rfl rfl (Or.inr iI_1) (k1 (by omega) _ ⟨?_, ?_, ?_, a4, fun i hi => ?_, fun i hi => ?_, fun z h => ?_, a8⟩ (frP_at (frP_at (frP_refl _ _) (Or.inr (Or.inr ⟨rfl, Or.inl rfl⟩))) (Or.inl ⟨rfl, rfl⟩)))
    · rw [x_at_eq, if_pos ⟨rfl, rfl, rfl⟩, List.length_append]; rfl
    · rw [x_at_eq, if_neg (by omega)]; exact a2
    · rw [List.length_append]; show l.length + 1 ≤ 200; omega
    · rw [x_at_eq, if_neg (by omega)]
      show x_at I 1 (r + 1) l.length (iI x) 1 (r + 2) i = _
      rw [x_at_eq, if_neg (by omega)]
      exact a5 i hi
    · rw [List.length_append] at hi
      have hi : i < l.length + 1 := hi
      rw [x_at_eq, if_neg (by omega)]
      show x_at I 1 (r + 1) l.length (iI x) 1 (r + 1) i = _
      rw [x_at_eq]
      by_cases hl : i = l.length
      · subst hl
        rw [if_pos ⟨rfl, rfl, rfl⟩, List.getD_append_right _ _ _ _ (Nat.le_refl _), Nat.sub_self]
        rfl
      · rw [if_neg (by omega), List.getD_append _ _ _ _ (by omega)]
        exact a6 i (by omega)
    · rcases List.mem_append.mp h with q | q
      · exact a7 z q
      · rw [List.mem_singleton.mp q]; exact hx
  · refine x_iconst hP rfl ?_
    exact x_zret hP rfl rfl (Or.inl iI_0) (k2 (by omega))
end
