/-! Row: TUPLES as numbers, DIMENSIONS in their order -/
/-- all but the places that S names stay -/
def frP {α : Type} (S : Nat → Nat → Nat → Prop) (I I' : x_M α) : Prop := ∀ k a i, ¬ S k a i → I' k a i = I k a i
theorem frP_refl {α : Type} (S : Nat → Nat → Nat → Prop) (I : x_M α) : frP S I I := fun _ _ _ _ => rfl
theorem frP_trans {α : Type} {S : Nat → Nat → Nat → Prop} {I I1 I2 : x_M α} (h1 : frP S I I1) (h2 : frP S I1 I2) : frP S I I2 := fun k a i h => (h2 k a i h).trans (h1 k a i h)
theorem frP_at {α : Type} {S : Nat → Nat → Nat → Prop} {I I1 : x_M α} {k a i : Nat} {v : α} (h1 : frP S I I1) (hs : S k a i) : frP S I (x_at I1 k a i v) := fun k' a' i' h => by
  rw [x_at_eq, if_neg (fun q => h (by rw [q.1, q.2.1, q.2.2]; exact hs))]
  exact h1 k' a' i' h
theorem frP_cp {α : Type} {S : Nat → Nat → Nat → Prop} {I I1 : x_M α} {k sa sp a dp n : Nat} (h1 : frP S I I1) (hs : ∀ i, S k a i) : frP S I (x_cp I1 k sa sp a dp n) := fun k' a' i' h => by
  rw [x_cp_eq, if_neg (fun q => h (by rw [q.1, q.2.1]; exact hs _))]
  exact h1 k' a' i' h
theorem frP_mono {α : Type} {S T : Nat → Nat → Nat → Prop} {I I' : x_M α} (h : frP S I I') (hs : ∀ k a i, S k a i → T k a i) : frP T I I' := fun k a i ht => h k a i (fun q => ht (hs k a i q))
theorem frP_tr {α : Type} {S T U : Nat → Nat → Nat → Prop} {I I1 I2 : x_M α} (h1 : frP S I I1) (h2 : frP T I1 I2) (hs : ∀ k a i, S k a i → U k a i) (ht : ∀ k a i, T k a i → U k a i) : frP U I I2 := frP_trans (frP_mono h1 hs) (frP_mono h2 ht)
/-- an array begins with l -/
def ar (I : x_M Int32) (a : Nat) (l : List Nat) : Prop := ∀ i, i < l.length → I 1 a i = iI (l.getD i 0)
theorem getD_mem {l : List Nat} {i : Nat} (h : i < l.length) : l.getD i 0 ∈ l := by
  rw [List.getD_eq_getElem?_getD, List.getElem?_eq_getElem h]
  exact List.getElem_mem h
theorem getD_app1 {l m : List Nat} {i : Nat} (h : i < l.length) : (l ++ m).getD i 0 = l.getD i 0 := by
  rw [List.getD_eq_getElem?_getD, List.getD_eq_getElem?_getD, List.getElem?_append_left h]
theorem getD_app2 {l m : List Nat} {i : Nat} (h : l.length ≤ i) : (l ++ m).getD i 0 = m.getD (i - l.length) 0 := by
  rw [List.getD_eq_getElem?_getD, List.getD_eq_getElem?_getD, List.getElem?_append_right h]
theorem getD_take {l : List Nat} {i m : Nat} (h : i < m) : (l.take m).getD i 0 = l.getD i 0 := by
  rw [List.getD_eq_getElem?_getD, List.getD_eq_getElem?_getD, List.getElem?_take, if_pos h]
theorem getD_drop {l : List Nat} {i m : Nat} : (l.drop m).getD i 0 = l.getD (m + i) 0 := by
  rw [List.getD_eq_getElem?_getD, List.getD_eq_getElem?_getD, List.getElem?_drop]
theorem dropc {l : List Nat} {i : Nat} (h : i < l.length) : l.drop i = l.getD i 0 :: l.drop (i + 1) := by
  rw [List.getD_eq_getElem?_getD, List.getElem?_eq_getElem h]
  exact List.drop_eq_getElem_cons h
theorem drop_all {l : List Nat} {i : Nat} (h : l.length ≤ i) : l.drop i = [] := List.drop_eq_nil_of_le h
theorem takec {l : List Nat} {i : Nat} (h : i < l.length) : l.take (i + 1) = l.take i ++ [l.getD i 0] := by
  rw [List.getD_eq_getElem?_getD, List.getElem?_eq_getElem h]
  exact (List.take_append_getElem h).symm
theorem lext {l m : List Nat} (h : l.length = m.length) (h2 : ∀ i, i < l.length → l.getD i 0 = m.getD i 0) : l = m := by
  refine List.ext_getElem h fun i h1 h3 => ?_
  have := h2 i h1
  rw [List.getD_eq_getElem?_getD, List.getD_eq_getElem?_getD, List.getElem?_eq_getElem h1, List.getElem?_eq_getElem h3] at this
  exact this
/-- a list by its length and its elements -/
def mk (n : Nat) (f : Nat → Nat) : List Nat := (List.range n).map f
theorem mk_len (n : Nat) (f : Nat → Nat) : (mk n f).length = n := by unfold mk; rw [List.length_map, List.length_range]
theorem mk_get {n : Nat} {f : Nat → Nat} {i : Nat} (h : i < n) : (mk n f).getD i 0 = f i := by
  unfold mk
  rw [List.getD_eq_getElem?_getD, List.getElem?_map, List.getElem?_range h]
  rfl
theorem mk_mem {n : Nat} {f : Nat → Nat} {x : Nat} : x ∈ mk n f ↔ ∃ i, i < n ∧ f i = x := by
  unfold mk
  rw [List.mem_map]
  exact ⟨fun ⟨i, h, e⟩ => ⟨i, List.mem_range.mp h, e⟩, fun ⟨i, h, e⟩ => ⟨i, List.mem_range.mpr h, e⟩⟩
theorem mk_snoc (n : Nat) (f : Nat → Nat) : mk (n + 1) f = mk n f ++ [f n] := by
  unfold mk
  rw [List.range_succ, List.map_append]
  rfl
theorem ar_snoc {I : x_M Int32} {a x : Nat} {l : List Nat} (h : ar I a l) : ar (x_at I 1 a l.length (iI x)) a (l ++ [x]) := fun i hi => by
  rw [List.length_append] at hi
  have hi : i < l.length + 1 := hi
  rw [x_at_eq]
  by_cases hl : i = l.length
  · subst hl
    rw [if_pos ⟨rfl, rfl, rfl⟩, getD_app2 (Nat.le_refl _), Nat.sub_self]
    rfl
  · rw [if_neg (fun q => hl q.2.2), getD_app1 (by omega)]
    exact h i (by omega)
theorem ar_snoc' {I : x_M Int32} {a x n : Nat} {l : List Nat} (h : ar I a l) (e : n = l.length) : ar (x_at I 1 a n (iI x)) a (l ++ [x]) := by rw [e]; exact ar_snoc h
theorem ar_fr {S : Nat → Nat → Nat → Prop} {I I' : x_M Int32} {a : Nat} {l : List Nat} (h : ar I a l) (hf : frP S I I') (hs : ∀ i, ¬ S 1 a i) : ar I' a l := fun i hi => (hf 1 a i (hs i)).trans (h i hi)
theorem ar_at {I : x_M Int32} {a k b j : Nat} {v : Int32} {l : List Nat} (h : ar I a l) (hn : ¬ (1 = k ∧ a = b)) : ar (x_at I k b j v) a l := fun i hi => by
  rw [x_at_eq, if_neg (fun q => hn ⟨q.1, q.2.1⟩)]
  exact h i hi
theorem ar_take {I : x_M Int32} {a m : Nat} {l : List Nat} (h : ar I a l) : ar I a (l.take m) := fun i hi => by
  rw [List.length_take] at hi
  rw [getD_take (by omega)]
  exact h i (by omega)
theorem ar_nil (I : x_M Int32) (a : Nat) : ar I a [] := fun i hi => absurd hi (Nat.not_lt_zero _)
theorem ar_cp {I : x_M Int32} {a b : Nat} {l : List Nat} (h : ar I a l) : ar (x_cp I 1 a 0 b 0 l.length) b l := fun i hi => by
  rw [x_cp_eq, if_pos ⟨rfl, rfl, Nat.zero_le _, by omega⟩, Nat.zero_add, Nat.sub_zero]
  exact h i hi
theorem ar_cpo {I : x_M Int32} {a b sa sp dp n : Nat} {l : List Nat} (h : ar I a l) (hn : ¬ a = b) : ar (x_cp I 1 sa sp b dp n) a l := fun i hi => by
  rw [x_cp_eq, if_neg (fun q => hn q.2.1)]
  exact h i hi
/-- a row's own places -/
def rg (r k a _i : Nat) : Prop := (k = 1193 ∧ a = r) ∨ (k = 1195 ∧ a = r) ∨ (k = 1 ∧ (a = r + 1 ∨ a = r + 2))
def isRw (R : x_M (Option Nat)) (r : Nat) : Prop := x_kd0 r = (1003, 0) ∧ x_kd0 (r + 1) = (1, 200) ∧ x_kd0 (r + 2) = (1, 4) ∧ R 1192 r 0 = some (r + 1) ∧ R 1194 r 0 = some (r + 2)
/-- row r holds the DIMENSIONS o and the TUPLES l -/
def rw (I : x_M Int32) (r : Nat) (o l : List Nat) : Prop := I 1193 r 0 = iI l.length ∧ I 1195 r 0 = iI o.length ∧ l.length ≤ 200 ∧ o.length ≤ 4 ∧ ar I (r + 2) o ∧ ar I (r + 1) l ∧ (∀ x ∈ l, x < 1048576) ∧ ∀ x ∈ o, x < 4
theorem isRw_of {R : x_M (Option Nat)} (hR : x_fin R) {r : Nat} (h : r ∈ x_rows) : isRw R r := by
  have hd : ∀ r ∈ x_rows, x_kd0 r = (1003, 0) ∧ x_kd0 (r + 1) = (1, 200) ∧ x_kd0 (r + 2) = (1, 4) ∧ x_ft 1192 r 0 = some (r + 1) ∧ x_ft 1194 r 0 = some (r + 2) := by decide +kernel
  obtain ⟨h1, h2, h3, h4, h5⟩ := hd r h
  exact ⟨h1, h2, h3, hR _ _ _ _ h4, hR _ _ _ _ h5⟩
/-- two rows lie apart -/
def rfar (r s : Nat) : Prop := r + 3 ≤ s ∨ s + 3 ≤ r
theorem rfar_of {r s : Nat} (hr : r ∈ x_rows) (hs : s ∈ x_rows) (h : ¬ r = s) : rfar r s := by
  have hd : ∀ r ∈ x_rows, ∀ s ∈ x_rows, ¬ r = s → r + 3 ≤ s ∨ s + 3 ≤ r := by decide +kernel
  exact hd r hr s hs h
theorem rfar_sy {r s : Nat} (h : rfar r s) : rfar s r := Or.symm h
theorem rg_far {r s k a i : Nat} (h : rfar r s) (h1 : rg r k a i) : ¬ rg s k a i := by
  unfold rg rfar at *
  omega
theorem rw_kept {I I' : x_M Int32} {r : Nat} {o l : List Nat} (h : rw I r o l) (h1 : ∀ k a i, rg r k a i → I' k a i = I k a i) : rw I' r o l := by
  obtain ⟨a1, a2, a3, a4, a5, a6, a7, a8⟩ := h
  exact ⟨(h1 _ _ _ (Or.inl ⟨rfl, rfl⟩)).trans a1, (h1 _ _ _ (Or.inr (Or.inl ⟨rfl, rfl⟩))).trans a2, a3, a4, fun i hi => (h1 _ _ _ (Or.inr (Or.inr ⟨rfl, Or.inr rfl⟩))).trans (a5 i hi), fun i hi => (h1 _ _ _ (Or.inr (Or.inr ⟨rfl, Or.inl rfl⟩))).trans (a6 i hi), a7, a8⟩
theorem rw_fr {S : Nat → Nat → Nat → Prop} {I I' : x_M Int32} {r : Nat} {o l : List Nat} (h : rw I r o l) (hf : frP S I I') (hs : ∀ k a i, rg r k a i → ¬ S k a i) : rw I' r o l := rw_kept h fun k a i hg => hf k a i (hs k a i hg)
theorem rw_far {I I' : x_M Int32} {r s : Nat} {o l : List Nat} (h : rw I r o l) (hf : frP (rg s) I I') (hn : rfar r s) : rw I' r o l := rw_fr h hf fun _ _ _ hg => rg_far hn hg
theorem rg_sz {r : Nat} : rg r 1193 r 0 := Or.inl ⟨rfl, rfl⟩
theorem rg_wd {r : Nat} : rg r 1195 r 0 := Or.inr (Or.inl ⟨rfl, rfl⟩)
theorem rg_tu {r i : Nat} : rg r 1 (r + 1) i := Or.inr (Or.inr ⟨rfl, Or.inl rfl⟩)
theorem rg_or {r i : Nat} : rg r 1 (r + 2) i := Or.inr (Or.inr ⟨rfl, Or.inr rfl⟩)
theorem rw_size' {I : x_M Int32} {r m : Nat} {o l2 : List Nat} (a2 : I 1195 r 0 = iI o.length) (a4 : o.length ≤ 4) (a5 : ar I (r + 2) o) (a8 : ∀ x ∈ o, x < 4) (e : l2.length = m) (h1 : m ≤ 200) (h2 : ar I (r + 1) l2) (h3 : ∀ x ∈ l2, x < 1048576) : rw (x_at I 1193 r 0 (iI m)) r o l2 := by
  subst e
  refine ⟨?_, ?_, h1, a4, ar_at a5 (by omega), ar_at h2 (by omega), h3, a8⟩
  · rw [x_at_eq, if_pos ⟨rfl, rfl, rfl⟩]
  · rw [x_at_eq, if_neg (by omega)]; exact a2
theorem rw_size {I : x_M Int32} {r m : Nat} {o l l2 : List Nat} (h : rw I r o l) (e : l2.length = m) (h1 : m ≤ 200) (h2 : ar I (r + 1) l2) (h3 : ∀ x ∈ l2, x < 1048576) : rw (x_at I 1193 r 0 (iI m)) r o l2 := rw_size' h.2.1 h.2.2.2.1 h.2.2.2.2.1 h.2.2.2.2.2.2.2 e h1 h2 h3
section
variable {E : x_E} {P : x_Pr} {d rc rs : Nat} {I : x_M Int32} {J : x_M Int64} {R : x_M (Option Nat)} {Q : x_Q} {r r2 : Nat} {o l o2 l2 : List Nat}
theorem c_rowClear (hP : x_closed E P) (hr : isRw R r) (k : ∀ I', rw I' r [] [] → frP (rg r) I I' → Q none (x_hp I' J R)) : P 48 d 0 (x_la 0 [.ref r]) [] (x_hp I J R) rc rs Q := by
  obtain ⟨g1, g2, g3, g4, g5⟩ := hr
  first | refine x_aload_n hP rfl rfl ?_ | refine x_aload_nN hP rfl rfl ?_
  refine x_iconst hP rfl ?_
  refine x_putI hP rfl (by first | assumption | rfl) ?_
  first | refine w_nI ?_ | refine w_nL ?_ | refine w_nR ?_ | refine w_mI ?_ | refine w_mL ?_ | refine w_mR ?_ | skip
  first | refine x_aload_n hP rfl rfl ?_ | refine x_aload_nN hP rfl rfl ?_
  refine x_iconst hP rfl ?_
  refine x_putI hP rfl (by first | assumption | rfl) ?_
  first | refine w_nI ?_ | refine w_nL ?_ | refine w_nR ?_ | refine w_mI ?_ | refine w_mL ?_ | refine w_mR ?_ | skip
  refine x_vret hP rfl rfl (k _ ⟨?_, ?_, by decide, by decide, ar_nil _ _, ar_nil _ _, fun _ h => absurd h List.not_mem_nil, fun _ h => absurd h List.not_mem_nil⟩ (frP_at (frP_at (frP_refl _ _) rg_sz) rg_wd))
  · rw [x_at_eq, if_neg (by omega), x_at_eq, if_pos ⟨rfl, rfl, rfl⟩]; rfl
  · rw [x_at_eq, if_pos ⟨rfl, rfl, rfl⟩]; rfl
theorem c_hasTuple (hP : x_closed E P) (hr : isRw R r) (hw : rw I r o l) {x : Int} (hx : -2147483648 ≤ x ∧ x < 2147483648) (k : Q (some (.int (bI (decide (0 ≤ x ∧ x < l.length))))) (x_hp I J R)) : P 135 d 0 (x_la 0 [.ref r, .int (iI x)]) [] (x_hp I J R) rc rs Q := by
  obtain ⟨g1, g2, g3, g4, g5⟩ := hr
  obtain ⟨a1, a2, a3, a4, a5, a6, a7, a8⟩ := hw
  refine x_iload_n hP rfl rfl ?_
  refine z_if_lt hP rfl (by omega) (fun c1 => ?_) (fun c1 => ?_)
  · rw [decide_eq_false (by omega)] at k
    refine x_iconst hP rfl ?_
    exact x_zret hP rfl rfl (Or.inl iI_0) k
  refine x_iload_n hP rfl rfl ?_
  first | refine x_aload_n hP rfl rfl ?_ | refine x_aload_nN hP rfl rfl ?_
  refine x_getI hP rfl (by first | assumption | rfl) (by first | assumption | exact hR _ _ _ _ rfl | exact hR1 _ _ _ _ rfl | exact hR2 _ _ _ _ rfl | rfl) ?_
  refine z_icmp_ge hP rfl (by omega) (by omega) (fun c9 => ?_) (fun c9 => ?_)
  · rw [decide_eq_false (by omega)] at k
    refine x_iconst hP rfl ?_
    exact x_zret hP rfl rfl (Or.inl iI_0) k
  · rw [decide_eq_true (by omega)] at k
    refine x_iconst hP rfl ?_
    refine x_goto hP rfl ?_
    exact x_zret hP rfl rfl (Or.inr iI_1) k
theorem c_rowAppend (hP : x_closed E P) (hr : isRw R r) (hw : rw I r o l) {x : Nat} (hx : x < 1048576) (k1 : l.length < 200 → ∀ I', rw I' r o (l ++ [x]) → frP (rg r) I I' → Q (some (.int (bI true))) (x_hp I' J R)) (k2 : l.length = 200 → Q (some (.int (bI false))) (x_hp I J R)) : P 108 d 0 (x_la 0 [.ref r, .int (iI x)]) [] (x_hp I J R) rc rs Q := by
  obtain ⟨g1, g2, g3, g4, g5⟩ := hr
  have hw' := hw
  obtain ⟨a1, a2, a3, a4, a5, a6, a7, a8⟩ := hw
  first | refine x_aload_n hP rfl rfl ?_ | refine x_aload_nN hP rfl rfl ?_
  refine x_getI hP rfl (by first | assumption | rfl) (by first | assumption | exact hR _ _ _ _ rfl | exact hR1 _ _ _ _ rfl | exact hR2 _ _ _ _ rfl | rfl) ?_
  refine x_sipush hP rfl ?_
  refine z_icmp_lt hP rfl (by omega) (by omega) (fun c7 => ?_) (fun c7 => ?_)
  · first | refine x_aload_n hP rfl rfl ?_ | refine x_aload_nN hP rfl rfl ?_
    refine x_getR hP rfl (by first | assumption | rfl) (by first | assumption | exact hR _ _ _ _ rfl | exact hR1 _ _ _ _ rfl | exact hR2 _ _ _ _ rfl | rfl) ?_
    first | refine x_aload_n hP rfl rfl ?_ | refine x_aload_nN hP rfl rfl ?_
    refine x_getI hP rfl (by first | assumption | rfl) (by first | assumption | exact hR _ _ _ _ rfl | exact hR1 _ _ _ _ rfl | exact hR2 _ _ _ _ rfl | rfl) ?_
    refine x_iload_n hP rfl rfl ?_
    refine z_iast hP rfl (by first | assumption | rfl) (by first | decide | omega) (by omega) ?_
    first | refine w_nI ?_ | refine w_nL ?_ | refine w_nR ?_ | refine w_mI ?_ | refine w_mL ?_ | refine w_mR ?_ | skip
    have a1' : (x_at I 1 (r + 1) l.length (iI x)) 1193 r 0 = iI l.length := a1
    first | refine x_aload_n hP rfl rfl ?_ | refine x_aload_nN hP rfl rfl ?_
    refine x_dup hP rfl rfl ?_
    refine x_getI hP rfl (by first | assumption | rfl) (by first | assumption | exact hR _ _ _ _ rfl | exact hR1 _ _ _ _ rfl | exact hR2 _ _ _ _ rfl | rfl) ?_
    refine x_iconst hP rfl ?_
    first | refine z_iadd hP rfl ?_ | refine x_iadd hP rfl ?_
    refine x_putI hP rfl (by first | assumption | rfl) ?_
    first | refine w_nI ?_ | refine w_nL ?_ | refine w_nR ?_ | refine w_mI ?_ | refine w_mL ?_ | refine w_mR ?_ | skip
    refine x_iconst hP rfl ?_
    refine x_zret hP rfl rfl (Or.inr iI_1) (k1 (by omega) _ ?_ (frP_at (frP_at (frP_refl _ _) rg_tu) rg_sz))
    refine ⟨?_, ?_, ?_, a4, ar_at (ar_at a5 (by omega)) (by omega), ar_at (ar_snoc a6) (by omega), fun z h => ?_, a8⟩
    · rw [x_at_eq, if_pos ⟨rfl, rfl, rfl⟩, List.length_append]; rfl
    · rw [x_at_eq, if_neg (by omega)]; exact a2
    · rw [List.length_append]; show l.length + 1 ≤ 200; omega
    · rcases List.mem_append.mp h with q | q
      · exact a7 z q
      · rw [List.mem_singleton.mp q]; exact hx
  · refine x_iconst hP rfl ?_
    exact x_zret hP rfl rfl (Or.inl iI_0) (k2 (by omega))
/-- is a number among these -/
def hasI (x : Int) (o : List Nat) : Bool := o.any fun y => decide ((y : Int) = x)
theorem c_hasDim_loop (hP : x_closed E P) (hr : isRw R r) (hw : rw I r o l) {x : Int} (hx : -2147483648 ≤ x ∧ x < 2147483648) : ∀ (f i : Nat), i + f = o.length → Q (some (.int (bI (hasI x (o.drop i))))) (x_hp I J R) → P 120 d 2 (x_ls [some (.ref r), some (.int (iI x)), some (.int (iI i))]) [] (x_hp I J R) rc rs Q := by
  obtain ⟨g1, g2, g3, g4, g5⟩ := hr
  obtain ⟨a1, a2, a3, a4, a5, a6, a7, a8⟩ := hw
  intro f
  induction f with
  | zero =>
    intro i hi k
    rw [drop_all (by omega)] at k
    refine x_iload_n hP rfl rfl ?_
    first | refine x_aload_n hP rfl rfl ?_ | refine x_aload_nN hP rfl rfl ?_
    refine x_getI hP rfl (by first | assumption | rfl) (by first | assumption | exact hR _ _ _ _ rfl | exact hR1 _ _ _ _ rfl | exact hR2 _ _ _ _ rfl | rfl) ?_
    refine z_icmp_ge hP rfl (by omega) (by omega) (fun c7 => ?_) (fun c7 => ?_)
    · refine x_iconst hP rfl ?_
      refine x_zret hP rfl rfl (by first | exact Or.inl iI_0 | exact Or.inr iI_1 | exact bI_or _ | assumption) ?_
      exact k
    · omega
  | succ f ih =>
    intro i hi k
    rw [dropc (by omega)] at k
    have v := a5 i (by omega)
    have v2 := a8 _ (getD_mem (l := o) (i := i) (by omega))
    unfold hasI at k
    rw [List.any_cons] at k
    refine x_iload_n hP rfl rfl ?_
    first | refine x_aload_n hP rfl rfl ?_ | refine x_aload_nN hP rfl rfl ?_
    refine x_getI hP rfl (by first | assumption | rfl) (by first | assumption | exact hR _ _ _ _ rfl | exact hR1 _ _ _ _ rfl | exact hR2 _ _ _ _ rfl | rfl) ?_
    refine z_icmp_ge hP rfl (by omega) (by omega) (fun c7 => ?_) (fun c7 => ?_)
    · omega
    · first | refine x_aload_n hP rfl rfl ?_ | refine x_aload_nN hP rfl rfl ?_
      refine x_getR hP rfl (by first | assumption | rfl) (by first | assumption | exact hR _ _ _ _ rfl | exact hR1 _ _ _ _ rfl | exact hR2 _ _ _ _ rfl | rfl) ?_
      refine x_iload_n hP rfl rfl ?_
      refine z_iald hP rfl (by first | assumption | rfl) (by first | decide | omega) (by omega) (by first | assumption | exact hR _ _ _ _ rfl | exact hR1 _ _ _ _ rfl | exact hR2 _ _ _ _ rfl | rfl) ?_
      refine x_iload_n hP rfl rfl ?_
      first | refine z_icmp_ne hP rfl (by omega) (by omega) (fun c17 => ?_) (fun c17 => ?_) | refine x_icmp_ne hP rfl (fun c17 => ?_) (fun c17 => ?_)
      · rw [decide_eq_false c17] at k
        refine z_iinc hP rfl rfl rfl ?_
        refine x_goto hP rfl ?_
        exact x_re hP [some (.ref r), some (.int (iI x)), some (.int (iI (i + 1 : Nat)))] ⟨rfl, rfl, rfl, trivial⟩ (ih (i + 1) (by omega) k)
      · rw [decide_eq_true c17] at k
        refine x_iconst hP rfl ?_
        refine x_zret hP rfl rfl (by first | exact Or.inl iI_0 | exact Or.inr iI_1 | exact bI_or _ | assumption) ?_
        exact k
theorem c_hasDim (hP : x_closed E P) (hr : isRw R r) (hw : rw I r o l) {x : Int} (hx : -2147483648 ≤ x ∧ x < 2147483648) (k : Q (some (.int (bI (hasI x o)))) (x_hp I J R)) : P 120 d 0 (x_la 0 [.ref r, .int (iI x)]) [] (x_hp I J R) rc rs Q := by
  refine x_iconst hP rfl ?_
  refine x_istore_n hP rfl ?_
  exact x_re hP [some (.ref r), some (.int (iI x)), some (.int (iI (0 : Nat)))] ⟨rfl, rfl, rfl, trivial⟩ (c_hasDim_loop hP hr hw hx o.length 0 (by omega) k)
theorem c_shares_loop (hP : x_closed E P) (hr : isRw R r) (hw : rw I r o l) (hr2 : isRw R r2) (hw2 : rw I r2 o2 l2) : ∀ (f i : Nat), i + f = o2.length → Q (some (.int (bI ((o2.drop i).any fun y => hasI y o)))) (x_hp I J R) → P 119 (d + 1) 2 (x_ls [some (.ref r), some (.ref r2), some (.int (iI i))]) [] (x_hp I J R) rc rs Q := by
  have hr' := hr
  obtain ⟨g1, g2, g3, g4, g5⟩ := hr
  obtain ⟨f1, f2, f3, f4, f5⟩ := hr2
  obtain ⟨a1, a2, a3, a4, a5, a6, a7, a8⟩ := hw2
  intro f
  induction f with
  | zero =>
    intro i hi k
    rw [drop_all (by omega)] at k
    refine x_iload_n hP rfl rfl ?_
    first | refine x_aload_n hP rfl rfl ?_ | refine x_aload_nN hP rfl rfl ?_
    refine x_getI hP rfl (by first | assumption | rfl) (by first | assumption | exact hR _ _ _ _ rfl | exact hR1 _ _ _ _ rfl | exact hR2 _ _ _ _ rfl | rfl) ?_
    refine z_icmp_ge hP rfl (by omega) (by omega) (fun c7 => ?_) (fun c7 => ?_)
    · refine x_iconst hP rfl ?_
      refine x_zret hP rfl rfl (by first | exact Or.inl iI_0 | exact Or.inr iI_1 | exact bI_or _ | assumption) ?_
      exact k
    · omega
  | succ f ih =>
    intro i hi k
    rw [dropc (by omega)] at k
    have v := a5 i (by omega)
    have v2 := a8 _ (getD_mem (l := o2) (i := i) (by omega))
    rw [List.any_cons] at k
    refine x_iload_n hP rfl rfl ?_
    first | refine x_aload_n hP rfl rfl ?_ | refine x_aload_nN hP rfl rfl ?_
    refine x_getI hP rfl (by first | assumption | rfl) (by first | assumption | exact hR _ _ _ _ rfl | exact hR1 _ _ _ _ rfl | exact hR2 _ _ _ _ rfl | rfl) ?_
    refine z_icmp_ge hP rfl (by omega) (by omega) (fun c7 => ?_) (fun c7 => ?_)
    · omega
    · first | refine x_aload_n hP rfl rfl ?_ | refine x_aload_nN hP rfl rfl ?_
      first | refine x_aload_n hP rfl rfl ?_ | refine x_aload_nN hP rfl rfl ?_
      refine x_getR hP rfl (by first | assumption | rfl) (by first | assumption | exact hR _ _ _ _ rfl | exact hR1 _ _ _ _ rfl | exact hR2 _ _ _ _ rfl | rfl) ?_
      refine x_iload_n hP rfl rfl ?_
      refine z_iald hP rfl (by first | assumption | rfl) (by first | decide | omega) (by omega) (by first | assumption | exact hR _ _ _ _ rfl | exact hR1 _ _ _ _ rfl | exact hR2 _ _ _ _ rfl | rfl) ?_
      refine x_callV1 (ci := 3) hP 0 0 rfl rfl rfl (by first | assumption | rfl) rfl rfl rfl (Nat.zero_le _) (Nat.zero_le _) ?_
      refine c_hasDim hP hr' hw (by omega) ?_
      first | refine zb_if_eq hP rfl (fun c20 => ?_) (fun c20 => ?_) | refine zl_if_eq hP rfl (fun c20 => ?_) (fun c20 => ?_) | refine z_if_eq hP rfl (by omega) (fun c20 => ?_) (fun c20 => ?_)
      · rw [c20] at k
        refine z_iinc hP rfl rfl rfl ?_
        refine x_goto hP rfl ?_
        exact x_re hP [some (.ref r), some (.ref r2), some (.int (iI (i + 1 : Nat)))] ⟨rfl, rfl, rfl, trivial⟩ (ih (i + 1) (by omega) k)
      · rw [c20] at k
        refine x_iconst hP rfl ?_
        refine x_zret hP rfl rfl (by first | exact Or.inl iI_0 | exact Or.inr iI_1 | exact bI_or _ | assumption) ?_
        exact k
theorem c_shares (hP : x_closed E P) (hr : isRw R r) (hw : rw I r o l) (hr2 : isRw R r2) (hw2 : rw I r2 o2 l2) (k : Q (some (.int (bI (o2.any fun y => hasI y o)))) (x_hp I J R)) : P 119 (d + 1) 0 (x_la 0 [.ref r, .ref r2]) [] (x_hp I J R) rc rs Q := by
  refine x_iconst hP rfl ?_
  refine x_istore_n hP rfl ?_
  exact x_re hP [some (.ref r), some (.ref r2), some (.int (iI (0 : Nat)))] ⟨rfl, rfl, rfl, trivial⟩ (c_shares_loop hP hr hw hr2 hw2 o2.length 0 (by omega) k)
theorem c_same_loop (hP : x_closed E P) (hr : isRw R r) (hw : rw I r o l) (hr2 : isRw R r2) (hw2 : rw I r2 o2 l2) (he : o.length = o2.length) : ∀ (f i : Nat), i + f = o.length → Q (some (.int (bI (decide (o.drop i = o2.drop i))))) (x_hp I J R) → P 123 d 15 (x_ls [some (.ref r), some (.ref r2), some (.int (iI i))]) [] (x_hp I J R) rc rs Q := by
  obtain ⟨g1, g2, g3, g4, g5⟩ := hr
  obtain ⟨f1, f2, f3, f4, f5⟩ := hr2
  obtain ⟨a1, a2, a3, a4, a5, a6, a7, a8⟩ := hw
  obtain ⟨b1, b2, b3, b4, b5, b6, b7, b8⟩ := hw2
  intro f
  induction f with
  | zero =>
    intro i hi k
    rw [drop_all (by omega), drop_all (by omega), decide_eq_true rfl] at k
    refine x_iload_n hP rfl rfl ?_
    first | refine x_aload_n hP rfl rfl ?_ | refine x_aload_nN hP rfl rfl ?_
    refine x_getI hP rfl (by first | assumption | rfl) (by first | assumption | exact hR _ _ _ _ rfl | exact hR1 _ _ _ _ rfl | exact hR2 _ _ _ _ rfl | rfl) ?_
    refine z_icmp_ge hP rfl (by omega) (by omega) (fun c20 => ?_) (fun c20 => ?_)
    · refine x_iconst hP rfl ?_
      refine x_zret hP rfl rfl (by first | exact Or.inl iI_0 | exact Or.inr iI_1 | exact bI_or _ | assumption) ?_
      exact k
    · omega
  | succ f ih =>
    intro i hi k
    rw [dropc (by omega), dropc (l := o2) (by omega)] at k
    have v := a5 i (by omega)
    have v2 := a8 _ (getD_mem (l := o) (i := i) (by omega))
    have w := b5 i (by omega)
    have w2 := b8 _ (getD_mem (l := o2) (i := i) (by omega))
    refine x_iload_n hP rfl rfl ?_
    first | refine x_aload_n hP rfl rfl ?_ | refine x_aload_nN hP rfl rfl ?_
    refine x_getI hP rfl (by first | assumption | rfl) (by first | assumption | exact hR _ _ _ _ rfl | exact hR1 _ _ _ _ rfl | exact hR2 _ _ _ _ rfl | rfl) ?_
    refine z_icmp_ge hP rfl (by omega) (by omega) (fun c20 => ?_) (fun c20 => ?_)
    · omega
    · first | refine x_aload_n hP rfl rfl ?_ | refine x_aload_nN hP rfl rfl ?_
      refine x_getR hP rfl (by first | assumption | rfl) (by first | assumption | exact hR _ _ _ _ rfl | exact hR1 _ _ _ _ rfl | exact hR2 _ _ _ _ rfl | rfl) ?_
      refine x_iload_n hP rfl rfl ?_
      refine z_iald hP rfl (by first | assumption | rfl) (by first | decide | omega) (by omega) (by first | assumption | exact hR _ _ _ _ rfl | exact hR1 _ _ _ _ rfl | exact hR2 _ _ _ _ rfl | rfl) ?_
      first | refine x_aload_n hP rfl rfl ?_ | refine x_aload_nN hP rfl rfl ?_
      refine x_getR hP rfl (by first | assumption | rfl) (by first | assumption | exact hR _ _ _ _ rfl | exact hR1 _ _ _ _ rfl | exact hR2 _ _ _ _ rfl | rfl) ?_
      refine x_iload_n hP rfl rfl ?_
      refine z_iald hP rfl (by first | assumption | rfl) (by first | decide | omega) (by omega) (by first | assumption | exact hR _ _ _ _ rfl | exact hR1 _ _ _ _ rfl | exact hR2 _ _ _ _ rfl | rfl) ?_
      first | refine z_icmp_eq hP rfl (by omega) (by omega) (fun c35 => ?_) (fun c35 => ?_) | refine x_icmp_eq hP rfl (fun c35 => ?_) (fun c35 => ?_)
      · refine z_iinc hP rfl rfl rfl ?_
        refine x_goto hP rfl ?_
        refine x_re hP [some (.ref r), some (.ref r2), some (.int (iI (i + 1 : Nat)))] ⟨rfl, rfl, rfl, trivial⟩ (ih (i + 1) (by omega) ?_)
        have e : (o.getD i 0 :: o.drop (i + 1) = o2.getD i 0 :: o2.drop (i + 1)) ↔ (o.drop (i + 1) = o2.drop (i + 1)) := by
          rw [List.cons.injEq]
          exact ⟨fun h => h.2, fun h => ⟨by omega, h⟩⟩
        rw [decide_eq_decide.mpr e] at k
        exact k
      · rw [decide_eq_false (fun q => by rw [List.cons.injEq] at q; omega)] at k
        refine x_iconst hP rfl ?_
        refine x_zret hP rfl rfl (by first | exact Or.inl iI_0 | exact Or.inr iI_1 | exact bI_or _ | assumption) ?_
        exact k
theorem c_same (hP : x_closed E P) (hr : isRw R r) (hw : rw I r o l) (hr2 : isRw R r2) (hw2 : rw I r2 o2 l2) (k : Q (some (.int (bI (decide (o = o2))))) (x_hp I J R)) : P 123 d 0 (x_la 0 [.ref r, .ref r2]) [] (x_hp I J R) rc rs Q := by
  have hr' := hr
  have hr2' := hr2
  have hw' := hw
  have hw2' := hw2
  obtain ⟨g1, g2, g3, g4, g5⟩ := hr
  obtain ⟨f1, f2, f3, f4, f5⟩ := hr2
  obtain ⟨a1, a2, a3, a4, a5, a6, a7, a8⟩ := hw
  obtain ⟨b1, b2, b3, b4, b5, b6, b7, b8⟩ := hw2
  first | refine x_aload_n hP rfl rfl ?_ | refine x_aload_nN hP rfl rfl ?_
  refine x_getI hP rfl (by first | assumption | rfl) (by first | assumption | exact hR _ _ _ _ rfl | exact hR1 _ _ _ _ rfl | exact hR2 _ _ _ _ rfl | rfl) ?_
  first | refine x_aload_n hP rfl rfl ?_ | refine x_aload_nN hP rfl rfl ?_
  refine x_getI hP rfl (by first | assumption | rfl) (by first | assumption | exact hR _ _ _ _ rfl | exact hR1 _ _ _ _ rfl | exact hR2 _ _ _ _ rfl | rfl) ?_
  first | refine z_icmp_eq hP rfl (by omega) (by omega) (fun c8 => ?_) (fun c8 => ?_) | refine x_icmp_eq hP rfl (fun c8 => ?_) (fun c8 => ?_)
  · refine x_iconst hP rfl ?_
    refine x_istore_n hP rfl ?_
    exact x_re hP [some (.ref r), some (.ref r2), some (.int (iI (0 : Nat)))] ⟨rfl, rfl, rfl, trivial⟩ (c_same_loop hP hr' hw' hr2' hw2' (by omega) o.length 0 (by omega) k)
  · rw [decide_eq_false (fun q => by rw [q] at c8; omega)] at k
    refine x_iconst hP rfl ?_
    refine x_zret hP rfl rfl (by first | exact Or.inl iI_0 | exact Or.inr iI_1 | exact bI_or _ | assumption) ?_
    exact k
/-- the first place of a number, or -1 -/
def fnd (x : Nat) : List Nat → Nat → Int
  | [], _ => -1
  | y :: t, i => if y = x then i else fnd x t (i + 1)
theorem c_find_loop (hP : x_closed E P) (hr : isRw R r) (hw : rw I r o l) {x : Nat} (hx : x < 1048576) : ∀ (f i : Nat), i + f = l.length → Q (some (.int (iI (fnd x (l.drop i) i)))) (x_hp I J R) → P 140 d 2 (x_ls [some (.ref r), some (.int (iI x)), some (.int (iI i))]) [] (x_hp I J R) rc rs Q := by
  obtain ⟨g1, g2, g3, g4, g5⟩ := hr
  obtain ⟨a1, a2, a3, a4, a5, a6, a7, a8⟩ := hw
  intro f
  induction f with
  | zero =>
    intro i hi k
    rw [drop_all (by omega)] at k
    refine x_iload_n hP rfl rfl ?_
    first | refine x_aload_n hP rfl rfl ?_ | refine x_aload_nN hP rfl rfl ?_
    refine x_getI hP rfl (by first | assumption | rfl) (by first | assumption | exact hR _ _ _ _ rfl | exact hR1 _ _ _ _ rfl | exact hR2 _ _ _ _ rfl | rfl) ?_
    refine z_icmp_ge hP rfl (by omega) (by omega) (fun c7 => ?_) (fun c7 => ?_)
    · refine x_iconst hP rfl ?_
      refine x_iret hP rfl rfl ?_
      exact k
    · omega
  | succ f ih =>
    intro i hi k
    rw [dropc (by omega), fnd] at k
    have v := a6 i (by omega)
    have v2 := a7 _ (getD_mem (l := l) (i := i) (by omega))
    refine x_iload_n hP rfl rfl ?_
    first | refine x_aload_n hP rfl rfl ?_ | refine x_aload_nN hP rfl rfl ?_
    refine x_getI hP rfl (by first | assumption | rfl) (by first | assumption | exact hR _ _ _ _ rfl | exact hR1 _ _ _ _ rfl | exact hR2 _ _ _ _ rfl | rfl) ?_
    refine z_icmp_ge hP rfl (by omega) (by omega) (fun c7 => ?_) (fun c7 => ?_)
    · omega
    · first | refine x_aload_n hP rfl rfl ?_ | refine x_aload_nN hP rfl rfl ?_
      refine x_getR hP rfl (by first | assumption | rfl) (by first | assumption | exact hR _ _ _ _ rfl | exact hR1 _ _ _ _ rfl | exact hR2 _ _ _ _ rfl | rfl) ?_
      refine x_iload_n hP rfl rfl ?_
      refine z_iald hP rfl (by first | assumption | rfl) (by first | decide | omega) (by omega) (by first | assumption | exact hR _ _ _ _ rfl | exact hR1 _ _ _ _ rfl | exact hR2 _ _ _ _ rfl | rfl) ?_
      refine x_iload_n hP rfl rfl ?_
      first | refine z_icmp_ne hP rfl (by omega) (by omega) (fun c17 => ?_) (fun c17 => ?_) | refine x_icmp_ne hP rfl (fun c17 => ?_) (fun c17 => ?_)
      · rw [if_neg (by omega)] at k
        refine z_iinc hP rfl rfl rfl ?_
        refine x_goto hP rfl ?_
        exact x_re hP [some (.ref r), some (.int (iI x)), some (.int (iI (i + 1 : Nat)))] ⟨rfl, rfl, rfl, trivial⟩ (ih (i + 1) (by omega) k)
      · rw [if_pos (by omega)] at k
        refine x_iload_n hP rfl rfl ?_
        refine x_iret hP rfl rfl ?_
        exact k
theorem c_find (hP : x_closed E P) (hr : isRw R r) (hw : rw I r o l) {x : Nat} (hx : x < 1048576) (k : Q (some (.int (iI (fnd x l 0)))) (x_hp I J R)) : P 140 d 0 (x_la 0 [.ref r, .int (iI x)]) [] (x_hp I J R) rc rs Q := by
  refine x_iconst hP rfl ?_
  refine x_istore_n hP rfl ?_
  exact x_re hP [some (.ref r), some (.int (iI x)), some (.int (iI (0 : Nat)))] ⟨rfl, rfl, rfl, trivial⟩ (c_find_loop hP hr hw hx l.length 0 (by omega) k)
theorem c_beginOf (hP : x_closed E P) (hr : isRw R r) {x : Nat} (hx : x < 4) (k : ∀ I', rw I' r [x] [] → frP (rg r) I I' → Q none (x_hp I' J R)) : P 104 d 0 (x_la 0 [.ref r, .int (iI x)]) [] (x_hp I J R) rc rs Q := by
  obtain ⟨g1, g2, g3, g4, g5⟩ := hr
  first | refine x_aload_n hP rfl rfl ?_ | refine x_aload_nN hP rfl rfl ?_
  refine x_iconst hP rfl ?_
  refine x_putI hP rfl (by first | assumption | rfl) ?_
  first | refine w_nI ?_ | refine w_nL ?_ | refine w_nR ?_ | refine w_mI ?_ | refine w_mL ?_ | refine w_mR ?_ | skip
  first | refine x_aload_n hP rfl rfl ?_ | refine x_aload_nN hP rfl rfl ?_
  refine x_iconst hP rfl ?_
  refine x_putI hP rfl (by first | assumption | rfl) ?_
  first | refine w_nI ?_ | refine w_nL ?_ | refine w_nR ?_ | refine w_mI ?_ | refine w_mL ?_ | refine w_mR ?_ | skip
  first | refine x_aload_n hP rfl rfl ?_ | refine x_aload_nN hP rfl rfl ?_
  refine x_getR hP rfl (by first | assumption | rfl) (by first | assumption | exact hR _ _ _ _ rfl | exact hR1 _ _ _ _ rfl | exact hR2 _ _ _ _ rfl | rfl) ?_
  refine x_iconst hP rfl ?_
  refine x_iload_n hP rfl rfl ?_
  refine z_iast hP rfl (by first | assumption | rfl) (by first | decide | omega) (by omega) ?_
  first | refine w_nI ?_ | refine w_nL ?_ | refine w_nR ?_ | refine w_mI ?_ | refine w_mL ?_ | refine w_mR ?_ | skip
  refine x_vret hP rfl rfl ?_
  refine k _ ⟨?_, ?_, by decide, by show 1 ≤ 4; decide, ?_, ar_nil _ _, fun _ h => absurd h List.not_mem_nil, fun z h => by rw [List.mem_singleton.mp h]; exact hx⟩ (frP_at (frP_at (frP_at (frP_refl _ _) rg_sz) rg_wd) rg_or)
  · rw [x_at_eq, if_neg (by omega), x_at_eq, if_neg (by omega), x_at_eq, if_pos ⟨rfl, rfl, rfl⟩]; rfl
  · rw [x_at_eq, if_neg (by omega), x_at_eq, if_pos ⟨rfl, rfl, rfl⟩]; rfl
  · exact ar_snoc (ar_nil _ _)
theorem c_copyFrom (hP : x_closed E P) (hr : isRw R r) (hr2 : isRw R r2) (hn : rfar r r2) (hw2 : rw I r2 o2 l2) (k : ∀ I', rw I' r o2 l2 → frP (rg r) I I' → Q none (x_hp I' J R)) : P 69 (d + 1) 0 (x_la 0 [.ref r, .ref r2]) [] (x_hp I J R) rc rs Q := by
  obtain ⟨g1, g2, g3, g4, g5⟩ := hr
  obtain ⟨f1, f2, f3, f4, f5⟩ := hr2
  obtain ⟨b1, b2, b3, b4, b5, b6, b7, b8⟩ := hw2
  unfold rfar at hn
  first | refine x_aload_n hP rfl rfl ?_ | refine x_aload_nN hP rfl rfl ?_
  refine x_getR hP rfl (by first | assumption | rfl) (by first | assumption | exact hR _ _ _ _ rfl | exact hR1 _ _ _ _ rfl | exact hR2 _ _ _ _ rfl | rfl) ?_
  refine x_iconst hP rfl ?_
  first | refine x_aload_n hP rfl rfl ?_ | refine x_aload_nN hP rfl rfl ?_
  refine x_getR hP rfl (by first | assumption | rfl) (by first | assumption | exact hR _ _ _ _ rfl | exact hR1 _ _ _ _ rfl | exact hR2 _ _ _ _ rfl | rfl) ?_
  refine x_iconst hP rfl ?_
  first | refine x_aload_n hP rfl rfl ?_ | refine x_aload_nN hP rfl rfl ?_
  refine x_getI hP rfl (by first | assumption | rfl) (by first | assumption | exact hR _ _ _ _ rfl | exact hR1 _ _ _ _ rfl | exact hR2 _ _ _ _ rfl | rfl) ?_
  refine z_copy hP rfl rfl (by first | assumption | rfl) (by first | assumption | rfl) (by omega) ?_
  first | refine x_aload_n hP rfl rfl ?_ | refine x_aload_nN hP rfl rfl ?_
  refine x_getR hP rfl (by first | assumption | rfl) (by first | assumption | exact hR _ _ _ _ rfl | exact hR1 _ _ _ _ rfl | exact hR2 _ _ _ _ rfl | rfl) ?_
  refine x_iconst hP rfl ?_
  first | refine x_aload_n hP rfl rfl ?_ | refine x_aload_nN hP rfl rfl ?_
  refine x_getR hP rfl (by first | assumption | rfl) (by first | assumption | exact hR _ _ _ _ rfl | exact hR1 _ _ _ _ rfl | exact hR2 _ _ _ _ rfl | rfl) ?_
  refine x_iconst hP rfl ?_
  first | refine x_aload_n hP rfl rfl ?_ | refine x_aload_nN hP rfl rfl ?_
  refine x_getI hP rfl (by first | assumption | rfl) (by first | assumption | exact hR _ _ _ _ rfl | exact hR1 _ _ _ _ rfl | exact hR2 _ _ _ _ rfl | rfl) ?_
  refine z_copy hP rfl rfl (by first | assumption | rfl) (by first | assumption | rfl) (by omega) ?_
  first | refine x_aload_n hP rfl rfl ?_ | refine x_aload_nN hP rfl rfl ?_
  first | refine x_aload_n hP rfl rfl ?_ | refine x_aload_nN hP rfl rfl ?_
  refine x_getI hP rfl (by first | assumption | rfl) (by first | assumption | exact hR _ _ _ _ rfl | exact hR1 _ _ _ _ rfl | exact hR2 _ _ _ _ rfl | rfl) ?_
  have b2' : (x_at (x_cp (x_cp I 1 (r2 + 1) 0 (r + 1) 0 l2.length) 1 (r2 + 2) 0 (r + 2) 0 o2.length) 1193 r 0 (iI l2.length)) 1195 r2 0 = iI o2.length := b2
  refine x_putI hP rfl (by first | assumption | rfl) ?_
  first | refine w_nI ?_ | refine w_nL ?_ | refine w_nR ?_ | refine w_mI ?_ | refine w_mL ?_ | refine w_mR ?_ | skip
  first | refine x_aload_n hP rfl rfl ?_ | refine x_aload_nN hP rfl rfl ?_
  first | refine x_aload_n hP rfl rfl ?_ | refine x_aload_nN hP rfl rfl ?_
  refine x_getI hP rfl (by first | assumption | rfl) (by first | assumption | exact hR _ _ _ _ rfl | exact hR1 _ _ _ _ rfl | exact hR2 _ _ _ _ rfl | rfl) ?_
  refine x_putI hP rfl (by first | assumption | rfl) ?_
  first | refine w_nI ?_ | refine w_nL ?_ | refine w_nR ?_ | refine w_mI ?_ | refine w_mL ?_ | refine w_mR ?_ | skip
  refine x_vret hP rfl rfl ?_
  refine k _ ⟨?_, ?_, b3, b4, ?_, ?_, b7, b8⟩ (frP_at (frP_at (frP_cp (frP_cp (frP_refl _ _) (fun _ => rg_tu)) (fun _ => rg_or)) rg_sz) rg_wd)
  · rw [x_at_eq, if_neg (by omega), x_at_eq, if_pos ⟨rfl, rfl, rfl⟩]
  · rw [x_at_eq, if_pos ⟨rfl, rfl, rfl⟩]
  · exact ar_at (ar_at (ar_cp (ar_cpo b5 (by omega))) (by omega)) (by omega)
  · exact ar_at (ar_at (ar_cpo (ar_cp b6) (by omega)) (by omega)) (by omega)
theorem c_keepFirst (hP : x_closed E P) (hr : isRw R r) (hw : rw I r o l) {x : Nat} (hx : x < 2147483648) (k : ∀ I', rw I' r o (l.take x) → frP (rg r) I I' → Q none (x_hp I' J R)) : P 91 (d + 1) 0 (x_la 0 [.ref r, .int (iI x)]) [] (x_hp I J R) rc rs Q := by
  obtain ⟨g1, g2, g3, g4, g5⟩ := hr
  have hw' := hw
  obtain ⟨a1, a2, a3, a4, a5, a6, a7, a8⟩ := hw
  first | refine x_aload_n hP rfl rfl ?_ | refine x_aload_nN hP rfl rfl ?_
  first | refine x_aload_n hP rfl rfl ?_ | refine x_aload_nN hP rfl rfl ?_
  refine x_getI hP rfl (by first | assumption | rfl) (by first | assumption | exact hR _ _ _ _ rfl | exact hR1 _ _ _ _ rfl | exact hR2 _ _ _ _ rfl | rfl) ?_
  refine x_iload_n hP rfl rfl ?_
  refine z_mmin hP rfl rfl (by omega) (by omega) ?_
  refine x_putI hP rfl (by first | assumption | rfl) ?_
  first | refine w_nI ?_ | refine w_nL ?_ | refine w_nR ?_ | refine w_mI ?_ | refine w_mL ?_ | refine w_mR ?_ | skip
  refine x_vret hP rfl rfl ?_
  have e : (if (x : Int) < (l.length : Int) then (x : Int) else (l.length : Int)) = ((l.take x).length : Nat) := by
    rw [List.length_take]
    split <;> omega
  rw [e]
  exact k _ (rw_size hw' rfl (by rw [List.length_take]; omega) (ar_take a6) (fun z h => a7 z (List.mem_of_mem_take h))) (frP_at (frP_refl _ _) rg_sz)
theorem c_keepLast (hP : x_closed E P) (hr : isRw R r) (hw : rw I r o l) {x : Nat} (hx : x < 2147483648) (k : ∀ I', rw I' r o (l.drop (l.length - x)) → frP (rg r) I I' → Q none (x_hp I' J R)) : P 93 (d + 1) 0 (x_la 0 [.ref r, .int (iI x)]) [] (x_hp I J R) rc rs Q := by
  obtain ⟨g1, g2, g3, g4, g5⟩ := hr
  have hw' := hw
  obtain ⟨a1, a2, a3, a4, a5, a6, a7, a8⟩ := hw
  refine x_iload_n hP rfl rfl ?_
  first | refine x_aload_n hP rfl rfl ?_ | refine x_aload_nN hP rfl rfl ?_
  refine x_getI hP rfl (by first | assumption | rfl) (by first | assumption | exact hR _ _ _ _ rfl | exact hR1 _ _ _ _ rfl | exact hR2 _ _ _ _ rfl | rfl) ?_
  refine z_icmp_ge hP rfl (by omega) (by omega) (fun c5 => ?_) (fun c5 => ?_)
  · rw [show l.length - x = 0 by omega] at k
    refine x_vret hP rfl rfl ?_
    exact k _ hw' (frP_refl _ _)
  · first | refine x_aload_n hP rfl rfl ?_ | refine x_aload_nN hP rfl rfl ?_
    refine x_getR hP rfl (by first | assumption | rfl) (by first | assumption | exact hR _ _ _ _ rfl | exact hR1 _ _ _ _ rfl | exact hR2 _ _ _ _ rfl | rfl) ?_
    first | refine x_aload_n hP rfl rfl ?_ | refine x_aload_nN hP rfl rfl ?_
    refine x_getI hP rfl (by first | assumption | rfl) (by first | assumption | exact hR _ _ _ _ rfl | exact hR1 _ _ _ _ rfl | exact hR2 _ _ _ _ rfl | rfl) ?_
    refine x_iload_n hP rfl rfl ?_
    first | refine z_isub hP rfl ?_ | refine x_isub hP rfl ?_
    first | refine x_aload_n hP rfl rfl ?_ | refine x_aload_nN hP rfl rfl ?_
    refine x_getR hP rfl (by first | assumption | rfl) (by first | assumption | exact hR _ _ _ _ rfl | exact hR1 _ _ _ _ rfl | exact hR2 _ _ _ _ rfl | rfl) ?_
    refine x_iconst hP rfl ?_
    refine x_iload_n hP rfl rfl ?_
    refine z_copy hP rfl rfl (by first | assumption | rfl) (by first | assumption | rfl) (by omega) ?_
    first | refine x_aload_n hP rfl rfl ?_ | refine x_aload_nN hP rfl rfl ?_
    refine x_iload_n hP rfl rfl ?_
    refine x_putI hP rfl (by first | assumption | rfl) ?_
    first | refine w_nI ?_ | refine w_nL ?_ | refine w_nR ?_ | refine w_mI ?_ | refine w_mL ?_ | refine w_mR ?_ | skip
    refine x_vret hP rfl rfl ?_
    have e : ((l.length : Int) - (x : Int)).toNat = l.length - x := by omega
    rw [e]
    refine k _ (rw_size' a2 a4 (ar_cpo a5 (by omega)) a8 ?_ (by omega) ?_ (fun z h => a7 z (List.mem_of_mem_drop h))) (frP_at (frP_cp (frP_refl _ _) (fun _ => rg_tu)) rg_sz)
    · rw [List.length_drop]; omega
    · intro i hi
      rw [List.length_drop] at hi
      rw [x_cp_eq, if_pos ⟨rfl, rfl, Nat.zero_le _, by omega⟩, getD_drop]
      exact a6 _ (by omega)
theorem c_appendAll_loop (hP : x_closed E P) (hr : isRw R r) (hr2 : isRw R r2) (hn : rfar r r2) : ∀ (f i : Nat) (I : x_M Int32) (l : List Nat), i + f = l2.length → rw I r o l → rw I r2 o2 l2 → (∀ I', rw I' r o ((l ++ l2.drop i).take 200) → frP (rg r) I I' → Q (some (.int (bI (decide (l.length + f ≤ 200))))) (x_hp I' J R)) → P 129 (d + 1) 2 (x_ls [some (.ref r), some (.ref r2), some (.int (iI i))]) [] (x_hp I J R) rc rs Q := by
  have hr' := hr
  obtain ⟨g1, g2, g3, g4, g5⟩ := hr
  obtain ⟨f1, f2, f3, f4, f5⟩ := hr2
  intro f
  induction f with
  | zero =>
    intro i I l hi hw hw2 k
    have hl := hw.2.2.1
    have b1 := hw2.1
    have b3 := hw2.2.2.1
    rw [drop_all (by omega), List.append_nil, List.take_of_length_le hl, decide_eq_true (by omega)] at k
    refine x_iload_n hP rfl rfl ?_
    first | refine x_aload_n hP rfl rfl ?_ | refine x_aload_nN hP rfl rfl ?_
    refine x_getI hP rfl (by first | assumption | rfl) (by first | assumption | exact hR _ _ _ _ rfl | exact hR1 _ _ _ _ rfl | exact hR2 _ _ _ _ rfl | rfl) ?_
    refine z_icmp_ge hP rfl (by omega) (by omega) (fun c7 => ?_) (fun c7 => ?_)
    · refine x_iconst hP rfl ?_
      refine x_zret hP rfl rfl (by first | exact Or.inl iI_0 | exact Or.inr iI_1 | exact bI_or _ | assumption) ?_
      exact k _ hw (frP_refl _ _)
    · omega
  | succ f ih =>
    intro i I l hi hw hw2 k
    have hl := hw.2.2.1
    obtain ⟨b1, b2, b3, b4, b5, b6, b7, b8⟩ := hw2
    have hw2 : rw I r2 o2 l2 := ⟨b1, b2, b3, b4, b5, b6, b7, b8⟩
    have v := b6 i (by omega)
    have v2 := b7 _ (getD_mem (l := l2) (i := i) (by omega))
    rw [dropc (by omega)] at k
    refine x_iload_n hP rfl rfl ?_
    first | refine x_aload_n hP rfl rfl ?_ | refine x_aload_nN hP rfl rfl ?_
    refine x_getI hP rfl (by first | assumption | rfl) (by first | assumption | exact hR _ _ _ _ rfl | exact hR1 _ _ _ _ rfl | exact hR2 _ _ _ _ rfl | rfl) ?_
    refine z_icmp_ge hP rfl (by omega) (by omega) (fun c7 => ?_) (fun c7 => ?_)
    · omega
    · first | refine x_aload_n hP rfl rfl ?_ | refine x_aload_nN hP rfl rfl ?_
      first | refine x_aload_n hP rfl rfl ?_ | refine x_aload_nN hP rfl rfl ?_
      refine x_getR hP rfl (by first | assumption | rfl) (by first | assumption | exact hR _ _ _ _ rfl | exact hR1 _ _ _ _ rfl | exact hR2 _ _ _ _ rfl | rfl) ?_
      refine x_iload_n hP rfl rfl ?_
      refine z_iald hP rfl (by first | assumption | rfl) (by first | decide | omega) (by omega) (by first | assumption | exact hR _ _ _ _ rfl | exact hR1 _ _ _ _ rfl | exact hR2 _ _ _ _ rfl | rfl) ?_
      refine x_callV1 (ci := 3) hP 0 0 rfl rfl rfl (by first | assumption | rfl) rfl rfl rfl (Nat.zero_le _) (Nat.zero_le _) ?_
      refine c_rowAppend hP hr' hw v2 (fun hlt I1 hw1 hf1 => ?_) (fun hge => ?_)
      · first | refine zb_if_ne hP rfl (fun c20 => ?_) (fun c20 => ?_) | refine zl_if_ne hP rfl (fun c20 => ?_) (fun c20 => ?_) | refine z_if_ne hP rfl (by omega) (fun c20 => ?_) (fun c20 => ?_)
        rotate_left
        · cases c20
        · refine z_iinc hP rfl rfl rfl ?_
          refine x_goto hP rfl ?_
          refine x_re hP [some (.ref r), some (.ref r2), some (.int (iI (i + 1 : Nat)))] ⟨rfl, rfl, rfl, trivial⟩ (ih (i + 1) I1 (l ++ [l2.getD i 0]) (by omega) hw1 (rw_far hw2 hf1 (rfar_sy hn)) (fun I2 hw3 hf3 => ?_))
          rw [List.append_assoc] at hw3
          have := k I2 hw3 (frP_trans hf1 hf3)
          rw [List.length_append]
          rw [show l.length + [l2.getD i 0].length + f = l.length + (f + 1) by show l.length + 1 + f = _; omega]
          exact this
      · first | refine zb_if_ne hP rfl (fun c20 => ?_) (fun c20 => ?_) | refine zl_if_ne hP rfl (fun c20 => ?_) (fun c20 => ?_) | refine z_if_ne hP rfl (by omega) (fun c20 => ?_) (fun c20 => ?_)
        rotate_left
        · refine x_iconst hP rfl ?_
          refine x_zret hP rfl rfl (by first | exact Or.inl iI_0 | exact Or.inr iI_1 | exact bI_or _ | assumption) ?_
          have := k I (by rw [List.take_append, List.take_of_length_le (by omega), show 200 - l.length = 0 by omega, List.take_zero, List.append_nil]; exact hw) (frP_refl _ _)
          rw [decide_eq_false (by omega)] at this
          exact this
        · cases c20
theorem c_appendAll (hP : x_closed E P) (hr : isRw R r) (hr2 : isRw R r2) (hn : rfar r r2) (hw : rw I r o l) (hw2 : rw I r2 o2 l2) (k : ∀ I', rw I' r o ((l ++ l2).take 200) → frP (rg r) I I' → Q (some (.int (bI (decide (l.length + l2.length ≤ 200))))) (x_hp I' J R)) : P 129 (d + 1) 0 (x_la 0 [.ref r, .ref r2]) [] (x_hp I J R) rc rs Q := by
  refine x_iconst hP rfl ?_
  refine x_istore_n hP rfl ?_
  exact x_re hP [some (.ref r), some (.ref r2), some (.int (iI (0 : Nat)))] ⟨rfl, rfl, rfl, trivial⟩ (c_appendAll_loop hP hr hr2 hn l2.length 0 I l (by omega) hw hw2 k)
/-- each with each -/
def prd (l l2 : List Nat) : List Nat := mk (l.length * l2.length) fun q => l.getD (q / l2.length) 0 ||| l2.getD (q % l2.length) 0
theorem divmod {i j m : Nat} (h : j < m) : (i * m + j) / m = i ∧ (i * m + j) % m = j := by
  have hm : 0 < m := by omega
  rw [Nat.add_comm, Nat.add_mul_div_right _ _ hm, Nat.add_mul_mod_self_right, Nat.div_eq_of_lt h, Nat.mod_eq_of_lt h, Nat.zero_add]
  exact ⟨rfl, rfl⟩
theorem prd_lt {l l2 : List Nat} (h : ∀ x ∈ l, x < 1048576) (h2 : ∀ x ∈ l2, x < 1048576) : ∀ x ∈ prd l l2, x < 1048576 := fun x hx => by
  obtain ⟨q, hq, e⟩ := mk_mem.mp hx
  have hm : 0 < l2.length := by
    rcases Nat.eq_zero_or_pos l2.length with z | z
    · rw [z] at hq; omega
    · exact z
  rw [← e]
  exact or_lt (h _ (getD_mem (Nat.div_lt_of_lt_mul (by rw [Nat.mul_comm]; exact hq)))) (h2 _ (getD_mem (Nat.mod_lt _ hm)))
theorem c_mul_order (hP : x_closed E P) (hr : isRw R r) (hr2 : isRw R r2) (hn : rfar r r2) (ho : o.length + o2.length ≤ 4) : ∀ (f i : Nat) (I : x_M Int32), i + f = o2.length → rw I r (o ++ o2.take i) l → rw I r2 o2 l2 → (∀ I' L, x_ag L 0 [some (.ref r), some (.ref r2)] → rw I' r (o ++ o2) l → frP (rg r) I I' → P 121 d 49 L [] (x_hp I' J R) rc rs Q) → P 121 d 2 (x_ls [some (.ref r), some (.ref r2), some (.int (iI i))]) [] (x_hp I J R) rc rs Q := by
  obtain ⟨g1, g2, g3, g4, g5⟩ := hr
  obtain ⟨f1, f2, f3, f4, f5⟩ := hr2
  intro f
  induction f with
  | zero =>
    intro i I hi hw hw2 k
    have b2 := hw2.2.1
    have b4 := hw2.2.2.2.1
    rw [List.take_of_length_le (by omega)] at hw
    refine x_iload_n hP rfl rfl ?_
    first | refine x_aload_n hP rfl rfl ?_ | refine x_aload_nN hP rfl rfl ?_
    refine x_getI hP rfl (by first | assumption | rfl) (by first | assumption | exact hR _ _ _ _ rfl | exact hR1 _ _ _ _ rfl | exact hR2 _ _ _ _ rfl | rfl) ?_
    refine z_icmp_ge hP rfl (by omega) (by omega) (fun c7 => ?_) (fun c7 => ?_)
    · exact k I _ ⟨rfl, rfl, trivial⟩ hw (frP_refl _ _)
    · omega
  | succ f ih =>
    intro i I hi hw hw2 k
    obtain ⟨b1, b2, b3, b4, b5, b6, b7, b8⟩ := hw2
    have hw2 : rw I r2 o2 l2 := ⟨b1, b2, b3, b4, b5, b6, b7, b8⟩
    have v := b5 i (by omega)
    obtain ⟨a1, a2, a3, a4, a5, a6, a7, a8⟩ := hw
    have hl : (o ++ o2.take i).length = o.length + i := by rw [List.length_append, List.length_take]; omega
    rw [hl] at a2 a4
    refine x_iload_n hP rfl rfl ?_
    first | refine x_aload_n hP rfl rfl ?_ | refine x_aload_nN hP rfl rfl ?_
    refine x_getI hP rfl (by first | assumption | rfl) (by first | assumption | exact hR _ _ _ _ rfl | exact hR1 _ _ _ _ rfl | exact hR2 _ _ _ _ rfl | rfl) ?_
    refine z_icmp_ge hP rfl (by omega) (by omega) (fun c7 => ?_) (fun c7 => ?_)
    · omega
    first | refine x_aload_n hP rfl rfl ?_ | refine x_aload_nN hP rfl rfl ?_
    refine x_getI hP rfl (by first | assumption | rfl) (by first | assumption | exact hR _ _ _ _ rfl | exact hR1 _ _ _ _ rfl | exact hR2 _ _ _ _ rfl | rfl) ?_
    refine x_iconst hP rfl ?_
    refine z_icmp_ge hP rfl (by omega) (by omega) (fun c15 => ?_) (fun c15 => ?_)
    · omega
    first | refine x_aload_n hP rfl rfl ?_ | refine x_aload_nN hP rfl rfl ?_
    refine x_getR hP rfl (by first | assumption | rfl) (by first | assumption | exact hR _ _ _ _ rfl | exact hR1 _ _ _ _ rfl | exact hR2 _ _ _ _ rfl | rfl) ?_
    first | refine x_aload_n hP rfl rfl ?_ | refine x_aload_nN hP rfl rfl ?_
    refine x_getI hP rfl (by first | assumption | rfl) (by first | assumption | exact hR _ _ _ _ rfl | exact hR1 _ _ _ _ rfl | exact hR2 _ _ _ _ rfl | rfl) ?_
    first | refine x_aload_n hP rfl rfl ?_ | refine x_aload_nN hP rfl rfl ?_
    refine x_getR hP rfl (by first | assumption | rfl) (by first | assumption | exact hR _ _ _ _ rfl | exact hR1 _ _ _ _ rfl | exact hR2 _ _ _ _ rfl | rfl) ?_
    refine x_iload_n hP rfl rfl ?_
    refine z_iald hP rfl (by first | assumption | rfl) (by first | decide | omega) (by omega) (by first | assumption | exact hR _ _ _ _ rfl | exact hR1 _ _ _ _ rfl | exact hR2 _ _ _ _ rfl | rfl) ?_
    refine z_iast hP rfl (by first | assumption | rfl) (by first | decide | omega) (by omega) ?_
    first | refine w_nI ?_ | refine w_nL ?_ | refine w_nR ?_ | refine w_mI ?_ | refine w_mL ?_ | refine w_mR ?_ | skip
    have a2' : (x_at I 1 (r + 2) (o.length + i) (iI (o2.getD i 0))) 1195 r 0 = iI (o.length + i : Nat) := a2
    first | refine x_aload_n hP rfl rfl ?_ | refine x_aload_nN hP rfl rfl ?_
    refine x_dup hP rfl rfl ?_
    refine x_getI hP rfl (by first | assumption | rfl) (by first | assumption | exact hR _ _ _ _ rfl | exact hR1 _ _ _ _ rfl | exact hR2 _ _ _ _ rfl | rfl) ?_
    refine x_iconst hP rfl ?_
    first | refine z_iadd hP rfl ?_ | refine x_iadd hP rfl ?_
    refine x_putI hP rfl (by first | assumption | rfl) ?_
    first | refine w_nI ?_ | refine w_nL ?_ | refine w_nR ?_ | refine w_mI ?_ | refine w_mL ?_ | refine w_mR ?_ | skip
    refine z_iinc hP rfl rfl rfl ?_
    refine x_goto hP rfl ?_
    have hf : frP (rg r) I (x_at (x_at I 1 (r + 2) (o.length + i) (iI (o2.getD i 0))) 1195 r 0 (iI (((o.length + i : Nat) : Int) + 1))) := frP_at (frP_at (frP_refl _ _) rg_or) rg_wd
    refine x_re hP [some (.ref r), some (.ref r2), some (.int (iI (i + 1 : Nat)))] ⟨rfl, rfl, rfl, trivial⟩ (ih (i + 1) _ (by omega) ?_ (rw_far hw2 hf (rfar_sy hn)) (fun I' L hL hw' hf' => k I' L hL hw' (frP_trans hf hf')))
    rw [takec (by omega), ← List.append_assoc]
    refine ⟨?_, ?_, a3, ?_, ?_, ?_, a7, ?_⟩
    · rw [x_at_eq, if_neg (by omega)]; exact a1
    · rw [x_at_eq, if_pos ⟨rfl, rfl, rfl⟩, List.length_append, hl]; rfl
    · rw [List.length_append, hl]; show o.length + i + 1 ≤ 4; omega
    · exact ar_at (ar_snoc' a5 hl.symm) (by omega)
    · exact ar_at (ar_at a6 (by omega)) (by omega)
    · intro x hx
      rcases List.mem_append.mp hx with q | q
      · exact a8 x q
      · rw [List.mem_singleton.mp q]; exact b8 _ (getD_mem (by omega))
/-- what stands while the product is laid, backwards, down to place z -/
def mst (I : x_M Int32) (r : Nat) (l l2 : List Nat) (f z : Nat) : Prop := (∀ q, z ≤ q → q < l.length * l2.length → I 1 (r + 1) q = iI ((prd l l2).getD q 0)) ∧ ∀ q, q < f → I 1 (r + 1) q = iI (l.getD q 0)
theorem c_mul_in (hP : x_closed E P) (hr : isRw R r) (hr2 : isRw R r2) (hn : rfar r r2) {i : Nat} (hi : i < l.length) (hp : l.length * l2.length ≤ 200) (hb : ∀ x ∈ l, x < 1048576) : ∀ (g : Nat) (I : x_M Int32), g ≤ l2.length → mst I r l l2 i (i * l2.length + g) → rw I r2 o2 l2 → (∀ I' L, x_ag L 0 [some (.ref r), some (.ref r2), some (.int (iI (l.length * l2.length : Nat))), some (.int (iI i))] → mst I' r l l2 i (i * l2.length) → frP (fun k a _ => k = 1 ∧ a = r + 1) I I' → P 121 d 135 L [] (x_hp I' J R) rc rs Q) →
    P 121 d 100 (x_ls [some (.ref r), some (.ref r2), some (.int (iI (l.length * l2.length : Nat))), some (.int (iI i)), some (.int (iI (l.getD i 0))), some (.int (iI ((g : Int) - 1)))]) [] (x_hp I J R) rc rs Q := by
  obtain ⟨g1, g2, g3, g4, g5⟩ := hr
  obtain ⟨f1, f2, f3, f4, f5⟩ := hr2
  intro g
  induction g with
  | zero =>
    intro I hg hm hw2 k
    refine x_iload hP rfl rfl ?_
    refine z_if_lt hP rfl (by omega) (fun c102 => ?_) (fun c102 => ?_)
    · exact k I _ ⟨rfl, rfl, rfl, rfl, trivial⟩ hm (frP_refl _ _)
    · omega
  | succ j ih =>
    intro I hg hm hw2 k
    obtain ⟨b1, b2, b3, b4, b5, b6, b7, b8⟩ := hw2
    have hw2 : rw I r2 o2 l2 := ⟨b1, b2, b3, b4, b5, b6, b7, b8⟩
    have e : ((j + 1 : Nat) : Int) - 1 = j := by omega
    rw [e]
    have v := b6 j (by omega)
    have h1 : i * l2.length + l2.length ≤ l.length * l2.length := by
      rw [← Nat.succ_mul]
      exact Nat.mul_le_mul_right _ hi
    have h2 : i * 1 ≤ i * l2.length := Nat.mul_le_mul_left i (by omega)
    have e2 : ((i : Int) * (l2.length : Int) + (j : Int)).toNat = i * l2.length + j := by
      rw [← Int.natCast_mul, ← Int.natCast_add]; rfl
    have hrg : 0 ≤ (i : Int) * (l2.length : Int) + (j : Int) ∧ (i : Int) * (l2.length : Int) + (j : Int) < (200 : Nat) := by
      rw [← Int.natCast_mul, ← Int.natCast_add]; omega
    refine x_iload hP rfl rfl ?_
    refine z_if_lt hP rfl (by omega) (fun c102 => ?_) (fun c102 => ?_)
    · omega
    first | refine x_aload_n hP rfl rfl ?_ | refine x_aload_nN hP rfl rfl ?_
    refine x_getR hP rfl (by first | assumption | rfl) (by first | assumption | exact hR _ _ _ _ rfl | exact hR1 _ _ _ _ rfl | exact hR2 _ _ _ _ rfl | rfl) ?_
    refine x_iload_n hP rfl rfl ?_
    first | refine x_aload_n hP rfl rfl ?_ | refine x_aload_nN hP rfl rfl ?_
    refine x_getI hP rfl (by first | assumption | rfl) (by first | assumption | exact hR _ _ _ _ rfl | exact hR1 _ _ _ _ rfl | exact hR2 _ _ _ _ rfl | rfl) ?_
    first | refine z_imul hP rfl ?_ | refine x_imul hP rfl ?_
    refine x_iload hP rfl rfl ?_
    first | refine z_iadd hP rfl ?_ | refine x_iadd hP rfl ?_
    refine x_iload hP rfl rfl ?_
    first | refine x_aload_n hP rfl rfl ?_ | refine x_aload_nN hP rfl rfl ?_
    refine x_getR hP rfl (by first | assumption | rfl) (by first | assumption | exact hR _ _ _ _ rfl | exact hR1 _ _ _ _ rfl | exact hR2 _ _ _ _ rfl | rfl) ?_
    refine x_iload hP rfl rfl ?_
    refine z_iald hP rfl (by first | assumption | rfl) (by first | decide | omega) (by omega) (by first | assumption | exact hR _ _ _ _ rfl | exact hR1 _ _ _ _ rfl | exact hR2 _ _ _ _ rfl | rfl) ?_
    refine x_ior hP rfl ?_
    refine z_iast hP rfl g2 (by decide) hrg ?_
    rw [e2, iI_or]
    refine w_nI ?_
    refine z_iinc hP rfl rfl rfl ?_
    refine x_goto hP rfl ?_
    have hf : frP (fun k a _ => k = 1 ∧ a = r + 1) I (x_at I 1 (r + 1) (i * l2.length + j) (iI (l.getD i 0 ||| l2.getD j 0 : Nat))) := frP_at (frP_refl _ _) ⟨rfl, rfl⟩
    refine x_re hP [some (.ref r), some (.ref r2), some (.int (iI (l.length * l2.length : Nat))), some (.int (iI i)), some (.int (iI (l.getD i 0))), some (.int (iI ((j : Int) - 1)))] ⟨rfl, rfl, rfl, rfl, rfl, rfl, trivial⟩ (ih _ (by omega) ⟨?_, ?_⟩ (rw_fr hw2 hf ?_) (fun I' L hL hm' hf' => k I' L hL hm' (frP_trans hf hf')))
    · intro q hq1 hq2
      rw [x_at_eq]
      by_cases hq : q = i * l2.length + j
      · have dm := divmod (i := i) (j := j) (m := l2.length) (by omega)
        subst hq
        rw [if_pos ⟨rfl, rfl, rfl⟩, prd, mk_get (by omega), dm.1, dm.2]
      · rw [if_neg (fun z => hq z.2.2)]
        exact hm.1 q (by omega) hq2
    · intro q hq
      rw [x_at_eq, if_neg (by omega)]
      exact hm.2 q hq
    · intro k a i hg
      unfold rg at hg
      unfold rfar at hn
      omega
theorem c_mul_out (hP : x_closed E P) (hr : isRw R r) (hr2 : isRw R r2) (hn : rfar r r2) (hp : l.length * l2.length ≤ 200) (hb : ∀ x ∈ l, x < 1048576) (hl : l.length ≤ 200) : ∀ (f : Nat) (I : x_M Int32), f ≤ l.length → mst I r l l2 f (f * l2.length) → rw I r2 o2 l2 → (∀ I' L, x_ag L 0 [some (.ref r), some (.ref r2), some (.int (iI (l.length * l2.length : Nat)))] → mst I' r l l2 0 0 → frP (fun k a _ => k = 1 ∧ a = r + 1) I I' → P 121 d 141 L [] (x_hp I' J R) rc rs Q) →
    P 121 d 80 (x_ls [some (.ref r), some (.ref r2), some (.int (iI (l.length * l2.length : Nat))), some (.int (iI ((f : Int) - 1)))]) [] (x_hp I J R) rc rs Q := by
  have hr' := hr
  have hr2' := hr2
  obtain ⟨g1, g2, g3, g4, g5⟩ := hr
  obtain ⟨f1, f2, f3, f4, f5⟩ := hr2
  intro f
  induction f with
  | zero =>
    intro I hg hm hw2 k
    rw [Nat.zero_mul] at hm
    refine x_iload_n hP rfl rfl ?_
    refine z_if_lt hP rfl (by omega) (fun c81 => ?_) (fun c81 => ?_)
    · exact k I _ ⟨rfl, rfl, rfl, trivial⟩ hm (frP_refl _ _)
    · omega
  | succ i ih =>
    intro I hg hm hw2 k
    obtain ⟨b1, b2, b3, b4, b5, b6, b7, b8⟩ := hw2
    have hw2 : rw I r2 o2 l2 := ⟨b1, b2, b3, b4, b5, b6, b7, b8⟩
    have e : ((i + 1 : Nat) : Int) - 1 = i := by omega
    rw [e]
    have v := hm.2 i (by omega)
    refine x_iload_n hP rfl rfl ?_
    refine z_if_lt hP rfl (by omega) (fun c81 => ?_) (fun c81 => ?_)
    · omega
    first | refine x_aload_n hP rfl rfl ?_ | refine x_aload_nN hP rfl rfl ?_
    refine x_getR hP rfl (by first | assumption | rfl) (by first | assumption | exact hR _ _ _ _ rfl | exact hR1 _ _ _ _ rfl | exact hR2 _ _ _ _ rfl | rfl) ?_
    refine x_iload_n hP rfl rfl ?_
    refine z_iald hP rfl (by first | assumption | rfl) (by first | decide | omega) (by omega) (by first | assumption | exact hR _ _ _ _ rfl | exact hR1 _ _ _ _ rfl | exact hR2 _ _ _ _ rfl | rfl) ?_
    refine x_istore hP rfl ?_
    first | refine x_aload_n hP rfl rfl ?_ | refine x_aload_nN hP rfl rfl ?_
    refine x_getI hP rfl (by first | assumption | rfl) (by first | assumption | exact hR _ _ _ _ rfl | exact hR1 _ _ _ _ rfl | exact hR2 _ _ _ _ rfl | rfl) ?_
    refine x_iconst hP rfl ?_
    first | refine z_isub hP rfl ?_ | refine x_isub hP rfl ?_
    refine x_istore hP rfl ?_
    refine x_re hP [some (.ref r), some (.ref r2), some (.int (iI (l.length * l2.length : Nat))), some (.int (iI i)), some (.int (iI (l.getD i 0))), some (.int (iI ((l2.length : Int) - 1)))] ⟨rfl, rfl, rfl, rfl, rfl, rfl, trivial⟩ ?_
    refine c_mul_in hP hr' hr2' hn (i := i) (by omega) hp hb l2.length I (Nat.le_refl _) ⟨?_, fun q hq => hm.2 q (by omega)⟩ hw2 (fun I' L hL hm' hf' => ?_)
    · intro q hq1 hq2
      exact hm.1 q (by rw [Nat.succ_mul]; exact hq1) hq2
    refine x_re hP _ hL ?_
    refine z_iinc hP rfl rfl rfl ?_
    refine x_goto hP rfl ?_
    exact x_re hP [some (.ref r), some (.ref r2), some (.int (iI (l.length * l2.length : Nat))), some (.int (iI ((i : Int) - 1)))] ⟨rfl, rfl, rfl, rfl, trivial⟩ (ih I' (by omega) hm' (rw_fr hw2 hf' (fun k a i hg => by unfold rg at hg; unfold rfar at hn; omega)) (fun I2 L hL hm2 hf2 => k I2 L hL hm2 (frP_trans hf' hf2)))
theorem c_multiply (hP : x_closed E P) (hr : isRw R r) (hr2 : isRw R r2) (hn : rfar r r2) (hw : rw I r o l) (hw2 : rw I r2 o2 l2) (ho : o.length + o2.length ≤ 4) (k : ∀ I', rw I' r (o ++ o2) (if l.length * l2.length ≤ 200 then prd l l2 else []) → frP (rg r) I I' → Q (some (.int (bI (decide (l.length * l2.length ≤ 200))))) (x_hp I' J R)) : P 121 d 0 (x_la 0 [.ref r, .ref r2]) [] (x_hp I J R) rc rs Q := by
  have hr' := hr
  have hr2' := hr2
  obtain ⟨g1, g2, g3, g4, g5⟩ := hr
  obtain ⟨f1, f2, f3, f4, f5⟩ := hr2
  refine x_iconst hP rfl ?_
  refine x_istore_n hP rfl ?_
  refine x_re hP [some (.ref r), some (.ref r2), some (.int (iI (0 : Nat)))] ⟨rfl, rfl, rfl, trivial⟩ (c_mul_order hP hr' hr2' hn ho o2.length 0 I (by omega) (by rw [List.take_zero, List.append_nil]; exact hw) hw2 (fun I1 L hL hw1 hf1 => ?_))
  have hw2 := rw_far hw2 hf1 (rfar_sy hn)
  obtain ⟨b1, b2, b3, b4, b5, b6, b7, b8⟩ := hw2
  have hw2 : rw I1 r2 o2 l2 := ⟨b1, b2, b3, b4, b5, b6, b7, b8⟩
  obtain ⟨a1, a2, a3, a4, a5, a6, a7, a8⟩ := hw1
  have e0 : (l.length : Int) * (l2.length : Int) = ((l.length * l2.length : Nat) : Int) := (Int.natCast_mul ..).symm
  have hb : l.length * l2.length ≤ 200 * 200 := Nat.mul_le_mul a3 b3
  refine x_re hP _ hL ?_
  first | refine x_aload_n hP rfl rfl ?_ | refine x_aload_nN hP rfl rfl ?_
  refine x_getI hP rfl (by first | assumption | rfl) (by first | assumption | exact hR _ _ _ _ rfl | exact hR1 _ _ _ _ rfl | exact hR2 _ _ _ _ rfl | rfl) ?_
  first | refine x_aload_n hP rfl rfl ?_ | refine x_aload_nN hP rfl rfl ?_
  refine x_getI hP rfl (by first | assumption | rfl) (by first | assumption | exact hR _ _ _ _ rfl | exact hR1 _ _ _ _ rfl | exact hR2 _ _ _ _ rfl | rfl) ?_
  first | refine z_imul hP rfl ?_ | refine x_imul hP rfl ?_
  rw [e0]
  refine x_istore_n hP rfl ?_
  refine x_iload_n hP rfl rfl ?_
  refine x_sipush hP rfl ?_
  refine z_icmp_le hP rfl (by omega) (by omega) (fun c63 => ?_) (fun c63 => ?_)
  · have hp : l.length * l2.length ≤ 200 := by omega
    rw [if_pos hp, decide_eq_true hp] at k
    first | refine x_aload_n hP rfl rfl ?_ | refine x_aload_nN hP rfl rfl ?_
    refine x_getI hP rfl (by first | assumption | rfl) (by first | assumption | exact hR _ _ _ _ rfl | exact hR1 _ _ _ _ rfl | exact hR2 _ _ _ _ rfl | rfl) ?_
    refine x_iconst hP rfl ?_
    first | refine z_isub hP rfl ?_ | refine x_isub hP rfl ?_
    refine x_istore_n hP rfl ?_
    refine x_re hP [some (.ref r), some (.ref r2), some (.int (iI (l.length * l2.length : Nat))), some (.int (iI ((l.length : Int) - 1)))] ⟨rfl, rfl, rfl, rfl, trivial⟩ (c_mul_out hP hr' hr2' hn hp a7 a3 l.length I1 (Nat.le_refl _) ⟨fun q h1 h2 => by omega, a6⟩ hw2 (fun I2 L2 hL2 hm2 hf2 => ?_))
    refine x_re hP _ hL2 ?_
    first | refine x_aload_n hP rfl rfl ?_ | refine x_aload_nN hP rfl rfl ?_
    refine x_iload_n hP rfl rfl ?_
    refine x_putI hP rfl (by first | assumption | rfl) ?_
    first | refine w_nI ?_ | refine w_nL ?_ | refine w_nR ?_ | refine w_mI ?_ | refine w_mL ?_ | refine w_mR ?_ | skip
    refine x_iconst hP rfl ?_
    refine x_zret hP rfl rfl (by first | exact Or.inl iI_0 | exact Or.inr iI_1 | exact bI_or _ | assumption) ?_
    refine k _ (rw_size' ?_ a4 ?_ a8 (mk_len _ _) hp ?_ (prd_lt a7 b7)) (frP_at (frP_trans hf1 (frP_mono hf2 (fun k a i h => Or.inr (Or.inr ⟨h.1, Or.inl h.2⟩)))) rg_sz)
    · exact (hf2 _ _ _ (by omega)).trans a2
    · exact ar_fr a5 hf2 (by omega)
    · intro q hq
      rw [prd, mk_len] at hq
      exact hm2.1 q (Nat.zero_le _) hq
  · have hp : ¬ l.length * l2.length ≤ 200 := by omega
    rw [if_neg hp, decide_eq_false hp] at k
    first | refine x_aload_n hP rfl rfl ?_ | refine x_aload_nN hP rfl rfl ?_
    refine x_iconst hP rfl ?_
    refine x_putI hP rfl (by first | assumption | rfl) ?_
    first | refine w_nI ?_ | refine w_nL ?_ | refine w_nR ?_ | refine w_mI ?_ | refine w_mL ?_ | refine w_mR ?_ | skip
    refine x_iconst hP rfl ?_
    refine x_zret hP rfl rfl (by first | exact Or.inl iI_0 | exact Or.inr iI_1 | exact bI_or _ | assumption) ?_
    exact k _ (rw_size (m := 0) ⟨a1, a2, a3, a4, a5, a6, a7, a8⟩ rfl (by decide) (ar_nil _ _) (fun _ h => absurd h List.not_mem_nil)) (frP_at hf1 rg_sz)
/-- backwards -/
def rev (l : List Nat) : List Nat := mk l.length fun i => l.getD (l.length - 1 - i) 0
theorem c_turn_loop (hP : x_closed E P) (hr : isRw R r) (hl : l.length ≤ 200) (hb : ∀ x ∈ l, x < 1048576) : ∀ (f i : Nat) (I : x_M Int32), l.length ≤ f + 2 * i → 2 * i ≤ l.length + 1 → (∀ q, q < l.length → I 1 (r + 1) q = iI (l.getD (if q < i ∨ l.length < q + 1 + i then l.length - 1 - q else q) 0)) → (∀ I', ar I' (r + 1) (rev l) → frP (fun k a _ => k = 1 ∧ a = r + 1) I I' → Q none (x_hp I' J R)) →
    P 109 d 9 (x_ls [some (.ref r), some (.int (iI i)), some (.int (iI ((l.length : Int) - 1 - (i : Int)))), none]) [] (x_hp I J R) rc rs Q := by
  obtain ⟨g1, g2, g3, g4, g5⟩ := hr
  have ex : ∀ (i : Nat) (I : x_M Int32), l.length ≤ 2 * i + 1 → 2 * i ≤ l.length + 1 → (∀ q, q < l.length → I 1 (r + 1) q = iI (l.getD (if q < i ∨ l.length < q + 1 + i then l.length - 1 - q else q) 0)) → ar I (r + 1) (rev l) := by
    intro i I h1 h2 h q hq
    rw [rev, mk_len] at hq
    rw [h q hq, rev, mk_get hq]
    split
    · rfl
    · rw [show l.length - 1 - q = q by omega]
  intro f
  induction f with
  | zero =>
    intro i I hf hi hm k
    refine x_iload_n hP rfl rfl ?_
    refine x_iload_n hP rfl rfl ?_
    refine z_icmp_ge hP rfl (by omega) (by omega) (fun c11 => ?_) (fun c11 => ?_)
    · refine x_vret hP rfl rfl ?_
      exact k I (ex i I (by omega) hi hm) (frP_refl _ _)
    · omega
  | succ f ih =>
    intro i I hf hi hm k
    refine x_iload_n hP rfl rfl ?_
    refine x_iload_n hP rfl rfl ?_
    refine z_icmp_ge hP rfl (by omega) (by omega) (fun c11 => ?_) (fun c11 => ?_)
    · refine x_vret hP rfl rfl ?_
      exact k I (ex i I (by omega) hi hm) (frP_refl _ _)
    have v1 := hm i (by omega)
    have v2 := hm (l.length - 1 - i) (by omega)
    rw [if_neg (by omega)] at v1 v2
    have v2 : I 1 (r + 1) (((l.length : Int) - 1 - (i : Int)).toNat) = iI (l.getD (l.length - 1 - i) 0) := by
      rw [show ((l.length : Int) - 1 - (i : Int)).toNat = l.length - 1 - i by omega]; exact v2
    first | refine x_aload_n hP rfl rfl ?_ | refine x_aload_nN hP rfl rfl ?_
    refine x_getR hP rfl (by first | assumption | rfl) (by first | assumption | exact hR _ _ _ _ rfl | exact hR1 _ _ _ _ rfl | exact hR2 _ _ _ _ rfl | rfl) ?_
    refine x_iload_n hP rfl rfl ?_
    refine z_iald hP rfl (by first | assumption | rfl) (by first | decide | omega) (by omega) (by first | assumption | exact hR _ _ _ _ rfl | exact hR1 _ _ _ _ rfl | exact hR2 _ _ _ _ rfl | rfl) ?_
    refine x_istore_n hP rfl ?_
    first | refine x_aload_n hP rfl rfl ?_ | refine x_aload_nN hP rfl rfl ?_
    refine x_getR hP rfl (by first | assumption | rfl) (by first | assumption | exact hR _ _ _ _ rfl | exact hR1 _ _ _ _ rfl | exact hR2 _ _ _ _ rfl | rfl) ?_
    refine x_iload_n hP rfl rfl ?_
    first | refine x_aload_n hP rfl rfl ?_ | refine x_aload_nN hP rfl rfl ?_
    refine x_getR hP rfl (by first | assumption | rfl) (by first | assumption | exact hR _ _ _ _ rfl | exact hR1 _ _ _ _ rfl | exact hR2 _ _ _ _ rfl | rfl) ?_
    refine x_iload_n hP rfl rfl ?_
    refine z_iald hP rfl (by first | assumption | rfl) (by first | decide | omega) (by omega) (by first | assumption | exact hR _ _ _ _ rfl | exact hR1 _ _ _ _ rfl | exact hR2 _ _ _ _ rfl | rfl) ?_
    refine z_iast hP rfl (by first | assumption | rfl) (by first | decide | omega) (by omega) ?_
    first | refine w_nI ?_ | refine w_nL ?_ | refine w_nR ?_ | refine w_mI ?_ | refine w_mL ?_ | refine w_mR ?_ | skip
    first | refine x_aload_n hP rfl rfl ?_ | refine x_aload_nN hP rfl rfl ?_
    refine x_getR hP rfl (by first | assumption | rfl) (by first | assumption | exact hR _ _ _ _ rfl | exact hR1 _ _ _ _ rfl | exact hR2 _ _ _ _ rfl | rfl) ?_
    refine x_iload_n hP rfl rfl ?_
    refine x_iload_n hP rfl rfl ?_
    refine z_iast hP rfl (by first | assumption | rfl) (by first | decide | omega) (by omega) ?_
    first | refine w_nI ?_ | refine w_nL ?_ | refine w_nR ?_ | refine w_mI ?_ | refine w_mL ?_ | refine w_mR ?_ | skip
    refine z_iinc hP rfl rfl rfl ?_
    refine z_iinc hP rfl rfl rfl ?_
    refine x_goto hP rfl ?_
    have ea : ((l.length : Int) - 1 - (i : Int)).toNat = l.length - 1 - i := by omega
    rw [ea]
    have hf : frP (fun k a _ => k = 1 ∧ a = r + 1) I (x_at (x_at I 1 (r + 1) i (iI (l.getD (l.length - 1 - i) 0))) 1 (r + 1) (l.length - 1 - i) (iI (l.getD i 0))) := frP_at (frP_at (frP_refl _ _) ⟨rfl, rfl⟩) ⟨rfl, rfl⟩
    refine x_re hP [some (.ref r), some (.int (iI (i + 1 : Nat))), some (.int (iI ((l.length : Int) - 1 - ((i + 1 : Nat) : Int)))), none] ⟨rfl, rfl, ?_, trivial⟩ (ih (i + 1) _ (by omega) (by omega) ?_ (fun I' h1 h2 => k I' h1 (frP_trans hf h2)))
    · show some (Value.int (iI _)) = some (Value.int (iI _))
      rw [show (l.length : Int) - 1 - (i : Int) + -1 = (l.length : Int) - 1 - ((i + 1 : Nat) : Int) by omega]
    · intro q hq
      show x_at (x_at I 1 (r + 1) i (iI (l.getD (l.length - 1 - i) 0))) 1 (r + 1) (l.length - 1 - i) (iI (l.getD i 0)) 1 (r + 1) q = _
      rw [x_at_eq]
      by_cases h1 : q = l.length - 1 - i
      · rw [if_pos ⟨rfl, rfl, h1⟩, if_pos (by omega), show l.length - 1 - q = i by omega]
      · rw [if_neg (fun z => h1 z.2.2), x_at_eq]
        by_cases h2 : q = i
        · rw [if_pos ⟨rfl, rfl, h2⟩, if_pos (by omega), h2]
        · rw [if_neg (fun z => h2 z.2.2), hm q hq]
          by_cases h3 : q < i ∨ l.length < q + 1 + i
          · rw [if_pos h3, if_pos (by omega)]
          · rw [if_neg h3, if_neg (by omega)]
theorem c_turnRound (hP : x_closed E P) (hr : isRw R r) (hw : rw I r o l) (k : ∀ I', rw I' r o (rev l) → frP (rg r) I I' → Q none (x_hp I' J R)) : P 109 d 0 (x_la 0 [.ref r]) [] (x_hp I J R) rc rs Q := by
  have hr' := hr
  obtain ⟨g1, g2, g3, g4, g5⟩ := hr
  obtain ⟨a1, a2, a3, a4, a5, a6, a7, a8⟩ := hw
  refine x_iconst hP rfl ?_
  refine x_istore_n hP rfl ?_
  first | refine x_aload_n hP rfl rfl ?_ | refine x_aload_nN hP rfl rfl ?_
  refine x_getI hP rfl (by first | assumption | rfl) (by first | assumption | exact hR _ _ _ _ rfl | exact hR1 _ _ _ _ rfl | exact hR2 _ _ _ _ rfl | rfl) ?_
  refine x_iconst hP rfl ?_
  first | refine z_isub hP rfl ?_ | refine x_isub hP rfl ?_
  refine x_istore_n hP rfl ?_
  refine x_re hP [some (.ref r), some (.int (iI (0 : Nat))), some (.int (iI ((l.length : Int) - 1 - ((0 : Nat) : Int)))), none] ⟨rfl, rfl, ?_, trivial⟩ (c_turn_loop hP hr' a3 a7 l.length 0 I (by omega) (by omega) (fun q hq => ?_) (fun I' h1 h2 => k I' ⟨?_, ?_, ?_, a4, ?_, h1, ?_, a8⟩ (frP_mono h2 (fun k a i h => Or.inr (Or.inr ⟨h.1, Or.inl h.2⟩)))))
  · show some (Value.int (iI _)) = some (Value.int (iI _))
    rw [show (l.length : Int) - 1 - ((0 : Nat) : Int) = (l.length : Int) - 1 by omega]
  · rw [if_neg (by omega)]; exact a6 q hq
  · rw [rev, mk_len]; exact (h2 _ _ _ (by omega)).trans a1
  · exact (h2 _ _ _ (by omega)).trans a2
  · rw [rev, mk_len]; exact a3
  · exact ar_fr a5 h2 (by omega)
  · intro x hx
    obtain ⟨q, hq, e⟩ := mk_mem.mp hx
    rw [← e]
    exact a7 _ (getD_mem (by omega))
end
