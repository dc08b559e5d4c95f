/-! Joiner: a table that tells what a row has -/
theorem rows_rg {r : Nat} (h : r ∈ x_rows) : 4 ≤ r ∧ r + 2 < 98 ∧ (r + 2 < 84 ∨ 86 < r) ∧ (r + 2 < 90 ∨ 94 < r) ∧ (r + 2 < 95 ∨ 96 < r) ∧ (r + 2 < 26 ∨ 29 < r) ∧ (r + 2 < 7 ∨ 7 < r) := by
  have hd : ∀ r ∈ x_rows, 4 ≤ r ∧ r + 2 < 98 ∧ (r + 2 < 84 ∨ 86 < r) ∧ (r + 2 < 90 ∨ 94 < r) ∧ (r + 2 < 95 ∨ 96 < r) ∧ (r + 2 < 26 ∨ 29 < r) ∧ (r + 2 < 7 ∨ 7 < r) := by decide +kernel
  exact hd r h
theorem rg_a {r k a i : Nat} (h : rg r k a i) : r ≤ a ∧ a ≤ r + 2 := by unfold rg at h; omega
theorem bI_inj {a b : Bool} : bI a = bI b ↔ a = b := by cases a <;> cases b <;> decide
/-- a slot is taken -/
def oc (I : x_M Int32) (s : Nat) : Bool := decide (I 1 86 s = I 1322 84 0)
/-- where the search for a TUPLE begins -/
def hs (x : Nat) : Nat := (iI x * iI (-1640531535)).toBitVec.toNat >>> 23
theorem hs_lt (x : Nat) : hs x < 512 := by
  unfold hs
  have := (iI x * iI (-1640531535)).toBitVec.isLt
  rw [Nat.shiftRight_eq_div_pow]
  omega
theorem hs_eq (x : Int32) : (x.toUInt32 >>> ((iI 23).toUInt32 &&& Int32.toUInt32 31)).toInt32 = iI (x.toBitVec.toNat >>> 23 : Nat) := b_ext fun i hi => by
  have e : iI 23 = iI ((23 : Nat) : Int) := rfl
  rw [e, b_ushr 23 (by decide), b_nat, Nat.testBit_shiftRight, decide_eq_true hi, Bool.true_and]
  rfl
/-- what all slots keep -/
def jnv (I : x_M Int32) (tn : Int) : Prop := I 1322 84 0 = iI tn ∧ 0 ≤ tn ∧ tn < 2147483648 ∧ ∀ s, s < 512 → ∃ z : Int, I 1 86 s = iI z ∧ 0 ≤ z ∧ z ≤ tn
/-- the table tells l -/
def tbl (I : x_M Int32) (l : List Nat) : Prop := (∀ s, s < 512 → oc I s = true → ∃ x ∈ l, I 1 85 s = iI x) ∧ (∀ x ∈ l, ∃ k, k < 512 ∧ oc I ((hs x + k) % 512) = true ∧ I 1 85 ((hs x + k) % 512) = iI x ∧ ∀ j, j < k → oc I ((hs x + j) % 512) = true) ∧ sumS (fun s => if oc I s = true then 1 else 0) 512 ≤ l.length
theorem free_slot {f : Nat → Bool} : ∀ n, sumS (fun s => if f s = true then 1 else 0) n < n → ∃ s, s < n ∧ f s = false
  | 0, h => by omega
  | n + 1, h => by
    simp only [sumS] at h
    cases e : f n with
    | false => exact ⟨n, by omega, e⟩
    | true =>
      rw [e, if_pos rfl] at h
      obtain ⟨s, h1, h2⟩ := free_slot (f := f) n (by omega)
      exact ⟨s, by omega, h2⟩
theorem iI_inj20 {a b : Nat} (ha : a < 1048576) (hb : b < 1048576) : iI a = iI b ↔ a = b := by
  rw [iI_eq (by omega) (by omega)]
  omega
/-- the joiner's places -/
def jA (a : Nat) : Prop := 84 ≤ a ∧ a ≤ 86
section
variable {E : x_E} {P : x_Pr} {d rc rs : Nat} {I : x_M Int32} {J : x_M Int64} {R : x_M (Option Nat)} {Q : x_Q} {r r2 : Nat} {o l o2 l2 : List Nat}
theorem c_isTaken (hP : x_closed E P) (hR : x_fin R) {s : Nat} (hs : s < 512) (k : Q (some (.int (bI (oc I s)))) (x_hp I J R)) : P 128 d 0 (x_la 0 [.ref 84, .int (iI s)]) [] (x_hp I J R) rc rs Q := by
  unfold oc at k
  first | refine x_aload_n hP rfl rfl ?_ | refine x_aload_nN hP rfl rfl ?_
  refine x_getR hP rfl (by first | assumption | rfl) (by first | assumption | exact hR _ _ _ _ rfl | exact hR1 _ _ _ _ rfl | exact hR2 _ _ _ _ rfl | rfl) ?_
  refine x_iload_n hP rfl rfl ?_
  refine z_iald hP rfl (by first | assumption | rfl) (by first | decide | omega) (by omega) (by first | assumption | exact hR _ _ _ _ rfl | exact hR1 _ _ _ _ rfl | exact hR2 _ _ _ _ rfl | rfl) ?_
  first | refine x_aload_n hP rfl rfl ?_ | refine x_aload_nN hP rfl rfl ?_
  refine x_getI hP rfl (by first | assumption | rfl) (by first | assumption | exact hR _ _ _ _ rfl | exact hR1 _ _ _ _ rfl | exact hR2 _ _ _ _ rfl | rfl) ?_
  first | refine z_icmp_ne hP rfl (by omega) (by omega) (fun c10 => ?_) (fun c10 => ?_) | refine x_icmp_ne hP rfl (fun c10 => ?_) (fun c10 => ?_)
  · rw [decide_eq_false (show ¬ I 1 86 s = I 1322 84 0 from c10)] at k
    refine x_iconst hP rfl ?_
    refine x_zret hP rfl rfl (by first | exact Or.inl iI_0 | exact Or.inr iI_1 | exact bI_or _ | assumption) ?_
    exact k
  · rw [decide_eq_true (show I 1 86 s = I 1322 84 0 from c10)] at k
    refine x_iconst hP rfl ?_
    refine x_goto hP rfl ?_
    refine x_zret hP rfl rfl (by first | exact Or.inl iI_0 | exact Or.inr iI_1 | exact bI_or _ | assumption) ?_
    exact k
theorem and511 : ∀ s : Nat, s < 512 → iI (s + 1 : Nat) &&& iI 511 = iI ((s + 1) % 512 : Nat) := by decide +kernel
theorem c_slot_loop (hP : x_closed E P) (hR : x_fin R) {x : Nat} (hx : x < 1048576) (ht : tbl I l) (hl : l.length ≤ 200) (hb : ∀ y ∈ l, y < 1048576) (k : ∀ s, s < 512 → (x ∈ l → oc I s = true ∧ I 1 85 s = iI x) → (¬ x ∈ l → oc I s = false ∧ ∃ m, m < 512 ∧ s = (hs x + m) % 512 ∧ ∀ j, j < m → oc I ((hs x + j) % 512) = true) → Q (some (.int (iI s))) (x_hp I J R)) : ∀ (f j s : Nat), j + f = 512 → s = (hs x + j) % 512 → (∀ i, i < j → oc I ((hs x + i) % 512) = true ∧ ¬ I 1 85 ((hs x + i) % 512) = iI x) → P 127 (d + 1) 10 (x_ls [some (.ref 84), some (.int (iI x)), some (.int (iI s)), some (.int (iI j))]) [] (x_hp I J R) rc rs Q := by
  obtain ⟨t1, t2, t3⟩ := ht
  have hx5 := hs_lt x
  intro f
  induction f with
  | zero =>
    intro j s hj hs0 hm
    exfalso
    obtain ⟨s, h1, h2⟩ := free_slot (f := oc I) 512 (by omega)
    have hi : ∃ i, i < 512 ∧ (hs x + i) % 512 = s := ⟨(s + 512 - hs x) % 512, Nat.mod_lt _ (by decide), by omega⟩
    obtain ⟨i, h3, h4⟩ := hi
    have := (hm i (by omega)).1
    rw [h4, h2] at this
    cases this
  | succ f ih =>
    intro j s hj hs0 hm
    have hs5 : s < 512 := by rw [hs0]; exact Nat.mod_lt _ (by decide)
    refine x_iload_n hP rfl rfl ?_
    refine x_sipush hP rfl ?_
    refine z_icmp_ge hP rfl (by omega) (by omega) (fun c14 => ?_) (fun c14 => ?_)
    · omega
    first | refine x_aload_n hP rfl rfl ?_ | refine x_aload_nN hP rfl rfl ?_
    refine x_iload_n hP rfl rfl ?_
    refine x_callV1 (ci := 5) hP 0 0 rfl rfl rfl (by first | assumption | rfl) rfl rfl rfl (Nat.zero_le _) (Nat.zero_le _) ?_
    refine c_isTaken hP hR hs5 ?_
    first | refine zb_if_eq hP rfl (fun c22 => ?_) (fun c22 => ?_) | refine zl_if_eq hP rfl (fun c22 => ?_) (fun c22 => ?_) | refine z_if_eq hP rfl (by omega) (fun c22 => ?_) (fun c22 => ?_)
    · refine x_iload_n hP rfl rfl ?_
      refine x_iret hP rfl rfl ?_
      refine k s hs5 (fun hin => ?_) (fun hout => ⟨c22, j, by omega, hs0, fun i hi => (hm i hi).1⟩)
      obtain ⟨m, m1, m2, m3, m4⟩ := t2 x hin
      by_cases q : j < m
      · rw [hs0, m4 j q] at c22; cases c22
      · by_cases q2 : j = m
        · subst q2; rw [hs0]; exact ⟨m2, m3⟩
        · exact absurd m3 (hm m (by omega)).2
    · have vs : ∃ y ∈ l, I 1 85 s = iI y := t1 _ hs5 c22
      first | refine x_aload_n hP rfl rfl ?_ | refine x_aload_nN hP rfl rfl ?_
      refine x_getR hP rfl (by first | assumption | rfl) (by first | assumption | exact hR _ _ _ _ rfl | exact hR1 _ _ _ _ rfl | exact hR2 _ _ _ _ rfl | rfl) ?_
      refine x_iload_n hP rfl rfl ?_
      refine z_iald hP rfl (by first | assumption | rfl) (by first | decide | omega) (by omega) (by first | assumption | exact hR _ _ _ _ rfl | exact hR1 _ _ _ _ rfl | exact hR2 _ _ _ _ rfl | rfl) ?_
      refine x_iload_n hP rfl rfl ?_
      first | refine z_icmp_ne hP rfl (by omega) (by omega) (fun c32 => ?_) (fun c32 => ?_) | refine x_icmp_ne hP rfl (fun c32 => ?_) (fun c32 => ?_)
      · have c32 : ¬ I 1 85 s = iI x := c32
        have e := and511 _ hs5
        refine x_iload_n hP rfl rfl ?_
        refine x_iconst hP rfl ?_
        first | refine z_iadd hP rfl ?_ | refine x_iadd hP rfl ?_
        refine x_sipush hP rfl ?_
        refine x_iand hP rfl ?_
        rw [show iI ((s : Int) + 1) = iI ((s + 1 : Nat) : Int) from rfl, e]
        refine x_istore_n hP rfl ?_
        refine z_iinc hP rfl rfl rfl ?_
        refine x_goto hP rfl ?_
        generalize hg : (s + 1) % 512 = s'
        refine x_re hP [some (.ref 84), some (.int (iI x)), some (.int (iI s')), some (.int (iI (j + 1 : Nat)))] ⟨rfl, rfl, rfl, rfl, trivial⟩ (ih (j + 1) s' (by omega) (by omega) (fun i hi => ?_))
        by_cases q : i = j
        · subst q; rw [← hs0]; exact ⟨c22, c32⟩
        · exact hm i (by omega)
      · have c32 : I 1 85 s = iI x := c32
        refine x_iload_n hP rfl rfl ?_
        refine x_iret hP rfl rfl ?_
        refine k s hs5 (fun hin => ⟨c22, c32⟩) (fun hout => ?_)
        obtain ⟨y, hy, e⟩ := vs
        rw [e, iI_inj20 (hb y hy) hx] at c32
        exact absurd (c32 ▸ hy) hout
theorem c_slotFor (hP : x_closed E P) (hR : x_fin R) {x : Nat} (hx : x < 1048576) (ht : tbl I l) (hl : l.length ≤ 200) (hb : ∀ y ∈ l, y < 1048576) (k : ∀ s, s < 512 → (x ∈ l → oc I s = true ∧ I 1 85 s = iI x) → (¬ x ∈ l → oc I s = false ∧ ∃ m, m < 512 ∧ s = (hs x + m) % 512 ∧ ∀ j, j < m → oc I ((hs x + j) % 512) = true) → Q (some (.int (iI s))) (x_hp I J R)) : P 127 (d + 1) 0 (x_la 0 [.ref 84, .int (iI x)]) [] (x_hp I J R) rc rs Q := by
  have hx5 := hs_lt x
  refine x_iload_n hP rfl rfl ?_
  refine x_ldcI hP rfl ?_
  refine x_imul hP rfl ?_
  refine x_bipush hP rfl ?_
  refine x_iushr hP rfl ?_
  rw [hs_eq, show (iI x * iI (-1640531535)).toBitVec.toNat >>> 23 = hs x from rfl]
  refine x_istore_n hP rfl ?_
  refine x_iconst hP rfl ?_
  refine x_istore_n hP rfl ?_
  generalize hg : hs x = s at hx5 ⊢
  exact x_re hP [some (.ref 84), some (.int (iI x)), some (.int (iI s)), some (.int (iI (0 : Nat)))] ⟨rfl, rfl, rfl, rfl, trivial⟩ (c_slot_loop hP hR hx ht hl hb k 512 0 s (by omega) (by omega) (fun i hi => by omega))
theorem c_learn_loop (hP : x_closed E P) (hR : x_fin R) (hr : isRw R r) (hk : r + 2 < 84 ∨ 86 < r) {tn : Int} : ∀ (f i : Nat) (I : x_M Int32), i + f = l.length → rw I r o l → jnv I tn → tbl I (l.take i) → (∀ I', rw I' r o l → jnv I' tn → tbl I' l → frP (fun _ a _ => jA a) I I' → Q none (x_hp I' J R)) → P 126 (d + 2) 12 (x_ls [some (.ref 84), some (.ref r), some (.int (iI i)), none]) [] (x_hp I J R) rc rs Q := by
  obtain ⟨g1, g2, g3, g4, g5⟩ := hr
  intro f
  induction f with
  | zero =>
    intro i I hi hw hj ht k
    have a1 := hw.1
    have a3 := hw.2.2.1
    rw [List.take_of_length_le (by omega)] at ht
    refine x_iload_n hP rfl rfl ?_
    first | refine x_aload_n hP rfl rfl ?_ | refine x_aload_nN hP rfl rfl ?_
    refine x_getI hP rfl (by first | assumption | rfl) (by first | assumption | exact hR _ _ _ _ rfl | exact hR1 _ _ _ _ rfl | exact hR2 _ _ _ _ rfl | rfl) ?_
    refine z_icmp_ge hP rfl (by omega) (by omega) (fun c17 => ?_) (fun c17 => ?_)
    · refine x_vret hP rfl rfl ?_
      exact k I hw hj ht (frP_refl _ _)
    · omega
  | succ f ih =>
    intro i I hi hw hj ht k
    have hw' := hw
    obtain ⟨a1, a2, a3, a4, a5, a6, a7, a8⟩ := hw
    have v := a6 i (by omega)
    have v2 := a7 _ (getD_mem (l := l) (i := i) (by omega))
    have hlt : ∀ y ∈ l.take i, y < 1048576 := fun y hy => a7 y (List.mem_of_mem_take hy)
    have hll : (l.take i).length = i := by rw [List.length_take]; omega
    refine x_iload_n hP rfl rfl ?_
    first | refine x_aload_n hP rfl rfl ?_ | refine x_aload_nN hP rfl rfl ?_
    refine x_getI hP rfl (by first | assumption | rfl) (by first | assumption | exact hR _ _ _ _ rfl | exact hR1 _ _ _ _ rfl | exact hR2 _ _ _ _ rfl | rfl) ?_
    refine z_icmp_ge hP rfl (by omega) (by omega) (fun c17 => ?_) (fun c17 => ?_)
    · omega
    first | refine x_aload_n hP rfl rfl ?_ | refine x_aload_nN hP rfl rfl ?_
    first | refine x_aload_n hP rfl rfl ?_ | refine x_aload_nN hP rfl rfl ?_
    refine x_getR hP rfl (by first | assumption | rfl) (by first | assumption | exact hR _ _ _ _ rfl | exact hR1 _ _ _ _ rfl | exact hR2 _ _ _ _ rfl | rfl) ?_
    refine x_iload_n hP rfl rfl ?_
    refine z_iald hP rfl (by first | assumption | rfl) (by first | decide | omega) (by omega) (by first | assumption | exact hR _ _ _ _ rfl | exact hR1 _ _ _ _ rfl | exact hR2 _ _ _ _ rfl | rfl) ?_
    refine x_callV1 (ci := 5) hP 0 0 rfl rfl rfl (by first | assumption | rfl) rfl rfl rfl (Nat.zero_le _) (Nat.zero_le _) ?_
    refine c_slotFor hP hR v2 ht (by omega) hlt (fun s hs5 hin hout => ?_)
    obtain ⟨j1, j2, j3, j4⟩ := hj
    refine x_istore_n hP rfl ?_
    first | refine x_aload_n hP rfl rfl ?_ | refine x_aload_nN hP rfl rfl ?_
    refine x_getR hP rfl (by first | assumption | rfl) (by first | assumption | exact hR _ _ _ _ rfl | exact hR1 _ _ _ _ rfl | exact hR2 _ _ _ _ rfl | rfl) ?_
    refine x_iload_n hP rfl rfl ?_
    first | refine x_aload_n hP rfl rfl ?_ | refine x_aload_nN hP rfl rfl ?_
    refine x_getR hP rfl (by first | assumption | rfl) (by first | assumption | exact hR _ _ _ _ rfl | exact hR1 _ _ _ _ rfl | exact hR2 _ _ _ _ rfl | rfl) ?_
    refine x_iload_n hP rfl rfl ?_
    refine z_iald hP rfl (by first | assumption | rfl) (by first | decide | omega) (by omega) (by first | assumption | exact hR _ _ _ _ rfl | exact hR1 _ _ _ _ rfl | exact hR2 _ _ _ _ rfl | rfl) ?_
    refine z_iast hP rfl (by first | assumption | rfl) (by first | decide | omega) (by omega) ?_
    first | refine w_nI ?_ | refine w_nL ?_ | refine w_nR ?_ | refine w_mI ?_ | refine w_mL ?_ | refine w_mR ?_ | skip
    first | refine x_aload_n hP rfl rfl ?_ | refine x_aload_nN hP rfl rfl ?_
    refine x_getR hP rfl (by first | assumption | rfl) (by first | assumption | exact hR _ _ _ _ rfl | exact hR1 _ _ _ _ rfl | exact hR2 _ _ _ _ rfl | rfl) ?_
    refine x_iload_n hP rfl rfl ?_
    first | refine x_aload_n hP rfl rfl ?_ | refine x_aload_nN hP rfl rfl ?_
    refine x_getI hP rfl (by first | assumption | rfl) (by first | assumption | exact hR _ _ _ _ rfl | exact hR1 _ _ _ _ rfl | exact hR2 _ _ _ _ rfl | rfl) ?_
    refine z_iast hP rfl (by first | assumption | rfl) (by first | decide | omega) (by omega) ?_
    first | refine w_nI ?_ | refine w_nL ?_ | refine w_nR ?_ | refine w_mI ?_ | refine w_mL ?_ | refine w_mR ?_ | skip
    refine z_iinc hP rfl rfl rfl ?_
    refine x_goto hP rfl ?_
    rw [Int.toNat_natCast]
    generalize hI1 : x_at (x_at I 1 85 s (iI (l.getD i 0))) 1 86 s (iI tn) = I1
    have hf : frP (fun _ a _ => jA a) I I1 := by
      rw [← hI1]
      exact frP_at (frP_at (frP_refl _ _) (by unfold jA; omega)) (by unfold jA; omega)
    have et : I1 1322 84 0 = I 1322 84 0 := by
      rw [← hI1, x_at_eq, if_neg (by omega), x_at_eq, if_neg (by omega)]
    have eu : ∀ z, I1 1 86 z = if z = s then iI tn else I 1 86 z := fun z => by
      rw [← hI1, x_at_eq]
      by_cases q : z = s
      · rw [if_pos ⟨rfl, rfl, q⟩, if_pos q]
      · rw [if_neg (fun w => q w.2.2), if_neg q, x_at_eq, if_neg (by omega)]
    have ev : ∀ z, I1 1 85 z = if z = s then iI (l.getD i 0) else I 1 85 z := fun z => by
      rw [← hI1, x_at_eq, if_neg (by omega), x_at_eq]
      by_cases q : z = s
      · rw [if_pos ⟨rfl, rfl, q⟩, if_pos q]
      · rw [if_neg (fun w => q w.2.2), if_neg q]
    have eo : ∀ z, oc I1 z = (decide (z = s) || oc I z) := fun z => by
      unfold oc
      rw [et, eu]
      by_cases q : z = s
      · rw [if_pos q, decide_eq_true j1.symm, decide_eq_true q]; rfl
      · rw [if_neg q, decide_eq_false q, Bool.false_or]
    have eo1 : ∀ z, oc I z = true → oc I1 z = true := fun z h => by rw [eo, h, Bool.or_true]
    obtain ⟨t1, t2, t3⟩ := ht
    have keep : ∀ z, oc I z = true → I1 1 85 z = I 1 85 z := fun z hz => by
      rw [ev]
      by_cases q : z = s
      · rw [if_pos q]
        by_cases qi : l.getD i 0 ∈ l.take i
        · rw [q, (hin qi).2]
        · rw [q, (hout qi).1] at hz; cases hz
      · rw [if_neg q]
    refine x_re hP [some (.ref 84), some (.ref r), some (.int (iI (i + 1 : Nat))), none] ⟨rfl, rfl, rfl, trivial⟩ (ih (i + 1) I1 (by omega) (rw_fr hw' hf (fun k a i h => by have := rg_a h; unfold jA; omega)) ⟨by rw [et]; exact j1, j2, j3, fun z hz => ?_⟩ ⟨fun z hz hoc => ?_, fun x hx => ?_, ?_⟩ (fun I' q1 q2 q3 q4 => k I' q1 q2 q3 (frP_trans hf q4)))
    · rw [eu]
      by_cases q : z = s
      · rw [if_pos q]; exact ⟨tn, rfl, j2, Int.le_refl _⟩
      · rw [if_neg q]; exact j4 z hz
    · rw [takec (by omega)]
      rw [ev]
      by_cases q : z = s
      · rw [if_pos q]; exact ⟨_, List.mem_append_right _ (List.mem_singleton.mpr rfl), rfl⟩
      · rw [if_neg q]
        rw [eo, decide_eq_false q, Bool.false_or] at hoc
        obtain ⟨y, hy, e⟩ := t1 z hz hoc
        exact ⟨y, List.mem_append_left _ hy, e⟩
    · rw [takec (by omega)] at hx
      have old : x ∈ l.take i → ∃ k, k < 512 ∧ oc I1 ((hs x + k) % 512) = true ∧ I1 1 85 ((hs x + k) % 512) = iI x ∧ ∀ j, j < k → oc I1 ((hs x + j) % 512) = true := fun hx => by
        obtain ⟨m, m1, m2, m3, m4⟩ := t2 x hx
        exact ⟨m, m1, eo1 _ m2, (keep _ m2).trans m3, fun j hj => eo1 _ (m4 j hj)⟩
      rcases List.mem_append.mp hx with q | q
      · exact old q
      · rw [List.mem_singleton.mp q]
        by_cases qi : l.getD i 0 ∈ l.take i
        · rw [List.mem_singleton.mp q] at old; exact old qi
        · obtain ⟨_, m, m1, m2, m3⟩ := hout qi
          refine ⟨m, m1, ?_, ?_, fun j hj => eo1 _ (m3 j hj)⟩
          · rw [← m2, eo, decide_eq_true rfl]; rfl
          · rw [← m2, ev, if_pos rfl]
    · rw [takec (by omega), List.length_append]
      have h1 : sumS (fun z => if oc I1 z = true then 1 else 0) 512 ≤ sumS (fun z => (if z = s then 1 else 0) + (if oc I z = true then 1 else 0)) 512 := by
        refine sumS_mono _ fun z hz => ?_
        rw [eo]
        by_cases q : z = s
        · rw [if_pos q]; split <;> omega
        · rw [if_neg q, decide_eq_false q, Bool.false_or, Nat.zero_add]; exact Nat.le_refl _
      rw [sumS_add, sumS_one, if_pos hs5] at h1
      show _ ≤ (l.take i).length + 1
      omega
theorem c_learn (hP : x_closed E P) (hR : x_fin R) (hr : isRw R r) (hk : r + 2 < 84 ∨ 86 < r) {tn : Int} (hw : rw I r o l) (hj : jnv I tn) (htn : tn < 2147483600) (k : ∀ I', rw I' r o l → jnv I' (tn + 1) → tbl I' l → frP (fun _ a _ => jA a) I I' → Q none (x_hp I' J R)) : P 126 (d + 2) 0 (x_la 0 [.ref 84, .ref r]) [] (x_hp I J R) rc rs Q := by
  have j1 := hj.1
  first | refine x_aload_n hP rfl rfl ?_ | refine x_aload_nN hP rfl rfl ?_
  refine x_dup hP rfl rfl ?_
  refine x_getI hP rfl (by first | assumption | rfl) (by first | assumption | exact hR _ _ _ _ rfl | exact hR1 _ _ _ _ rfl | exact hR2 _ _ _ _ rfl | rfl) ?_
  refine x_iconst hP rfl ?_
  first | refine z_iadd hP rfl ?_ | refine x_iadd hP rfl ?_
  refine x_putI hP rfl (by first | assumption | rfl) ?_
  first | refine w_nI ?_ | refine w_nL ?_ | refine w_nR ?_ | refine w_mI ?_ | refine w_mL ?_ | refine w_mR ?_ | skip
  refine x_iconst hP rfl ?_
  refine x_istore_n hP rfl ?_
  obtain ⟨j1, j2, j3, j4⟩ := hj
  have hf : frP (fun _ a _ => jA a) I (x_at I 1322 84 0 (iI (tn + 1))) := frP_at (frP_refl _ _) (by unfold jA; omega)
  have no : ∀ z, z < 512 → oc (x_at I 1322 84 0 (iI (tn + 1))) z = false := fun z hz => by
    obtain ⟨y, y1, y2, y3⟩ := j4 z hz
    refine decide_eq_false ?_
    show ¬ I 1 86 z = iI (tn + 1)
    rw [y1, iI_eq (by omega) (by omega)]
    omega
  refine x_re hP [some (.ref 84), some (.ref r), some (.int (iI (0 : Nat))), none] ⟨rfl, rfl, rfl, trivial⟩ (c_learn_loop hP hR hr hk (tn := tn + 1) l.length 0 _ (by omega) (rw_fr hw hf (fun k a i h => by have := rg_a h; unfold jA; omega)) ⟨rfl, by omega, by omega, fun z hz => ?_⟩ ⟨fun z hz hoc => ?_, fun x hx => absurd hx List.not_mem_nil, ?_⟩ (fun I' q1 q2 q3 q4 => k I' q1 q2 q3 (frP_trans hf q4)))
  · obtain ⟨y, y1, y2, y3⟩ := j4 z hz
    exact ⟨y, y1, y2, by omega⟩
  · rw [no z hz] at hoc; cases hoc
  · rw [sumS_z fun z hz => if_neg (by rw [no z hz]; decide)]
    exact Nat.zero_le _
end
