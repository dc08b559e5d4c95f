/-! Joiner: sifting and joining -/
/-- of l, those that are in l2, or are not -/
def flt (w : Bool) (l2 l : List Nat) : List Nat := l.filter fun x => decide (x ∈ l2) == w
theorem flt_mem {w : Bool} {l2 l : List Nat} {x : Nat} (h : x ∈ flt w l2 l) : x ∈ l := (List.mem_filter.mp h).1
theorem flt_len (w : Bool) (l2 l : List Nat) : (flt w l2 l).length ≤ l.length := List.length_filter_le ..
theorem flt_snoc {w : Bool} {l2 l : List Nat} {x : Nat} : flt w l2 (l ++ [x]) = flt w l2 l ++ (if (decide (x ∈ l2) == w) = true then [x] else []) := by
  unfold flt
  rw [List.filter_append, List.filter_cons, List.filter_nil]
theorem tbl_fr {S : Nat → Nat → Nat → Prop} {I I' : x_M Int32} {l : List Nat} (h : tbl I l) (hf : frP S I I') (hs : ∀ k a i, S k a i → ¬ jA a) : tbl I' l := by
  have f : ∀ k a i, jA a → I' k a i = I k a i := fun k a i ha => hf k a i (fun q => hs k a i q ha)
  have eo : ∀ z, oc I' z = oc I z := fun z => by unfold oc; rw [f _ _ _ (by unfold jA; omega), f _ _ _ (by unfold jA; omega)]
  have es : ∀ z, I' 1 85 z = I 1 85 z := fun z => f _ _ _ (by unfold jA; omega)
  obtain ⟨t1, t2, t3⟩ := h
  refine ⟨fun s hs h => ?_, fun x hx => ?_, ?_⟩
  · rw [eo] at h; rw [es]; exact t1 s hs h
  · obtain ⟨k, h1, h2, h3, h4⟩ := t2 x hx
    exact ⟨k, h1, by rw [eo]; exact h2, by rw [es]; exact h3, fun j hj => by rw [eo]; exact h4 j hj⟩
  · rw [sumS_congr 512 fun z _ => by rw [eo]]
    exact t3
theorem jnv_fr {S : Nat → Nat → Nat → Prop} {I I' : x_M Int32} {tn : Int} (h : jnv I tn) (hf : frP S I I') (hs : ∀ k a i, S k a i → ¬ jA a) : jnv I' tn := by
  have f : ∀ k a i, jA a → I' k a i = I k a i := fun k a i ha => hf k a i (fun q => hs k a i q ha)
  obtain ⟨h1, h2, h3, h4⟩ := h
  exact ⟨(f _ _ _ (by unfold jA; omega)).trans h1, h2, h3, fun s hs => by rw [f _ _ _ (by unfold jA; omega)]; exact h4 s hs⟩
section
variable {E : x_E} {P : x_Pr} {d rc rs : Nat} {I : x_M Int32} {J : x_M Int64} {R : x_M (Option Nat)} {Q : x_Q} {r r2 : Nat} {o l o2 l2 : List Nat}
theorem c_sift_loop (hP : x_closed E P) (hR : x_fin R) (hr : isRw R r) (hk : r + 2 < 84 ∨ 86 < r) {w : Bool} (hl2 : l2.length ≤ 200) (hb2 : ∀ x ∈ l2, x < 1048576) (hl : l.length ≤ 200) (hb : ∀ x ∈ l, x < 1048576) : ∀ (f i : Nat) (I : x_M Int32), i + f = l.length → I 1193 r 0 = iI l.length → ar I (r + 1) (flt w l2 (l.take i)) → (∀ q, i ≤ q → q < l.length → I 1 (r + 1) q = iI (l.getD q 0)) → tbl I l2 → (∀ I', ar I' (r + 1) (flt w l2 l) → frP (fun k a _ => k = 1 ∧ a = r + 1) I I' → Q none (x_hp (x_at I' 1193 r 0 (iI (flt w l2 l).length)) J R)) → P 125 (d + 3) 11 (x_ls [some (.ref 84), some (.ref r), none, some (.int (bI w)), some (.int (iI (flt w l2 (l.take i)).length)), some (.int (iI i)), none]) [] (x_hp I J R) rc rs Q := by
  obtain ⟨g1, g2, g3, g4, g5⟩ := hr
  intro f
  induction f with
  | zero =>
    intro i I hi a1 a6 a7 ht k
    rw [List.take_of_length_le (by omega)] at *
    refine x_iload hP rfl rfl ?_
    first | refine x_aload_n hP rfl rfl ?_ | refine x_aload_nN hP rfl rfl ?_
    refine x_getI hP rfl (by first | assumption | rfl) (by first | assumption | exact hR _ _ _ _ rfl | exact hR1 _ _ _ _ rfl | exact hR2 _ _ _ _ rfl | rfl) ?_
    refine z_icmp_ge hP rfl (by omega) (by omega) (fun c17 => ?_) (fun c17 => ?_)
    · first | refine x_aload_n hP rfl rfl ?_ | refine x_aload_nN hP rfl rfl ?_
      refine x_iload hP rfl rfl ?_
      refine x_putI hP rfl (by first | assumption | rfl) ?_
      first | refine w_nI ?_ | refine w_nL ?_ | refine w_nR ?_ | refine w_mI ?_ | refine w_mL ?_ | refine w_mR ?_ | skip
      refine x_vret hP rfl rfl ?_
      exact k I a6 (frP_refl _ _)
    · omega
  | succ f ih =>
    intro i I hi a1 a6 a7 ht k
    have v := a7 i (Nat.le_refl _) (by omega)
    have v2 := hb _ (getD_mem (l := l) (i := i) (by omega))
    have hfl := flt_len w l2 (l.take i)
    rw [List.length_take] at hfl
    have et : flt w l2 (l.take (i + 1)) = flt w l2 (l.take i) ++ (if (decide (l.getD i 0 ∈ l2) == w) = true then [l.getD i 0] else []) := by rw [takec (by omega), flt_snoc]
    refine x_iload hP rfl rfl ?_
    first | refine x_aload_n hP rfl rfl ?_ | refine x_aload_nN hP rfl rfl ?_
    refine x_getI hP rfl (by first | assumption | rfl) (by first | assumption | exact hR _ _ _ _ rfl | exact hR1 _ _ _ _ rfl | exact hR2 _ _ _ _ rfl | rfl) ?_
    refine z_icmp_ge hP rfl (by omega) (by omega) (fun c17 => ?_) (fun c17 => ?_)
    · omega
    first | refine x_aload_n hP rfl rfl ?_ | refine x_aload_nN hP rfl rfl ?_
    refine x_getR hP rfl (by first | assumption | rfl) (by first | assumption | exact hR _ _ _ _ rfl | exact hR1 _ _ _ _ rfl | exact hR2 _ _ _ _ rfl | rfl) ?_
    refine x_iload hP rfl rfl ?_
    refine z_iald hP rfl (by first | assumption | rfl) (by first | decide | omega) (by omega) (by first | assumption | exact hR _ _ _ _ rfl | exact hR1 _ _ _ _ rfl | exact hR2 _ _ _ _ rfl | rfl) ?_
    refine x_istore hP rfl ?_
    first | refine x_aload_n hP rfl rfl ?_ | refine x_aload_nN hP rfl rfl ?_
    first | refine x_aload_n hP rfl rfl ?_ | refine x_aload_nN hP rfl rfl ?_
    refine x_iload hP rfl rfl ?_
    refine x_callV1 (ci := 5) hP 0 0 rfl rfl rfl (by first | assumption | rfl) rfl rfl rfl (Nat.zero_le _) (Nat.zero_le _) ?_
    refine c_slotFor hP hR v2 ht hl2 hb2 (fun s hs5 hin hout => ?_)
    have eo : oc I s = decide (l.getD i 0 ∈ l2) := by
      by_cases q : l.getD i 0 ∈ l2
      · rw [(hin q).1, decide_eq_true q]
      · rw [(hout q).1, decide_eq_false q]
    refine x_callV1 (ci := 5) hP 0 0 rfl rfl rfl (by first | assumption | rfl) rfl rfl rfl (Nat.zero_le _) (Nat.zero_le _) ?_
    refine c_isTaken hP hR hs5 ?_
    refine x_iload_n hP rfl rfl ?_
    first | refine z_icmp_ne hP rfl (by omega) (by omega) (fun c40 => ?_) (fun c40 => ?_) | refine x_icmp_ne hP rfl (fun c40 => ?_) (fun c40 => ?_)
    · rw [bI_inj, eo] at c40
      rw [if_neg (by rw [beq_iff_eq]; exact c40), List.append_nil] at et
      refine z_iinc hP rfl rfl rfl ?_
      refine x_goto hP rfl ?_
      refine x_re hP [some (.ref 84), some (.ref r), none, some (.int (bI w)), some (.int (iI (flt w l2 (l.take (i + 1))).length)), some (.int (iI (i + 1 : Nat))), none] ⟨rfl, rfl, rfl, ?_, rfl, trivial⟩ (ih (i + 1) I (by omega) a1 (by rw [et]; exact a6) (fun q h1 h2 => a7 q (by omega) h2) ht k)
      rw [et]
      rfl
    · rw [bI_inj, eo] at c40
      rw [if_pos (by rw [beq_iff_eq]; exact c40)] at et
      first | refine x_aload_n hP rfl rfl ?_ | refine x_aload_nN hP rfl rfl ?_
      refine x_getR hP rfl (by first | assumption | rfl) (by first | assumption | exact hR _ _ _ _ rfl | exact hR1 _ _ _ _ rfl | exact hR2 _ _ _ _ rfl | rfl) ?_
      refine x_iload hP rfl rfl ?_
      refine x_iload hP rfl rfl ?_
      refine z_iast hP rfl (by first | assumption | rfl) (by first | decide | omega) (by omega) ?_
      first | refine w_nI ?_ | refine w_nL ?_ | refine w_nR ?_ | refine w_mI ?_ | refine w_mL ?_ | refine w_mR ?_ | skip
      refine z_iinc hP rfl rfl rfl ?_
      refine z_iinc hP rfl rfl rfl ?_
      refine x_goto hP rfl ?_
      have hf : frP (fun k a _ => k = 1 ∧ a = r + 1) I (x_at I 1 (r + 1) (flt w l2 (l.take i)).length (iI (l.getD i 0))) := frP_at (frP_refl _ _) ⟨rfl, rfl⟩
      refine x_re hP [some (.ref 84), some (.ref r), none, some (.int (bI w)), some (.int (iI (flt w l2 (l.take (i + 1))).length)), some (.int (iI (i + 1 : Nat))), none] ⟨rfl, rfl, rfl, ?_, rfl, trivial⟩ (ih (i + 1) _ (by omega) a1 (by rw [et]; exact ar_snoc a6) (fun q h1 h2 => ?_) (tbl_fr ht hf (fun k a i h => by unfold jA; omega)) (fun I' h1 h2 => k I' h1 (frP_trans hf h2)))
      · rw [et, List.length_append]
        rfl
      · show x_at I 1 (r + 1) (flt w l2 (l.take i)).length (iI (l.getD i 0)) 1 (r + 1) q = _
        rw [x_at_eq, if_neg (by omega)]
        exact a7 q (by omega) h2
theorem c_sift (hP : x_closed E P) (hR : x_fin R) (hr : isRw R r) (hr2 : isRw R r2) (hn : rfar r r2) (hk : r + 2 < 84 ∨ 86 < r) (hk2 : r2 + 2 < 84 ∨ 86 < r2) {w : Bool} {tn : Int} (hw : rw I r o l) (hw2 : rw I r2 o2 l2) (hj : jnv I tn) (htn : tn < 2147483600) (k : ∀ I', rw I' r o (flt w l2 l) → rw I' r2 o2 l2 → jnv I' (tn + 1) → frP (fun k a i => jA a ∨ rg r k a i) I I' → Q none (x_hp I' J R)) : P 125 (d + 3) 0 (x_la 0 [.ref 84, .ref r, .ref r2, .int (bI w)]) [] (x_hp I J R) rc rs Q := by
  have g1 := hr.1
  have f1 := hr2.1
  first | refine x_aload_n hP rfl rfl ?_ | refine x_aload_nN hP rfl rfl ?_
  first | refine x_aload_n hP rfl rfl ?_ | refine x_aload_nN hP rfl rfl ?_
  refine x_callV1 (ci := 5) hP 0 0 rfl rfl rfl (by first | assumption | rfl) rfl rfl rfl (Nat.zero_le _) (Nat.zero_le _) ?_
  refine c_learn hP hR hr2 hk2 hw2 hj htn (fun I1 hw21 hj1 ht1 hf1 => ?_)
  have hw1 := rw_fr hw hf1 (fun k a i h => by have := rg_a h; unfold jA; omega)
  obtain ⟨a1, a2, a3, a4, a5, a6, a7, a8⟩ := hw1
  refine x_iconst hP rfl ?_
  refine x_istore hP rfl ?_
  refine x_iconst hP rfl ?_
  refine x_istore hP rfl ?_
  refine x_re hP [some (.ref 84), some (.ref r), none, some (.int (bI w)), some (.int (iI (flt w l2 (l.take 0)).length)), some (.int (iI (0 : Nat))), none] ⟨rfl, rfl, rfl, rfl, rfl, trivial⟩ (c_sift_loop hP hR hr hk hw21.2.2.1 hw21.2.2.2.2.2.2.1 a3 a7 l.length 0 I1 (by omega) a1 (ar_nil _ _) (fun q _ h => a6 q h) ht1 (fun I2 h2 hf2 => ?_))
  have hf3 : frP (rg r) I1 (x_at I2 1193 r 0 (iI (flt w l2 l).length)) := frP_at (frP_mono hf2 (fun k a i h => Or.inr (Or.inr ⟨h.1, Or.inl h.2⟩))) rg_sz
  refine k _ (rw_size' ((hf2 _ _ _ (by omega)).trans a2) a4 (ar_fr a5 hf2 (by omega)) a8 rfl (by have := flt_len w l2 l; omega) h2 (fun x hx => a7 x (flt_mem hx))) (rw_far hw21 hf3 (rfar_sy hn)) (jnv_fr hj1 hf3 (fun k a i h => by have := rg_a h; unfold jA; omega)) (frP_tr hf1 hf3 (fun _ _ _ h => Or.inl h) (fun _ _ _ h => Or.inr h))
/-- what a sign makes of two lists -/
def joinL (sg : Int) (l l2 : List Nat) : List Nat := if sg = 43 then l ++ flt false l l2 else if sg = 45 then flt false l2 l else if sg = 38 then flt true l2 l else flt false l2 l ++ flt false l l2
def isSg (x : Int) : Bool := decide (x = 43 ∨ x = 45 ∨ x = 38 ∨ x = 94)
theorem c_isSign (hP : x_closed E P) {x : Int} (hx : -2147483648 ≤ x ∧ x < 2147483648) {h : x_H} (k : Q (some (.int (bI (isSg x)))) h) : P 122 d 0 (x_la 0 [.int (iI x)]) [] h rc rs Q := by
  unfold isSg at k
  refine x_iload_n hP rfl rfl ?_
  refine x_bipush hP rfl ?_
  first | refine z_icmp_eq hP rfl (by omega) (by omega) (fun c3 => ?_) (fun c3 => ?_) | refine x_icmp_eq hP rfl (fun c3 => ?_) (fun c3 => ?_)
  · rw [decide_eq_true (by omega)] at k
    refine x_iconst hP rfl ?_
    refine x_goto hP rfl ?_
    refine x_zret hP rfl rfl (by first | exact Or.inl iI_0 | exact Or.inr iI_1 | exact bI_or _ | assumption) ?_
    exact k
  · refine x_iload_n hP rfl rfl ?_
    refine x_bipush hP rfl ?_
    first | refine z_icmp_eq hP rfl (by omega) (by omega) (fun c9 => ?_) (fun c9 => ?_) | refine x_icmp_eq hP rfl (fun c9 => ?_) (fun c9 => ?_)
    · rw [decide_eq_true (by omega)] at k
      refine x_iconst hP rfl ?_
      refine x_goto hP rfl ?_
      refine x_zret hP rfl rfl (by first | exact Or.inl iI_0 | exact Or.inr iI_1 | exact bI_or _ | assumption) ?_
      exact k
    · refine x_iload_n hP rfl rfl ?_
      refine x_bipush hP rfl ?_
      first | refine z_icmp_eq hP rfl (by omega) (by omega) (fun c15 => ?_) (fun c15 => ?_) | refine x_icmp_eq hP rfl (fun c15 => ?_) (fun c15 => ?_)
      · rw [decide_eq_true (by omega)] at k
        refine x_iconst hP rfl ?_
        refine x_goto hP rfl ?_
        refine x_zret hP rfl rfl (by first | exact Or.inl iI_0 | exact Or.inr iI_1 | exact bI_or _ | assumption) ?_
        exact k
      · refine x_iload_n hP rfl rfl ?_
        refine x_bipush hP rfl ?_
        first | refine z_icmp_ne hP rfl (by omega) (by omega) (fun c21 => ?_) (fun c21 => ?_) | refine x_icmp_ne hP rfl (fun c21 => ?_) (fun c21 => ?_)
        · rw [decide_eq_false (by omega)] at k
          refine x_iconst hP rfl ?_
          refine x_zret hP rfl rfl (by first | exact Or.inl iI_0 | exact Or.inr iI_1 | exact bI_or _ | assumption) ?_
          exact k
        · rw [decide_eq_true (by omega)] at k
          refine x_iconst hP rfl ?_
          refine x_goto hP rfl ?_
          refine x_zret hP rfl rfl (by first | exact Or.inl iI_0 | exact Or.inr iI_1 | exact bI_or _ | assumption) ?_
          exact k
/-- the places that joining changes -/
def jS (r r2 a : Nat) : Prop := jA a ∨ (r ≤ a ∧ a ≤ r + 2) ∨ (r2 ≤ a ∧ a ≤ r2 + 2) ∨ (87 ≤ a ∧ a ≤ 87 + 2)
theorem c_join (hP : x_closed E P) (hR : x_fin R) (hr : r ∈ x_rows) (hr2 : r2 ∈ x_rows) (hn : ¬ r = r2) (hs : ¬ r = 87) (hs2 : ¬ r2 = 87) {sg : Int} (hsg : isSg sg = true) {tn : Int} (hw : rw I r o l) (hw2 : rw I r2 o2 l2) (hj : jnv I tn) (htn : tn < 2147483500) (k : ∀ I' tn', rw I' r o ((joinL sg l l2).take 200) → tn' ≤ tn + 2 → jnv I' tn' → frP (fun _ a _ => jS r r2 a) I I' → Q (some (.int (bI (decide ((joinL sg l l2).length ≤ 200))))) (x_hp I' J R)) : P 124 (d + 4) 0 (x_la 0 [.ref 84, .ref r, .ref r2, .int (iI sg)]) [] (x_hp I J R) rc rs Q := by
  have q1 := isRw_of hR hr
  have q2 := isRw_of hR hr2
  have q3 : isRw R 87 := isRw_of hR (by decide)
  have n12 := rfar_of hr hr2 hn
  have n1s := rfar_of hr (show 87 ∈ x_rows by decide) hs
  have n2s := rfar_of hr2 (show 87 ∈ x_rows by decide) hs2
  have k1 := (rows_rg hr).2.2.1
  have k2 := (rows_rg hr2).2.2.1
  have g1 := q1.1
  have g2 := q2.1
  have g3 := q3.1
  have hl := hw.2.2.1
  have hl2 := hw2.2.2.1
  rcases of_decide_eq_true hsg with rfl | rfl | rfl | rfl
  · rw [joinL, if_pos rfl] at k
    refine x_iload_n hP rfl rfl ?_
    refine x_lsw (tg := 36) hP rfl (by decide +kernel) ?_
    first | refine x_aload_n hP rfl rfl ?_ | refine x_aload_nN hP rfl rfl ?_
    first | refine x_aload_n hP rfl rfl ?_ | refine x_aload_nN hP rfl rfl ?_
    first | refine x_aload_n hP rfl rfl ?_ | refine x_aload_nN hP rfl rfl ?_
    refine x_iconst hP rfl ?_
    refine x_callV3 (ci := 5) hP 0 0 rfl rfl rfl (by first | assumption | rfl) rfl rfl rfl (Nat.zero_le _) (Nat.zero_le _) ?_
    refine c_sift (w := false) hP hR q2 q1 (rfar_sy n12) k2 k1 hw2 hw hj (by omega) (fun I1 h1 h2 h3 h4 => ?_)
    first | refine x_aload_n hP rfl rfl ?_ | refine x_aload_nN hP rfl rfl ?_
    first | refine x_aload_n hP rfl rfl ?_ | refine x_aload_nN hP rfl rfl ?_
    refine x_callV1 (ci := 3) hP 0 0 rfl rfl rfl (by first | assumption | rfl) rfl rfl rfl (Nat.zero_le _) (Nat.zero_le _) ?_
    refine c_appendAll hP q1 q2 n12 h2 h1 (fun I2 h5 h6 => ?_)
    refine x_zret hP rfl rfl (by first | exact Or.inl iI_0 | exact Or.inr iI_1 | exact bI_or _ | assumption) ?_
    rw [← List.length_append]
    refine k I2 _ h5 (by omega) (jnv_fr h3 h6 (fun k a i h => by have := rg_a h; unfold jA; omega)) (frP_tr h4 h6 (fun k a i h => ?_) (fun k a i h => ?_))
    · rcases h with h | h
      · exact Or.inl h
      · have := rg_a h; unfold jS; omega
    · have := rg_a h; unfold jS; omega
  · rw [joinL, if_neg (by decide), if_pos rfl] at k
    have hfl := flt_len false l2 l
    rw [List.take_of_length_le (by omega), decide_eq_true (by omega)] at k
    refine x_iload_n hP rfl rfl ?_
    refine x_lsw (tg := 49) hP rfl (by decide +kernel) ?_
    first | refine x_aload_n hP rfl rfl ?_ | refine x_aload_nN hP rfl rfl ?_
    first | refine x_aload_n hP rfl rfl ?_ | refine x_aload_nN hP rfl rfl ?_
    first | refine x_aload_n hP rfl rfl ?_ | refine x_aload_nN hP rfl rfl ?_
    refine x_iconst hP rfl ?_
    refine x_callV3 (ci := 5) hP 0 0 rfl rfl rfl (by first | assumption | rfl) rfl rfl rfl (Nat.zero_le _) (Nat.zero_le _) ?_
    refine c_sift (w := false) hP hR q1 q2 n12 k1 k2 hw hw2 hj (by omega) (fun I1 h1 h2 h3 h4 => ?_)
    refine x_iconst hP rfl ?_
    refine x_zret hP rfl rfl (by first | exact Or.inl iI_0 | exact Or.inr iI_1 | exact bI_or _ | assumption) ?_
    refine k I1 _ h1 (by omega) h3 (frP_mono h4 (fun k a i h => ?_))
    rcases h with h | h
    · exact Or.inl h
    · have := rg_a h; unfold jS; omega
  · rw [joinL, if_neg (by decide), if_neg (by decide), if_pos rfl] at k
    have hfl := flt_len true l2 l
    rw [List.take_of_length_le (by omega), decide_eq_true (by omega)] at k
    refine x_iload_n hP rfl rfl ?_
    refine x_lsw (tg := 58) hP rfl (by decide +kernel) ?_
    first | refine x_aload_n hP rfl rfl ?_ | refine x_aload_nN hP rfl rfl ?_
    first | refine x_aload_n hP rfl rfl ?_ | refine x_aload_nN hP rfl rfl ?_
    first | refine x_aload_n hP rfl rfl ?_ | refine x_aload_nN hP rfl rfl ?_
    refine x_iconst hP rfl ?_
    refine x_callV3 (ci := 5) hP 0 0 rfl rfl rfl (by first | assumption | rfl) rfl rfl rfl (Nat.zero_le _) (Nat.zero_le _) ?_
    refine c_sift (w := true) hP hR q1 q2 n12 k1 k2 hw hw2 hj (by omega) (fun I1 h1 h2 h3 h4 => ?_)
    refine x_iconst hP rfl ?_
    refine x_zret hP rfl rfl (by first | exact Or.inl iI_0 | exact Or.inr iI_1 | exact bI_or _ | assumption) ?_
    refine k I1 _ h1 (by omega) h3 (frP_mono h4 (fun k a i h => ?_))
    rcases h with h | h
    · exact Or.inl h
    · have := rg_a h; unfold jS; omega
  · rw [joinL, if_neg (by decide), if_neg (by decide), if_neg (by decide)] at k
    refine x_iload_n hP rfl rfl ?_
    refine x_lsw (tg := 67) hP rfl (by decide +kernel) ?_
    first | refine x_aload_n hP rfl rfl ?_ | refine x_aload_nN hP rfl rfl ?_
    refine x_getR hP rfl (by first | assumption | rfl) (by first | assumption | exact hR _ _ _ _ rfl | exact hR1 _ _ _ _ rfl | exact hR2 _ _ _ _ rfl | rfl) ?_
    first | refine x_aload_n hP rfl rfl ?_ | refine x_aload_nN hP rfl rfl ?_
    refine x_callV1 (ci := 3) hP 0 0 rfl rfl rfl (by first | assumption | rfl) rfl rfl rfl (Nat.zero_le _) (Nat.zero_le _) ?_
    refine c_copyFrom hP q3 q1 (rfar_sy n1s) hw (fun I1 h1 h2 => ?_)
    have w1 := rw_far hw h2 n1s
    have w2 := rw_far hw2 h2 n2s
    have j1 := jnv_fr hj h2 (fun k a i h => by have := rg_a h; unfold jA; omega)
    first | refine x_aload_n hP rfl rfl ?_ | refine x_aload_nN hP rfl rfl ?_
    first | refine x_aload_n hP rfl rfl ?_ | refine x_aload_nN hP rfl rfl ?_
    first | refine x_aload_n hP rfl rfl ?_ | refine x_aload_nN hP rfl rfl ?_
    refine x_iconst hP rfl ?_
    refine x_callV3 (ci := 5) hP 0 0 rfl rfl rfl (by first | assumption | rfl) rfl rfl rfl (Nat.zero_le _) (Nat.zero_le _) ?_
    refine c_sift (w := false) hP hR q1 q2 n12 k1 k2 w1 w2 j1 (by omega) (fun I2 h3 h4 h5 h6 => ?_)
    have w3 := rw_fr h1 h6 (fun k a i h => by have := rg_a h; unfold rfar at n1s; intro q; rcases q with q | q; unfold jA at q; omega; have := rg_a q; omega)
    first | refine x_aload_n hP rfl rfl ?_ | refine x_aload_nN hP rfl rfl ?_
    first | refine x_aload_n hP rfl rfl ?_ | refine x_aload_nN hP rfl rfl ?_
    first | refine x_aload_n hP rfl rfl ?_ | refine x_aload_nN hP rfl rfl ?_
    refine x_getR hP rfl (by first | assumption | rfl) (by first | assumption | exact hR _ _ _ _ rfl | exact hR1 _ _ _ _ rfl | exact hR2 _ _ _ _ rfl | rfl) ?_
    refine x_iconst hP rfl ?_
    refine x_callV3 (ci := 5) hP 0 0 rfl rfl rfl (by first | assumption | rfl) rfl rfl rfl (Nat.zero_le _) (Nat.zero_le _) ?_
    refine c_sift (w := false) hP hR q2 q3 n2s k2 (by decide) h4 w3 h5 (by omega) (fun I3 h7 h8 h9 h10 => ?_)
    have w4 := rw_fr h3 h10 (fun k a i h => by have := rg_a h; unfold rfar at n12; intro q; rcases q with q | q; unfold jA at q; omega; have := rg_a q; omega)
    first | refine x_aload_n hP rfl rfl ?_ | refine x_aload_nN hP rfl rfl ?_
    first | refine x_aload_n hP rfl rfl ?_ | refine x_aload_nN hP rfl rfl ?_
    refine x_callV1 (ci := 3) hP 0 0 rfl rfl rfl (by first | assumption | rfl) rfl rfl rfl (Nat.zero_le _) (Nat.zero_le _) ?_
    refine c_appendAll hP q1 q2 n12 w4 h7 (fun I4 h11 h12 => ?_)
    refine x_zret hP rfl rfl (by first | exact Or.inl iI_0 | exact Or.inr iI_1 | exact bI_or _ | assumption) ?_
    rw [← List.length_append]
    refine k I4 _ h11 (by omega) (jnv_fr h9 h12 (fun k a i h => by have := rg_a h; unfold jA; omega)) ?_
    have m1 : frP (fun _ a _ => jS r r2 a) I I1 := frP_mono h2 (fun k a i h => by have := rg_a h; unfold jS; omega)
    have m2 : frP (fun _ a _ => jS r r2 a) I1 I2 := frP_mono h6 (fun k a i h => by
      rcases h with h | h
      · exact Or.inl h
      · have := rg_a h; unfold jS; omega)
    have m3 : frP (fun _ a _ => jS r r2 a) I2 I3 := frP_mono h10 (fun k a i h => by
      rcases h with h | h
      · exact Or.inl h
      · have := rg_a h; unfold jS; omega)
    have m4 : frP (fun _ a _ => jS r r2 a) I3 I4 := frP_mono h12 (fun k a i h => by have := rg_a h; unfold jS; omega)
    exact frP_trans m1 (frP_trans m2 (frP_trans m3 m4))
end
