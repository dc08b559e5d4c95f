/-! THE REFERENCE: what it holds, as one thing -/
def rSh (I : x_M Int32) (sp : List Nat) : Prop := I 1605 122 0 = iI sp.length ∧ sp.length ≤ 3000 ∧ ∀ i, i < sp.length → I 1 143 i = iI (sp.getD i 0)
def r0 (I : x_M Int32) (V : x_V) : Prop := I 1 140 0 = iI V.2.length ∧ I 1 141 0 = iI V.1.length ∧ V.2.length ≤ 200 ∧ V.1.length ≤ 4 ∧ (¬ V.1 = [] → rq I 0 V.1 (V.2.map (rfE V.1)))
def rkp (I : x_M Int32) (K : Nat → x_V) : Prop := ∀ k, k < 6 → ((K k).1 = [] → I 1 142 (1 + k) = iI (-1)) ∧ (¬ (K k).1 = [] → rq I (1 + k) (K k).1 ((K k).2.map (rfE (K k).1)))
def rfI (I : x_M Int32) (J : x_M Int64) (S : x_St) : Prop := tpR I (sN S) (sC S) ∧ rTr I J (zT (sZ S)) ∧ rLy I (zT (sZ S)) ∧ rNu I (zN (sZ S)) ∧ r0 I (sV S) ∧ rkp I (zK (sZ S)) ∧ rSh I (sP S)
section
variable {E : x_E} {P : x_Pr} {d rc rs : Nat} {I : x_M Int32} {J : x_M Int64} {R : x_M (Option Nat)} {Q : x_Q} {S : x_St} {T : x_T}
theorem r_isMember (hP : x_closed E P) (hR : x_fin R) (hc : rTr I J T) {x z : Int} (hx : -2147483648 ≤ x ∧ x < 2147483648) (hz : -2147483648 ≤ z ∧ z < 2147483648) (k : Q (some (.int (bI (isMb T x z)))) (x_hp I J R)) : P 218 d 0 (x_la 0 [.ref 122, .int (iI x), .int (iI z)]) [] (x_hp I J R) rc rs Q := by
  have w3 := hc.2.2.2.2.2
  have w1 := w3.1
  have h1 := hc.1
  unfold isMb at k
  refine x_iload_n hP rfl rfl ?_
  refine z_if_lt hP rfl (by omega) (fun c1 => ?_) (fun c1 => ?_)
  · rw [decide_eq_false (by omega)] at k
    refine x_iconst hP rfl ?_
    refine x_zret hP rfl rfl (by first | exact Or.inl iI_0 | exact Or.inr iI_1 | exact bI_or _ | assumption) ?_
    exact k
  refine x_iload_n hP rfl rfl ?_
  first | refine x_aload_n hP rfl rfl ?_ | refine x_aload_nN hP rfl rfl ?_
  refine x_getI hP rfl (by first | assumption | rfl) (by first | assumption | exact hR _ _ _ _ rfl | exact hR1 _ _ _ _ rfl | exact hR2 _ _ _ _ rfl | rfl) ?_
  refine z_icmp_ge hP rfl (by omega) (by omega) (fun c9 => ?_) (fun c9 => ?_)
  · rw [decide_eq_false (by omega)] at k
    refine x_iconst hP rfl ?_
    refine x_zret hP rfl rfl (by first | exact Or.inl iI_0 | exact Or.inr iI_1 | exact bI_or _ | assumption) ?_
    exact k
  refine x_iload_n hP rfl rfl ?_
  refine z_if_lt hP rfl (by omega) (fun c13 => ?_) (fun c13 => ?_)
  · rw [decide_eq_false (by omega)] at k
    refine x_iconst hP rfl ?_
    refine x_zret hP rfl rfl (by first | exact Or.inl iI_0 | exact Or.inr iI_1 | exact bI_or _ | assumption) ?_
    exact k
  obtain ⟨e, rfl⟩ : ∃ e : Nat, x = e := ⟨x.toNat, by omega⟩
  have v1 := hc.2.2.1 e (by omega)
  have w2 := (w3.2.2 e (by omega)).2.1
  rw [Int.toNat_natCast] at k
  refine x_iload_n hP rfl rfl ?_
  first | refine x_aload_n hP rfl rfl ?_ | refine x_aload_nN hP rfl rfl ?_
  refine x_getR hP rfl (by first | assumption | rfl) (by first | assumption | exact hR _ _ _ _ rfl | exact hR1 _ _ _ _ rfl | exact hR2 _ _ _ _ rfl | rfl) ?_
  refine x_iload_n hP rfl rfl ?_
  refine z_iald hP rfl (by first | assumption | rfl) (by first | decide | omega) (by omega) (by first | assumption | exact hR _ _ _ _ rfl | exact hR1 _ _ _ _ rfl | exact hR2 _ _ _ _ rfl | rfl) ?_
  refine z_icmp_ge hP rfl (by omega) (by omega) (fun c23 => ?_) (fun c23 => ?_)
  · rw [decide_eq_false (by omega)] at k
    refine x_iconst hP rfl ?_
    refine x_zret hP rfl rfl (by first | exact Or.inl iI_0 | exact Or.inr iI_1 | exact bI_or _ | assumption) ?_
    exact k
  · rw [decide_eq_true (by omega)] at k
    refine x_iconst hP rfl ?_
    refine x_goto hP rfl ?_
    refine x_zret hP rfl rfl (by first | exact Or.inl iI_0 | exact Or.inr iI_1 | exact bI_or _ | assumption) ?_
    exact k
theorem r_printed (hP : x_closed E P) (hR : x_fin R) {x : Int} (hx : -2147483648 ≤ x ∧ x < 2147483648) (hs : rSh I (sP S)) (k : Q (some (.int (iI (spPrinted x S)))) (x_hp I J R)) : P 216 d 0 (x_la 0 [.ref 122, .int (iI x)]) [] (x_hp I J R) rc rs Q := by
  obtain ⟨s1, s2, s3⟩ := hs
  unfold spPrinted at k
  refine x_iload_n hP rfl rfl ?_
  refine z_if_lt hP rfl (by omega) (fun c1 => ?_) (fun c1 => ?_)
  · rw [if_neg (by omega)] at k
    refine x_iconst hP rfl ?_
    refine x_iret hP rfl rfl ?_
    exact k
  refine x_iload_n hP rfl rfl ?_
  first | refine x_aload_n hP rfl rfl ?_ | refine x_aload_nN hP rfl rfl ?_
  refine x_getI hP rfl (by first | assumption | rfl) (by first | assumption | exact hR _ _ _ _ rfl | exact hR1 _ _ _ _ rfl | exact hR2 _ _ _ _ rfl | rfl) ?_
  refine z_icmp_ge hP rfl (by omega) (by omega) (fun c9 => ?_) (fun c9 => ?_)
  · rw [if_neg (by omega)] at k
    refine x_iconst hP rfl ?_
    refine x_iret hP rfl rfl ?_
    exact k
  rw [if_pos (by omega)] at k
  obtain ⟨m, rfl⟩ : ∃ m : Nat, x = m := ⟨x.toNat, by omega⟩
  rw [Int.toNat_natCast] at k
  have v := s3 m (by omega)
  first | refine x_aload_n hP rfl rfl ?_ | refine x_aload_nN hP rfl rfl ?_
  refine x_getR hP rfl (by first | assumption | rfl) (by first | assumption | exact hR _ _ _ _ rfl | exact hR1 _ _ _ _ rfl | exact hR2 _ _ _ _ rfl | rfl) ?_
  refine x_iload_n hP rfl rfl ?_
  refine z_iald hP rfl (by first | assumption | rfl) (by first | decide | omega) (by omega) (by first | assumption | exact hR _ _ _ _ rfl | exact hR1 _ _ _ _ rfl | exact hR2 _ _ _ _ rfl | rfl) ?_
  refine x_goto hP rfl ?_
  refine x_iret hP rfl rfl ?_
  exact k
theorem r_isTuple (hP : x_closed E P) (hR : x_fin R) {x : Int} (hx : -2147483648 ≤ x ∧ x < 2147483648) {V : x_V} (h0 : r0 I V) (k : Q (some (.int (bI (decide (0 ≤ x ∧ x < V.2.length))))) (x_hp I J R)) : P 211 d 0 (x_la 0 [.ref 122, .int (iI x)]) [] (x_hp I J R) rc rs Q := by
  obtain ⟨h1, h2, h3, h4, h5⟩ := h0
  refine x_iload_n hP rfl rfl ?_
  refine z_if_lt hP rfl (by omega) (fun c1 => ?_) (fun c1 => ?_)
  · rw [decide_eq_false (by omega)] at k
    refine x_iconst hP rfl ?_
    refine x_zret hP rfl rfl (by first | exact Or.inl iI_0 | exact Or.inr iI_1 | exact bI_or _ | assumption) ?_
    exact k
  refine x_iload_n hP rfl rfl ?_
  first | refine x_aload_n hP rfl rfl ?_ | refine x_aload_nN hP rfl rfl ?_
  refine x_getR hP rfl (by first | assumption | rfl) (by first | assumption | exact hR _ _ _ _ rfl | exact hR1 _ _ _ _ rfl | exact hR2 _ _ _ _ rfl | rfl) ?_
  refine x_iconst hP rfl ?_
  refine z_iald hP rfl (by first | assumption | rfl) (by first | decide | omega) (by omega) (by first | assumption | exact hR _ _ _ _ rfl | exact hR1 _ _ _ _ rfl | exact hR2 _ _ _ _ rfl | rfl) ?_
  refine z_icmp_ge hP rfl (by omega) (by omega) (fun c11 => ?_) (fun c11 => ?_)
  · rw [decide_eq_false (by omega)] at k
    refine x_iconst hP rfl ?_
    refine x_zret hP rfl rfl (by first | exact Or.inl iI_0 | exact Or.inr iI_1 | exact bI_or _ | assumption) ?_
    exact k
  · rw [decide_eq_true (by omega)] at k
    refine x_iconst hP rfl ?_
    refine x_goto hP rfl ?_
    refine x_zret hP rfl rfl (by first | exact Or.inl iI_0 | exact Or.inr iI_1 | exact bI_or _ | assumption) ?_
    exact k
end
