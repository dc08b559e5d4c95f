/-! THE REFERENCE: the calls that only look -/
/-- what the pure state keeps, call after call -/
def gS (S : x_St) : Prop := twf (zT (sZ S)) ∧ (sV S = ([], []) ∨ vV (zT (sZ S)) (sV S)) ∧ (∀ k, k < 6 → (zK (sZ S) k).1 = [] ∨ vV (zT (sZ S)) (zK (sZ S) k)) ∧ nuV (zT (sZ S)) (zN (sZ S)) ∧ nmsOk (zT (sZ S))
theorem sumS_eq0 {f : Nat → Nat} : ∀ n, sumS f n = 0 → ∀ j, j < n → f j = 0
  | 0, _, j, hj => absurd hj (Nat.not_lt_zero _)
  | n + 1, h, j, hj => by
    have h : sumS f n + f n = 0 := h
    by_cases q : j = n
    · rw [q]; omega
    · exact sumS_eq0 n (by omega) j (by omega)
theorem spn_1 {p : Nat → Int} {s k : Nat} (h : wfp p s) (hk : k < s) : spn p s k = 1 ↔ kdn p s k = 0 := by
  rw [spn_eq h hk]
  constructor
  · intro e
    have z := sumS_eq0 s (show sumS (fun j => if p j = k then spn p s j else 0) s = 0 by omega)
    refine sumS_z fun j hj => ?_
    by_cases q : p j = k
    · have := z j hj
      rw [if_pos q] at this
      have := spn_pos h hj
      omega
    · exact if_neg q
  · intro e
    have z := sumS_eq0 (f := fun c => if p c = k then 1 else 0) s e
    rw [sumS_z fun j hj => ?_]
    by_cases q : p j = k
    · have := z j hj
      rw [if_pos q] at this
      cases this
    · exact if_neg q
theorem vt_30 {T : x_T} {o : List Nat} {x : Nat} (hw : twf T) (ho : vO T o) (h : vt T o x) : ∀ e ∈ o, pt x e < 30 := fun e he => by
  have := h.2.1 e he
  have := (hw.2.2 e (ho.2.2 e he)).2.1
  omega
section
variable {E : x_E} {P : x_Pr} {d rc rs : Nat} {I : x_M Int32} {J : x_M Int64} {R : x_M (Option Nat)} {Q : x_Q} {S : x_St}
theorem r_number (hP : x_closed E P) (hR : x_fin R) {x e m : Int} (hx : -2147483648 ≤ x ∧ x < 2147483648) (he : -2147483648 ≤ e ∧ e < 2147483648) (hm : -2147483648 ≤ m ∧ m < 2147483648) (hc : rfI I J S) (k : Q (some (.int (iI (spNumber x e m S)))) (x_hp I J R)) : P 219 (d + 1) 0 (x_la 0 [.ref 122, .int (iI x), .int (iI e), .int (iI m)]) [] (x_hp I J R) rc rs Q := by
  obtain ⟨h1, h2, h3, h4, h5⟩ := hc
  have w3 := h2.2.2.2.2.2
  have w1 := w3.1
  have w2 := w3.2.1
  have v2 := h2.2.1
  unfold spNumber isMb at k
  first | refine x_aload_n hP rfl rfl ?_ | refine x_aload_nN hP rfl rfl ?_
  refine x_iload_n hP rfl rfl ?_
  refine x_iload_n hP rfl rfl ?_
  refine x_callV2 (ci := 9) hP 0 0 rfl rfl rfl (by first | assumption | rfl) rfl rfl rfl (Nat.zero_le _) (Nat.zero_le _) ?_
  refine r_isMember hP hR h2 hx he ?_
  unfold isMb
  first | refine zb_if_eq hP rfl (fun c6 => ?_) (fun c6 => ?_) | refine zl_if_eq hP rfl (fun c6 => ?_) (fun c6 => ?_) | refine z_if_eq hP rfl (by omega) (fun c6 => ?_) (fun c6 => ?_)
  · rw [if_neg (fun z => of_decide_eq_false c6 (of_decide_eq_true z.1))] at k
    refine x_ldcI hP rfl ?_
    refine x_iret hP rfl rfl ?_
    exact k
  have c6 := of_decide_eq_true c6
  refine x_iload_n hP rfl rfl ?_
  refine z_if_lt hP rfl (by omega) (fun c10 => ?_) (fun c10 => ?_)
  · rw [if_neg (fun z => by omega)] at k
    refine x_ldcI hP rfl ?_
    refine x_iret hP rfl rfl ?_
    exact k
  refine x_iload_n hP rfl rfl ?_
  first | refine x_aload_n hP rfl rfl ?_ | refine x_aload_nN hP rfl rfl ?_
  refine x_getI hP rfl (by first | assumption | rfl) (by first | assumption | exact hR _ _ _ _ rfl | exact hR1 _ _ _ _ rfl | exact hR2 _ _ _ _ rfl | rfl) ?_
  refine z_icmp_ge hP rfl (by omega) (by omega) (fun c18 => ?_) (fun c18 => ?_)
  · rw [if_neg (fun z => by omega)] at k
    refine x_ldcI hP rfl ?_
    refine x_iret hP rfl rfl ?_
    exact k
  rw [if_pos ⟨decide_eq_true c6, by omega, by omega⟩] at k
  obtain ⟨a, rfl⟩ : ∃ m : Nat, x = m := ⟨x.toNat, by omega⟩
  obtain ⟨b, rfl⟩ : ∃ m : Nat, e = m := ⟨e.toNat, by omega⟩
  obtain ⟨z, rfl⟩ : ∃ z : Nat, m = z := ⟨m.toNat, by omega⟩
  rw [Int.toNat_natCast, Int.toNat_natCast, Int.toNat_natCast] at k
  rw [Int.toNat_natCast] at c6
  have w4 := (w3.2.2 a (by omega)).2.1
  have v := (h4 z a b (by omega) (by omega) (by omega)).1
  rw [show 120 * z + (30 * a + b) = 120 * z + 30 * a + b by omega] at v
  first | refine x_aload_n hP rfl rfl ?_ | refine x_aload_nN hP rfl rfl ?_
  refine x_getR hP rfl (by first | assumption | rfl) (by first | assumption | exact hR _ _ _ _ rfl | exact hR1 _ _ _ _ rfl | exact hR2 _ _ _ _ rfl | rfl) ?_
  refine x_bipush hP rfl ?_
  refine x_iload_n hP rfl rfl ?_
  first | refine z_imul hP rfl ?_ | refine x_imul hP rfl ?_
  refine x_bipush hP rfl ?_
  refine x_iload_n hP rfl rfl ?_
  first | refine z_imul hP rfl ?_ | refine x_imul hP rfl ?_
  first | refine z_iadd hP rfl ?_ | refine x_iadd hP rfl ?_
  refine x_iload_n hP rfl rfl ?_
  first | refine z_iadd hP rfl ?_ | refine x_iadd hP rfl ?_
  refine z_iald hP rfl (by first | assumption | rfl) (by first | decide | omega) (by omega) (by first | assumption | exact hR _ _ _ _ rfl | exact hR1 _ _ _ _ rfl | exact hR2 _ _ _ _ rfl | rfl) ?_
  refine x_goto hP rfl ?_
  refine x_iret hP rfl rfl ?_
  exact k
theorem r_tuple_loop (hP : x_closed E P) (hR : x_fin R) {V : x_V} (hq : rq I 0 V.1 (V.2.map (rfE V.1))) {e : Int} (he : -2147483648 ≤ e ∧ e < 2147483648) {z : Nat} (hz : z < V.2.length) : ∀ (f i : Nat), i + f = V.1.length → Q (some (.int (iI (if hasI e (V.1.drop i) = true then (pt (V.2.getD z 0) e.toNat : Nat) else -1)))) (x_hp I J R) → ∀ rc rs, P 210 (d + 1) 12 (x_ls [some (.ref 122), some (.int (iI z)), some (.int (iI e)), some (.int (iI i))]) [] (x_hp I J R) rc rs Q := by
  have ⟨h1, h2, h3, h4, h5, h6, h7, h8⟩ := hq
  rw [List.length_map] at h4 h7
  intro f
  induction f with
  | zero =>
    intro i hi k rc rs
    rw [drop_all (by omega), if_neg (show ¬ hasI e [] = true from Bool.false_ne_true)] at k
    refine x_iload_n hP rfl rfl ?_
    first | refine x_aload_n hP rfl rfl ?_ | refine x_aload_nN hP rfl rfl ?_
    refine x_getR hP rfl (by first | assumption | rfl) (by first | assumption | exact hR _ _ _ _ rfl | exact hR1 _ _ _ _ rfl | exact hR2 _ _ _ _ rfl | rfl) ?_
    refine x_iconst hP rfl ?_
    refine z_iald hP rfl (by first | assumption | rfl) (by first | decide | omega) (by omega) (by first | assumption | exact hR _ _ _ _ rfl | exact hR1 _ _ _ _ rfl | exact hR2 _ _ _ _ rfl | rfl) ?_
    refine z_icmp_ge hP rfl (by omega) (by omega) (fun c19 => ?_) (fun c19 => ?_)
    · refine x_iconst hP rfl ?_
      refine x_iret hP rfl rfl ?_
      exact k
    · omega
  | succ f ih =>
    intro i hi k rc rs
    have hlt : i < V.1.length := by omega
    have b := h6 _ (getD_mem hlt)
    rw [dropc hlt] at k
    unfold hasI at k
    rw [List.any_cons] at k
    refine x_iload_n hP rfl rfl ?_
    first | refine x_aload_n hP rfl rfl ?_ | refine x_aload_nN hP rfl rfl ?_
    refine x_getR hP rfl (by first | assumption | rfl) (by first | assumption | exact hR _ _ _ _ rfl | exact hR1 _ _ _ _ rfl | exact hR2 _ _ _ _ rfl | rfl) ?_
    refine x_iconst hP rfl ?_
    refine z_iald hP rfl (by first | assumption | rfl) (by first | decide | omega) (by omega) (by first | assumption | exact hR _ _ _ _ rfl | exact hR1 _ _ _ _ rfl | exact hR2 _ _ _ _ rfl | rfl) ?_
    refine z_icmp_ge hP rfl (by omega) (by omega) (fun c19 => ?_) (fun c19 => ?_)
    · omega
    first | refine x_aload_n hP rfl rfl ?_ | refine x_aload_nN hP rfl rfl ?_
    refine x_iconst hP rfl ?_
    refine x_iload_n hP rfl rfl ?_
    refine x_callV2 (ci := 9) hP 0 0 rfl rfl rfl (by first | assumption | rfl) rfl rfl rfl (Nat.zero_le _) (Nat.zero_le _) ?_
    refine r_dimension hP hR (by decide) hq hlt ?_
    refine x_iload_n hP rfl rfl ?_
    first | refine z_icmp_ne hP rfl (by omega) (by omega) (fun c29 => ?_) (fun c29 => ?_) | refine x_icmp_ne hP rfl (fun c29 => ?_) (fun c29 => ?_)
    · rw [decide_eq_false c29, Bool.false_or] at k
      refine z_iinc hP rfl rfl rfl ?_
      refine x_goto hP rfl ?_
      exact x_re hP [some (.ref 122), some (.int (iI z)), some (.int (iI e)), some (.int (iI (i + 1 : Nat)))] ⟨rfl, rfl, rfl, rfl, trivial⟩ (ih (i + 1) (by omega) k _ _)
    · rw [decide_eq_true c29, Bool.true_or, if_pos rfl] at k
      have v := h7 z hz
      rw [map_getD hz, show 201 * 0 + z = z by omega] at v
      have t20 := rfE_20 (o := V.1) (V.2.getD z 0) h5
      first | refine x_aload_n hP rfl rfl ?_ | refine x_aload_nN hP rfl rfl ?_
      refine x_getR hP rfl (by first | assumption | rfl) (by first | assumption | exact hR _ _ _ _ rfl | exact hR1 _ _ _ _ rfl | exact hR2 _ _ _ _ rfl | rfl) ?_
      refine x_iload_n hP rfl rfl ?_
      refine z_iald hP rfl (by first | assumption | rfl) (by first | decide | omega) (by omega) (by first | assumption | exact hR _ _ _ _ rfl | exact hR1 _ _ _ _ rfl | exact hR2 _ _ _ _ rfl | rfl) ?_
      refine x_iconst hP rfl ?_
      refine x_iload_n hP rfl rfl ?_
      first | refine z_imul hP rfl ?_ | refine x_imul hP rfl ?_
      rw [show (5 * (i : Int)) = ((5 * i : Nat) : Int) by omega]
      refine x_ishr hP rfl ?_
      rw [iI_shr _ (5 * i) (by omega) (by omega)]
      refine x_bipush hP rfl ?_
      refine x_iand hP rfl ?_
      rw [show iI 31 = iI ((31 : Nat) : Int) from rfl, iI_and, and31, rfE_pt _ _ _ hlt]
      refine x_iret hP rfl rfl ?_
      rw [← c29, Int.toNat_natCast] at k
      exact k
theorem r_tuple (hP : x_closed E P) (hR : x_fin R) {x e : Int} (hx : -2147483648 ≤ x ∧ x < 2147483648) (he : -2147483648 ≤ e ∧ e < 2147483648) (hg : gS S) (hc : rfI I J S) (k : Q (some (.int (iI (spTuple x e S)))) (x_hp I J R)) : P 210 (d + 1) 0 (x_la 0 [.ref 122, .int (iI x), .int (iI e)]) [] (x_hp I J R) rc rs Q := by
  obtain ⟨h1, h2, h3, h4, h5, h6, h7⟩ := hc
  unfold spTuple at k
  first | refine x_aload_n hP rfl rfl ?_ | refine x_aload_nN hP rfl rfl ?_
  refine x_iload_n hP rfl rfl ?_
  refine x_callV1 (ci := 9) hP 0 0 rfl rfl rfl (by first | assumption | rfl) rfl rfl rfl (Nat.zero_le _) (Nat.zero_le _) ?_
  refine r_isTuple hP hR hx h5 ?_
  first | refine zb_if_ne hP rfl (fun c5 => ?_) (fun c5 => ?_) | refine zl_if_ne hP rfl (fun c5 => ?_) (fun c5 => ?_) | refine z_if_ne hP rfl (by omega) (fun c5 => ?_) (fun c5 => ?_)
  rotate_left
  · rw [if_neg (fun z => of_decide_eq_false c5 z.1)] at k
    refine x_iconst hP rfl ?_
    refine x_iret hP rfl rfl ?_
    exact k
  have c5 := of_decide_eq_true c5
  obtain ⟨m, rfl⟩ : ∃ m : Nat, x = m := ⟨x.toNat, by omega⟩
  have hm : m < (sV S).2.length := by omega
  have ne : ¬ (sV S).1 = [] := fun z => by
    rcases hg.2.1 with q | q
    · rw [q] at hm; exact absurd hm (Nat.not_lt_zero _)
    · exact q.1.1 z
  refine x_iconst hP rfl ?_
  refine x_istore_n hP rfl ?_
  refine x_re hP [some (.ref 122), some (.int (iI m)), some (.int (iI e)), some (.int (iI (0 : Nat)))] ⟨rfl, rfl, rfl, rfl, trivial⟩ (r_tuple_loop hP hR (h5.2.2.2.2 ne) he hm _ 0 (Nat.zero_add _) ?_ _ _)
  rw [Int.toNat_natCast] at k
  by_cases q : hasI e (sV S).1 = true
  · rw [if_pos ⟨c5, q⟩] at k
    rw [List.drop_zero, if_pos q]
    exact k
  · rw [if_neg (fun z => q z.2)] at k
    rw [List.drop_zero, if_neg q]
    exact k
theorem r_shows (hP : x_closed E P) (hR : x_fin R) {x e : Int} (hx : -2147483648 ≤ x ∧ x < 2147483648) (he : -2147483648 ≤ e ∧ e < 2147483648) (hg : gS S) (hc : rfI I J S) (k : Q (some (.int (iI (spShows x e S)))) (x_hp I J R)) : P 212 (d + 2) 0 (x_la 0 [.ref 122, .int (iI x), .int (iI e)]) [] (x_hp I J R) rc rs Q := by
  obtain ⟨h1, h2, h3, h4, h5, h6, h7⟩ := hc
  have w2 := h2.2.2.2.2.2.2.1
  have v2 := h2.2.1
  unfold spShows at k
  first | refine x_aload_n hP rfl rfl ?_ | refine x_aload_nN hP rfl rfl ?_
  refine x_iload_n hP rfl rfl ?_
  refine x_callV1 (ci := 9) hP 0 0 rfl rfl rfl (by first | assumption | rfl) rfl rfl rfl (Nat.zero_le _) (Nat.zero_le _) ?_
  refine r_isTuple hP hR hx h5 ?_
  first | refine zb_if_eq hP rfl (fun c5 => ?_) (fun c5 => ?_) | refine zl_if_eq hP rfl (fun c5 => ?_) (fun c5 => ?_) | refine z_if_eq hP rfl (by omega) (fun c5 => ?_) (fun c5 => ?_)
  · rw [if_neg (fun z => of_decide_eq_false c5 z.1)] at k
    refine x_ldcI hP rfl ?_
    refine x_iret hP rfl rfl ?_
    exact k
  have c5 := of_decide_eq_true c5
  refine x_iload_n hP rfl rfl ?_
  refine z_if_lt hP rfl (by omega) (fun c9 => ?_) (fun c9 => ?_)
  · rw [if_neg (fun z => by omega)] at k
    refine x_ldcI hP rfl ?_
    refine x_iret hP rfl rfl ?_
    exact k
  refine x_iload_n hP rfl rfl ?_
  first | refine x_aload_n hP rfl rfl ?_ | refine x_aload_nN hP rfl rfl ?_
  refine x_getI hP rfl (by first | assumption | rfl) (by first | assumption | exact hR _ _ _ _ rfl | exact hR1 _ _ _ _ rfl | exact hR2 _ _ _ _ rfl | rfl) ?_
  refine z_icmp_ge hP rfl (by omega) (by omega) (fun c17 => ?_) (fun c17 => ?_)
  · rw [if_neg (fun z => by omega)] at k
    refine x_ldcI hP rfl ?_
    refine x_iret hP rfl rfl ?_
    exact k
  rw [if_pos ⟨c5, by omega, by omega⟩] at k
  obtain ⟨m, rfl⟩ : ∃ m : Nat, x = m := ⟨x.toNat, by omega⟩
  obtain ⟨z, rfl⟩ : ∃ m : Nat, e = m := ⟨e.toNat, by omega⟩
  rw [Int.toNat_natCast, Int.toNat_natCast] at k
  have hm : m < (sV S).2.length := by omega
  have vv : vV (zT (sZ S)) (sV S) := hg.2.1.resolve_left fun q => by rw [q] at hm; exact absurd hm (Nat.not_lt_zero _)
  first | refine x_aload_n hP rfl rfl ?_ | refine x_aload_nN hP rfl rfl ?_
  refine x_iconst hP rfl ?_
  refine x_iload_n hP rfl rfl ?_
  refine x_iload_n hP rfl rfl ?_
  refine x_callV3 (ci := 9) hP 0 0 rfl rfl rfl (by first | assumption | rfl) rfl rfl rfl (Nat.zero_le _) (Nat.zero_le _) ?_
  refine r_shown (x := (sV S).2.getD m 0) hP hR (by decide) h4 (h5.2.2.2.2 vv.1.1) (by rw [List.length_map]; exact hm) (by omega) (map_getD hm) (vt_30 hg.1 vv.1 (vv.2 _ (getD_mem hm))) ?_
  refine x_goto hP rfl ?_
  refine x_iret hP rfl rfl ?_
  exact k
/-- the places that a call changes -/
theorem rfI_row {I' : x_M Int32} {i : Nat} {V : x_V} (hi : i < 6) (hc : rfI I J S) (h1 : V.1 = [] → I' 1 142 (1 + i) = iI (-1)) (h2 : ¬ V.1 = [] → rq I' (1 + i) V.1 (V.2.map (rfE V.1))) (hf : frP (rsF (1 + i)) I I') : rfI I' J (sN S, sC S, (zT (sZ S), zN (sZ S), updK (zK (sZ S)) i V), sV S, sP S) := by
  obtain ⟨b1, b2, b3, b4, b5, b6, b7⟩ := hc
  refine ⟨?_, rTr_fr b2 hf (frP_refl _ _) fun k a i z => by unfold rsF at z; omega, rLy_fr b3 hf fun k a i z => by unfold rsF at z; omega, rNu_fr b4 hf fun k a i z => by unfold rsF at z; omega, ?_, ?_, ?_⟩
  · obtain ⟨a1, a2, a3, a4⟩ := b1
    exact ⟨(hf _ _ _ fun z => by unfold rsF at z; omega).trans a1, a2, a3, fun i hi => (hf _ _ _ fun z => by unfold rsF at z; omega).trans (a4 i hi)⟩
  · obtain ⟨a1, a2, a3, a4, a5⟩ := b5
    exact ⟨(hf _ _ _ fun z => by unfold rsF at z; omega).trans a1, (hf _ _ _ fun z => by unfold rsF at z; omega).trans a2, a3, a4, fun q => rq_fr (a5 q) hf fun k a i z => rsF_ne (by omega) z⟩
  · intro j hj
    show ((updK (zK (sZ S)) i V j).1 = [] → I' 1 142 (1 + j) = iI (-1)) ∧ (¬ (updK (zK (sZ S)) i V j).1 = [] → rq I' (1 + j) (updK (zK (sZ S)) i V j).1 ((updK (zK (sZ S)) i V j).2.map (rfE (updK (zK (sZ S)) i V j).1)))
    unfold updK
    by_cases q : j = i
    · rw [if_pos q, q]; exact ⟨h1, h2⟩
    · rw [if_neg q]
      exact ⟨fun z => (hf _ _ _ fun z => by unfold rsF at z; omega).trans ((b6 j hj).1 z), fun z => rq_fr ((b6 j hj).2 z) hf fun k a i z => rsF_ne (by omega) z⟩
  · obtain ⟨a1, a2, a3⟩ := b7
    exact ⟨(hf _ _ _ fun z => by unfold rsF at z; omega).trans a1, a2, fun i hi => (hf _ _ _ fun z => by unfold rsF at z; omega).trans (a3 i hi)⟩
/-- what lies with the reference -/
def hh (a : Nat) : Prop := 122 ≤ a
theorem rsF_hh {s k a i : Nat} (h : rsF s k a i) : hh a := by unfold rsF at h; unfold hh; omega
theorem r_keep (hP : x_closed E P) (hR : x_fin R) {x : Int} (hx : -2147483648 ≤ x ∧ x < 2147483648) (hc : rfI I J S) (k : ∀ I', rfI I' J (spKeep x S).2 → frP (fun _ a _ => hh a) I I' → Q (some (.int (iI (spKeep x S).1))) (x_hp I' J R)) : P 208 (d + 3) 0 (x_la 0 [.ref 122, .int (iI x)]) [] (x_hp I J R) rc rs Q := by
  have hc' := hc
  obtain ⟨h1, h2, h3, h4, h5, h6, h7⟩ := hc
  have ⟨a1, a2, a3, a4, a5⟩ := h5
  unfold spKeep at k
  refine x_iload_n hP rfl rfl ?_
  refine z_if_lt hP rfl (by omega) (fun c1 => ?_) (fun c1 => ?_)
  · rw [if_neg (by omega)] at k
    refine x_iconst hP rfl ?_
    refine x_iret hP rfl rfl ?_
    exact k I hc' (frP_refl _ _)
  refine x_iload_n hP rfl rfl ?_
  refine x_iconst hP rfl ?_
  refine z_icmp_gt hP rfl (by omega) (by omega) (fun c6 => ?_) (fun c6 => ?_)
  · rw [if_neg (by omega)] at k
    refine x_iconst hP rfl ?_
    refine x_iret hP rfl rfl ?_
    exact k I hc' (frP_refl _ _)
  first | refine x_aload_n hP rfl rfl ?_ | refine x_aload_nN hP rfl rfl ?_
  refine x_getR hP rfl (by first | assumption | rfl) (by first | assumption | exact hR _ _ _ _ rfl | exact hR1 _ _ _ _ rfl | exact hR2 _ _ _ _ rfl | rfl) ?_
  refine x_iconst hP rfl ?_
  refine z_iald hP rfl (by first | assumption | rfl) (by first | decide | omega) (by omega) (by first | assumption | exact hR _ _ _ _ rfl | exact hR1 _ _ _ _ rfl | exact hR2 _ _ _ _ rfl | rfl) ?_
  first | refine zb_if_ne hP rfl (fun c15 => ?_) (fun c15 => ?_) | refine zl_if_ne hP rfl (fun c15 => ?_) (fun c15 => ?_) | refine z_if_ne hP rfl (by omega) (fun c15 => ?_) (fun c15 => ?_)
  rotate_left
  · rw [if_neg (fun z => z.2.2 (List.eq_nil_of_length_eq_zero (by omega)))] at k
    refine x_iconst hP rfl ?_
    refine x_iret hP rfl rfl ?_
    exact k I hc' (frP_refl _ _)
  have ne : ¬ (sV S).1 = [] := fun z => by rw [z] at c15; exact c15 rfl
  rw [if_pos ⟨by omega, by omega, ne⟩] at k
  obtain ⟨m, rfl⟩ : ∃ m : Nat, x = m := ⟨x.toNat, by omega⟩
  rw [Int.toNat_natCast] at k
  first | refine x_aload_n hP rfl rfl ?_ | refine x_aload_nN hP rfl rfl ?_
  refine x_iconst hP rfl ?_
  refine x_iconst hP rfl ?_
  refine x_iload_n hP rfl rfl ?_
  first | refine z_iadd hP rfl ?_ | refine x_iadd hP rfl ?_
  rw [show (1 : Int) + (m : Int) = ((1 + m : Nat) : Int) by omega]
  refine x_callV2 (ci := 9) hP 0 0 rfl rfl rfl (by first | assumption | rfl) rfl rfl rfl (Nat.zero_le _) (Nat.zero_le _) ?_
  refine r_copy (s := 0) (s2 := 1 + m) hP hR (by decide) (by omega) (by omega) (a5 ne) (fun I1 g1 g2 => ?_)
  have b1 : I1 1 140 0 = iI (sV S).2.length := (g2 _ _ _ fun z => by unfold rsF at z; omega).trans a1
  first | refine x_aload_n hP rfl rfl ?_ | refine x_aload_nN hP rfl rfl ?_
  refine x_getR hP rfl (by first | assumption | rfl) (by first | assumption | exact hR _ _ _ _ rfl | exact hR1 _ _ _ _ rfl | exact hR2 _ _ _ _ rfl | rfl) ?_
  refine x_iconst hP rfl ?_
  refine z_iald hP rfl (by first | assumption | rfl) (by first | decide | omega) (by omega) (by first | assumption | exact hR _ _ _ _ rfl | exact hR1 _ _ _ _ rfl | exact hR2 _ _ _ _ rfl | rfl) ?_
  refine x_iret hP rfl rfl ?_
  exact k I1 (rfI_row (by omega) hc' (fun z => absurd z ne) (fun _ => g1) g2) (frP_mono g2 fun _ _ _ => rsF_hh)
theorem r_drop (hP : x_closed E P) (hR : x_fin R) {x : Int} (hx : -2147483648 ≤ x ∧ x < 2147483648) (hc : rfI I J S) (k : ∀ I', rfI I' J (spDrop x S).2 → frP (fun _ a _ => hh a) I I' → Q (some (.int (iI (spDrop x S).1))) (x_hp I' J R)) : P 209 (d + 3) 0 (x_la 0 [.ref 122, .int (iI x)]) [] (x_hp I J R) rc rs Q := by
  have hc' := hc
  obtain ⟨h1, h2, h3, h4, h5, h6, h7⟩ := hc
  unfold spDrop at k
  refine x_iload_n hP rfl rfl ?_
  refine z_if_lt hP rfl (by omega) (fun c1 => ?_) (fun c1 => ?_)
  · rw [if_neg (by omega)] at k
    refine x_iconst hP rfl ?_
    refine x_iret hP rfl rfl ?_
    exact k I hc' (frP_refl _ _)
  refine x_iload_n hP rfl rfl ?_
  refine x_iconst hP rfl ?_
  refine z_icmp_gt hP rfl (by omega) (by omega) (fun c6 => ?_) (fun c6 => ?_)
  · rw [if_neg (by omega)] at k
    refine x_iconst hP rfl ?_
    refine x_iret hP rfl rfl ?_
    exact k I hc' (frP_refl _ _)
  obtain ⟨m, rfl⟩ : ∃ m : Nat, x = m := ⟨x.toNat, by omega⟩
  rw [Int.toNat_natCast] at k
  have hm : m < 6 := by omega
  have ⟨e1, e2⟩ := h6 m hm
  by_cases ne : (zK (sZ S) m).1 = []
  · rw [if_neg (fun z => z.2.2 ne)] at k
    have v := e1 ne
    first | refine x_aload_n hP rfl rfl ?_ | refine x_aload_nN hP rfl rfl ?_
    refine x_getR hP rfl (by first | assumption | rfl) (by first | assumption | exact hR _ _ _ _ rfl | exact hR1 _ _ _ _ rfl | exact hR2 _ _ _ _ rfl | rfl) ?_
    refine x_iconst hP rfl ?_
    refine x_iload_n hP rfl rfl ?_
    first | refine z_iadd hP rfl ?_ | refine x_iadd hP rfl ?_
    refine z_iald hP rfl (by first | assumption | rfl) (by first | decide | omega) (by omega) (by first | assumption | exact hR _ _ _ _ rfl | exact hR1 _ _ _ _ rfl | exact hR2 _ _ _ _ rfl | rfl) ?_
    refine x_iconst hP rfl ?_
    first | refine z_icmp_ne hP rfl (by omega) (by omega) (fun c18 => ?_) (fun c18 => ?_) | refine x_icmp_ne hP rfl (fun c18 => ?_) (fun c18 => ?_)
    · exact absurd rfl c18
    refine x_iconst hP rfl ?_
    refine x_iret hP rfl rfl ?_
    exact k I hc' (frP_refl _ _)
  have ⟨a1, a2, a3, a4, a5, a6, a7, a8⟩ := e2 ne
  have ok := okd_256 a6 a5
  rw [List.length_map] at a1
  rw [if_pos ⟨by omega, by omega, ne⟩] at k
  first | refine x_aload_n hP rfl rfl ?_ | refine x_aload_nN hP rfl rfl ?_
  refine x_getR hP rfl (by first | assumption | rfl) (by first | assumption | exact hR _ _ _ _ rfl | exact hR1 _ _ _ _ rfl | exact hR2 _ _ _ _ rfl | rfl) ?_
  refine x_iconst hP rfl ?_
  refine x_iload_n hP rfl rfl ?_
  first | refine z_iadd hP rfl ?_ | refine x_iadd hP rfl ?_
  refine z_iald hP rfl (by first | assumption | rfl) (by first | decide | omega) (by omega) (by first | assumption | exact hR _ _ _ _ rfl | exact hR1 _ _ _ _ rfl | exact hR2 _ _ _ _ rfl | rfl) ?_
  refine x_iconst hP rfl ?_
  first | refine z_icmp_ne hP rfl (by omega) (by omega) (fun c18 => ?_) (fun c18 => ?_) | refine x_icmp_ne hP rfl (fun c18 => ?_) (fun c18 => ?_)
  rotate_left
  · omega
  first | refine x_aload_n hP rfl rfl ?_ | refine x_aload_nN hP rfl rfl ?_
  refine x_getR hP rfl (by first | assumption | rfl) (by first | assumption | exact hR _ _ _ _ rfl | exact hR1 _ _ _ _ rfl | exact hR2 _ _ _ _ rfl | rfl) ?_
  refine x_iconst hP rfl ?_
  refine x_iload_n hP rfl rfl ?_
  first | refine z_iadd hP rfl ?_ | refine x_iadd hP rfl ?_
  refine x_iconst hP rfl ?_
  refine z_iast hP rfl (by first | assumption | rfl) (by first | decide | omega) (by omega) ?_
  first | refine w_nI ?_ | refine w_nL ?_ | refine w_nR ?_ | refine w_mI ?_ | refine w_mL ?_ | refine w_mR ?_ | skip
  rw [show ((1 : Int) + (m : Int)).toNat = 1 + m by omega]
  have b1 : x_at I 1 142 (1 + m) (iI (-1)) 1 140 (1 + m) = iI (zK (sZ S) m).2.length := a1
  first | refine x_aload_n hP rfl rfl ?_ | refine x_aload_nN hP rfl rfl ?_
  refine x_getR hP rfl (by first | assumption | rfl) (by first | assumption | exact hR _ _ _ _ rfl | exact hR1 _ _ _ _ rfl | exact hR2 _ _ _ _ rfl | rfl) ?_
  refine x_iconst hP rfl ?_
  refine x_iload_n hP rfl rfl ?_
  first | refine z_iadd hP rfl ?_ | refine x_iadd hP rfl ?_
  refine z_iald hP rfl (by first | assumption | rfl) (by first | decide | omega) (by omega) (by first | assumption | exact hR _ _ _ _ rfl | exact hR1 _ _ _ _ rfl | exact hR2 _ _ _ _ rfl | rfl) ?_
  refine x_iret hP rfl rfl ?_
  refine k _ (rfI_row (V := ([], [])) hm hc' (fun _ => ?_) (fun z => absurd rfl z) (frP_at (frP_refl _ _) ⟨rfl, Or.inr ⟨Or.inr (Or.inr rfl), rfl⟩⟩)) (frP_at (frP_refl _ _) (by unfold hh; decide))
  rw [x_at_eq, if_pos ⟨rfl, rfl, rfl⟩]
end
