/-! THE REFERENCE: neighbours -/
theorem div30 {z : Nat} (h : z < 120) : iI (z : Nat) / iI 30 = iI (z / 30 : Nat) := (show ∀ z : Nat, z < 120 → iI (z : Nat) / iI 30 = iI (z / 30 : Nat) by decide +kernel) z h
theorem div30e {e : Nat} (h : e < 4) : iI (30 * e : Nat) / iI 30 = iI (e : Nat) := by
  rw [div30 (by omega), show 30 * e / 30 = e by omega]
theorem nxS_root {p : Nat → Int} {s : Nat} (h : wfp p s) : ∀ f j, 0 < j → j + f ≤ s → nxS p (-1) f j = -1
  | 0, _, _, _ => rfl
  | f + 1, j, hj, hs => by
    unfold nxS
    have := h.2 j hj (by omega)
    rw [if_neg (by omega)]
    exact nxS_root h f (j + 1) (by omega) (by omega)
theorem wfp_root {p : Nat → Int} {s k : Nat} (h : wfp p s) (hk : k < s) (e : p k = -1) : k = 0 := by
  rcases Nat.eq_zero_or_pos k with q | q
  · exact q
  · have := h.2 k q hk; omega
section
variable {E : x_E} {P : x_Pr} {d rc rs : Nat} {I : x_M Int32} {J : x_M Int64} {R : x_M (Option Nat)} {Q : x_Q} {T : x_T} {e : Nat}
theorem r_bsEnd (hP : x_closed E P) (hR : x_fin R) (hc : rTr I J T) (he : e < tD T) {up : Int} (hu : -1 ≤ up ∧ up < 30) {vk vb : Value} {j r : Int} (hj : -1 ≤ j ∧ j ≤ 30) (hr : r = if ¬ up = -1 ∧ 0 < j ∧ j < tS T e then j else -1) (k : Q (some (.int (iI r))) (x_hp I J R)) : ∀ L r1 r2, x_ag L 0 [some (.ref 122), some (.int (iI (30 * e : Nat))), some vk, some (.int (iI up)), some vb, some (.int (iI j))] → P 189 d 60 L [] (x_hp I J R) r1 r2 Q := by
  intro L r1 r2 hL
  have w3 := hc.2.2.2.2.2
  have w1 := w3.1
  have w2 := (w3.2.2 e he).2.1
  have v1 := hc.2.2.1 e he
  refine x_re hP _ hL ?_
  refine x_iload_n hP rfl rfl ?_
  refine x_iconst hP rfl ?_
  first | refine z_icmp_eq hP rfl (by omega) (by omega) (fun c62 => ?_) (fun c62 => ?_) | refine x_icmp_eq hP rfl (fun c62 => ?_) (fun c62 => ?_)
  · rw [if_neg (by omega)] at hr
    rw [hr] at k
    refine x_iconst hP rfl ?_
    refine x_iret hP rfl rfl ?_
    exact k
  refine x_iload hP rfl rfl ?_
  refine z_if_le hP rfl (by omega) (fun c67 => ?_) (fun c67 => ?_)
  · rw [if_neg (by omega)] at hr
    rw [hr] at k
    refine x_iconst hP rfl ?_
    refine x_iret hP rfl rfl ?_
    exact k
  refine x_iload hP rfl rfl ?_
  first | refine x_aload_n hP rfl rfl ?_ | refine x_aload_nN hP rfl rfl ?_
  refine x_getR hP rfl (by first | assumption | rfl) (by first | assumption | exact hR _ _ _ _ rfl | exact hR1 _ _ _ _ rfl | exact hR2 _ _ _ _ rfl | rfl) ?_
  refine x_iload_n hP rfl rfl ?_
  refine x_bipush hP rfl ?_
  refine x_idiv hP rfl (by decide) ?_
  rw [div30e (by omega)]
  refine z_iald hP rfl (by first | assumption | rfl) (by first | decide | omega) (by omega) (by first | assumption | exact hR _ _ _ _ rfl | exact hR1 _ _ _ _ rfl | exact hR2 _ _ _ _ rfl | rfl) ?_
  refine z_icmp_ge hP rfl (by omega) (by omega) (fun c81 => ?_) (fun c81 => ?_)
  · rw [if_neg (by omega)] at hr
    rw [hr] at k
    refine x_iconst hP rfl ?_
    refine x_iret hP rfl rfl ?_
    exact k
  · rw [if_pos (by omega)] at hr
    rw [hr] at k
    refine x_iload hP rfl rfl ?_
    refine x_goto hP rfl ?_
    refine x_iret hP rfl rfl ?_
    exact k
theorem r_besideN_loop (hP : x_closed E P) (hR : x_fin R) (hc : rTr I J T) (he : e < tD T) {kk : Nat} (hk : kk < tS T e) (hu : ¬ tP T e kk = -1) : ∀ (f j : Nat), 0 < j → j + f = tS T e → Q (some (.int (iI (nxS (tP T e) (tP T e kk) f j)))) (x_hp I J R) → ∀ rc rs, P 189 d 6 (x_ls [some (.ref 122), some (.int (iI (30 * e : Nat))), some (.int (iI kk)), some (.int (iI (tP T e kk))), some (.int (iI 1)), some (.int (iI j))]) [] (x_hp I J R) rc rs Q := by
  have w3 := hc.2.2.2.2.2
  have w1 := w3.1
  have w2 := (w3.2.2 e he).2.1
  have v1 := hc.2.2.1 e he
  have wf := twf_wfp w3 he
  have ur := wfp_rg wf hk
  intro f
  induction f with
  | zero =>
    intro j hj hs k rc rs
    have fin := r_bsEnd (d := d) (vk := .int (iI kk)) (vb := .int (iI 1)) (j := j) hP hR hc he (up := tP T e kk) (by omega) (by omega) rfl (by rw [if_neg (by omega)]; exact k)
    refine x_iload_n hP rfl rfl ?_
    refine x_iconst hP rfl ?_
    first | refine z_icmp_eq hP rfl (by omega) (by omega) (fun c8 => ?_) (fun c8 => ?_) | refine x_icmp_eq hP rfl (fun c8 => ?_) (fun c8 => ?_)
    · exact absurd c8 hu
    refine x_iload hP rfl rfl ?_
    refine z_if_le hP rfl (by omega) (fun c13 => ?_) (fun c13 => ?_)
    · omega
    refine x_iload hP rfl rfl ?_
    refine x_bipush hP rfl ?_
    refine z_icmp_ge hP rfl (by omega) (by omega) (fun c20 => ?_) (fun c20 => ?_)
    · exact fin _ _ _ ⟨rfl, rfl, rfl, rfl, rfl, rfl, trivial⟩
    refine x_iload hP rfl rfl ?_
    first | refine x_aload_n hP rfl rfl ?_ | refine x_aload_nN hP rfl rfl ?_
    refine x_getR hP rfl (by first | assumption | rfl) (by first | assumption | exact hR _ _ _ _ rfl | exact hR1 _ _ _ _ rfl | exact hR2 _ _ _ _ rfl | rfl) ?_
    refine x_iload_n hP rfl rfl ?_
    refine x_bipush hP rfl ?_
    refine x_idiv hP rfl (by decide) ?_
    rw [div30e (by omega)]
    refine z_iald hP rfl (by first | assumption | rfl) (by first | decide | omega) (by omega) (by first | assumption | exact hR _ _ _ _ rfl | exact hR1 _ _ _ _ rfl | exact hR2 _ _ _ _ rfl | rfl) ?_
    refine z_icmp_ge hP rfl (by omega) (by omega) (fun c34 => ?_) (fun c34 => ?_)
    · exact fin _ _ _ ⟨rfl, rfl, rfl, rfl, rfl, rfl, trivial⟩
    · omega
  | succ f ih =>
    intro j hj hs k rc rs
    have v2 : I 1 129 (30 * e + j) = iI (tP T e j) := (hc.2.2.2.1 e he j (by omega)).2.1
    have pr := wfp_rg wf (i := j) (by omega)
    unfold nxS at k
    refine x_iload_n hP rfl rfl ?_
    refine x_iconst hP rfl ?_
    first | refine z_icmp_eq hP rfl (by omega) (by omega) (fun c8 => ?_) (fun c8 => ?_) | refine x_icmp_eq hP rfl (fun c8 => ?_) (fun c8 => ?_)
    · exact absurd c8 hu
    refine x_iload hP rfl rfl ?_
    refine z_if_le hP rfl (by omega) (fun c13 => ?_) (fun c13 => ?_)
    · omega
    refine x_iload hP rfl rfl ?_
    refine x_bipush hP rfl ?_
    refine z_icmp_ge hP rfl (by omega) (by omega) (fun c20 => ?_) (fun c20 => ?_)
    · omega
    refine x_iload hP rfl rfl ?_
    first | refine x_aload_n hP rfl rfl ?_ | refine x_aload_nN hP rfl rfl ?_
    refine x_getR hP rfl (by first | assumption | rfl) (by first | assumption | exact hR _ _ _ _ rfl | exact hR1 _ _ _ _ rfl | exact hR2 _ _ _ _ rfl | rfl) ?_
    refine x_iload_n hP rfl rfl ?_
    refine x_bipush hP rfl ?_
    refine x_idiv hP rfl (by decide) ?_
    rw [div30e (by omega)]
    refine z_iald hP rfl (by first | assumption | rfl) (by first | decide | omega) (by omega) (by first | assumption | exact hR _ _ _ _ rfl | exact hR1 _ _ _ _ rfl | exact hR2 _ _ _ _ rfl | rfl) ?_
    refine z_icmp_ge hP rfl (by omega) (by omega) (fun c34 => ?_) (fun c34 => ?_)
    · omega
    first | refine x_aload_n hP rfl rfl ?_ | refine x_aload_nN hP rfl rfl ?_
    refine x_getR hP rfl (by first | assumption | rfl) (by first | assumption | exact hR _ _ _ _ rfl | exact hR1 _ _ _ _ rfl | exact hR2 _ _ _ _ rfl | rfl) ?_
    refine x_iload_n hP rfl rfl ?_
    refine x_iload hP rfl rfl ?_
    first | refine z_iadd hP rfl ?_ | refine x_iadd hP rfl ?_
    refine z_iald hP rfl (by first | assumption | rfl) (by first | decide | omega) (by omega) (by first | assumption | exact hR _ _ _ _ rfl | exact hR1 _ _ _ _ rfl | exact hR2 _ _ _ _ rfl | rfl) ?_
    refine x_iload_n hP rfl rfl ?_
    first | refine z_icmp_eq hP rfl (by omega) (by omega) (fun c47 => ?_) (fun c47 => ?_) | refine x_icmp_eq hP rfl (fun c47 => ?_) (fun c47 => ?_)
    · rw [if_pos c47] at k
      exact r_bsEnd (d := d) (vk := .int (iI kk)) (vb := .int (iI 1)) (j := j) hP hR hc he (up := tP T e kk) (by omega) (by omega) rfl (by rw [if_pos (by omega)]; exact k) _ _ _ ⟨rfl, rfl, rfl, rfl, rfl, rfl, trivial⟩
    · rw [if_neg c47] at k
      refine x_iload hP rfl rfl ?_
      refine x_iload hP rfl rfl ?_
      first | refine z_iadd hP rfl ?_ | refine x_iadd hP rfl ?_
      refine x_istore hP rfl ?_
      refine x_goto hP rfl ?_
      exact x_re hP [some (.ref 122), some (.int (iI (30 * e : Nat))), some (.int (iI kk)), some (.int (iI (tP T e kk))), some (.int (iI 1)), some (.int (iI (j + 1 : Nat)))] ⟨rfl, rfl, rfl, rfl, rfl, rfl, trivial⟩ (ih (j + 1) (by omega) (by omega) k _ _)
theorem r_besideN (hP : x_closed E P) (hR : x_fin R) (hc : rTr I J T) (he : e < tD T) {kk : Nat} (hk : kk < tS T e) (k : Q (some (.int (iI (nxS (tP T e) (tP T e kk) (tS T e - (kk + 1)) (kk + 1))))) (x_hp I J R)) : P 189 d 0 (x_la 0 [.ref 122, .int (iI (30 * e : Nat)), .int (iI kk), .int (iI (tP T e kk)), .int (iI 1)]) [] (x_hp I J R) rc rs Q := by
  have w3 := hc.2.2.2.2.2
  have w2 := (w3.2.2 e he).2.1
  have wf := twf_wfp w3 he
  have ur := wfp_rg wf hk
  refine x_iload_n hP rfl rfl ?_
  refine x_iload hP rfl rfl ?_
  first | refine z_iadd hP rfl ?_ | refine x_iadd hP rfl ?_
  refine x_istore hP rfl ?_
  by_cases hu : tP T e kk = -1
  · rw [hu, nxS_root wf _ _ (by omega) (by omega)] at k
    refine x_iload_n hP rfl rfl ?_
    refine x_iconst hP rfl ?_
    first | refine z_icmp_eq hP rfl (by omega) (by omega) (fun c8 => ?_) (fun c8 => ?_) | refine x_icmp_eq hP rfl (fun c8 => ?_) (fun c8 => ?_)
    · exact r_bsEnd (d := d) (vk := .int (iI kk)) (vb := .int (iI 1)) (j := (kk : Int) + 1) hP hR hc he (up := tP T e kk) (by omega) (by omega) rfl (by rw [if_neg (by omega)]; exact k) _ _ _ ⟨rfl, rfl, rfl, rfl, rfl, rfl, trivial⟩
    · exact absurd hu c8
  · exact x_re hP [some (.ref 122), some (.int (iI (30 * e : Nat))), some (.int (iI kk)), some (.int (iI (tP T e kk))), some (.int (iI 1)), some (.int (iI (kk + 1 : Nat)))] ⟨rfl, rfl, rfl, rfl, rfl, rfl, trivial⟩ (r_besideN_loop hP hR hc he hk hu (tS T e - (kk + 1)) (kk + 1) (by omega) (by omega) k _ _)
theorem r_besideB_loop (hP : x_closed E P) (hR : x_fin R) (hc : rTr I J T) (he : e < tD T) {kk : Nat} (hk : kk < tS T e) (hu : ¬ tP T e kk = -1) : ∀ (j : Nat), j ≤ kk → Q (some (.int (iI (bkS (tP T e) (tP T e kk) j)))) (x_hp I J R) → ∀ rc rs, P 189 d 6 (x_ls [some (.ref 122), some (.int (iI (30 * e : Nat))), some (.int (iI kk)), some (.int (iI (tP T e kk))), some (.int (iI (-1))), some (.int (iI ((j : Int) - 1)))]) [] (x_hp I J R) rc rs Q := by
  have w3 := hc.2.2.2.2.2
  have w1 := w3.1
  have w2 := (w3.2.2 e he).2.1
  have v1 := hc.2.2.1 e he
  have wf := twf_wfp w3 he
  have ur := wfp_rg wf hk
  intro j
  induction j with
  | zero =>
    intro hj k rc rs
    refine x_iload_n hP rfl rfl ?_
    refine x_iconst hP rfl ?_
    first | refine z_icmp_eq hP rfl (by omega) (by omega) (fun c8 => ?_) (fun c8 => ?_) | refine x_icmp_eq hP rfl (fun c8 => ?_) (fun c8 => ?_)
    · exact absurd c8 hu
    refine x_iload hP rfl rfl ?_
    refine z_if_le hP rfl (by omega) (fun c13 => ?_) (fun c13 => ?_)
    · exact r_bsEnd (d := d) (vk := .int (iI kk)) (vb := .int (iI (-1))) (j := ((0 : Nat) : Int) - 1) hP hR hc he (up := tP T e kk) (by omega) (by omega) rfl (by rw [if_neg (by omega)]; exact k) _ _ _ ⟨rfl, rfl, rfl, rfl, rfl, rfl, trivial⟩
    · omega
  | succ j ih =>
    intro hj k rc rs
    have v2 : I 1 129 (30 * e + j) = iI (tP T e j) := (hc.2.2.2.1 e he j (by omega)).2.1
    have pr := wfp_rg wf (i := j) (by omega)
    unfold bkS at k
    rw [show (((j + 1 : Nat) : Int) - 1) = (j : Nat) by omega]
    refine x_iload_n hP rfl rfl ?_
    refine x_iconst hP rfl ?_
    first | refine z_icmp_eq hP rfl (by omega) (by omega) (fun c8 => ?_) (fun c8 => ?_) | refine x_icmp_eq hP rfl (fun c8 => ?_) (fun c8 => ?_)
    · exact absurd c8 hu
    refine x_iload hP rfl rfl ?_
    refine z_if_le hP rfl (by omega) (fun c13 => ?_) (fun c13 => ?_)
    · have j0 : j = 0 := by omega
      have p0 := wf.1
      rw [if_neg (by rw [j0, p0]; omega), j0] at k
      exact r_bsEnd (d := d) (vk := .int (iI kk)) (vb := .int (iI (-1))) (j := (j : Int)) hP hR hc he (up := tP T e kk) (by omega) (by omega) rfl (by rw [if_neg (by omega)]; exact k) _ _ _ ⟨rfl, rfl, rfl, rfl, rfl, rfl, trivial⟩
    refine x_iload hP rfl rfl ?_
    refine x_bipush hP rfl ?_
    refine z_icmp_ge hP rfl (by omega) (by omega) (fun c20 => ?_) (fun c20 => ?_)
    · omega
    refine x_iload hP rfl rfl ?_
    first | refine x_aload_n hP rfl rfl ?_ | refine x_aload_nN hP rfl rfl ?_
    refine x_getR hP rfl (by first | assumption | rfl) (by first | assumption | exact hR _ _ _ _ rfl | exact hR1 _ _ _ _ rfl | exact hR2 _ _ _ _ rfl | rfl) ?_
    refine x_iload_n hP rfl rfl ?_
    refine x_bipush hP rfl ?_
    refine x_idiv hP rfl (by decide) ?_
    rw [div30e (by omega)]
    refine z_iald hP rfl (by first | assumption | rfl) (by first | decide | omega) (by omega) (by first | assumption | exact hR _ _ _ _ rfl | exact hR1 _ _ _ _ rfl | exact hR2 _ _ _ _ rfl | rfl) ?_
    refine z_icmp_ge hP rfl (by omega) (by omega) (fun c34 => ?_) (fun c34 => ?_)
    · omega
    first | refine x_aload_n hP rfl rfl ?_ | refine x_aload_nN hP rfl rfl ?_
    refine x_getR hP rfl (by first | assumption | rfl) (by first | assumption | exact hR _ _ _ _ rfl | exact hR1 _ _ _ _ rfl | exact hR2 _ _ _ _ rfl | rfl) ?_
    refine x_iload_n hP rfl rfl ?_
    refine x_iload hP rfl rfl ?_
    first | refine z_iadd hP rfl ?_ | refine x_iadd hP rfl ?_
    refine z_iald hP rfl (by first | assumption | rfl) (by first | decide | omega) (by omega) (by first | assumption | exact hR _ _ _ _ rfl | exact hR1 _ _ _ _ rfl | exact hR2 _ _ _ _ rfl | rfl) ?_
    refine x_iload_n hP rfl rfl ?_
    first | refine z_icmp_eq hP rfl (by omega) (by omega) (fun c47 => ?_) (fun c47 => ?_) | refine x_icmp_eq hP rfl (fun c47 => ?_) (fun c47 => ?_)
    · rw [if_pos c47] at k
      exact r_bsEnd (d := d) (vk := .int (iI kk)) (vb := .int (iI (-1))) (j := (j : Int)) hP hR hc he (up := tP T e kk) (by omega) (by omega) rfl (by rw [if_pos (by omega)]; exact k) _ _ _ ⟨rfl, rfl, rfl, rfl, rfl, rfl, trivial⟩
    · rw [if_neg c47] at k
      refine x_iload hP rfl rfl ?_
      refine x_iload hP rfl rfl ?_
      first | refine z_iadd hP rfl ?_ | refine x_iadd hP rfl ?_
      refine x_istore hP rfl ?_
      refine x_goto hP rfl ?_
      exact x_re hP [some (.ref 122), some (.int (iI (30 * e : Nat))), some (.int (iI kk)), some (.int (iI (tP T e kk))), some (.int (iI (-1))), some (.int (iI ((j : Int) - 1)))] ⟨rfl, rfl, rfl, rfl, rfl, rfl, trivial⟩ (ih (by omega) k _ _)
theorem r_besideB (hP : x_closed E P) (hR : x_fin R) (hc : rTr I J T) (he : e < tD T) {kk : Nat} (hk : kk < tS T e) (k : Q (some (.int (iI (bkS (tP T e) (tP T e kk) kk)))) (x_hp I J R)) : P 189 d 0 (x_la 0 [.ref 122, .int (iI (30 * e : Nat)), .int (iI kk), .int (iI (tP T e kk)), .int (iI (-1))]) [] (x_hp I J R) rc rs Q := by
  have w3 := hc.2.2.2.2.2
  have w2 := (w3.2.2 e he).2.1
  have wf := twf_wfp w3 he
  have ur := wfp_rg wf hk
  refine x_iload_n hP rfl rfl ?_
  refine x_iload hP rfl rfl ?_
  first | refine z_iadd hP rfl ?_ | refine x_iadd hP rfl ?_
  refine x_istore hP rfl ?_
  by_cases hu : tP T e kk = -1
  · have k0 := wfp_root wf hk hu
    rw [k0] at k
    refine x_iload_n hP rfl rfl ?_
    refine x_iconst hP rfl ?_
    first | refine z_icmp_eq hP rfl (by omega) (by omega) (fun c8 => ?_) (fun c8 => ?_) | refine x_icmp_eq hP rfl (fun c8 => ?_) (fun c8 => ?_)
    · exact r_bsEnd (d := d) (vk := .int (iI kk)) (vb := .int (iI (-1))) (j := (kk : Int) + -1) hP hR hc he (up := tP T e kk) (by omega) (by omega) rfl (by rw [if_neg (by omega)]; exact k) _ _ _ ⟨rfl, rfl, rfl, rfl, rfl, rfl, trivial⟩
    · exact absurd hu c8
  · exact x_re hP [some (.ref 122), some (.int (iI (30 * e : Nat))), some (.int (iI kk)), some (.int (iI (tP T e kk))), some (.int (iI (-1))), some (.int (iI ((kk : Int) - 1)))] ⟨rfl, rfl, rfl, rfl, rfl, rfl, trivial⟩ (r_besideB_loop hP hR hc he hk hu kk (Nat.le_refl _) k _ _)
end
