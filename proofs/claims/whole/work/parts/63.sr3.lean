/-! SetReader: the things behind a SET -/
theorem tI_put (I : x_M Int32) (J : x_M Int64) (R : x_M (Option Nat)) (p w : Int) (k a i : Nat) (v : Int32) (ha : ¬ a = 1) : x_hp (x_at (tI I p w) k a i v) J R = x_hp (tI (x_at I k a i v) p w) J R := by
  unfold tI
  refine congrArg (fun z => x_hp z J R) (funext fun k' => funext fun a' => funext fun i' => ?_)
  simp only [x_at_eq]
  by_cases q : k' = k ∧ a' = a ∧ i' = i
  · rw [if_pos q, if_neg (by omega), if_neg (by omega), if_pos q]
  · rw [if_neg q, if_neg q]
def aok (xs : List Nat) (A : x_AR) (I : x_M Int32) (R : x_M (Option Nat)) : Prop := (78 ∈ xs → I 1266 26 0 = iI A.1 ∧ 0 ≤ A.1 ∧ A.1 < 1000000000) ∧ (77 ∈ xs → I 1267 26 0 = iI A.2.1 ∧ A.2.1 < 3) ∧ (73 ∈ xs → I 1268 26 0 = iI A.2.2.1 ∧ -1000000000 < A.2.2.1 ∧ A.2.2.1 < 1000000000) ∧ (65 ∈ xs → R 1269 26 0 = some (1000013 + A.2.2.2) ∧ A.2.2.2 < 9)
def rtF (k a _i : Nat) : Prop := a = 26 ∧ ¬ k = 1265
theorem thg_in {f x : Nat} (h : x ∈ thg f) : x = 78 ∨ x = 77 ∨ x = 73 ∨ x = 65 := by
  unfold thg at h
  split at h <;> simp only [List.mem_cons, List.not_mem_nil, or_false] at h <;> omega
theorem intR_rg {c : Nat → Nat} {n p : Nat} (hc : ∀ i, c i < 256) (hp : p ≤ n) {v : Int} {q : Nat} (h : intR c n p = .inr (v, q)) : -1000000000 < v ∧ v < 1000000000 ∧ p < q ∧ q ≤ n := by
  unfold intR at h
  split at h
  · next e0 =>
    have hlt : p < n := by unfold ch at e0; split at e0 <;> omega
    split at h
    · cases h
    · split at h
      · cases h
      · next e =>
        cases h
        have := numR_rg hlt e
        omega
  · have := numR_rg hp h
    omega
section
variable {E : x_E} {P : x_Pr} {d rc rs : Nat} {J : x_M Int64} {Q : x_Q} {σ : Nat → Nat → Nat} {t n : Nat} {c : Nat → Nat} {Z : x_Z} {w : Int}
def rtPost (Q : x_Q) (I : x_M Int32) (J : x_M Int64) (R : x_M (Option Nat)) (σ : Nat → Nat → Nat) (t n : Nat) (c : Nat → Nat) (Z : x_Z) (xs : List Nat) (p : Nat) (r : Nat ⊕ (x_AR × Nat)) : Prop := match r with
  | .inl e => ∀ I' R' (q : Nat), En I' J t n c Z → frP rtF I I' → frP (fun _ a _ => fA a) R R' → srR R' σ t → Q (some (.int (bI false))) (x_hp (tI I' q e) J R')
  | .inr (A, q) => ∀ I' R' w', p ≤ q → q ≤ n → aok xs A I' R' → En I' J t n c Z → frP rtF I I' → frP (fun _ a _ => fA a) R R' → srR R' σ t → Q (some (.int (bI true))) (x_hp (tI I' q w') J R')
theorem en_26 {I : x_M Int32} (h : En I J t n c Z) (k : Nat) (v : Int32) : En (x_at I k 26 0 v) J t n c Z := by
  have f : frP (fun _ a _ => 26 ≤ a ∧ a ≤ 96) I (x_at I k 26 0 v) := frP_at (frP_refl _ _) (by omega)
  obtain ⟨h1, h2, h3, h4, h5, h6⟩ := h
  have tr := isTa_rg h2
  obtain ⟨g1, g2, g3, g4⟩ := h1
  refine ⟨⟨?_, g2, g3, fun i hi => ?_⟩, h2, ct_fr h3 f (frP_refl _ J) fun k a i q => by omega, stP_fr h4 f fun k a i q => by omega, nuP_fr h5 f fun k a i q => by omega, fun k hk => ⟨rw_fr (h6 k hk).1 f fun k' a i q => by have := rg_a q; omega, (h6 k hk).2⟩⟩
  · rw [x_at_eq, if_neg (by omega)]; exact g1
  · rw [x_at_eq, if_neg (by omega)]; exact g4 i hi
theorem c_readThings_loop (hP : x_closed E P) (hE : x_is2 (some E.2.2) = false) {f : Nat} (hf : f < 12) {I0 : x_M Int32} {R0 : x_M (Option Nat)} {p0 : Nat} : ∀ (xs : List Nat) (i : Nat) (I : x_M Int32) (R : x_M (Option Nat)) (A : x_AR) (p : Nat) (w : Int), i ≤ (thg f).length → (thg f).drop i = xs → p0 ≤ p → p ≤ n → aok ((thg f).take i) A I R → En I J t n c Z → frP rtF I0 I → frP (fun _ a _ => fA a) R0 R → srR R σ t → rtPost Q I0 J R0 σ t n c Z (thg f) p0 (thgR Z c n xs A p) → ∀ rc rs, P 75 (d + 4) 4 (x_ls [some (.ref 26), some (.ref (1000001 + f)), some (.int (bI true)), some (.int (iI i))]) [] (x_hp (tI I p w) J R) rc rs Q := by
  intro xs
  have l3 : (thg f).length ≤ 2 := by unfold thg; split <;> decide
  induction xs with
  | nil =>
    intro i I R A p w hi hx hp0 hp ha he fi fr hr k rc rs
    have hl : i = (thg f).length := by have := List.drop_eq_nil_iff.mp hx; omega
    rw [List.take_of_length_le (by omega)] at ha
    refine x_iload_n hP rfl rfl ?_
    first | refine zb_if_eq hP rfl (fun c5 => ?_) (fun c5 => ?_) | refine zl_if_eq hP rfl (fun c5 => ?_) (fun c5 => ?_) | refine z_if_eq hP rfl (by omega) (fun c5 => ?_) (fun c5 => ?_)
    · cases c5
    refine x_iload_n hP rfl rfl ?_
    refine c_rtLen hP hf rfl (fun r1 r2 => ?_)
    refine z_icmp_ge hP rfl (by omega) (by omega) (fun c16 => ?_) (fun c16 => ?_)
    · refine x_iload_n hP rfl rfl ?_
      refine x_zret hP rfl rfl (by first | exact Or.inl iI_0 | exact Or.inr iI_1 | exact bI_or _ | assumption) ?_
      exact k I R w hp0 hp ha he fi fr hr
    · omega
  | cons x xs ih =>
    intro i I R A p w hi hx hp0 hp ha he fi fr hr k rc rs
    have ⟨hR, r2, r3, r4, r5⟩ := hr
    have hlt : i < (thg f).length := by
      rcases Nat.lt_or_ge i (thg f).length with q | q
      · exact q
      · rw [List.drop_eq_nil_of_le q] at hx; cases hx
    have hd := dropc hlt
    rw [hx] at hd
    have hx1 : (thg f).getD i 0 = x := by injection hd with a b; exact a.symm
    have hx2 : (thg f).drop (i + 1) = xs := by injection hd with a b; exact b.symm
    have tk : (thg f).take (i + 1) = (thg f).take i ++ [x] := by rw [takec hlt, hx1]
    have hin : x ∈ thg f := by rw [← hx1]; exact getD_mem hlt
    have tka : x_kd0 t = (1008, 0) := (isTr_of hR he.2.1).1
    unfold thgR at k
    refine x_iload_n hP rfl rfl ?_
    first | refine zb_if_eq hP rfl (fun c5 => ?_) (fun c5 => ?_) | refine zl_if_eq hP rfl (fun c5 => ?_) (fun c5 => ?_) | refine z_if_eq hP rfl (by omega) (fun c5 => ?_) (fun c5 => ?_)
    · cases c5
    refine x_iload_n hP rfl rfl ?_
    refine c_rtLen hP hf rfl (fun r1 r2 => ?_)
    refine z_icmp_ge hP rfl (by omega) (by omega) (fun c16 => ?_) (fun c16 => ?_)
    · omega
    first | refine x_aload_n hP rfl rfl ?_ | refine x_aload_nN hP rfl rfl ?_
    refine x_getR hP rfl (by first | assumption | rfl) (by first | assumption | exact hR _ _ _ _ rfl | exact hR1 _ _ _ _ rfl | exact hR2 _ _ _ _ rfl | rfl) ?_
    refine x_bipush hP rfl ?_
    refine x_callV1 (ci := 1) hP 0 0 rfl rfl rfl (by first | assumption | rfl) rfl rfl rfl (Nat.zero_le _) (Nat.zero_le _) ?_
    refine c_skip hP hR he.1 hp (by omega) (fun q1 q2 => ?_) (fun q1 => ?_)
    rotate_left
    · rw [if_neg q1] at k
      first | refine zb_if_ne hP rfl (fun c28 => ?_) (fun c28 => ?_) | refine zl_if_ne hP rfl (fun c28 => ?_) (fun c28 => ?_) | refine z_if_ne hP rfl (by omega) (fun c28 => ?_) (fun c28 => ?_)
      · cases c28
      refine x_iconst hP rfl ?_
      refine x_zret hP rfl rfl (by first | exact Or.inl iI_0 | exact Or.inr iI_1 | exact bI_or _ | assumption) ?_
      exact k I R p he fi fr hr
    rw [if_pos q1] at k
    first | refine zb_if_ne hP rfl (fun c28 => ?_) (fun c28 => ?_) | refine zl_if_ne hP rfl (fun c28 => ?_) (fun c28 => ?_) | refine z_if_ne hP rfl (by omega) (fun c28 => ?_) (fun c28 => ?_)
    rotate_left
    · cases c28
    refine c_rtChr hP hE hf rfl rfl hlt (fun r1 r2 => ?_)
    rw [hx1]
    have inA : ∀ {z : Nat}, z ∈ (thg f).take i ++ [x] → ¬ z = x → z ∈ (thg f).take i := fun {z} h1 h2 => by
      rcases List.mem_append.mp h1 with q | q
      · exact q
      · exact absurd (List.mem_singleton.mp q) h2
    unfold tg1 at k
    rcases thg_in hin with rfl | rfl | rfl | rfl
    · rw [if_pos rfl] at k
      refine x_lsw (tg := 76) hP rfl (by decide +kernel) ?_
      first | refine x_aload_n hP rfl rfl ?_ | refine x_aload_nN hP rfl rfl ?_
      first | refine x_aload_n hP rfl rfl ?_ | refine x_aload_nN hP rfl rfl ?_
      refine x_getR hP rfl (by first | assumption | rfl) (by first | assumption | exact hR _ _ _ _ rfl | exact hR1 _ _ _ _ rfl | exact hR2 _ _ _ _ rfl | rfl) ?_
      refine x_callV0 (ci := 1) hP 0 0 rfl rfl rfl (by first | assumption | rfl) rfl rfl rfl (Nat.zero_le _) (Nat.zero_le _) ?_
      refine c_num hP hR he.1 q2 ?_
      have rg := fun v q => numR_rg (c := c) (n := n) (p := p + 1) q2 (v := v) (q := q)
      generalize numR c n (p + 1) = o at k rg ⊢
      match o, k, rg with
      | .inl e, k, _ =>
        intro q
        refine x_putI hP rfl (by first | assumption | rfl) ?_
        first | refine w_nI ?_ | refine w_nL ?_ | refine w_nR ?_ | refine w_mI ?_ | refine w_mL ?_ | refine w_mR ?_ | skip
        rw [tI_put _ _ _ _ _ _ _ _ _ (by decide)]
        have g : tI (x_at I 1266 26 0 (iI (-2000000000))) q e 1266 26 0 = iI (-2000000000) := rfl
        first | refine x_aload_n hP rfl rfl ?_ | refine x_aload_nN hP rfl rfl ?_
        refine x_getI hP rfl (by first | assumption | rfl) (by first | assumption | exact hR _ _ _ _ rfl | exact hR1 _ _ _ _ rfl | exact hR2 _ _ _ _ rfl | rfl) ?_
        refine x_ldcI hP rfl ?_
        first | refine z_icmp_eq hP rfl (by omega) (by omega) (fun c93 => ?_) (fun c93 => ?_) | refine x_icmp_eq hP rfl (fun c93 => ?_) (fun c93 => ?_)
        · refine x_iconst hP rfl ?_
          refine x_istore_n hP rfl ?_
          refine x_goto hP rfl ?_
          refine z_iinc hP rfl rfl rfl ?_
          refine x_goto hP rfl ?_
          refine x_iload_n hP rfl rfl ?_
          first | refine zb_if_eq hP rfl (fun c5 => ?_) (fun c5 => ?_) | refine zl_if_eq hP rfl (fun c5 => ?_) (fun c5 => ?_) | refine z_if_eq hP rfl (by omega) (fun c5 => ?_) (fun c5 => ?_)
          · refine x_iload_n hP rfl rfl ?_
            refine x_zret hP rfl rfl (by first | exact Or.inl iI_0 | exact Or.inr iI_1 | exact bI_or _ | assumption) ?_
            exact k _ R q (en_26 he _ _) (frP_at fi (by unfold rtF; omega)) fr hr
          · exact absurd rfl c5
        · exact absurd rfl c93
      | .inr (v, q), k, rg =>
        have ⟨b1, b2, b3, b4⟩ := rg v q rfl
        show P _ _ _ _ (Value.int (iI v) :: _) _ _ _ _
        refine x_putI hP rfl (by first | assumption | rfl) ?_
        first | refine w_nI ?_ | refine w_nL ?_ | refine w_nR ?_ | refine w_mI ?_ | refine w_mL ?_ | refine w_mR ?_ | skip
        rw [tI_put _ _ _ _ _ _ _ _ _ (by decide)]
        have g : tI (x_at I 1266 26 0 (iI v)) q w 1266 26 0 = iI v := rfl
        first | refine x_aload_n hP rfl rfl ?_ | refine x_aload_nN hP rfl rfl ?_
        refine x_getI hP rfl (by first | assumption | rfl) (by first | assumption | exact hR _ _ _ _ rfl | exact hR1 _ _ _ _ rfl | exact hR2 _ _ _ _ rfl | rfl) ?_
        refine x_ldcI hP rfl ?_
        first | refine z_icmp_eq hP rfl (by omega) (by omega) (fun c93 => ?_) (fun c93 => ?_) | refine x_icmp_eq hP rfl (fun c93 => ?_) (fun c93 => ?_)
        · omega
        refine x_iconst hP rfl ?_
        refine x_goto hP rfl ?_
        refine x_istore_n hP rfl ?_
        refine x_goto hP rfl ?_
        refine z_iinc hP rfl rfl rfl ?_
        refine x_goto hP rfl ?_
        refine x_re hP [some (.ref 26), some (.ref (1000001 + f)), some (.int (bI true)), some (.int (iI (i + 1 : Nat)))] ⟨rfl, rfl, rfl, rfl, trivial⟩ (ih (i + 1) _ R (v, A.2.1, A.2.2.1, A.2.2.2) q w hlt hx2 (by omega) b4 ?_ (en_26 he _ _) (frP_at fi (by unfold rtF; omega)) fr hr k _ _)
        rw [tk]
        exact ⟨fun _ => ⟨rfl, b1, b2⟩, fun z => ha.2.1 (inA z (by decide)), fun z => ha.2.2.1 (inA z (by decide)), fun z => ha.2.2.2 (inA z (by decide))⟩
    · rw [if_neg (by decide), if_pos rfl] at k
      refine x_lsw (tg := 105) hP rfl (by decide +kernel) ?_
      first | refine x_aload_n hP rfl rfl ?_ | refine x_aload_nN hP rfl rfl ?_
      first | refine x_aload_n hP rfl rfl ?_ | refine x_aload_nN hP rfl rfl ?_
      refine x_getR hP rfl (by first | assumption | rfl) (by first | assumption | exact hR _ _ _ _ rfl | exact hR1 _ _ _ _ rfl | exact hR2 _ _ _ _ rfl | rfl) ?_
      first | refine x_aload_n hP rfl rfl ?_ | refine x_aload_nN hP rfl rfl ?_
      refine x_getR hP rfl (by first | assumption | rfl) (by first | assumption | exact hR _ _ _ _ rfl | exact hR1 _ _ _ _ rfl | exact hR2 _ _ _ _ rfl | rfl) ?_
      refine x_callV1 (ci := 8) hP 0 0 rfl rfl rfl (by first | assumption | rfl) rfl rfl rfl (Nat.zero_le _) (Nat.zero_le _) ?_
      have w3 := he.2.2.1.2.2.2.2.2.2.1
      have t98 := isTa_rg he.2.1
      refine c_mrk hP hR (isTr_of hR he.2.1) he.1 q2 (fun p' w' => ct_tI he.2.2.1 (by omega) p' w') ?_
      have rg := fun a q => mrkR_rg (T := zT Z) (c := c) (n := n) (p := p + 1) (a := a) (q := q) he.1.2.2.1 q2
      generalize mrkR (zT Z) c n (p + 1) = o at k rg ⊢
      match o, k, rg with
      | .inl e, k, _ =>
        intro q
        refine x_putI hP rfl (by first | assumption | rfl) ?_
        first | refine w_nI ?_ | refine w_nL ?_ | refine w_nR ?_ | refine w_mI ?_ | refine w_mL ?_ | refine w_mR ?_ | skip
        rw [tI_put _ _ _ _ _ _ _ _ _ (by decide)]
        have g : tI (x_at I 1267 26 0 (iI (-1))) q e 1267 26 0 = iI (-1) := rfl
        first | refine x_aload_n hP rfl rfl ?_ | refine x_aload_nN hP rfl rfl ?_
        refine x_getI hP rfl (by first | assumption | rfl) (by first | assumption | exact hR _ _ _ _ rfl | exact hR1 _ _ _ _ rfl | exact hR2 _ _ _ _ rfl | rfl) ?_
        refine z_if_lt hP rfl (by omega) (fun c124 => ?_) (fun c124 => ?_)
        · refine x_iconst hP rfl ?_
          refine x_istore_n hP rfl ?_
          refine x_goto hP rfl ?_
          refine z_iinc hP rfl rfl rfl ?_
          refine x_goto hP rfl ?_
          refine x_iload_n hP rfl rfl ?_
          first | refine zb_if_eq hP rfl (fun c5 => ?_) (fun c5 => ?_) | refine zl_if_eq hP rfl (fun c5 => ?_) (fun c5 => ?_) | refine z_if_eq hP rfl (by omega) (fun c5 => ?_) (fun c5 => ?_)
          · refine x_iload_n hP rfl rfl ?_
            refine x_zret hP rfl rfl (by first | exact Or.inl iI_0 | exact Or.inr iI_1 | exact bI_or _ | assumption) ?_
            exact k _ R q (en_26 he _ _) (frP_at fi (by unfold rtF; omega)) fr hr
          · exact absurd rfl c5
        · omega
      | .inr (v, q), k, rg =>
        have ⟨b1, b2, b3⟩ := rg v q rfl
        show P _ _ _ _ (Value.int (iI (v : Nat)) :: _) _ _ _ _
        refine x_putI hP rfl (by first | assumption | rfl) ?_
        first | refine w_nI ?_ | refine w_nL ?_ | refine w_nR ?_ | refine w_mI ?_ | refine w_mL ?_ | refine w_mR ?_ | skip
        rw [tI_put _ _ _ _ _ _ _ _ _ (by decide)]
        have g : tI (x_at I 1267 26 0 (iI (v : Nat))) q w 1267 26 0 = iI (v : Nat) := rfl
        first | refine x_aload_n hP rfl rfl ?_ | refine x_aload_nN hP rfl rfl ?_
        refine x_getI hP rfl (by first | assumption | rfl) (by first | assumption | exact hR _ _ _ _ rfl | exact hR1 _ _ _ _ rfl | exact hR2 _ _ _ _ rfl | rfl) ?_
        refine z_if_lt hP rfl (by omega) (fun c124 => ?_) (fun c124 => ?_)
        · omega
        refine x_iconst hP rfl ?_
        refine x_goto hP rfl ?_
        refine x_istore_n hP rfl ?_
        refine x_goto hP rfl ?_
        refine z_iinc hP rfl rfl rfl ?_
        refine x_goto hP rfl ?_
        refine x_re hP [some (.ref 26), some (.ref (1000001 + f)), some (.int (bI true)), some (.int (iI (i + 1 : Nat)))] ⟨rfl, rfl, rfl, rfl, trivial⟩ (ih (i + 1) _ R (A.1, v, A.2.2.1, A.2.2.2) q w hlt hx2 (by omega) b2 ?_ (en_26 he _ _) (frP_at fi (by unfold rtF; omega)) fr hr k _ _)
        rw [tk]
        exact ⟨fun z => ha.1 (inA z (by decide)), fun _ => ⟨rfl, by show v < 3; omega⟩, fun z => ha.2.2.1 (inA z (by decide)), fun z => ha.2.2.2 (inA z (by decide))⟩
    · rw [if_neg (by decide), if_neg (by decide), if_pos rfl] at k
      refine x_lsw (tg := 136) hP rfl (by decide +kernel) ?_
      first | refine x_aload_n hP rfl rfl ?_ | refine x_aload_nN hP rfl rfl ?_
      first | refine x_aload_n hP rfl rfl ?_ | refine x_aload_nN hP rfl rfl ?_
      refine x_getR hP rfl (by first | assumption | rfl) (by first | assumption | exact hR _ _ _ _ rfl | exact hR1 _ _ _ _ rfl | exact hR2 _ _ _ _ rfl | rfl) ?_
      refine x_callV0 (ci := 1) hP 0 0 rfl rfl rfl (by first | assumption | rfl) rfl rfl rfl (Nat.zero_le _) (Nat.zero_le _) ?_
      refine c_int hP hR he.1 q2 ?_
      have rg := fun v q => intR_rg (c := c) (n := n) (p := p + 1) he.1.2.2.1 q2 (v := v) (q := q)
      generalize intR c n (p + 1) = o at k rg ⊢
      match o, k, rg with
      | .inl e, k, _ =>
        intro q
        refine x_putI hP rfl (by first | assumption | rfl) ?_
        first | refine w_nI ?_ | refine w_nL ?_ | refine w_nR ?_ | refine w_mI ?_ | refine w_mL ?_ | refine w_mR ?_ | skip
        rw [tI_put _ _ _ _ _ _ _ _ _ (by decide)]
        have g : tI (x_at I 1268 26 0 (iI (-2000000000))) q e 1268 26 0 = iI (-2000000000) := rfl
        first | refine x_aload_n hP rfl rfl ?_ | refine x_aload_nN hP rfl rfl ?_
        refine x_getI hP rfl (by first | assumption | rfl) (by first | assumption | exact hR _ _ _ _ rfl | exact hR1 _ _ _ _ rfl | exact hR2 _ _ _ _ rfl | rfl) ?_
        refine x_ldcI hP rfl ?_
        first | refine z_icmp_eq hP rfl (by omega) (by omega) (fun c153 => ?_) (fun c153 => ?_) | refine x_icmp_eq hP rfl (fun c153 => ?_) (fun c153 => ?_)
        · refine x_iconst hP rfl ?_
          refine x_istore_n hP rfl ?_
          refine x_goto hP rfl ?_
          refine z_iinc hP rfl rfl rfl ?_
          refine x_goto hP rfl ?_
          refine x_iload_n hP rfl rfl ?_
          first | refine zb_if_eq hP rfl (fun c5 => ?_) (fun c5 => ?_) | refine zl_if_eq hP rfl (fun c5 => ?_) (fun c5 => ?_) | refine z_if_eq hP rfl (by omega) (fun c5 => ?_) (fun c5 => ?_)
          · refine x_iload_n hP rfl rfl ?_
            refine x_zret hP rfl rfl (by first | exact Or.inl iI_0 | exact Or.inr iI_1 | exact bI_or _ | assumption) ?_
            exact k _ R q (en_26 he _ _) (frP_at fi (by unfold rtF; omega)) fr hr
          · exact absurd rfl c5
        · exact absurd rfl c153
      | .inr (v, q), k, rg =>
        have ⟨b1, b2, b3, b4⟩ := rg v q rfl
        show P _ _ _ _ (Value.int (iI v) :: _) _ _ _ _
        refine x_putI hP rfl (by first | assumption | rfl) ?_
        first | refine w_nI ?_ | refine w_nL ?_ | refine w_nR ?_ | refine w_mI ?_ | refine w_mL ?_ | refine w_mR ?_ | skip
        rw [tI_put _ _ _ _ _ _ _ _ _ (by decide)]
        have g : tI (x_at I 1268 26 0 (iI v)) q w 1268 26 0 = iI v := rfl
        first | refine x_aload_n hP rfl rfl ?_ | refine x_aload_nN hP rfl rfl ?_
        refine x_getI hP rfl (by first | assumption | rfl) (by first | assumption | exact hR _ _ _ _ rfl | exact hR1 _ _ _ _ rfl | exact hR2 _ _ _ _ rfl | rfl) ?_
        refine x_ldcI hP rfl ?_
        first | refine z_icmp_eq hP rfl (by omega) (by omega) (fun c153 => ?_) (fun c153 => ?_) | refine x_icmp_eq hP rfl (fun c153 => ?_) (fun c153 => ?_)
        · omega
        refine x_iconst hP rfl ?_
        refine x_goto hP rfl ?_
        refine x_istore_n hP rfl ?_
        refine x_goto hP rfl ?_
        refine z_iinc hP rfl rfl rfl ?_
        refine x_goto hP rfl ?_
        refine x_re hP [some (.ref 26), some (.ref (1000001 + f)), some (.int (bI true)), some (.int (iI (i + 1 : Nat)))] ⟨rfl, rfl, rfl, rfl, trivial⟩ (ih (i + 1) _ R (A.1, A.2.1, v, A.2.2.2) q w hlt hx2 (by omega) b4 ?_ (en_26 he _ _) (frP_at fi (by unfold rtF; omega)) fr hr k _ _)
        rw [tk]
        exact ⟨fun z => ha.1 (inA z (by decide)), fun z => ha.2.1 (inA z (by decide)), fun _ => ⟨rfl, b1, b2⟩, fun z => ha.2.2.2 (inA z (by decide))⟩
    · rw [if_neg (by decide), if_neg (by decide), if_neg (by decide)] at k
      refine x_lsw (tg := 165) hP rfl (by decide +kernel) ?_
      first | refine x_aload_n hP rfl rfl ?_ | refine x_aload_nN hP rfl rfl ?_
      refine x_callV0 (ci := 4) hP 0 0 rfl rfl rfl (by first | assumption | rfl) rfl rfl rfl (Nat.zero_le _) (Nat.zero_le _) ?_
      refine c_readAct hP he hr q2 ?_
      have rg := actR_rg (c := c) (n := n) (p := p + 1) q2
      generalize actR c n (p + 1) = o at k rg ⊢
      match o, k, rg with
      | .inl e, k, _ =>
        intro q
        refine x_istore_n hP rfl ?_
        refine z_iinc hP rfl rfl rfl ?_
        refine x_goto hP rfl ?_
        refine x_iload_n hP rfl rfl ?_
        first | refine zb_if_eq hP rfl (fun c5 => ?_) (fun c5 => ?_) | refine zl_if_eq hP rfl (fun c5 => ?_) (fun c5 => ?_) | refine z_if_eq hP rfl (by omega) (fun c5 => ?_) (fun c5 => ?_)
        · refine x_iload_n hP rfl rfl ?_
          refine x_zret hP rfl rfl (by first | exact Or.inl iI_0 | exact Or.inr iI_1 | exact bI_or _ | assumption) ?_
          exact k I _ q he fi (frP_at fr (by unfold fA; omega)) (srR_at hr rfl (by decide) (by decide) (by decide) (by decide) (by decide))
        · cases c5
      | .inr (a, q), k, rg =>
        have ⟨a1, a2, a3⟩ := rg a q rfl
        show P _ _ _ _ (Value.int (bI true) :: _) _ _ _ _
        refine x_istore_n hP rfl ?_
        refine z_iinc hP rfl rfl rfl ?_
        refine x_goto hP rfl ?_
        refine x_re hP [some (.ref 26), some (.ref (1000001 + f)), some (.int (bI true)), some (.int (iI (i + 1 : Nat)))] ⟨rfl, rfl, rfl, rfl, trivial⟩ (ih (i + 1) I _ (A.1, A.2.1, A.2.2.1, a) q w hlt hx2 (by omega) a3 ?_ he fi (frP_at fr (by unfold fA; omega)) (srR_at hr rfl (by decide) (by decide) (by decide) (by decide) (by decide)) k _ _)
        rw [tk]
        exact ⟨fun z => ha.1 (inA z (by decide)), fun z => ha.2.1 (inA z (by decide)), fun z => ha.2.2.1 (inA z (by decide)), fun _ => ⟨rfl, a1⟩⟩
theorem c_readThings (hP : x_closed E P) (hE : x_is2 (some E.2.2) = false) {f : Nat} (hf : f < 12) {I : x_M Int32} {R : x_M (Option Nat)} {p : Nat} (hp : p ≤ n) (he : En I J t n c Z) (hr : srR R σ t) (k : rtPost Q I J R σ t n c Z (thg f) p (thgR Z c n (thg f) (0, 0, 0, 0) p)) : P 75 (d + 4) 0 (x_la 0 [.ref 26, .ref (1000001 + f)]) [] (x_hp (tI I p w) J R) rc rs Q := by
  refine x_iconst hP rfl ?_
  refine x_istore_n hP rfl ?_
  refine x_iconst hP rfl ?_
  refine x_istore_n hP rfl ?_
  exact x_re hP [some (.ref 26), some (.ref (1000001 + f)), some (.int (bI true)), some (.int (iI (0 : Nat)))] ⟨rfl, rfl, rfl, rfl, trivial⟩ (c_readThings_loop hP hE hf (thg f) 0 I R (0, 0, 0, 0) p w (Nat.zero_le _) rfl (Nat.le_refl _) hp ⟨fun h => absurd h List.not_mem_nil, fun h => absurd h List.not_mem_nil, fun h => absurd h List.not_mem_nil, fun h => absurd h List.not_mem_nil⟩ he (frP_refl _ _) (frP_refl _ _) hr k _ _)
end
