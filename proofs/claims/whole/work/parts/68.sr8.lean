/-! SetReader: SETS, all -/
section
variable {E : x_E} {P : x_Pr} {d rc rs : Nat} {Q : x_Q} {t n : Nat} {c : Nat → Nat} {Z : x_Z} {B : Int} {lv : Nat}
theorem c_readSet_loop (hP : x_closed E P) (hl6 : lv < 6) (hB2 : B < 2147483000) {item : Nat → Bool → x_RS} (hm : mono item) (hitem : rdC P 65 (d + 7) 1 lv (SI lv) t n c Z item) {I0 : x_M Int32} {J0 : x_M Int64} {R0 : x_M (Option Nat)} {σ0 : Nat → Nat → Nat} : ∀ (f i : Nat) (I : x_M Int32) (J : x_M Int64) (R : x_M (Option Nat)) (σ : Nat → Nat → Nat) (V : x_V) (l : List Nat) (tn : Int) (tm : Bool) (p : Nat) (w : Int), i + f = 2000 → En I J t n c Z → frP (fun _ a _ => fA a) I0 I → frP (fun _ a _ => fA a) J0 J → frP (fun _ a _ => fA a) R0 R → srR R σ t → srI I tn tm → p ≤ n → tn + 2 * ((n : Int) - p) ≤ B → prt (SS lv) σ0 σ I0 I → rw I (σ 0 lv) V.1 l → vV (zT Z) (V.1, l) → (tm = false → l = V.2) → sPost Q I0 J0 R0 σ0 t n c Z 0 lv (SS lv) B (setL c n item f V tm p) → ∀ rc rs, P 64 (d + 8) 62 (x_ls [some (.ref 26), some (.int (iI lv)), some (.ref (σ 0 lv)), some (.int (iI i)), none, none]) [] (x_hp (tI I p w) J R) rc rs Q := by
  intro f
  induction f with
  | zero =>
    intro i I J R σ V l tn tm p w hi he f1 f2 f3 hr hs hp hB hpr hw hv hl k rc rs
    unfold setL at k
    refine x_iload_n hP rfl rfl ?_
    refine x_sipush hP rfl ?_
    refine z_icmp_ge hP rfl (by omega) (by omega) (fun c66 => ?_) (fun c66 => ?_)
    · refine x_iconst hP rfl ?_
      refine x_zret hP rfl rfl (by first | exact Or.inl iI_0 | exact Or.inr iI_1 | exact bI_or _ | assumption) ?_
      exact k hp I J R σ tn l w he f1 f2 f3 hr hs hB hpr hw hv hl
    · omega
  | succ f ih =>
    intro i I J R σ V l tn tm p w hi he f1 f2 f3 hr hs hp hB hpr hw hv hl k rc rs
    have ⟨hR, r2, r3, r4, r5, r6, r7⟩ := hr
    have cr := ch_rg (n := n) he.1.2.2.1 p
    unfold setL at k
    refine x_iload_n hP rfl rfl ?_
    refine x_sipush hP rfl ?_
    refine z_icmp_ge hP rfl (by omega) (by omega) (fun c66 => ?_) (fun c66 => ?_)
    · omega
    first | refine x_aload_n hP rfl rfl ?_ | refine x_aload_nN hP rfl rfl ?_
    refine x_getR hP rfl (by first | assumption | rfl) (by first | assumption | exact hR _ _ _ _ rfl | exact hR1 _ _ _ _ rfl | exact hR2 _ _ _ _ rfl | rfl) ?_
    refine x_callV0 (ci := 1) hP 0 0 rfl rfl rfl (by first | assumption | rfl) rfl rfl rfl (Nat.zero_le _) (Nat.zero_le _) ?_
    refine c_peek hP hR he.1 hp ?_
    refine x_callS1 hP 0 0 rfl rfl rfl rfl rfl (Nat.zero_le _) (Nat.zero_le _) ?_
    refine c_isSign hP (by omega) ?_
    first | refine zb_if_eq hP rfl (fun c79 => ?_) (fun c79 => ?_) | refine zl_if_eq hP rfl (fun c79 => ?_) (fun c79 => ?_) | refine z_if_eq hP rfl (by omega) (fun c79 => ?_) (fun c79 => ?_)
    · rw [if_neg (by rw [c79]; decide)] at k
      refine x_iconst hP rfl ?_
      refine x_zret hP rfl rfl (by first | exact Or.inl iI_0 | exact Or.inr iI_1 | exact bI_or _ | assumption) ?_
      exact k hp I J R σ tn l w he f1 f2 f3 hr hs hB hpr hw hv hl
    rw [if_pos c79] at k
    have hlt : p < n := by
      have c79 := of_decide_eq_true c79
      unfold ch at c79; split at c79 <;> omega
    first | refine x_aload_n hP rfl rfl ?_ | refine x_aload_nN hP rfl rfl ?_
    refine x_getR hP rfl (by first | assumption | rfl) (by first | assumption | exact hR _ _ _ _ rfl | exact hR1 _ _ _ _ rfl | exact hR2 _ _ _ _ rfl | rfl) ?_
    refine x_callV0 (ci := 1) hP 0 0 rfl rfl rfl (by first | assumption | rfl) rfl rfl rfl (Nat.zero_le _) (Nat.zero_le _) ?_
    refine c_peek hP hR he.1 hp ?_
    refine x_istore hP rfl ?_
    first | refine x_aload_n hP rfl rfl ?_ | refine x_aload_nN hP rfl rfl ?_
    refine x_getR hP rfl (by first | assumption | rfl) (by first | assumption | exact hR _ _ _ _ rfl | exact hR1 _ _ _ _ rfl | exact hR2 _ _ _ _ rfl | rfl) ?_
    refine x_callV0 (ci := 1) hP 0 0 rfl rfl rfl (by first | assumption | rfl) rfl rfl rfl (Nat.zero_le _) (Nat.zero_le _) ?_
    refine c_step hP he.1 hlt ?_
    first | refine x_aload_n hP rfl rfl ?_ | refine x_aload_nN hP rfl rfl ?_
    refine x_getR hP rfl (by first | assumption | rfl) (by first | assumption | exact hR _ _ _ _ rfl | exact hR1 _ _ _ _ rfl | exact hR2 _ _ _ _ rfl | rfl) ?_
    refine x_callV0 (ci := 1) hP 0 0 rfl rfl rfl (by first | assumption | rfl) rfl rfl rfl (Nat.zero_le _) (Nat.zero_le _) ?_
    refine c_at hP ?_
    refine x_istore hP rfl ?_
    first | refine x_aload_n hP rfl rfl ?_ | refine x_aload_nN hP rfl rfl ?_
    refine x_iload_n hP rfl rfl ?_
    refine x_callV1 (ci := 4) hP 0 0 rfl rfl rfl (by first | assumption | rfl) rfl rfl rfl (Nat.zero_le _) (Nat.zero_le _) ?_
    refine hitem I J R σ tn tm (p + 1) w (B - 2) _ _ _ he hr hs hlt (by omega) (by omega) ?_
    have mn := fun V tm' q => hm (p + 1) tm V tm' q
    generalize item (p + 1) tm = oo at k mn ⊢
    generalize ch c n p = sg at k c79 cr ⊢
    match oo, k, mn with
    | .inl e, k, _ =>
      intro I' J' R' σ' tn' tm' p' he' g1 g2 g3 hr' hi' hB'
      first | refine zb_if_ne hP rfl (fun c112 => ?_) (fun c112 => ?_) | refine zl_if_ne hP rfl (fun c112 => ?_) (fun c112 => ?_) | refine z_if_ne hP rfl (by omega) (fun c112 => ?_) (fun c112 => ?_)
      · cases c112
      refine x_iconst hP rfl ?_
      refine x_zret hP rfl rfl (by first | exact Or.inl iI_0 | exact Or.inr iI_1 | exact bI_or _ | assumption) ?_
      exact sP_err k he' (frP_trans f1 g1) (frP_trans f2 g2) (frP_trans f3 g3) hr' hi' (by omega) _
    | .inr ((W, tm'), q), k, mn =>
      intro hq I1 J1 R1 σ1 tn1 l1 w1 he1 g1 g2 g3 hr1 hi1 hB1 hpr1 hw1 hv1 hl1
      dsimp only at k
      have mn := mn W tm' q rfl
      have ⟨hR1, s2, s3, s4, s5, s6, s7⟩ := hr1
      have e1 : σ1 0 lv = σ 0 lv := (hpr1 0 lv (by decide) hl6 (Or.inr ⟨rfl, by decide⟩)).1
      have hwf : rw I1 (σ1 0 lv) V.1 l := prt_rw hpr1 (by decide) hl6 (Or.inr ⟨rfl, by decide⟩) hw
      have hs1 := s6.1 0 lv (by decide) hl6
      have hs2 := s6.1 1 lv (by decide) hl6
      have isr1 := isRw_of hR1 (s18_rows hs1)
      have isr2 := isRw_of hR1 (s18_rows hs2)
      have kr1 := isr1.1
      have kr2 := isr2.1
      have nee : ¬ σ1 0 lv = σ1 1 lv := fun z => by have := (s6.2 0 lv 1 lv (by decide) hl6 (by decide) hl6 z).1; omega
      have v2 : R1 7 28 lv = some (σ1 1 lv) := s5 1 lv (by decide) hl6
      have tI1 : ∀ {r o l}, s18 r → rw I1 r o l → rw (tI I1 q w1) r o l := fun hs h => rw_fr h (tI_fr _ _ _) fun k a i q => by have := rg_a q; unfold s18 at hs; omega
      have tI2 := tI1 hs1 hwf
      have tI3 := tI1 hs2 hw1
      rw [← e1]
      first | refine zb_if_ne hP rfl (fun c112 => ?_) (fun c112 => ?_) | refine zl_if_ne hP rfl (fun c112 => ?_) (fun c112 => ?_) | refine z_if_ne hP rfl (by omega) (fun c112 => ?_) (fun c112 => ?_)
      rotate_left
      · cases c112
      first | refine x_aload_n hP rfl rfl ?_ | refine x_aload_nN hP rfl rfl ?_
      first | refine x_aload_n hP rfl rfl ?_ | refine x_aload_nN hP rfl rfl ?_
      refine x_getR hP rfl (by first | assumption | rfl) (by first | assumption | exact hR _ _ _ _ rfl | exact hR1 _ _ _ _ rfl | exact hR2 _ _ _ _ rfl | rfl) ?_
      refine x_iload_n hP rfl rfl ?_
      refine z_aald hP rfl (by first | assumption | rfl) (by decide) (by omega) (by decide) (by decide) rfl (by first | assumption | exact hR _ _ _ _ rfl | exact hR1 _ _ _ _ rfl | exact hR2 _ _ _ _ rfl | rfl) ?_
      refine x_callV1 (ci := 3) hP 0 0 rfl rfl rfl (by first | assumption | rfl) rfl rfl rfl (Nat.zero_le _) (Nat.zero_le _) ?_
      refine c_same hP isr1 tI2 isr2 tI3 ?_
      first | refine zb_if_ne hP rfl (fun c127 => ?_) (fun c127 => ?_) | refine zl_if_ne hP rfl (fun c127 => ?_) (fun c127 => ?_) | refine z_if_ne hP rfl (by omega) (fun c127 => ?_) (fun c127 => ?_)
      rotate_left
      · rw [if_neg (of_decide_eq_false c127)] at k
        first | refine x_aload_n hP rfl rfl ?_ | refine x_aload_nN hP rfl rfl ?_
        refine x_getR hP rfl (by first | assumption | rfl) (by first | assumption | exact hR _ _ _ _ rfl | exact hR1 _ _ _ _ rfl | exact hR2 _ _ _ _ rfl | rfl) ?_
        refine x_iload hP rfl rfl ?_
        refine x_callV1 (ci := 1) hP 0 0 rfl rfl rfl (by first | assumption | rfl) rfl rfl rfl (Nat.zero_le _) (Nat.zero_le _) ?_
        refine c_fail hP ?_
        refine x_zret hP rfl rfl (by first | exact Or.inl iI_0 | exact Or.inr iI_1 | exact bI_or _ | assumption) ?_
        exact sP_err k he1 (frP_trans f1 g1) (frP_trans f2 g2) (frP_trans f3 g3) hr1 hi1 (by omega) _
      have eo : V.1 = W.1 := of_decide_eq_true c127
      rw [if_pos eo] at k
      rw [← eo] at hv1
      first | refine x_aload_n hP rfl rfl ?_ | refine x_aload_nN hP rfl rfl ?_
      refine x_getR hP rfl (by first | assumption | rfl) (by first | assumption | exact hR _ _ _ _ rfl | exact hR1 _ _ _ _ rfl | exact hR2 _ _ _ _ rfl | rfl) ?_
      first | refine x_aload_n hP rfl rfl ?_ | refine x_aload_nN hP rfl rfl ?_
      first | refine x_aload_n hP rfl rfl ?_ | refine x_aload_nN hP rfl rfl ?_
      refine x_getR hP rfl (by first | assumption | rfl) (by first | assumption | exact hR _ _ _ _ rfl | exact hR1 _ _ _ _ rfl | exact hR2 _ _ _ _ rfl | rfl) ?_
      refine x_iload_n hP rfl rfl ?_
      refine z_aald hP rfl (by first | assumption | rfl) (by decide) (by omega) (by decide) (by decide) rfl (by first | assumption | exact hR _ _ _ _ rfl | exact hR1 _ _ _ _ rfl | exact hR2 _ _ _ _ rfl | rfl) ?_
      refine x_iload hP rfl rfl ?_
      refine x_callV3 (ci := 5) hP 0 0 rfl rfl rfl (by first | assumption | rfl) rfl rfl rfl (Nat.zero_le _) (Nat.zero_le _) ?_
      refine c_join hP hR1 (s18_rows hs1) (s18_rows hs2) nee (fun z => by unfold s18 at hs1; omega) (fun z => by unfold s18 at hs2; omega) c79 tI2 tI3 (srI_tI hi1 q w1).1 (by omega) (fun I2 tn2 m1 m3 m4 m2 => ?_)
      have jr : ∀ a, jS (σ1 0 lv) (σ1 1 lv) a → 26 ≤ a ∧ a ≤ 96 ∧ ¬ a = 26 := fun a z => by unfold jS jA at z; unfold s18 at hs1 hs2; omega
      have ⟨e2, e3, e4⟩ := en_fr (S' := fun _ _ _ => False) (J1 := J1) he1 m2 (frP_refl _ _) (fun k a i q => by have := jr a q; omega) (fun _ _ _ q => q.elim)
      have hi2 : srI I2 tn2 tm' := ⟨m4, ((m2 _ _ _ fun z => (jr _ z).2.2 rfl).trans (tI_hi _ _ _ (by decide))).trans hi1.2⟩
      have p2 : prt (SS lv) σ0 σ1 I0 I2 := prt_trans hpr (prt_trans (prt_mono hpr1 fun b j z => by unfold SS at z; unfold SI; omega) (fun b j hb hj z => ⟨rfl, fun k a i h1 h2 => by
        unfold SS at z
        have n1 : ¬ σ1 b j = σ1 0 lv := fun zz => by have := (s6.2 b j 0 lv hb hj (by decide) hl6 zz).2; omega
        have n2 : ¬ σ1 b j = σ1 1 lv := fun zz => by have := (s6.2 b j 1 lv hb hj (by decide) hl6 zz).2; omega
        have s0 := s6.1 b j hb hj
        rw [m2 k a i fun zz => by unfold jS jA at zz; unfold s18 at s0 hs1 hs2; omega, tI_hi _ _ _ (by unfold s18 at s0; omega)]⟩))
      have lt : tm' = false → l = V.2 ∧ l1 = W.2 := fun z => ⟨hl (mn z), hl1 z⟩
      have vj := vV_join (l' := (joinL sg l l1).take 200) (sg := sg) hv hv1 fun x hx => List.mem_of_mem_take hx
      by_cases b : (joinL sg l l1).length ≤ 200
      · rw [decide_eq_true b]
        have te : (tm' || decide (200 < (joinL sg V.2 W.2).length)) = tm' := by
          cases tm' with
          | true => rfl
          | false => have ⟨z1, z2⟩ := lt rfl; rw [← z1, ← z2, decide_eq_false (by omega)]; rfl
        rw [te] at k
        first | refine zb_if_ne hP rfl (fun c156 => ?_) (fun c156 => ?_) | refine zl_if_ne hP rfl (fun c156 => ?_) (fun c156 => ?_) | refine z_if_ne hP rfl (by omega) (fun c156 => ?_) (fun c156 => ?_)
        rotate_left
        · cases c156
        rw [← e2]
        refine z_iinc hP rfl rfl rfl ?_
        refine x_goto hP rfl ?_
        refine x_re hP [some (.ref 26), some (.int (iI lv)), some (.ref (σ1 0 lv)), some (.int (iI (i + 1 : Nat))), none, none] ⟨rfl, rfl, rfl, rfl, trivial⟩ (ih (i + 1) I2 J1 R1 σ1 (V.1, joinL sg V.2 W.2) _ tn2 tm' q w1 (by omega) e3 (frP_trans f1 (frP_trans g1 e4)) (frP_trans f2 g2) (frP_trans f3 g3) hr1 hi2 hq (by omega) p2 m1 vj (fun z => by have ⟨z1, z2⟩ := lt z; rw [List.take_of_length_le b, z1, z2]) k _ _)
      · rw [decide_eq_false b]
        have te : (tm' || decide (200 < (joinL sg V.2 W.2).length)) = true := by
          cases tm' with
          | true => rfl
          | false => have ⟨z1, z2⟩ := lt rfl; rw [← z1, ← z2, decide_eq_true (by omega)]; rfl
        rw [te] at k
        first | refine zb_if_ne hP rfl (fun c156 => ?_) (fun c156 => ?_) | refine zl_if_ne hP rfl (fun c156 => ?_) (fun c156 => ?_) | refine z_if_ne hP rfl (by omega) (fun c156 => ?_) (fun c156 => ?_)
        · cases c156
        rw [← e2]
        first | refine x_aload_n hP rfl rfl ?_ | refine x_aload_nN hP rfl rfl ?_
        refine x_iconst hP rfl ?_
        refine x_putZ hP rfl (by first | assumption | rfl) (by first | exact Or.inl rfl | exact Or.inr rfl | assumption) ?_
        first | refine w_nI ?_ | refine w_nL ?_ | refine w_nR ?_ | refine w_mI ?_ | refine w_mL ?_ | refine w_mR ?_ | skip
        rw [tI_put _ _ _ _ _ _ _ _ _ (by decide)]
        refine z_iinc hP rfl rfl rfl ?_
        refine x_goto hP rfl ?_
        refine x_re hP [some (.ref 26), some (.int (iI lv)), some (.ref (σ1 0 lv)), some (.int (iI (i + 1 : Nat))), none, none] ⟨rfl, rfl, rfl, rfl, trivial⟩ (ih (i + 1) _ J1 R1 σ1 (V.1, joinL sg V.2 W.2) _ tn2 true q w1 (by omega) (en_26 e3 _ _) (frP_at (frP_trans f1 (frP_trans g1 e4)) (by unfold fA; omega)) (frP_trans f2 g2) (frP_trans f3 g3) hr1 (srI_tm hi2) hq (by omega) (prt_trans p2 (prt_26 s6)) (rw_26 hs1 m1) vj (fun z => by cases z) k _ _)
theorem c_readSet (hP : x_closed E P) (hl6 : lv < 6) {item : Nat → Bool → x_RS} (hm : mono item) (hitem : rdC P 65 (d + 7) 1 lv (SI lv) t n c Z item) : rdC P 64 (d + 8) 0 lv (SS lv) t n c Z (stR c n item) := by
  intro I J R σ tn tm p w B Q rc rs he hr hi hp hB hB2 k
  unfold stR at k
  refine x_iload_n hP rfl rfl ?_
  refine z_if_lt hP rfl (by omega) (fun c1 => ?_) (fun c1 => ?_)
  · omega
  refine x_iload_n hP rfl rfl ?_
  refine x_iconst hP rfl ?_
  refine z_icmp_le hP rfl (by omega) (by omega) (fun c6 => ?_) (fun c6 => ?_)
  rotate_left
  · omega
  first | refine x_aload_n hP rfl rfl ?_ | refine x_aload_nN hP rfl rfl ?_
  refine x_iload_n hP rfl rfl ?_
  refine x_callV1 (ci := 4) hP 0 0 rfl rfl rfl (by first | assumption | rfl) rfl rfl rfl (Nat.zero_le _) (Nat.zero_le _) ?_
  refine hitem I J R σ tn tm p w B _ _ _ he hr hi hp hB hB2 ?_
  generalize item p tm = oo at k ⊢
  match oo, k with
  | .inl e, k =>
    intro I' J' R' σ' tn' tm' p' he' g1 g2 g3 hr' hi' hB'
    first | refine zb_if_ne hP rfl (fun c29 => ?_) (fun c29 => ?_) | refine zl_if_ne hP rfl (fun c29 => ?_) (fun c29 => ?_) | refine z_if_ne hP rfl (by omega) (fun c29 => ?_) (fun c29 => ?_)
    · cases c29
    refine x_iconst hP rfl ?_
    refine x_zret hP rfl rfl (by first | exact Or.inl iI_0 | exact Or.inr iI_1 | exact bI_or _ | assumption) ?_
    exact sP_err k he' g1 g2 g3 hr' hi' hB' _
  | .inr ((V, tm'), q), k =>
    intro hq I1 J1 R1 σ1 tn1 l1 w1 he1 g1 g2 g3 hr1 hi1 hB1 hpr1 hw1 hv1 hl1
    dsimp only at k
    have ⟨hR1, s2, s3, s4, s5, s6, s7⟩ := hr1
    have v1 : R1 7 27 lv = some (σ1 0 lv) := s5 0 lv (by decide) hl6
    have v2 : R1 7 28 lv = some (σ1 1 lv) := s5 1 lv (by decide) hl6
    have kr1 := (isRw_of hR1 (s18_rows (s6.1 0 lv (by decide) hl6))).1
    have kr2 := (isRw_of hR1 (s18_rows (s6.1 1 lv (by decide) hl6))).1
    have hr2 := srR_swp (b1 := 1) (j1 := lv) (b2 := 0) (j2 := lv) hr1 (by decide) hl6 (by decide) hl6 rfl rfl
    first | refine zb_if_ne hP rfl (fun c29 => ?_) (fun c29 => ?_) | refine zl_if_ne hP rfl (fun c29 => ?_) (fun c29 => ?_) | refine z_if_ne hP rfl (by omega) (fun c29 => ?_) (fun c29 => ?_)
    rotate_left
    · cases c29
    first | refine x_aload_n hP rfl rfl ?_ | refine x_aload_nN hP rfl rfl ?_
    refine x_getR hP rfl (by first | assumption | rfl) (by first | assumption | exact hR _ _ _ _ rfl | exact hR1 _ _ _ _ rfl | exact hR2 _ _ _ _ rfl | rfl) ?_
    refine x_iload_n hP rfl rfl ?_
    refine z_aald hP rfl (by first | assumption | rfl) (by decide) (by omega) (by decide) (by decide) rfl (by first | assumption | exact hR _ _ _ _ rfl | exact hR1 _ _ _ _ rfl | exact hR2 _ _ _ _ rfl | rfl) ?_
    first | refine x_astore_n hP rfl ?_ | refine x_astore_nN hP rfl ?_
    first | refine x_aload_n hP rfl rfl ?_ | refine x_aload_nN hP rfl rfl ?_
    refine x_getR hP rfl (by first | assumption | rfl) (by first | assumption | exact hR _ _ _ _ rfl | exact hR1 _ _ _ _ rfl | exact hR2 _ _ _ _ rfl | rfl) ?_
    refine x_iload_n hP rfl rfl ?_
    first | refine x_aload_n hP rfl rfl ?_ | refine x_aload_nN hP rfl rfl ?_
    refine x_getR hP rfl (by first | assumption | rfl) (by first | assumption | exact hR _ _ _ _ rfl | exact hR1 _ _ _ _ rfl | exact hR2 _ _ _ _ rfl | rfl) ?_
    refine x_iload_n hP rfl rfl ?_
    refine z_aald hP rfl (by first | assumption | rfl) (by decide) (by omega) (by decide) (by decide) rfl (by first | assumption | exact hR _ _ _ _ rfl | exact hR1 _ _ _ _ rfl | exact hR2 _ _ _ _ rfl | rfl) ?_
    refine z_aast (ci := 3) hP rfl (by first | assumption | rfl) (by decide) (by omega) (by decide) (by decide) rfl rfl (by first | assumption | rfl) ?_
    first | refine w_nI ?_ | refine w_nL ?_ | refine w_nR ?_ | refine w_mI ?_ | refine w_mL ?_ | refine w_mR ?_ | skip
    first | refine x_aload_n hP rfl rfl ?_ | refine x_aload_nN hP rfl rfl ?_
    refine x_getR hP rfl (by first | assumption | rfl) (by first | assumption | exact hR _ _ _ _ rfl | exact hR1 _ _ _ _ rfl | exact hR2 _ _ _ _ rfl | rfl) ?_
    refine x_iload_n hP rfl rfl ?_
    first | refine x_aload_n hP rfl rfl ?_ | refine x_aload_nN hP rfl rfl ?_
    refine z_aast (ci := 3) hP rfl (by first | assumption | rfl) (by decide) (by omega) (by decide) (by decide) rfl rfl (by first | assumption | rfl) ?_
    first | refine w_nI ?_ | refine w_nL ?_ | refine w_nR ?_ | refine w_mI ?_ | refine w_mL ?_ | refine w_mR ?_ | skip
    refine x_iconst hP rfl ?_
    refine x_istore_n hP rfl ?_
    have e1 := swp_2 σ1 (b1 := 1) (j1 := lv) (b2 := 0) (j2 := lv) (by omega)
    refine x_re hP [some (.ref 26), some (.int (iI lv)), some (.ref (swp σ1 1 lv 0 lv 0 lv)), some (.int (iI (0 : Nat))), none, none] ⟨rfl, rfl, by rw [e1]; rfl, rfl, trivial⟩ (c_readSet_loop hP hl6 hB2 hm hitem 2000 0 I1 J1 _ (swp σ1 1 lv 0 lv) V l1 tn1 tm' q w1 (by omega) he1 g1 g2 (frP_at (frP_at g3 (by unfold fA; omega)) (by unfold fA; omega)) hr2 hi1 hq hB1 (prt_trans (prt_mono hpr1 fun b j z => by unfold SS at z; unfold SI; omega) (prt_sw fun b j z => by unfold SS at z; omega)) (by rw [e1]; exact hw1) hv1 hl1 k _ _)
def dq (d : Nat) : Nat → Nat
  | 0 => d
  | g + 1 => dq d g + 5
theorem c_lev (hP : x_closed E P) (hE : x_is2 (some E.2.2) = false) : ∀ g lv, lv + g = 5 → rdC P 64 (dq d g + 8) 0 lv (SS lv) t n c Z (levR Z c n g)
  | 0, lv, h => c_readSet hP (by omega) (mo_itm (mo_prt fun g h => by cases h)) (c_readItem hP (by omega) (mo_prt fun g h => by cases h) (c_readPart hP hE (fun _ => by omega) (fun g h => by cases h) (by omega)))
  | g + 1, lv, h => c_readSet (d := dq d g + 5) hP (by omega) (mo_itm (mo_prt fun g' h => by cases h; exact mo_lev g)) (c_readItem (d := dq d g + 5) hP (by omega) (mo_prt fun g' h => by cases h; exact mo_lev g) (c_readPart (d := dq d g + 5) hP hE (fun h => by cases h) (fun g' h2 => by cases h2; exact ⟨by omega, dq d g, rfl, c_lev hP hE g (lv + 1) (by omega)⟩) (by omega)))
/-- behind the reading of a text -/
def rdPost (Q : x_Q) (I : x_M Int32) (J : x_M Int64) (R : x_M (Option Nat)) (t n : Nat) (c : Nat → Nat) (Z : x_Z) (B : Int) (r : x_RS) : Prop := match r with
  | .inl e => ∀ I' J' R' σ' tn' tm' (p' : Nat), En I' J' t n c Z → frP (fun _ a _ => fA a) I I' → frP (fun _ a _ => fA a) J J' → frP (fun _ a _ => fA a) R R' → srR R' σ' t → srI I' tn' tm' → tn' ≤ B → Q (some .null) (x_hp (tI I' p' e) J' R')
  | .inr ((V, tm'), _) => ∀ I' J' R' σ' tn' l' w' (p' : Nat), En I' J' t n c Z → frP (fun _ a _ => fA a) I I' → frP (fun _ a _ => fA a) J J' → frP (fun _ a _ => fA a) R R' → srR R' σ' t → srI I' tn' tm' → tn' ≤ B → rw I' (σ' 0 0) V.1 l' → vV (zT Z) (V.1, l') → (tm' = false → l' = V.2) → Q (some (.ref (σ' 0 0))) (x_hp (tI I' p' w') J' R')
/-- a text as a SET: all of it -/
def setR (Z : x_Z) (c : Nat → Nat) (n : Nat) : x_RS := match levR Z c n 5 0 false with
  | .inl e => .inl e
  | .inr (V, q) => if q = n then .inr (V, q) else .inl q
theorem c_readAll (hP : x_closed E P) (hE : x_is2 (some E.2.2) = false) {I : x_M Int32} {J : x_M Int64} {R : x_M (Option Nat)} {σ : Nat → Nat → Nat} {tn w : Int} (he : En I J t n c Z) (hR : x_fin R) (hsl : sl R σ) (hpm : pm σ) (hso : ∃ a b, soR R a b) (hj : jnv I tn) (hB : tn + 2 * (n : Int) ≤ B) (hB2 : B < 2147483000) (k : rdPost Q I J R t n c Z B (setR Z c n)) : P 63 (dq d 5 + 9) 0 (x_la 0 [.ref 26, .ref 1, .ref t, .ref 7]) [] (x_hp (tI I (0 : Nat) w) J R) rc rs Q := by
  have tk := (isTr_of hR he.2.1).1
  unfold setR at k
  first | refine x_aload_n hP rfl rfl ?_ | refine x_aload_nN hP rfl rfl ?_
  first | refine x_aload_n hP rfl rfl ?_ | refine x_aload_nN hP rfl rfl ?_
  refine x_putR hP rfl (by first | assumption | rfl) ?_
  first | refine w_nI ?_ | refine w_nL ?_ | refine w_nR ?_ | refine w_mI ?_ | refine w_mL ?_ | refine w_mR ?_ | skip
  first | refine x_aload_n hP rfl rfl ?_ | refine x_aload_nN hP rfl rfl ?_
  first | refine x_aload_n hP rfl rfl ?_ | refine x_aload_nN hP rfl rfl ?_
  refine x_putR hP rfl (by first | assumption | rfl) ?_
  first | refine w_nI ?_ | refine w_nL ?_ | refine w_nR ?_ | refine w_mI ?_ | refine w_mL ?_ | refine w_mR ?_ | skip
  first | refine x_aload_n hP rfl rfl ?_ | refine x_aload_nN hP rfl rfl ?_
  first | refine x_aload_n hP rfl rfl ?_ | refine x_aload_nN hP rfl rfl ?_
  refine x_putR hP rfl (by first | assumption | rfl) ?_
  first | refine w_nI ?_ | refine w_nL ?_ | refine w_nR ?_ | refine w_mI ?_ | refine w_mL ?_ | refine w_mR ?_ | skip
  first | refine x_aload_n hP rfl rfl ?_ | refine x_aload_nN hP rfl rfl ?_
  refine x_iconst hP rfl ?_
  refine x_putZ hP rfl (by first | assumption | rfl) (by first | exact Or.inl rfl | exact Or.inr rfl | assumption) ?_
  first | refine w_nI ?_ | refine w_nL ?_ | refine w_nR ?_ | refine w_mI ?_ | refine w_mL ?_ | refine w_mR ?_ | skip
  rw [tI_put _ _ _ _ _ _ _ _ _ (by decide)]
  have hr1 : srR (x_at (x_at (x_at R 1262 26 0 (some 1)) 1263 26 0 (some t)) 1264 26 0 (some 7)) σ t := ⟨x_fin_at (x_fin_at (x_fin_at hR rfl) rfl) rfl, rfl, rfl, rfl, hsl, hpm, hso⟩
  have fr1 : frP (fun _ a _ => fA a) R (x_at (x_at (x_at R 1262 26 0 (some 1)) 1263 26 0 (some t)) 1264 26 0 (some 7)) := frP_at (frP_at (frP_at (frP_refl _ _) (by unfold fA; omega)) (by unfold fA; omega)) (by unfold fA; omega)
  have hi1 : srI (x_at I 1265 26 0 (iI 0)) tn false := ⟨jnv_fr2 (S := fun _ a _ => a = 26) hj (frP_at (frP_refl _ _) rfl) fun k a i q => by unfold jA; omega, by rw [x_at_eq, if_pos ⟨rfl, rfl, rfl⟩]; rfl⟩
  have fi1 : frP (fun _ a _ => fA a) I (x_at I 1265 26 0 (iI 0)) := frP_at (frP_refl _ _) (by unfold fA; omega)
  have he1 := en_26 he 1265 (iI 0)
  generalize (x_at (x_at (x_at R 1262 26 0 (some 1)) 1263 26 0 (some t)) 1264 26 0 (some 7)) = R1 at hr1 fr1 ⊢
  generalize x_at I 1265 26 0 (iI 0) = I1 at hi1 fi1 he1 ⊢
  first | refine x_aload_n hP rfl rfl ?_ | refine x_aload_nN hP rfl rfl ?_
  refine x_iconst hP rfl ?_
  refine x_callV1 (ci := 4) hP 0 0 rfl rfl rfl (by first | assumption | rfl) rfl rfl rfl (Nat.zero_le _) (Nat.zero_le _) ?_
  refine c_lev hP hE 5 0 rfl I1 J R1 σ tn false 0 w B _ _ _ he1 hr1 hi1 (Nat.zero_le _) (by omega) hB2 ?_
  generalize levR Z c n 5 0 false = oo at k ⊢
  match oo, k with
  | .inl e, k =>
    intro I' J' R' σ' tn' tm' p' he' g1 g2 g3 hr' hi' hB'
    first | refine zb_if_eq hP rfl (fun c25 => ?_) (fun c25 => ?_) | refine zl_if_eq hP rfl (fun c25 => ?_) (fun c25 => ?_) | refine z_if_eq hP rfl (by omega) (fun c25 => ?_) (fun c25 => ?_)
    rotate_left
    · cases c25
    refine x_null hP rfl ?_
    exact x_aret hP (r := none) rfl rfl (k I' J' R' σ' tn' tm' p' he' (frP_trans fi1 g1) g2 (frP_trans fr1 g3) hr' hi' hB')
  | .inr ((V, tm'), q), k =>
    intro hq I2 J2 R2 σ2 tn2 l2 w2 he2 g1 g2 g3 hr2 hi2 hB3 hpr2 hw2 hv2 hl2
    dsimp only at k
    have ⟨hR2, s2, s3, s4, s5, s6, s7⟩ := hr2
    have v2 : R2 7 27 0 = some (σ2 0 0) := s5 0 0 (by decide) (by decide)
    first | refine zb_if_eq hP rfl (fun c25 => ?_) (fun c25 => ?_) | refine zl_if_eq hP rfl (fun c25 => ?_) (fun c25 => ?_) | refine z_if_eq hP rfl (by omega) (fun c25 => ?_) (fun c25 => ?_)
    · cases c25
    first | refine x_aload_n hP rfl rfl ?_ | refine x_aload_nN hP rfl rfl ?_
    refine x_getR hP rfl (by first | assumption | rfl) (by first | assumption | exact hR _ _ _ _ rfl | exact hR1 _ _ _ _ rfl | exact hR2 _ _ _ _ rfl | rfl) ?_
    refine x_callV0 (ci := 1) hP 0 0 rfl rfl rfl (by first | assumption | rfl) rfl rfl rfl (Nat.zero_le _) (Nat.zero_le _) ?_
    refine c_isAtEnd hP he2.1 hq (fun z => ?_) (fun z => ?_)
    · rw [if_pos z] at k
      first | refine zb_if_eq hP rfl (fun c35 => ?_) (fun c35 => ?_) | refine zl_if_eq hP rfl (fun c35 => ?_) (fun c35 => ?_) | refine z_if_eq hP rfl (by omega) (fun c35 => ?_) (fun c35 => ?_)
      · cases c35
      first | refine x_aload_n hP rfl rfl ?_ | refine x_aload_nN hP rfl rfl ?_
      refine x_getR hP rfl (by first | assumption | rfl) (by first | assumption | exact hR _ _ _ _ rfl | exact hR1 _ _ _ _ rfl | exact hR2 _ _ _ _ rfl | rfl) ?_
      refine x_iconst hP rfl ?_
      refine z_aald hP rfl (by first | assumption | rfl) (by decide) (by omega) (by decide) (by decide) rfl (by first | assumption | exact hR _ _ _ _ rfl | exact hR1 _ _ _ _ rfl | exact hR2 _ _ _ _ rfl | rfl) ?_
      refine x_goto hP rfl ?_
      exact x_aret hP (r := some _) rfl rfl (k I2 J2 R2 σ2 tn2 l2 w2 q he2 (frP_trans fi1 g1) g2 (frP_trans fr1 g3) hr2 hi2 (by omega) hw2 hv2 hl2)
    · rw [if_neg (by omega)] at k
      first | refine zb_if_eq hP rfl (fun c35 => ?_) (fun c35 => ?_) | refine zl_if_eq hP rfl (fun c35 => ?_) (fun c35 => ?_) | refine z_if_eq hP rfl (by omega) (fun c35 => ?_) (fun c35 => ?_)
      rotate_left
      · cases c35
      refine x_null hP rfl ?_
      exact x_aret hP (r := none) rfl rfl (k I2 J2 R2 σ2 tn2 tm' q he2 (frP_trans fi1 g1) g2 (frP_trans fr1 g3) hr2 hi2 (by omega))
end
