/-! SetReader: FUNCTIONS, { and NAMES -/
theorem appL_fst (Z : x_Z) (f : Nat) (A : x_AR) (o l l' : List Nat) : (appL Z f A (o, l)).1 = (appL Z f A (o, l')).1 := by
  unfold appL
  split <;> rfl
theorem srI_rt {I I1 : x_M Int32} {tn : Int} {tm : Bool} (h : srI I tn tm) (hf : frP rtF I I1) : srI I1 tn tm := ⟨jnv_fr2 h.1 hf fun k a i q => by unfold rtF at q; unfold jA; omega, (hf _ _ _ fun q => q.2 rfl).trans h.2⟩
theorem rt_fA {I I1 : x_M Int32} (hf : frP rtF I I1) : frP (fun _ a _ => fA a) I I1 := frP_mono hf fun k a i q => by unfold rtF at q; unfold fA; omega
theorem prt_rt {S : Nat → Nat → Prop} {σ : Nat → Nat → Nat} {I I1 : x_M Int32} (hm : pm σ) (hf : frP rtF I I1) : prt S σ σ I I1 := fun b j hb hj _ => ⟨rfl, fun k a i h1 h2 => hf k a i fun q => by have := hm.1 b j hb hj; unfold s18 at this; unfold rtF at q; omega⟩
theorem prt_sw {S : Nat → Nat → Prop} {σ : Nat → Nat → Nat} {I : x_M Int32} {b1 j1 b2 j2 : Nat} (h : ∀ b j, S b j → ¬ (b = b1 ∧ j = j1) ∧ ¬ (b = b2 ∧ j = j2)) : prt S σ (swp σ b1 j1 b2 j2) I I := fun b j hb hj hs => ⟨by unfold swp; rw [if_neg (h b j hs).1, if_neg (h b j hs).2], fun _ _ _ _ _ => rfl⟩
theorem apF_rg {r a : Nat} (hs : s18 r) (h : apF r a) : 26 ≤ a ∧ a ≤ 96 ∧ ¬ jA a ∧ ¬ a = 26 := by unfold s18 at hs; unfold apF kA sA at h; unfold jA; omega
/-- a reader's promise -/
def rdC (P : x_Pr) (y dd b lv : Nat) (S : Nat → Nat → Prop) (t n : Nat) (c : Nat → Nat) (Z : x_Z) (F : Nat → Bool → x_RS) : Prop := ∀ (I : x_M Int32) (J : x_M Int64) (R : x_M (Option Nat)) (σ : Nat → Nat → Nat) (tn : Int) (tm : Bool) (p : Nat) (w B : Int) (Q : x_Q) (rc rs : Nat), En I J t n c Z → srR R σ t → srI I tn tm → p ≤ n → tn + 2 * ((n : Int) - p) ≤ B → B < 2147483000 → sPost Q I J R σ t n c Z b lv S B (F p tm) → P y dd 0 (x_la 0 [.ref 26, .int (iI lv)]) [] (x_hp (tI I p w) J R) rc rs Q
section
variable {E : x_E} {P : x_Pr} {d rc rs : Nat} {I : x_M Int32} {J : x_M Int64} {R : x_M (Option Nat)} {Q : x_Q} {σ : Nat → Nat → Nat} {t n : Nat} {c : Nat → Nat} {Z : x_Z} {tn B w : Int} {tm : Bool} {p lv : Nat}
theorem c_rfOne (hP : x_closed E P) {h : x_H} {f : Nat} (hf : f < 12) {L : x_L} (hL : L 2 = some (.ref (1000001 + f))) (k : ∀ r1 r2, P 74 d 38 L [.int (bI (oneF f))] h r1 r2 Q) : P 74 d 34 L [] h rc rs Q := by
  match f, hf, hL, k with
  | 0, _, hL, k => exact x_aload_n hP rfl hL (x_getO (k := 3) (iz := 1) hP rfl rfl rfl (k _ _))
  | 1, _, hL, k => exact x_aload_n hP rfl hL (x_getO (k := 7) (iz := 2) hP rfl rfl rfl (k _ _))
  | 2, _, hL, k => exact x_aload_n hP rfl hL (x_getO (k := 11) (iz := 3) hP rfl rfl rfl (k _ _))
  | 3, _, hL, k => exact x_aload_n hP rfl hL (x_getO (k := 15) (iz := 4) hP rfl rfl rfl (k _ _))
  | 4, _, hL, k => exact x_aload_n hP rfl hL (x_getO (k := 19) (iz := 5) hP rfl rfl rfl (k _ _))
  | 5, _, hL, k => exact x_aload_n hP rfl hL (x_getO (k := 23) (iz := 6) hP rfl rfl rfl (k _ _))
  | 6, _, hL, k => exact x_aload_n hP rfl hL (x_getO (k := 27) (iz := 7) hP rfl rfl rfl (k _ _))
  | 7, _, hL, k => exact x_aload_n hP rfl hL (x_getO (k := 31) (iz := 8) hP rfl rfl rfl (k _ _))
  | 8, _, hL, k => exact x_aload_n hP rfl hL (x_getO (k := 35) (iz := 9) hP rfl rfl rfl (k _ _))
  | 9, _, hL, k => exact x_aload_n hP rfl hL (x_getO (k := 39) (iz := 10) hP rfl rfl rfl (k _ _))
  | 10, _, hL, k => exact x_aload_n hP rfl hL (x_getO (k := 43) (iz := 11) hP rfl rfl rfl (k _ _))
  | 11, _, hL, k => exact x_aload_n hP rfl hL (x_getO (k := 47) (iz := 12) hP rfl rfl rfl (k _ _))
  | f + 12, hf, _, _ => exact absurd hf (by omega)
theorem c_readFunction (hP : x_closed E P) (hE : x_is2 (some E.2.2) = false) {g : Nat → Bool → x_RS} (hl : lv < 5) (hsub : rdC P 64 (d + 8) 0 (lv + 1) (SS (lv + 1)) t n c Z g) {f : Nat} (hf : f < 12) (he : En I J t n c Z) (hr : srR R σ t) (hi : srI I tn tm) (hp : p ≤ n) (hB : tn + 2 * ((n : Int) - p) ≤ B) (hB2 : B < 2147483000) (k : sPost Q I J R σ t n c Z 2 lv (SP lv) B (fncR Z c n g f tm p)) : P 74 (d + 9) 0 (x_la 0 [.ref 26, .int (iI lv), .ref (1000001 + f)]) [] (x_hp (tI I p w) J R) rc rs Q := by
  have ⟨hR, r2, r3, r4, r5, r6, r7⟩ := hr
  unfold fncR at k
  first | refine x_aload_n hP rfl rfl ?_ | refine x_aload_nN hP rfl rfl ?_
  refine x_getR hP rfl (by first | assumption | rfl) (by first | assumption | exact hR _ _ _ _ rfl | exact hR1 _ _ _ _ rfl | exact hR2 _ _ _ _ rfl | rfl) ?_
  refine x_bipush hP rfl ?_
  refine x_callV1 (ci := 1) hP 0 0 rfl rfl rfl (by first | assumption | rfl) rfl rfl rfl (Nat.zero_le _) (Nat.zero_le _) ?_
  refine c_skip hP hR he.1 hp (by omega) (fun q1 q2 => ?_) (fun q1 => ?_)
  rotate_left
  · rw [if_neg q1] at k
    first | refine zb_if_ne hP rfl (fun c9 => ?_) (fun c9 => ?_) | refine zl_if_ne hP rfl (fun c9 => ?_) (fun c9 => ?_) | refine z_if_ne hP rfl (by omega) (fun c9 => ?_) (fun c9 => ?_)
    · cases c9
    refine x_iconst hP rfl ?_
    refine x_zret hP rfl rfl (by first | exact Or.inl iI_0 | exact Or.inr iI_1 | exact bI_or _ | assumption) ?_
    exact sP_err k he (frP_refl _ _) (frP_refl _ _) (frP_refl _ _) hr hi (by omega) _
  rw [if_pos q1] at k
  first | refine zb_if_ne hP rfl (fun c9 => ?_) (fun c9 => ?_) | refine zl_if_ne hP rfl (fun c9 => ?_) (fun c9 => ?_) | refine z_if_ne hP rfl (by omega) (fun c9 => ?_) (fun c9 => ?_)
  rotate_left
  · cases c9
  first | refine x_aload_n hP rfl rfl ?_ | refine x_aload_nN hP rfl rfl ?_
  refine x_getR hP rfl (by first | assumption | rfl) (by first | assumption | exact hR _ _ _ _ rfl | exact hR1 _ _ _ _ rfl | exact hR2 _ _ _ _ rfl | rfl) ?_
  refine x_callV0 (ci := 1) hP 0 0 rfl rfl rfl (by first | assumption | rfl) rfl rfl rfl (Nat.zero_le _) (Nat.zero_le _) ?_
  refine c_at hP ?_
  refine x_istore_n hP rfl ?_
  first | refine x_aload_n hP rfl rfl ?_ | refine x_aload_nN hP rfl rfl ?_
  refine x_iload_n hP rfl rfl ?_
  refine x_iconst hP rfl ?_
  first | refine z_iadd hP rfl ?_ | refine x_iadd hP rfl ?_
  refine x_callV1 (ci := 4) hP 0 0 rfl rfl rfl (by first | assumption | rfl) rfl rfl rfl (Nat.zero_le _) (Nat.zero_le _) ?_
  refine hsub I J R σ tn tm (p + 1) w B _ _ _ he hr hi q2 (by omega) hB2 ?_
  generalize g (p + 1) tm = oo at k ⊢
  match oo, k with
  | .inl e, k =>
    intro I' J' R' σ' tn' tm' p' he' f1 f2 f3 hr' hi' hB'
    first | refine zb_if_ne hP rfl (fun c29 => ?_) (fun c29 => ?_) | refine zl_if_ne hP rfl (fun c29 => ?_) (fun c29 => ?_) | refine z_if_ne hP rfl (by omega) (fun c29 => ?_) (fun c29 => ?_)
    · cases c29
    refine x_iconst hP rfl ?_
    refine x_zret hP rfl rfl (by first | exact Or.inl iI_0 | exact Or.inr iI_1 | exact bI_or _ | assumption) ?_
    exact sP_err k he' f1 f2 f3 hr' hi' hB' _
  | .inr (((o, l), tm'), q), k =>
    intro hq I1 J1 R1 σ1 tn1 l1 w1 he1 f1 f2 f3 hr1 hi1 hB1 hpr1 hw1 hv1 hl1
    dsimp only at k hl1
    have ⟨hR1, s2, s3, s4, s5, s6, s7⟩ := hr1
    have v1 : R1 7 27 (lv + 1) = some (σ1 0 (lv + 1)) := s5 0 (lv + 1) (by decide) (by omega)
    have hs := s6.1 0 (lv + 1) (by decide) (by omega)
    have hrow := s18_rows hs
    have isr := isRw_of hR1 hrow
    have ⟨y1, y2, y3, y4, y5⟩ := isr
    have hw1' : rw I1 (σ1 0 (lv + 1)) o l1 := hw1
    have wd : tI I1 q w1 1195 (σ1 0 (lv + 1)) 0 = iI o.length := (tI_hi _ _ _ (by unfold s18 at hs; omega)).trans hw1'.2.1
    have ol := hw1'.2.2.2.1
    have tail : ¬ (oneF f = true ∧ ¬ o.length = 1) → ∀ L r1 r2, x_ag L 0 [some (.ref 26), some (.int (iI lv)), some (.ref (1000001 + f))] → P 74 (d + 9) 65 L [] (x_hp (tI I1 q w1) J1 R1) r1 r2 Q := by
      intro h1 L r1 r2 hL
      rw [if_neg h1] at k
      refine x_re hP _ hL ?_
      first | refine x_aload_n hP rfl rfl ?_ | refine x_aload_nN hP rfl rfl ?_
      first | refine x_aload_n hP rfl rfl ?_ | refine x_aload_nN hP rfl rfl ?_
      refine x_callV1 (ci := 4) hP 0 0 rfl rfl rfl (by first | assumption | rfl) rfl rfl rfl (Nat.zero_le _) (Nat.zero_le _) ?_
      refine c_readThings hP hE hf hq he1 hr1 ?_
      generalize thgR Z c n (thg f) (0, 0, 0, 0) q = ot at k ⊢
      match ot, k with
      | .inl e, k =>
        intro I' R' p' he' g1 g2 hr'
        first | refine zb_if_eq hP rfl (fun c70 => ?_) (fun c70 => ?_) | refine zl_if_eq hP rfl (fun c70 => ?_) (fun c70 => ?_) | refine z_if_eq hP rfl (by omega) (fun c70 => ?_) (fun c70 => ?_)
        rotate_left
        · cases c70
        refine x_iconst hP rfl ?_
        refine x_zret hP rfl rfl (by first | exact Or.inl iI_0 | exact Or.inr iI_1 | exact bI_or _ | assumption) ?_
        exact sP_err k he' (frP_trans f1 (rt_fA g1)) f2 (frP_trans f3 g2) hr' (srI_rt hi1 g1) (by omega) _
      | .inr (A, r), k =>
        intro I2 R2 w2 z1 z2 ha he2 g1 g2 hr2
        dsimp only at k
        have hi2 := srI_rt hi1 g1
        have ⟨hR2, t2, t3, t4, t5, t6, t7⟩ := hr2
        have v2 : R2 7 27 (lv + 1) = some (σ1 0 (lv + 1)) := t5 0 (lv + 1) (by decide) (by omega)
        first | refine zb_if_eq hP rfl (fun c70 => ?_) (fun c70 => ?_) | refine zl_if_eq hP rfl (fun c70 => ?_) (fun c70 => ?_) | refine z_if_eq hP rfl (by omega) (fun c70 => ?_) (fun c70 => ?_)
        · cases c70
        first | refine x_aload_n hP rfl rfl ?_ | refine x_aload_nN hP rfl rfl ?_
        refine x_getR hP rfl (by first | assumption | rfl) (by first | assumption | exact hR _ _ _ _ rfl | exact hR1 _ _ _ _ rfl | exact hR2 _ _ _ _ rfl | rfl) ?_
        refine x_bipush hP rfl ?_
        refine x_callV1 (ci := 1) hP 0 0 rfl rfl rfl (by first | assumption | rfl) rfl rfl rfl (Nat.zero_le _) (Nat.zero_le _) ?_
        refine c_skip hP hR2 he2.1 z2 (by omega) (fun q3 q4 => ?_) (fun q3 => ?_)
        rotate_left
        · rw [if_neg q3] at k
          first | refine zb_if_ne hP rfl (fun c82 => ?_) (fun c82 => ?_) | refine zl_if_ne hP rfl (fun c82 => ?_) (fun c82 => ?_) | refine z_if_ne hP rfl (by omega) (fun c82 => ?_) (fun c82 => ?_)
          · cases c82
          refine x_iconst hP rfl ?_
          refine x_zret hP rfl rfl (by first | exact Or.inl iI_0 | exact Or.inr iI_1 | exact bI_or _ | assumption) ?_
          exact sP_err k he2 (frP_trans f1 (rt_fA g1)) f2 (frP_trans f3 g2) hr2 hi2 (by omega) _
        rw [if_pos q3] at k
        first | refine zb_if_ne hP rfl (fun c82 => ?_) (fun c82 => ?_) | refine zl_if_ne hP rfl (fun c82 => ?_) (fun c82 => ?_) | refine z_if_ne hP rfl (by omega) (fun c82 => ?_) (fun c82 => ?_)
        rotate_left
        · cases c82
        first | refine x_aload_n hP rfl rfl ?_ | refine x_aload_nN hP rfl rfl ?_
        first | refine x_aload_n hP rfl rfl ?_ | refine x_aload_nN hP rfl rfl ?_
        first | refine x_aload_n hP rfl rfl ?_ | refine x_aload_nN hP rfl rfl ?_
        refine x_getR hP rfl (by first | assumption | rfl) (by first | assumption | exact hR _ _ _ _ rfl | exact hR1 _ _ _ _ rfl | exact hR2 _ _ _ _ rfl | rfl) ?_
        refine x_iload_n hP rfl rfl ?_
        refine x_iconst hP rfl ?_
        first | refine z_iadd hP rfl ?_ | refine x_iadd hP rfl ?_
        refine z_aald hP rfl (by first | assumption | rfl) (by decide) (by omega) (by decide) (by decide) rfl (by first | assumption | exact hR _ _ _ _ rfl | exact hR1 _ _ _ _ rfl | exact hR2 _ _ _ _ rfl | rfl) ?_
        refine x_callV2 (ci := 4) hP 0 0 rfl rfl rfl (by first | assumption | rfl) rfl rfl rfl (Nat.zero_le _) (Nat.zero_le _) ?_
        have hw2 : rw I2 (σ1 0 (lv + 1)) o l1 := rw_fr hw1' g1 fun k a i q => by have := rg_a q; unfold s18 at hs; unfold rtF; omega
        have rr : frP (fun _ a _ => a = 1) I2 (tI I2 (r + 1 : Nat) w2) := tI_fr _ _ _
        refine c_apply hP hf (en_tI he2 _ _) hr2 hs (V := (o, l1)) (A := A) ⟨fun z => ha.1 z, fun z => ha.2.1 z, fun z => ha.2.2.1 z, fun z => ha.2.2.2 z⟩ (rw_fr hw2 rr fun k a i q => by have := rg_a q; unfold s18 at hs; omega) hv1 (fun z => Decidable.byContradiction fun z2 => h1 ⟨z, z2⟩) (fun I3 J3 R3 m1 m2 m3 m4 m5 => ?_)
        first | refine x_aload_n hP rfl rfl ?_ | refine x_aload_nN hP rfl rfl ?_
        refine x_iload_n hP rfl rfl ?_
        refine x_callV1 (ci := 4) hP 0 0 rfl rfl rfl (by first | assumption | rfl) rfl rfl rfl (Nat.zero_le _) (Nat.zero_le _) ?_
        have ⟨e1, e2, e3⟩ := en_fr he2 m3 m4 (fun k a i q => by have := apF_rg hs q; omega) (fun k a i q => by unfold sA at q; omega)
        have ii3 : srI I3 tn1 tm' := srI_fr (srI_tI hi2 _ _) m3 fun k a i q => (apF_rg hs q).2.2
        have p3 := prt_fr (b0 := 0) (j0 := lv + 1) s6 (by decide) (by omega) m3 (fun k a i q => by unfold apF kA sA at q; omega)
        refine c_lift hP m2 hl (fun R4 m6 m7 => ?_)
        refine x_iconst hP rfl ?_
        refine x_zret hP rfl rfl (by first | exact Or.inl iI_0 | exact Or.inr iI_1 | exact bI_or _ | assumption) ?_
        rw [← e1]
        refine k (by omega) I3 J3 R4 _ tn1 (appL Z f A (o, l1)).2 w2 e2 (frP_trans f1 (frP_trans (rt_fA g1) e3)) (frP_trans f2 (frP_mono m4 fun k a i q => by unfold sA at q; unfold fA; omega)) (frP_trans f3 (frP_trans g2 (frP_trans m5 m7))) m6 ii3 (by omega) ?_ ?_ ?_ ?_
        · refine prt_trans (prt_mono hpr1 fun b j z => ?_) (prt_trans (prt_rt s6 g1) (prt_trans (prt_mono p3 fun b j z => ?_) (prt_sw fun b j z => ?_)))
          · unfold SP at z; unfold SS; omega
          · unfold SP at z; omega
          · unfold SP at z; omega
        · show rw I3 (swp σ1 0 (lv + 1) 2 lv 2 lv) _ _
          have : swp σ1 0 (lv + 1) 2 lv 2 lv = σ1 0 (lv + 1) := by unfold swp; rw [if_neg (by omega), if_pos ⟨rfl, rfl⟩]
          rw [this, appL_fst Z f A o l l1]
          exact m1
        · rw [appL_fst Z f A o l l1]
          exact appL_v he.2.2.1.2.2.2.2.2 hv1 hw2.2.2.1
        · intro z
          rw [hl1 z]
    first | refine zb_if_ne hP rfl (fun c29 => ?_) (fun c29 => ?_) | refine zl_if_ne hP rfl (fun c29 => ?_) (fun c29 => ?_) | refine z_if_ne hP rfl (by omega) (fun c29 => ?_) (fun c29 => ?_)
    rotate_left
    · cases c29
    refine c_rfOne hP hf rfl (fun r1 r2 => ?_)
    first | refine zb_if_eq hP rfl (fun c38 => ?_) (fun c38 => ?_) | refine zl_if_eq hP rfl (fun c38 => ?_) (fun c38 => ?_) | refine z_if_eq hP rfl (by omega) (fun c38 => ?_) (fun c38 => ?_)
    · exact tail (fun z => by rw [c38] at z; cases z.1) _ _ _ ⟨rfl, rfl, rfl, trivial⟩
    first | refine x_aload_n hP rfl rfl ?_ | refine x_aload_nN hP rfl rfl ?_
    refine x_getR hP rfl (by first | assumption | rfl) (by first | assumption | exact hR _ _ _ _ rfl | exact hR1 _ _ _ _ rfl | exact hR2 _ _ _ _ rfl | rfl) ?_
    refine x_iload_n hP rfl rfl ?_
    refine x_iconst hP rfl ?_
    first | refine z_iadd hP rfl ?_ | refine x_iadd hP rfl ?_
    refine z_aald hP rfl (by first | assumption | rfl) (by decide) (by omega) (by decide) (by decide) rfl (by first | assumption | exact hR _ _ _ _ rfl | exact hR1 _ _ _ _ rfl | exact hR2 _ _ _ _ rfl | rfl) ?_
    refine x_getI hP rfl (by first | assumption | rfl) (by first | assumption | exact hR _ _ _ _ rfl | exact hR1 _ _ _ _ rfl | exact hR2 _ _ _ _ rfl | rfl) ?_
    refine x_iconst hP rfl ?_
    first | refine z_icmp_eq hP rfl (by omega) (by omega) (fun c53 => ?_) (fun c53 => ?_) | refine x_icmp_eq hP rfl (fun c53 => ?_) (fun c53 => ?_)
    · exact tail (fun z => z.2 (by omega)) _ _ _ ⟨rfl, rfl, rfl, trivial⟩
    · rw [if_pos ⟨c38, by omega⟩] at k
      first | refine x_aload_n hP rfl rfl ?_ | refine x_aload_nN hP rfl rfl ?_
      refine x_getR hP rfl (by first | assumption | rfl) (by first | assumption | exact hR _ _ _ _ rfl | exact hR1 _ _ _ _ rfl | exact hR2 _ _ _ _ rfl | rfl) ?_
      refine x_iload_n hP rfl rfl ?_
      refine x_callV1 (ci := 1) hP 0 0 rfl rfl rfl (by first | assumption | rfl) rfl rfl rfl (Nat.zero_le _) (Nat.zero_le _) ?_
      refine c_fail hP ?_
      refine x_zret hP rfl rfl (by first | exact Or.inl iI_0 | exact Or.inr iI_1 | exact bI_or _ | assumption) ?_
      exact sP_err k he1 f1 f2 f3 hr1 hi1 (by omega) _
theorem c_readBraces (hP : x_closed E P) {sub : Option (Nat → Bool → x_RS)} (hn : sub = none → lv = 5) (hsub : ∀ g, sub = some g → lv < 5 ∧ ∃ d', d = d' + 5 ∧ rdC P 64 (d' + 8) 0 (lv + 1) (SS (lv + 1)) t n c Z g) (he : En I J t n c Z) (hr : srR R σ t) (hi : srI I tn tm) (hp : p < n) (hl6 : lv < 6) (hB : tn + 2 * ((n : Int) - p) ≤ B) (hB2 : B < 2147483000) (k : sPost Q I J R σ t n c Z 2 lv (SP lv) B (brcR c n sub p tm)) : P 70 (d + 5) 0 (x_la 0 [.ref 26, .int (iI lv)]) [] (x_hp (tI I p w) J R) rc rs Q := by
  have ⟨hR, r2, r3, r4, r5, r6, r7⟩ := hr
  unfold brcR at k
  match sub, hn, hsub, k with
  | none, hn, _, k =>
    have := hn rfl
    refine x_iload_n hP rfl rfl ?_
    refine x_iconst hP rfl ?_
    refine z_icmp_lt hP rfl (by omega) (by omega) (fun c2 => ?_) (fun c2 => ?_)
    · omega
    first | refine x_aload_n hP rfl rfl ?_ | refine x_aload_nN hP rfl rfl ?_
    refine x_getR hP rfl (by first | assumption | rfl) (by first | assumption | exact hR _ _ _ _ rfl | exact hR1 _ _ _ _ rfl | exact hR2 _ _ _ _ rfl | rfl) ?_
    first | refine x_aload_n hP rfl rfl ?_ | refine x_aload_nN hP rfl rfl ?_
    refine x_getR hP rfl (by first | assumption | rfl) (by first | assumption | exact hR _ _ _ _ rfl | exact hR1 _ _ _ _ rfl | exact hR2 _ _ _ _ rfl | rfl) ?_
    refine x_callV0 (ci := 1) hP 0 0 rfl rfl rfl (by first | assumption | rfl) rfl rfl rfl (Nat.zero_le _) (Nat.zero_le _) ?_
    refine c_at hP ?_
    refine x_callV1 (ci := 1) hP 0 0 rfl rfl rfl (by first | assumption | rfl) rfl rfl rfl (Nat.zero_le _) (Nat.zero_le _) ?_
    refine c_fail hP ?_
    refine x_zret hP rfl rfl (by first | exact Or.inl iI_0 | exact Or.inr iI_1 | exact bI_or _ | assumption) ?_
    exact sP_err k he (frP_refl _ _) (frP_refl _ _) (frP_refl _ _) hr hi (by omega) _
  | some g, _, hsub, k =>
    obtain ⟨hl, d', rfl, hs⟩ := hsub g rfl
    dsimp only at k
    refine x_iload_n hP rfl rfl ?_
    refine x_iconst hP rfl ?_
    refine z_icmp_lt hP rfl (by omega) (by omega) (fun c2 => ?_) (fun c2 => ?_)
    rotate_left
    · omega
    first | refine x_aload_n hP rfl rfl ?_ | refine x_aload_nN hP rfl rfl ?_
    refine x_getR hP rfl (by first | assumption | rfl) (by first | assumption | exact hR _ _ _ _ rfl | exact hR1 _ _ _ _ rfl | exact hR2 _ _ _ _ rfl | rfl) ?_
    refine x_callV0 (ci := 1) hP 0 0 rfl rfl rfl (by first | assumption | rfl) rfl rfl rfl (Nat.zero_le _) (Nat.zero_le _) ?_
    refine c_step hP he.1 hp ?_
    first | refine x_aload_n hP rfl rfl ?_ | refine x_aload_nN hP rfl rfl ?_
    refine x_iload_n hP rfl rfl ?_
    refine x_iconst hP rfl ?_
    first | refine z_iadd hP rfl ?_ | refine x_iadd hP rfl ?_
    refine x_callV1 (ci := 4) hP 0 0 rfl rfl rfl (by first | assumption | rfl) rfl rfl rfl (Nat.zero_le _) (Nat.zero_le _) ?_
    refine x_weak (d1 := d' + 8) hP (fun _ _ z => z) (Nat.le_refl _) (Nat.le_refl _) (by omega) (fun _ _ z => z) (hs I J R σ tn tm (p + 1) w B _ _ _ he hr hi hp (by omega) hB2 ?_)
    generalize g (p + 1) tm = oo at k ⊢
    match oo, k with
    | .inl e, k =>
      intro I' J' R' σ' tn' tm' p' he' f1 f2 f3 hr' hi' hB'
      first | refine zb_if_eq hP rfl (fun c34 => ?_) (fun c34 => ?_) | refine zl_if_eq hP rfl (fun c34 => ?_) (fun c34 => ?_) | refine z_if_eq hP rfl (by omega) (fun c34 => ?_) (fun c34 => ?_)
      rotate_left
      · cases c34
      refine x_iconst hP rfl ?_
      refine x_zret hP rfl rfl (by first | exact Or.inl iI_0 | exact Or.inr iI_1 | exact bI_or _ | assumption) ?_
      exact sP_err k he' f1 f2 f3 hr' hi' hB' _
    | .inr (((o, l), tm'), q), k =>
      intro hq I1 J1 R1 σ1 tn1 l1 w1 he1 f1 f2 f3 hr1 hi1 hB1 hpr1 hw1 hv1 hl1
      dsimp only at k hl1
      have ⟨hR1, s2, s3, s4, s5, s6, s7⟩ := hr1
      first | refine zb_if_eq hP rfl (fun c34 => ?_) (fun c34 => ?_) | refine zl_if_eq hP rfl (fun c34 => ?_) (fun c34 => ?_) | refine z_if_eq hP rfl (by omega) (fun c34 => ?_) (fun c34 => ?_)
      · cases c34
      first | refine x_aload_n hP rfl rfl ?_ | refine x_aload_nN hP rfl rfl ?_
      refine x_getR hP rfl (by first | assumption | rfl) (by first | assumption | exact hR _ _ _ _ rfl | exact hR1 _ _ _ _ rfl | exact hR2 _ _ _ _ rfl | rfl) ?_
      refine x_bipush hP rfl ?_
      refine x_callV1 (ci := 1) hP 0 0 rfl rfl rfl (by first | assumption | rfl) rfl rfl rfl (Nat.zero_le _) (Nat.zero_le _) ?_
      refine c_skip hP hR1 he1.1 hq (by omega) (fun q3 q4 => ?_) (fun q3 => ?_)
      rotate_left
      · rw [if_neg q3] at k
        first | refine zb_if_ne hP rfl (fun c46 => ?_) (fun c46 => ?_) | refine zl_if_ne hP rfl (fun c46 => ?_) (fun c46 => ?_) | refine z_if_ne hP rfl (by omega) (fun c46 => ?_) (fun c46 => ?_)
        · cases c46
        refine x_iconst hP rfl ?_
        refine x_zret hP rfl rfl (by first | exact Or.inl iI_0 | exact Or.inr iI_1 | exact bI_or _ | assumption) ?_
        exact sP_err k he1 f1 f2 f3 hr1 hi1 (by omega) _
      rw [if_pos q3] at k
      first | refine zb_if_ne hP rfl (fun c46 => ?_) (fun c46 => ?_) | refine zl_if_ne hP rfl (fun c46 => ?_) (fun c46 => ?_) | refine z_if_ne hP rfl (by omega) (fun c46 => ?_) (fun c46 => ?_)
      rotate_left
      · cases c46
      first | refine x_aload_n hP rfl rfl ?_ | refine x_aload_nN hP rfl rfl ?_
      refine x_iload_n hP rfl rfl ?_
      refine x_callV1 (ci := 4) hP 0 0 rfl rfl rfl (by first | assumption | rfl) rfl rfl rfl (Nat.zero_le _) (Nat.zero_le _) ?_
      refine c_lift hP hr1 hl (fun R4 m6 m7 => ?_)
      refine x_iconst hP rfl ?_
      refine x_zret hP rfl rfl (by first | exact Or.inl iI_0 | exact Or.inr iI_1 | exact bI_or _ | assumption) ?_
      refine k (by omega) I1 J1 R4 _ tn1 l1 w1 he1 f1 f2 (frP_trans f3 m7) m6 hi1 (by omega) ?_ ?_ hv1 hl1
      · refine prt_trans (prt_mono hpr1 fun b j z => ?_) (prt_sw fun b j z => ?_)
        · unfold SP at z; unfold SS; omega
        · unfold SP at z; omega
      · show rw I1 (swp σ1 0 (lv + 1) 2 lv 2 lv) _ _
        have : swp σ1 0 (lv + 1) 2 lv 2 lv = σ1 0 (lv + 1) := by unfold swp; rw [if_neg (by omega), if_pos ⟨rfl, rfl⟩]
        rw [this]
        exact hw1
theorem mI_some (e k : Nat) : mI (some (e, k)) = ((32 * e + k : Nat) : Int) := rfl
theorem c_readNamed (hP : x_closed E P) (hE : x_is2 (some E.2.2) = false) {sub : Option (Nat → Bool → x_RS)} (hn : sub = none → lv = 5) (hsub : ∀ g, sub = some g → lv < 5 ∧ ∃ d', d = d' + 5 ∧ rdC P 64 (d' + 8) 0 (lv + 1) (SS (lv + 1)) t n c Z g) (he : En I J t n c Z) (hr : srR R σ t) (hi : srI I tn tm) (hp : p ≤ n) (hl6 : lv < 6) (hB : tn + 2 * ((n : Int) - p) ≤ B) (hB2 : B < 2147483000) (k : sPost Q I J R σ t n c Z 2 lv (SP lv) B (namdR Z c n sub p tm)) : P 72 (d + 5) 0 (x_la 0 [.ref 26, .int (iI lv)]) [] (x_hp (tI I p w) J R) rc rs Q := by
  have ⟨hR, r2, r3, r4, r5, r6, r7⟩ := hr
  have tr := isTr_of hR he.2.1
  have tk := tr.1
  have ta := isTa_rg he.2.1
  unfold namdR at k
  first | refine x_aload_n hP rfl rfl ?_ | refine x_aload_nN hP rfl rfl ?_
  refine x_getR hP rfl (by first | assumption | rfl) (by first | assumption | exact hR _ _ _ _ rfl | exact hR1 _ _ _ _ rfl | exact hR2 _ _ _ _ rfl | rfl) ?_
  refine x_callV0 (ci := 1) hP 0 0 rfl rfl rfl (by first | assumption | rfl) rfl rfl rfl (Nat.zero_le _) (Nat.zero_le _) ?_
  refine c_at hP ?_
  refine x_istore_n hP rfl ?_
  first | refine x_aload_n hP rfl rfl ?_ | refine x_aload_nN hP rfl rfl ?_
  refine x_getR hP rfl (by first | assumption | rfl) (by first | assumption | exact hR _ _ _ _ rfl | exact hR1 _ _ _ _ rfl | exact hR2 _ _ _ _ rfl | rfl) ?_
  refine x_callV0 (ci := 1) hP 0 0 rfl rfl rfl (by first | assumption | rfl) rfl rfl rfl (Nat.zero_le _) (Nat.zero_le _) ?_
  refine c_nam hP hR he.1 hp ?_
  have rg := fun v q => namR_rg (c := c) (n := n) (p := p) (v := v) (q := q) he.1.2.2.1 hp
  generalize namR c n p = on at k rg ⊢
  match on, k, rg with
  | .inl e, k, _ =>
    intro q
    refine x_lstore_n hP rfl ?_
    refine x_lload_n hP rfl rfl ?_
    refine x_lconst hP rfl ?_
    refine x_lcmp hP rfl ?_
    first | refine zb_if_ne hP rfl (fun c19 => ?_) (fun c19 => ?_) | refine zl_if_ne hP rfl (fun c19 => ?_) (fun c19 => ?_) | refine z_if_ne hP rfl (by omega) (fun c19 => ?_) (fun c19 => ?_)
    · exact absurd rfl c19
    refine x_iconst hP rfl ?_
    refine x_zret hP rfl rfl (by first | exact Or.inl iI_0 | exact Or.inr iI_1 | exact bI_or _ | assumption) ?_
    exact sP_err k he (frP_refl _ _) (frP_refl _ _) (frP_refl _ _) hr hi (by omega) _
  | .inr (v, q), k, rg =>
    have ⟨b1, b2, b3, _⟩ := rg v q rfl
    dsimp only at k
    show P _ _ _ _ (Value.long v :: _) _ _ _ _
    refine x_lstore_n hP rfl ?_
    refine x_lload_n hP rfl rfl ?_
    refine x_lconst hP rfl ?_
    refine x_lcmp hP rfl ?_
    first | refine zb_if_ne hP rfl (fun c19 => ?_) (fun c19 => ?_) | refine zl_if_ne hP rfl (fun c19 => ?_) (fun c19 => ?_) | refine z_if_ne hP rfl (by omega) (fun c19 => ?_) (fun c19 => ?_)
    rotate_left
    · exact absurd c19 b3
    first | refine x_aload_n hP rfl rfl ?_ | refine x_aload_nN hP rfl rfl ?_
    refine x_getR hP rfl (by first | assumption | rfl) (by first | assumption | exact hR _ _ _ _ rfl | exact hR1 _ _ _ _ rfl | exact hR2 _ _ _ _ rfl | rfl) ?_
    refine x_lload_n hP rfl rfl ?_
    refine x_callV1 (ci := 8) hP 0 0 rfl rfl rfl (by first | assumption | rfl) rfl rfl rfl (Nat.zero_le _) (Nat.zero_le _) ?_
    refine c_findMember hP tr (ct_tI he.2.2.1 (by omega) _ _) ?_
    have cr := ch_rg (n := n) he.1.2.2.1 q
    have fm : ∀ e m, fMem (zT Z) v = some (e, m) → e < tD (zT Z) ∧ m < tS (zT Z) e := fun e m h => by have := fMe_lt _ _ _ _ h; exact ⟨by omega, this.2.2⟩
    have hw := he.2.2.1.2.2.2.2.2
    refine x_istore hP rfl ?_
    refine x_lload_n hP rfl rfl ?_
    refine x_callS1 hP 0 0 rfl rfl rfl rfl rfl (Nat.zero_le _) (Nat.zero_le _) ?_
    refine c_fncNamed hP ?_
    have fl := fun a => fncN_lt (v := v) (a := a)
    generalize fncN v = of at k fl ⊢
    have fnc : ∀ f i, f < 12 → sPost Q I J R σ t n c Z 2 lv (SP lv) B (match sub with | none => .inl p | some g => fncR Z c n g f tm q) → ∀ L r1 r2, x_ag L 0 [some (.ref 26), some (.int (iI lv)), some (.int (iI p)), none, none, some (.int (iI i)), some (.ref (1000001 + f))] → P 72 (d + 5) 62 L [] (x_hp (tI I q w) J R) r1 r2 Q := by
      intro f i hf k L r1 r2 hL
      refine x_re hP _ hL ?_
      match sub, hn, hsub, k with
      | none, hn, _, k =>
        have := hn rfl
        refine x_iload_n hP rfl rfl ?_
        refine x_iconst hP rfl ?_
        refine z_icmp_ge hP rfl (by omega) (by omega) (fun c64 => ?_) (fun c64 => ?_)
        · first | refine x_aload_n hP rfl rfl ?_ | refine x_aload_nN hP rfl rfl ?_
          refine x_getR hP rfl (by first | assumption | rfl) (by first | assumption | exact hR _ _ _ _ rfl | exact hR1 _ _ _ _ rfl | exact hR2 _ _ _ _ rfl | rfl) ?_
          refine x_iload_n hP rfl rfl ?_
          refine x_callV1 (ci := 1) hP 0 0 rfl rfl rfl (by first | assumption | rfl) rfl rfl rfl (Nat.zero_le _) (Nat.zero_le _) ?_
          refine c_fail hP ?_
          refine x_zret hP rfl rfl (by first | exact Or.inl iI_0 | exact Or.inr iI_1 | exact bI_or _ | assumption) ?_
          exact sP_err k he (frP_refl _ _) (frP_refl _ _) (frP_refl _ _) hr hi (by omega) _
        · omega
      | some g, _, hsub, k =>
        obtain ⟨hl, d', rfl, hs⟩ := hsub g rfl
        refine x_iload_n hP rfl rfl ?_
        refine x_iconst hP rfl ?_
        refine z_icmp_ge hP rfl (by omega) (by omega) (fun c64 => ?_) (fun c64 => ?_)
        · omega
        first | refine x_aload_n hP rfl rfl ?_ | refine x_aload_nN hP rfl rfl ?_
        refine x_iload_n hP rfl rfl ?_
        first | refine x_aload hP rfl rfl ?_ | refine x_aloadN hP rfl rfl ?_
        refine x_callV2 (ci := 4) hP 0 0 rfl rfl rfl (by first | assumption | rfl) rfl rfl rfl (Nat.zero_le _) (Nat.zero_le _) ?_
        refine c_readFunction hP hE hl hs hf he hr hi b2 (by omega) hB2 ?_
        dsimp only at k
        generalize fncR Z c n g f tm q = oo at k ⊢
        match oo, k with
        | .inl e, k =>
          intro I' J' R' σ' tn' tm' p' he' f1 f2 f3 hr' hi' hB'
          refine x_goto hP rfl ?_
          refine x_zret hP rfl rfl (by first | exact Or.inl iI_0 | exact Or.inr iI_1 | exact bI_or _ | assumption) ?_
          exact sP_err k he' f1 f2 f3 hr' hi' hB' _
        | .inr (((o, l), tm'), q), k =>
          intro hq I1 J1 R1 σ1 tn1 l1 w1 he1 f1 f2 f3 hr1 hi1 hB1 hpr1 hw1 hv1 hl1
          refine x_goto hP rfl ?_
          refine x_zret hP rfl rfl (by first | exact Or.inl iI_0 | exact Or.inr iI_1 | exact bI_or _ | assumption) ?_
          exact k hq I1 J1 R1 σ1 tn1 l1 w1 he1 f1 f2 f3 hr1 hi1 hB1 hpr1 hw1 hv1 hl1
    have mbr : ∀ e m, fMem (zT Z) v = some (e, m) → sPost Q I J R σ t n c Z 2 lv (SP lv) B (mbrR Z c n e m tm q) → ∀ L r1 r2, x_ag L 0 [some (.ref 26), some (.int (iI lv)), some (.int (iI p)), none, none, some (.int (iI (32 * e + m : Nat)))] → P 72 (d + 5) 86 L [] (x_hp (tI I q w) J R) r1 r2 Q := by
      intro e m hm k L r1 r2 hL
      have ⟨h1, h2⟩ := fm e m hm
      have w1 := hw.1
      have w2 := (hw.2.2 e h1).2.1
      refine x_re hP _ hL ?_
      refine x_iload hP rfl rfl ?_
      first | refine zl_if_ge hP rfl (fun c88 => ?_) (fun c88 => ?_) | refine z_if_ge hP rfl (by omega) (fun c88 => ?_) (fun c88 => ?_)
      rotate_left
      · omega
      first | refine x_aload_n hP rfl rfl ?_ | refine x_aload_nN hP rfl rfl ?_
      refine x_iload_n hP rfl rfl ?_
      refine x_iload hP rfl rfl ?_
      refine x_callV2 (ci := 4) hP 0 0 rfl rfl rfl (by first | assumption | rfl) rfl rfl rfl (Nat.zero_le _) (Nat.zero_le _) ?_
      refine c_readMember (B := B) hP he hr hi b2 hl6 h1 h2 (by omega) ?_
      generalize mbrR Z c n e m tm q = oo at k ⊢
      match oo, k with
      | .inl e, k =>
        intro I' J' R' σ' tn' tm' p' he' f1 f2 f3 hr' hi' hB'
        refine x_zret hP rfl rfl (by first | exact Or.inl iI_0 | exact Or.inr iI_1 | exact bI_or _ | assumption) ?_
        exact sP_err k he' f1 f2 f3 hr' hi' hB' _
      | .inr (((o, l), tm'), q), k =>
        intro hq I1 J1 R1 σ1 tn1 l1 w1 he1 f1 f2 f3 hr1 hi1 hB1 hpr1 hw1 hv1 hl1
        refine x_zret hP rfl rfl (by first | exact Or.inl iI_0 | exact Or.inr iI_1 | exact bI_or _ | assumption) ?_
        exact k hq I1 J1 R1 σ1 tn1 l1 w1 he1 f1 f2 f3 hr1 hi1 hB1 hpr1 hw1 hv1 hl1
    generalize hmm : fMem (zT Z) v = om at k fm mbr ⊢
    match of, om, hmm, k, fl, fm, mbr with
    | some f, none, _, k, fl, _, _ =>
      have hf := fl f rfl
      show P _ _ _ _ (Value.ref (1000001 + f) :: _) _ _ _ _
      refine x_astore hP rfl ?_
      refine x_aload hP rfl rfl ?_
      refine x_ifnull hP rfl ?_
      show P _ _ _ (x_st1 (x_st1 _ _ (Value.int (iI (-1)))) _ _) _ _ _ _ _
      refine x_iload hP rfl rfl ?_
      refine z_if_lt hP rfl (by omega) (fun c47 => ?_) (fun c47 => ?_)
      · exact fnc f (-1) hf k _ _ _ ⟨rfl, rfl, rfl, rfl, rfl, trivial⟩
      · omega
    | some f, some (e, m), hmm, k, fl, fm, mbr =>
      have hf := fl f rfl
      have ⟨h1, h2⟩ := fm e m rfl
      have w1 := hw.1
      have w2 := (hw.2.2 e h1).2.1
      dsimp only at k
      show P _ _ _ _ (Value.ref (1000001 + f) :: _) _ _ _ _
      refine x_astore hP rfl ?_
      refine x_aload hP rfl rfl ?_
      refine x_ifnull hP rfl ?_
      show P _ _ _ (x_st1 (x_st1 _ _ (Value.int (iI (32 * e + m : Nat)))) _ _) _ _ _ _ _
      refine x_iload hP rfl rfl ?_
      refine z_if_lt hP rfl (by omega) (fun c47 => ?_) (fun c47 => ?_)
      · omega
      first | refine x_aload_n hP rfl rfl ?_ | refine x_aload_nN hP rfl rfl ?_
      refine x_getR hP rfl (by first | assumption | rfl) (by first | assumption | exact hR _ _ _ _ rfl | exact hR1 _ _ _ _ rfl | exact hR2 _ _ _ _ rfl | rfl) ?_
      refine x_callV0 (ci := 1) hP 0 0 rfl rfl rfl (by first | assumption | rfl) rfl rfl rfl (Nat.zero_le _) (Nat.zero_le _) ?_
      refine c_peek hP hR he.1 b2 ?_
      refine x_bipush hP rfl ?_
      first | refine z_icmp_ne hP rfl (by omega) (by omega) (fun c59 => ?_) (fun c59 => ?_) | refine x_icmp_ne hP rfl (fun c59 => ?_) (fun c59 => ?_)
      · rw [if_neg c59] at k
        exact mbr e m rfl k _ _ _ ⟨rfl, rfl, rfl, rfl, trivial⟩
      · rw [if_pos c59] at k
        exact fnc f _ hf k _ _ _ ⟨rfl, rfl, rfl, rfl, rfl, trivial⟩
    | none, none, _, k, _, _, _ =>
      show P _ _ _ _ (Value.null :: _) _ _ _ _
      refine x_astoreN hP rfl ?_
      refine x_aloadN hP rfl rfl ?_
      refine x_ifnullN hP rfl ?_
      show P _ _ _ (x_st1 (x_st1 _ _ (Value.int (iI (-1)))) _ _) _ _ _ _ _
      refine x_iload hP rfl rfl ?_
      first | refine zl_if_ge hP rfl (fun c88 => ?_) (fun c88 => ?_) | refine z_if_ge hP rfl (by omega) (fun c88 => ?_) (fun c88 => ?_)
      · omega
      first | refine x_aload_n hP rfl rfl ?_ | refine x_aload_nN hP rfl rfl ?_
      refine x_getR hP rfl (by first | assumption | rfl) (by first | assumption | exact hR _ _ _ _ rfl | exact hR1 _ _ _ _ rfl | exact hR2 _ _ _ _ rfl | rfl) ?_
      refine x_iload_n hP rfl rfl ?_
      refine x_callV1 (ci := 1) hP 0 0 rfl rfl rfl (by first | assumption | rfl) rfl rfl rfl (Nat.zero_le _) (Nat.zero_le _) ?_
      refine c_fail hP ?_
      refine x_zret hP rfl rfl (by first | exact Or.inl iI_0 | exact Or.inr iI_1 | exact bI_or _ | assumption) ?_
      exact sP_err k he (frP_refl _ _) (frP_refl _ _) (frP_refl _ _) hr hi (by omega) _
    | none, some (e, m), hmm, k, _, fm, mbr =>
      dsimp only at k
      show P _ _ _ _ (Value.null :: _) _ _ _ _
      refine x_astoreN hP rfl ?_
      refine x_aloadN hP rfl rfl ?_
      refine x_ifnullN hP rfl ?_
      show P _ _ _ (x_st1 (x_st1 _ _ (Value.int (iI (32 * e + m : Nat)))) _ _) _ _ _ _ _
      exact mbr e m rfl k _ _ _ ⟨rfl, rfl, rfl, rfl, trivial⟩
theorem c_readPart (hP : x_closed E P) (hE : x_is2 (some E.2.2) = false) {sub : Option (Nat → Bool → x_RS)} (hn : sub = none → lv = 5) (hsub : ∀ g, sub = some g → lv < 5 ∧ ∃ d', d = d' + 5 ∧ rdC P 64 (d' + 8) 0 (lv + 1) (SS (lv + 1)) t n c Z g) (hl6 : lv < 6) : rdC P 66 (d + 6) 2 lv (SP lv) t n c Z (prtR Z c n sub) := by
  intro I J R σ tn tm p w B Q rc rs he hr hi hp hB hB2 k
  have ⟨hR, r2, r3, r4, r5, r6, r7⟩ := hr
  have cr := ch_rg (n := n) he.1.2.2.1 p
  have cn : 0 ≤ ch c n p → p < n := fun q => by unfold ch at q; split at q <;> omega
  unfold prtR at k
  first | refine x_aload_n hP rfl rfl ?_ | refine x_aload_nN hP rfl rfl ?_
  refine x_getR hP rfl (by first | assumption | rfl) (by first | assumption | exact hR _ _ _ _ rfl | exact hR1 _ _ _ _ rfl | exact hR2 _ _ _ _ rfl | rfl) ?_
  refine x_callV0 (ci := 1) hP 0 0 rfl rfl rfl (by first | assumption | rfl) rfl rfl rfl (Nat.zero_le _) (Nat.zero_le _) ?_
  refine c_peek hP hR he.1 hp ?_
  have fin : ∀ pc (L : x_L) r1 r2 (S : x_RS), sPost Q I J R σ t n c Z 2 lv (SP lv) B S → (∀ b h, Q (some (.int (bI b))) h → P 66 (d + 6) pc L [.int (bI b)] h r1 r2 Q) → sPost (fun v h => P 66 (d + 6) pc L (v.toList ++ []) h r1 r2 Q) I J R σ t n c Z 2 lv (SP lv) B S := by
    intro pc L r1 r2 S k hh
    match S, k with
    | .inl e, k =>
      intro I' J' R' σ' tn' tm' p' he' f1 f2 f3 hr' hi' hB'
      exact hh _ _ (sP_err k he' f1 f2 f3 hr' hi' hB' _)
    | .inr (((o, l), tm'), q), k =>
      intro hq I1 J1 R1 σ1 tn1 l1 w1 he1 f1 f2 f3 hr1 hi1 hB1 hpr1 hw1 hv1 hl1
      exact hh _ _ (k hq I1 J1 R1 σ1 tn1 l1 w1 he1 f1 f2 f3 hr1 hi1 hB1 hpr1 hw1 hv1 hl1)
  by_cases c1 : ch c n p = 35
  · rw [if_pos c1] at k
    rw [c1]
    refine x_lsw (tg := 32) hP rfl (by decide +kernel) ?_
    first | refine x_aload_n hP rfl rfl ?_ | refine x_aload_nN hP rfl rfl ?_
    refine x_iload_n hP rfl rfl ?_
    refine x_callV1 (ci := 4) hP 0 0 rfl rfl rfl (by first | assumption | rfl) rfl rfl rfl (Nat.zero_le _) (Nat.zero_le _) ?_
    refine c_readKept hP he hr hi (cn (by omega)) hl6 hB (fin _ _ _ _ _ k fun b h hq => ?_)
    refine x_zret hP rfl rfl (by first | exact Or.inl iI_0 | exact Or.inr iI_1 | exact bI_or _ | assumption) ?_
    exact hq
  · by_cases c2 : ch c n p = 123
    · rw [if_neg c1, if_pos c2] at k
      rw [c2]
      refine x_lsw (tg := 38) hP rfl (by decide +kernel) ?_
      first | refine x_aload_n hP rfl rfl ?_ | refine x_aload_nN hP rfl rfl ?_
      refine x_iload_n hP rfl rfl ?_
      refine x_callV1 (ci := 4) hP 0 0 rfl rfl rfl (by first | assumption | rfl) rfl rfl rfl (Nat.zero_le _) (Nat.zero_le _) ?_
      refine c_readBraces hP hn hsub he hr hi (cn (by omega)) hl6 hB hB2 (fin _ _ _ _ _ k fun b h hq => ?_)
      refine x_zret hP rfl rfl (by first | exact Or.inl iI_0 | exact Or.inr iI_1 | exact bI_or _ | assumption) ?_
      exact hq
    · rw [if_neg c1, if_neg c2] at k
      refine x_lsw (tg := 44) hP rfl ?_ ?_
      · show ((7 : Nat) + (if (35 : Int) = (iI (ch c n p)).toInt then (25 : Int) else if (123 : Int) = (iI (ch c n p)).toInt then 31 else 37) : Int).toNat = 44
        rw [iI_toInt (by omega), if_neg (by omega), if_neg (by omega)]
        rfl
      first | refine x_aload_n hP rfl rfl ?_ | refine x_aload_nN hP rfl rfl ?_
      refine x_iload_n hP rfl rfl ?_
      refine x_callV1 (ci := 4) hP 0 0 rfl rfl rfl (by first | assumption | rfl) rfl rfl rfl (Nat.zero_le _) (Nat.zero_le _) ?_
      refine c_readNamed hP hE hn hsub he hr hi hp hl6 hB hB2 (fin _ _ _ _ _ k fun b h hq => ?_)
      refine x_zret hP rfl rfl (by first | exact Or.inl iI_0 | exact Or.inr iI_1 | exact bI_or _ | assumption) ?_
      exact hq
end
