/-! SetReader: ITEMS, SETS, all -/
def mono (F : Nat → Bool → x_RS) : Prop := ∀ p tm V tm' q, F p tm = .inr ((V, tm'), q) → tm' = false → tm = false
section
variable {Z : x_Z} {c : Nat → Nat} {n : Nat}
theorem mo_itmL {part : Nat → Bool → x_RS} (hp : mono part) : ∀ (f : Nat) (V : x_V) (tm : Bool) (p : Nat) W tm' q, itmL c n part f V tm p = .inr ((W, tm'), q) → tm' = false → tm = false
  | 0, V, tm, p, W, tm', q, h, h2 => by unfold itmL at h; cases h; exact h2
  | f + 1, V, tm, p, W, tm', q, h, h2 => by
    unfold itmL at h
    split at h
    · split at h
      · cases h
      · next e =>
        split at h
        · cases h
        · have := mo_itmL hp f _ _ _ _ _ _ h h2
          exact hp _ _ _ _ _ e (Bool.or_eq_false_iff.mp this).1
    · cases h; exact h2
theorem mo_itm {part : Nat → Bool → x_RS} (hp : mono part) : mono (itmR c n part) := fun p tm V tm' q h h2 => by
  unfold itmR at h
  split at h
  · cases h
  · next e => exact hp _ _ _ _ _ e (mo_itmL hp _ _ _ _ _ _ _ h h2)
theorem mo_setL {item : Nat → Bool → x_RS} (hp : mono item) : ∀ (f : Nat) (V : x_V) (tm : Bool) (p : Nat) W tm' q, setL c n item f V tm p = .inr ((W, tm'), q) → tm' = false → tm = false
  | 0, V, tm, p, W, tm', q, h, h2 => by unfold setL at h; cases h; exact h2
  | f + 1, V, tm, p, W, tm', q, h, h2 => by
    unfold setL at h
    split at h
    · split at h
      · cases h
      · next e =>
        split at h
        · have := mo_setL hp f _ _ _ _ _ _ h h2
          exact hp _ _ _ _ _ e (Bool.or_eq_false_iff.mp this).1
        · cases h
    · cases h; exact h2
theorem mo_st {item : Nat → Bool → x_RS} (hp : mono item) : mono (stR c n item) := fun p tm V tm' q h h2 => by
  unfold stR at h
  split at h
  · cases h
  · next e => exact hp _ _ _ _ _ e (mo_setL hp _ _ _ _ _ _ _ h h2)
theorem mo_mbr {e k : Nat} {tm : Bool} {q : Nat} {V : x_V} {tm' : Bool} {r : Nat} (h : mbrR Z c n e k tm q = .inr ((V, tm'), r)) : tm' = tm := by
  unfold mbrR at h
  split at h
  · split at h
    · cases h
    · cases h; rfl
  · cases h; rfl
theorem mo_fnc {g : Nat → Bool → x_RS} (hg : mono g) {f : Nat} {tm : Bool} {q : Nat} {V : x_V} {tm' : Bool} {r : Nat} (h : fncR Z c n g f tm q = .inr ((V, tm'), r)) (h2 : tm' = false) : tm = false := by
  unfold fncR at h
  split at h
  · split at h
    · cases h
    · next e =>
      split at h
      · cases h
      · split at h
        · cases h
        · split at h
          · cases h; exact hg _ _ _ _ _ e h2
          · cases h
  · cases h
theorem mo_prt {sub : Option (Nat → Bool → x_RS)} (hs : ∀ g, sub = some g → mono g) : mono (prtR Z c n sub) := fun p tm V tm' q h h2 => by
  unfold prtR at h
  split at h
  · unfold kptR at h
    split at h
    · cases h
    · split at h
      · cases h
      · cases h; exact h2
  · split at h
    · unfold brcR at h
      split at h
      · cases h
      · next g =>
        split at h
        · cases h
        · next e =>
          split at h
          · cases h; exact hs g rfl _ _ _ _ _ e h2
          · cases h
    · unfold namdR at h
      split at h
      · cases h
      · split at h
        · split at h
          · cases h
          · next g => exact mo_fnc (hs g rfl) h h2
        · split at h
          · split at h
            · cases h
            · next g => exact mo_fnc (hs g rfl) h h2
          · rw [← mo_mbr h]; exact h2
        · cases h
        · rw [← mo_mbr h]; exact h2
theorem mo_lev : ∀ g, mono (levR Z c n g)
  | 0 => mo_st (mo_itm (mo_prt fun g h => by cases h))
  | g + 1 => mo_st (mo_itm (mo_prt fun g' h => by cases h; exact mo_lev g))
end
theorem srI_tm {I : x_M Int32} {tn : Int} {tm : Bool} (h : srI I tn tm) : srI (x_at I 1265 26 0 (iI 1)) tn true := ⟨jnv_fr2 (S := fun _ a _ => a = 26) h.1 (frP_at (frP_refl _ _) rfl) fun k a i q => by unfold jA; omega, by rw [x_at_eq, if_pos ⟨rfl, rfl, rfl⟩]; rfl⟩
theorem prt_26 {S : Nat → Nat → Prop} {σ : Nat → Nat → Nat} {I : x_M Int32} {k : Nat} {v : Int32} (hm : pm σ) : prt S σ σ I (x_at I k 26 0 v) := fun b j hb hj _ => ⟨rfl, fun k a i h1 h2 => by have := hm.1 b j hb hj; unfold s18 at this; rw [x_at_eq, if_neg (by omega)]⟩
theorem rw_26 {I : x_M Int32} {k : Nat} {v : Int32} {r : Nat} {o l : List Nat} (hs : s18 r) (h : rw I r o l) : rw (x_at I k 26 0 v) r o l := rw_fr h (frP_at (S := fun _ a _ => a = 26) (frP_refl _ _) rfl) fun k a i q => by have := rg_a q; unfold s18 at hs; omega
theorem swp_1 (σ : Nat → Nat → Nat) (b1 j1 b2 j2 : Nat) : swp σ b1 j1 b2 j2 b1 j1 = σ b2 j2 := by unfold swp; rw [if_pos ⟨rfl, rfl⟩]
theorem swp_2 (σ : Nat → Nat → Nat) {b1 j1 b2 j2 : Nat} (h : ¬ (b2 = b1 ∧ j2 = j1)) : swp σ b1 j1 b2 j2 b2 j2 = σ b1 j1 := by unfold swp; rw [if_neg h, if_pos ⟨rfl, rfl⟩]
section
variable {E : x_E} {P : x_Pr} {d rc rs : Nat} {Q : x_Q} {t n : Nat} {c : Nat → Nat} {Z : x_Z} {B : Int} {lv : Nat}
theorem c_readItem_loop (hP : x_closed E P) (hl6 : lv < 6) (hB2 : B < 2147483000) {part : Nat → Bool → x_RS} (hm : mono part) (hpart : rdC P 66 (d + 6) 2 lv (SP lv) t n c Z part) {I0 : x_M Int32} {J0 : x_M Int64} {R0 : x_M (Option Nat)} {σ0 : Nat → Nat → Nat} : ∀ (f i : Nat) (I : x_M Int32) (J : x_M Int64) (R : x_M (Option Nat)) (σ : Nat → Nat → Nat) (V : x_V) (l : List Nat) (tn : Int) (tm : Bool) (p : Nat) (w : Int), i + f = 2000 → En I J t n c Z → frP (fun _ a _ => fA a) I0 I → frP (fun _ a _ => fA a) J0 J → frP (fun _ a _ => fA a) R0 R → srR R σ t → srI I tn tm → p ≤ n → tn + 2 * ((n : Int) - p) ≤ B → prt (SI lv) σ0 σ I0 I → rw I (σ 1 lv) V.1 l → vV (zT Z) (V.1, l) → (tm = false → l = V.2) → sPost Q I0 J0 R0 σ0 t n c Z 1 lv (SI lv) B (itmL c n part f V tm p) → ∀ rc rs, P 65 (d + 7) 38 (x_ls [some (.ref 26), some (.int (iI lv)), some (.ref (σ 1 lv)), some (.int (iI i)), none]) [] (x_hp (tI I p w) J R) rc rs Q := by
  intro f
  induction f with
  | zero =>
    intro i I J R σ V l tn tm p w hi he f1 f2 f3 hr hs hp hB hpr hw hv hl k rc rs
    unfold itmL at k
    refine x_iload_n hP rfl rfl ?_
    refine x_sipush hP rfl ?_
    refine z_icmp_ge hP rfl (by omega) (by omega) (fun c42 => ?_) (fun c42 => ?_)
    · refine x_iconst hP rfl ?_
      refine x_zret hP rfl rfl (by first | exact Or.inl iI_0 | exact Or.inr iI_1 | exact bI_or _ | assumption) ?_
      exact k hp I J R σ tn l w he f1 f2 f3 hr hs hB hpr hw hv hl
    · omega
  | succ f ih =>
    intro i I J R σ V l tn tm p w hi he f1 f2 f3 hr hs hp hB hpr hw hv hl k rc rs
    have ⟨hR, r2, r3, r4, r5, r6, r7⟩ := hr
    have cr := ch_rg (n := n) he.1.2.2.1 p
    unfold itmL at k
    refine x_iload_n hP rfl rfl ?_
    refine x_sipush hP rfl ?_
    refine z_icmp_ge hP rfl (by omega) (by omega) (fun c42 => ?_) (fun c42 => ?_)
    · omega
    first | refine x_aload_n hP rfl rfl ?_ | refine x_aload_nN hP rfl rfl ?_
    refine x_getR hP rfl (by first | assumption | rfl) (by first | assumption | exact hR _ _ _ _ rfl | exact hR1 _ _ _ _ rfl | exact hR2 _ _ _ _ rfl | rfl) ?_
    refine x_callV0 (ci := 1) hP 0 0 rfl rfl rfl (by first | assumption | rfl) rfl rfl rfl (Nat.zero_le _) (Nat.zero_le _) ?_
    refine c_peek hP hR he.1 hp ?_
    refine x_bipush hP rfl ?_
    first | refine z_icmp_ne hP rfl (by omega) (by omega) (fun c54 => ?_) (fun c54 => ?_) | refine x_icmp_ne hP rfl (fun c54 => ?_) (fun c54 => ?_)
    · rw [if_neg c54] at k
      refine x_iconst hP rfl ?_
      refine x_zret hP rfl rfl (by first | exact Or.inl iI_0 | exact Or.inr iI_1 | exact bI_or _ | assumption) ?_
      exact k hp I J R σ tn l w he f1 f2 f3 hr hs hB hpr hw hv hl
    rw [if_pos c54] at k
    have hlt : p < n := by unfold ch at c54; split at c54 <;> omega
    first | refine x_aload_n hP rfl rfl ?_ | refine x_aload_nN hP rfl rfl ?_
    refine x_getR hP rfl (by first | assumption | rfl) (by first | assumption | exact hR _ _ _ _ rfl | exact hR1 _ _ _ _ rfl | exact hR2 _ _ _ _ rfl | rfl) ?_
    refine x_callV0 (ci := 1) hP 0 0 rfl rfl rfl (by first | assumption | rfl) rfl rfl rfl (Nat.zero_le _) (Nat.zero_le _) ?_
    refine c_step hP he.1 hlt ?_
    first | refine x_aload_n hP rfl rfl ?_ | refine x_aload_nN hP rfl rfl ?_
    refine x_getR hP rfl (by first | assumption | rfl) (by first | assumption | exact hR _ _ _ _ rfl | exact hR1 _ _ _ _ rfl | exact hR2 _ _ _ _ rfl | rfl) ?_
    refine x_callV0 (ci := 1) hP 0 0 rfl rfl rfl (by first | assumption | rfl) rfl rfl rfl (Nat.zero_le _) (Nat.zero_le _) ?_
    refine c_at hP ?_
    refine x_istore hP rfl ?_
    first | refine x_aload_n hP rfl rfl ?_ | refine x_aload_nN hP rfl rfl ?_
    refine x_iload_n hP rfl rfl ?_
    refine x_callV1 (ci := 4) hP 0 0 rfl rfl rfl (by first | assumption | rfl) rfl rfl rfl (Nat.zero_le _) (Nat.zero_le _) ?_
    refine hpart I J R σ tn tm (p + 1) w B _ _ _ he hr hs hlt (by omega) hB2 ?_
    have mn := fun V tm' q => hm (p + 1) tm V tm' q
    generalize part (p + 1) tm = oo at k mn ⊢
    match oo, k, mn with
    | .inl e, k, _ =>
      intro I' J' R' σ' tn' tm' p' he' g1 g2 g3 hr' hi' hB'
      first | refine zb_if_ne hP rfl (fun c78 => ?_) (fun c78 => ?_) | refine zl_if_ne hP rfl (fun c78 => ?_) (fun c78 => ?_) | refine z_if_ne hP rfl (by omega) (fun c78 => ?_) (fun c78 => ?_)
      · cases c78
      refine x_iconst hP rfl ?_
      refine x_zret hP rfl rfl (by first | exact Or.inl iI_0 | exact Or.inr iI_1 | exact bI_or _ | assumption) ?_
      exact sP_err k he' (frP_trans f1 g1) (frP_trans f2 g2) (frP_trans f3 g3) hr' hi' hB' _
    | .inr ((W, tm'), q), k, mn =>
      intro hq I1 J1 R1 σ1 tn1 l1 w1 he1 g1 g2 g3 hr1 hi1 hB1 hpr1 hw1 hv1 hl1
      dsimp only at k
      have mn := mn W tm' q rfl
      have ⟨hR1, s2, s3, s4, s5, s6, s7⟩ := hr1
      have e1 : σ1 1 lv = σ 1 lv := (hpr1 1 lv (by decide) hl6 (Or.inr ⟨rfl, by decide⟩)).1
      have hwf : rw I1 (σ1 1 lv) V.1 l := prt_rw hpr1 (by decide) hl6 (Or.inr ⟨rfl, by decide⟩) hw
      have hs1 := s6.1 1 lv (by decide) hl6
      have hs2 := s6.1 2 lv (by decide) hl6
      have isr1 := isRw_of hR1 (s18_rows hs1)
      have isr2 := isRw_of hR1 (s18_rows hs2)
      have kr1 := isr1.1
      have kr2 := isr2.1
      have far := rfar_of (s18_rows hs1) (s18_rows hs2) fun z => by have := (s6.2 1 lv 2 lv (by decide) hl6 (by decide) hl6 z).1; omega
      have v2 : R1 7 29 lv = some (σ1 2 lv) := s5 2 lv (by decide) hl6
      have tI1 : ∀ {r o l}, s18 r → rw I1 r o l → rw (tI I1 q w1) r o l := fun hs h => rw_fr h (tI_fr _ _ _) fun k a i q => by have := rg_a q; unfold s18 at hs; omega
      have tI2 := tI1 hs1 hwf
      have tI3 := tI1 hs2 hw1
      rw [← e1]
      first | refine zb_if_ne hP rfl (fun c78 => ?_) (fun c78 => ?_) | refine zl_if_ne hP rfl (fun c78 => ?_) (fun c78 => ?_) | refine z_if_ne hP rfl (by omega) (fun c78 => ?_) (fun c78 => ?_)
      rotate_left
      · cases c78
      first | refine x_aload_n hP rfl rfl ?_ | refine x_aload_nN hP rfl rfl ?_
      first | refine x_aload_n hP rfl rfl ?_ | refine x_aload_nN hP rfl rfl ?_
      refine x_getR hP rfl (by first | assumption | rfl) (by first | assumption | exact hR _ _ _ _ rfl | exact hR1 _ _ _ _ rfl | exact hR2 _ _ _ _ rfl | rfl) ?_
      refine x_iload_n hP rfl rfl ?_
      refine z_aald hP rfl (by first | assumption | rfl) (by decide) (by omega) (by decide) (by decide) rfl (by first | assumption | exact hR _ _ _ _ rfl | exact hR1 _ _ _ _ rfl | exact hR2 _ _ _ _ rfl | rfl) ?_
      refine x_callV1 (ci := 3) hP 0 0 rfl rfl rfl (by first | assumption | rfl) rfl rfl rfl (Nat.zero_le _) (Nat.zero_le _) ?_
      refine c_shares hP isr1 tI2 isr2 tI3 ?_
      first | refine zb_if_eq hP rfl (fun c93 => ?_) (fun c93 => ?_) | refine zl_if_eq hP rfl (fun c93 => ?_) (fun c93 => ?_) | refine z_if_eq hP rfl (by omega) (fun c93 => ?_) (fun c93 => ?_)
      rotate_left
      · rw [if_pos c93] at k
        first | refine x_aload_n hP rfl rfl ?_ | refine x_aload_nN hP rfl rfl ?_
        refine x_getR hP rfl (by first | assumption | rfl) (by first | assumption | exact hR _ _ _ _ rfl | exact hR1 _ _ _ _ rfl | exact hR2 _ _ _ _ rfl | rfl) ?_
        refine x_iload hP rfl rfl ?_
        refine x_callV1 (ci := 1) hP 0 0 rfl rfl rfl (by first | assumption | rfl) rfl rfl rfl (Nat.zero_le _) (Nat.zero_le _) ?_
        refine c_fail hP ?_
        refine x_zret hP rfl rfl (by first | exact Or.inl iI_0 | exact Or.inr iI_1 | exact bI_or _ | assumption) ?_
        exact sP_err k he1 (frP_trans f1 g1) (frP_trans f2 g2) (frP_trans f3 g3) hr1 hi1 (by omega) _
      have ns : ¬ (W.1.any fun y => hasI y V.1) = true := by rw [c93]; decide
      rw [if_neg ns] at k
      have tw := he.2.2.1.2.2.2.2.2
      have vmul := vV_mul tw hv hv1 ns
      have ho : V.1.length + W.1.length ≤ 4 := by have := vO_len tw vmul.1; rw [List.length_append] at this; exact this
      first | refine x_aload_n hP rfl rfl ?_ | refine x_aload_nN hP rfl rfl ?_
      first | refine x_aload_n hP rfl rfl ?_ | refine x_aload_nN hP rfl rfl ?_
      refine x_getR hP rfl (by first | assumption | rfl) (by first | assumption | exact hR _ _ _ _ rfl | exact hR1 _ _ _ _ rfl | exact hR2 _ _ _ _ rfl | rfl) ?_
      refine x_iload_n hP rfl rfl ?_
      refine z_aald hP rfl (by first | assumption | rfl) (by decide) (by omega) (by decide) (by decide) rfl (by first | assumption | exact hR _ _ _ _ rfl | exact hR1 _ _ _ _ rfl | exact hR2 _ _ _ _ rfl | rfl) ?_
      refine x_callV1 (ci := 3) hP 0 0 rfl rfl rfl (by first | assumption | rfl) rfl rfl rfl (Nat.zero_le _) (Nat.zero_le _) ?_
      refine c_multiply hP isr1 isr2 far tI2 tI3 ho (fun I2 m1 m2 => ?_)
      have ⟨e2, e3, e4⟩ := en_fr (S' := fun _ _ _ => False) (J1 := J1) he1 m2 (frP_refl _ _) (fun k a i q => by have := rg_a q; unfold s18 at hs1; omega) (fun _ _ _ q => q.elim)
      have hi2 : srI I2 tn1 tm' := srI_fr (srI_tI hi1 _ _) m2 fun k a i q => by have := rg_a q; unfold s18 at hs1; unfold jA; omega
      have p2 : prt (SI lv) σ0 σ1 I0 I2 := prt_trans hpr (prt_trans (prt_mono hpr1 fun b j z => by unfold SI at z; unfold SP; omega) (prt_mono (prt_fr (b0 := 1) (j0 := lv) s6 (by decide) hl6 m2 fun k a i q => Or.inl (rg_a q)) fun b j z => by unfold SI at z; omega))
      have lt : tm' = false → l = V.2 ∧ l1 = W.2 := fun z => ⟨hl (mn z), hl1 z⟩
      by_cases b : l.length * l1.length ≤ 200
      · rw [if_pos b] at m1
        rw [decide_eq_true b]
        have te : (tm' || decide (200 < V.2.length * W.2.length)) = tm' := by
          cases tm' with
          | true => rfl
          | false => have ⟨z1, z2⟩ := lt rfl; rw [← z1, ← z2, decide_eq_false (by omega)]; rfl
        rw [te] at k
        first | refine zb_if_ne hP rfl (fun c116 => ?_) (fun c116 => ?_) | refine zl_if_ne hP rfl (fun c116 => ?_) (fun c116 => ?_) | refine z_if_ne hP rfl (by omega) (fun c116 => ?_) (fun c116 => ?_)
        rotate_left
        · cases c116
        rw [← e2]
        refine z_iinc hP rfl rfl rfl ?_
        refine x_goto hP rfl ?_
        refine x_re hP [some (.ref 26), some (.int (iI lv)), some (.ref (σ1 1 lv)), some (.int (iI (i + 1 : Nat))), none] ⟨rfl, rfl, rfl, rfl, trivial⟩ (ih (i + 1) I2 J1 R1 σ1 (V.1 ++ W.1, prd V.2 W.2) (prd l l1) tn1 tm' q w1 (by omega) e3 (frP_trans f1 (frP_trans g1 e4)) (frP_trans f2 g2) (frP_trans f3 g3) hr1 hi2 hq hB1 p2 m1 vmul (fun z => by have ⟨z1, z2⟩ := lt z; rw [z1, z2]) k _ _)
      · rw [if_neg b] at m1
        rw [decide_eq_false b]
        have te : (tm' || decide (200 < V.2.length * W.2.length)) = true := by
          cases tm' with
          | true => rfl
          | false => have ⟨z1, z2⟩ := lt rfl; rw [← z1, ← z2, decide_eq_true (by omega)]; rfl
        rw [te] at k
        first | refine zb_if_ne hP rfl (fun c116 => ?_) (fun c116 => ?_) | refine zl_if_ne hP rfl (fun c116 => ?_) (fun c116 => ?_) | refine z_if_ne hP rfl (by omega) (fun c116 => ?_) (fun c116 => ?_)
        · cases c116
        rw [← e2]
        first | refine x_aload_n hP rfl rfl ?_ | refine x_aload_nN hP rfl rfl ?_
        refine x_iconst hP rfl ?_
        refine x_putZ hP rfl (by first | assumption | rfl) (by first | exact Or.inl rfl | exact Or.inr rfl | assumption) ?_
        first | refine w_nI ?_ | refine w_nL ?_ | refine w_nR ?_ | refine w_mI ?_ | refine w_mL ?_ | refine w_mR ?_ | skip
        rw [tI_put _ _ _ _ _ _ _ _ _ (by decide)]
        refine z_iinc hP rfl rfl rfl ?_
        refine x_goto hP rfl ?_
        refine x_re hP [some (.ref 26), some (.int (iI lv)), some (.ref (σ1 1 lv)), some (.int (iI (i + 1 : Nat))), none] ⟨rfl, rfl, rfl, rfl, trivial⟩ (ih (i + 1) _ J1 R1 σ1 (V.1 ++ W.1, prd V.2 W.2) [] tn1 true q w1 (by omega) (en_26 e3 _ _) (frP_at (frP_trans f1 (frP_trans g1 e4)) (by unfold fA; omega)) (frP_trans f2 g2) (frP_trans f3 g3) hr1 (srI_tm hi2) hq hB1 (prt_trans p2 (prt_26 s6)) (rw_26 hs1 m1) (vV_sub vmul fun x hx => absurd hx List.not_mem_nil) (fun z => by cases z) k _ _)
theorem c_readItem (hP : x_closed E P) (hl6 : lv < 6) {part : Nat → Bool → x_RS} (hm : mono part) (hpart : rdC P 66 (d + 6) 2 lv (SP lv) t n c Z part) : rdC P 65 (d + 7) 1 lv (SI lv) t n c Z (itmR c n part) := by
  intro I J R σ tn tm p w B Q rc rs he hr hi hp hB hB2 k
  unfold itmR at k
  first | refine x_aload_n hP rfl rfl ?_ | refine x_aload_nN hP rfl rfl ?_
  refine x_iload_n hP rfl rfl ?_
  refine x_callV1 (ci := 4) hP 0 0 rfl rfl rfl (by first | assumption | rfl) rfl rfl rfl (Nat.zero_le _) (Nat.zero_le _) ?_
  refine hpart I J R σ tn tm p w B _ _ _ he hr hi hp hB hB2 ?_
  generalize part p tm = oo at k ⊢
  match oo, k with
  | .inl e, k =>
    intro I' J' R' σ' tn' tm' p' he' g1 g2 g3 hr' hi' hB'
    first | refine zb_if_ne hP rfl (fun c5 => ?_) (fun c5 => ?_) | refine zl_if_ne hP rfl (fun c5 => ?_) (fun c5 => ?_) | refine z_if_ne hP rfl (by omega) (fun c5 => ?_) (fun c5 => ?_)
    · cases c5
    refine x_iconst hP rfl ?_
    refine x_zret hP rfl rfl (by first | exact Or.inl iI_0 | exact Or.inr iI_1 | exact bI_or _ | assumption) ?_
    exact sP_err k he' g1 g2 g3 hr' hi' hB' _
  | .inr ((V, tm'), q), k =>
    intro hq I1 J1 R1 σ1 tn1 l1 w1 he1 g1 g2 g3 hr1 hi1 hB1 hpr1 hw1 hv1 hl1
    dsimp only at k
    have ⟨hR1, s2, s3, s4, s5, s6, s7⟩ := hr1
    have v1 : R1 7 28 lv = some (σ1 1 lv) := s5 1 lv (by decide) hl6
    have v2 : R1 7 29 lv = some (σ1 2 lv) := s5 2 lv (by decide) hl6
    have kr1 := (isRw_of hR1 (s18_rows (s6.1 1 lv (by decide) hl6))).1
    have kr2 := (isRw_of hR1 (s18_rows (s6.1 2 lv (by decide) hl6))).1
    have hr2 := srR_swp (b1 := 2) (j1 := lv) (b2 := 1) (j2 := lv) hr1 (by decide) hl6 (by decide) hl6 rfl rfl
    first | refine zb_if_ne hP rfl (fun c5 => ?_) (fun c5 => ?_) | refine zl_if_ne hP rfl (fun c5 => ?_) (fun c5 => ?_) | refine z_if_ne hP rfl (by omega) (fun c5 => ?_) (fun c5 => ?_)
    rotate_left
    · cases c5
    first | refine x_aload_n hP rfl rfl ?_ | refine x_aload_nN hP rfl rfl ?_
    refine x_getR hP rfl (by first | assumption | rfl) (by first | assumption | exact hR _ _ _ _ rfl | exact hR1 _ _ _ _ rfl | exact hR2 _ _ _ _ rfl | rfl) ?_
    refine x_iload_n hP rfl rfl ?_
    refine z_aald hP rfl (by first | assumption | rfl) (by decide) (by omega) (by decide) (by decide) rfl (by first | assumption | exact hR _ _ _ _ rfl | exact hR1 _ _ _ _ rfl | exact hR2 _ _ _ _ rfl | rfl) ?_
    first | refine x_astore_n hP rfl ?_ | refine x_astore_nN hP rfl ?_
    first | refine x_aload_n hP rfl rfl ?_ | refine x_aload_nN hP rfl rfl ?_
    refine x_getR hP rfl (by first | assumption | rfl) (by first | assumption | exact hR _ _ _ _ rfl | exact hR1 _ _ _ _ rfl | exact hR2 _ _ _ _ rfl | rfl) ?_
    refine x_iload_n hP rfl rfl ?_
    first | refine x_aload_n hP rfl rfl ?_ | refine x_aload_nN hP rfl rfl ?_
    refine x_getR hP rfl (by first | assumption | rfl) (by first | assumption | exact hR _ _ _ _ rfl | exact hR1 _ _ _ _ rfl | exact hR2 _ _ _ _ rfl | rfl) ?_
    refine x_iload_n hP rfl rfl ?_
    refine z_aald hP rfl (by first | assumption | rfl) (by decide) (by omega) (by decide) (by decide) rfl (by first | assumption | exact hR _ _ _ _ rfl | exact hR1 _ _ _ _ rfl | exact hR2 _ _ _ _ rfl | rfl) ?_
    refine z_aast (ci := 3) hP rfl (by first | assumption | rfl) (by decide) (by omega) (by decide) (by decide) rfl rfl (by first | assumption | rfl) ?_
    first | refine w_nI ?_ | refine w_nL ?_ | refine w_nR ?_ | refine w_mI ?_ | refine w_mL ?_ | refine w_mR ?_ | skip
    first | refine x_aload_n hP rfl rfl ?_ | refine x_aload_nN hP rfl rfl ?_
    refine x_getR hP rfl (by first | assumption | rfl) (by first | assumption | exact hR _ _ _ _ rfl | exact hR1 _ _ _ _ rfl | exact hR2 _ _ _ _ rfl | rfl) ?_
    refine x_iload_n hP rfl rfl ?_
    first | refine x_aload_n hP rfl rfl ?_ | refine x_aload_nN hP rfl rfl ?_
    refine z_aast (ci := 3) hP rfl (by first | assumption | rfl) (by decide) (by omega) (by decide) (by decide) rfl rfl (by first | assumption | rfl) ?_
    first | refine w_nI ?_ | refine w_nL ?_ | refine w_nR ?_ | refine w_mI ?_ | refine w_mL ?_ | refine w_mR ?_ | skip
    refine x_iconst hP rfl ?_
    refine x_istore_n hP rfl ?_
    have e1 := swp_2 σ1 (b1 := 2) (j1 := lv) (b2 := 1) (j2 := lv) (by omega)
    refine x_re hP [some (.ref 26), some (.int (iI lv)), some (.ref (swp σ1 2 lv 1 lv 1 lv)), some (.int (iI (0 : Nat))), none] ⟨rfl, rfl, by rw [e1]; rfl, rfl, trivial⟩ (c_readItem_loop hP hl6 hB2 hm hpart 2000 0 I1 J1 _ (swp σ1 2 lv 1 lv) V l1 tn1 tm' q w1 (by omega) he1 g1 g2 (frP_at (frP_at g3 (by unfold fA; omega)) (by unfold fA; omega)) hr2 hi1 hq hB1 (prt_trans (prt_mono hpr1 fun b j z => by unfold SI at z; unfold SP; omega) (prt_sw fun b j z => by unfold SI at z; omega)) (by rw [e1]; exact hw1) hv1 hl1 k _ _)
end
