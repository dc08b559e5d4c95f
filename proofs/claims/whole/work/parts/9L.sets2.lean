/-! THE some (.ref 122)ERENCE: ITEMS, SETS, all -/
section
variable {E : x_E} {P : x_Pr} {d : Nat} {J : x_M Int64} {R : x_M (Option Nat)} {Q : x_Q} {n : Nat} {c : Nat → Nat} {Z : x_Z} {lv : Nat}
theorem r_ITL (hP : x_closed E P) (hR : x_fin R) (hl : lv < 6) {part : Nat → Bool → x_RS} (hm : mono part) (hpt : rdR P Q J R n c Z (d + 5) lv 97 (9 + 3 * lv) (fP lv) (fun _ => True) (ptpost lv) part) {I0 I1 : x_M Int32} {p0 : Nat} : ∀ (f : Nat) (I : x_M Int32) (V : x_V) (tm : Bool) (p : Nat), eR I J n c Z → I 3 151 lv = bI true → rA (zT Z) I (8 + 3 * lv) V tm → I 1602 122 0 = bI tm → frP gF I0 I → frP (fI lv) I1 I → p ≤ n → p0 < p → n ≤ p + f → (match itmL c n part f V tm p with
    | .inl e => ∀ I' (q : Nat), e ≤ n + 10 → frP gF I0 I' → Q none (x_hp (rT I' q e) J R)
    | .inr ((V, tm'), q) => ∀ I' L r1 r2, q ≤ n → p0 < q → frP (fI lv) I1 I' → True → rA (zT Z) I' (8 + 3 * lv) V tm' → I' 1602 122 0 = bI tm' → x_ag L 0 [some (.ref 122), some (.int (iI lv)), some (.int (iI 1)), none, some (.int (iI 0))] → P 179 (d + 5) 132 L [] (x_hp (rT I' q (-1)) J R) r1 r2 Q) → ∀ L r1 r2, x_ag L 0 [some (.ref 122), some (.int (iI lv)), some (.int (iI 1)), none, some (.int (iI 0))] → P 179 (d + 5) 110 L [] (x_hp (rT I p (-1)) J R) r1 r2 Q := by
  intro f
  induction f with
  | zero =>
    intro I V tm p he hi hA hf h0 h1 hp hp0 hn k L r1 r2 hL
    refine x_re hP _ hL ?_
    have e : ch c n p = -1 := by unfold ch; rw [if_neg (by omega)]
    first | refine x_aload_n hP rfl rfl ?_ | refine x_aload_nN hP rfl rfl ?_
    refine x_callV0 (ci := 9) hP 0 0 rfl rfl rfl (by first | assumption | rfl) rfl rfl rfl (Nat.zero_le _) (Nat.zero_le _) ?_
    refine r_here hP hR he.1 hp ?_
    rw [e]
    refine x_bipush hP rfl ?_
    first | refine z_icmp_ne hP rfl (by omega) (by omega) (fun c116 => ?_) (fun c116 => ?_) | refine x_icmp_ne hP rfl (fun c116 => ?_) (fun c116 => ?_)
    · exact k I _ _ _ hp hp0 h1 trivial hA hf ⟨rfl, rfl, rfl, rfl, trivial⟩
    · omega
  | succ f ih =>
    intro I V tm p he hi hA hf h0 h1 hp hp0 hn k L r1 r2 hL
    refine x_re hP _ hL ?_
    have n2 := he.1.2.1
    have chr := ch_rg (n := n) he.1.2.2.1 p
    unfold itmL at k
    first | refine x_aload_n hP rfl rfl ?_ | refine x_aload_nN hP rfl rfl ?_
    refine x_callV0 (ci := 9) hP 0 0 rfl rfl rfl (by first | assumption | rfl) rfl rfl rfl (Nat.zero_le _) (Nat.zero_le _) ?_
    refine r_here hP hR he.1 hp ?_
    refine x_bipush hP rfl ?_
    first | refine z_icmp_ne hP rfl (by omega) (by omega) (fun c116 => ?_) (fun c116 => ?_) | refine x_icmp_ne hP rfl (fun c116 => ?_) (fun c116 => ?_)
    · rw [if_neg c116] at k
      exact k I _ _ _ hp hp0 h1 trivial hA hf ⟨rfl, rfl, rfl, rfl, trivial⟩
    rw [if_pos c116] at k
    have hlt : p < n := by unfold ch at c116; split at c116 <;> omega
    have s1 : rT I p (-1) 1580 122 0 = iI p := rfl
    first | refine x_aload_n hP rfl rfl ?_ | refine x_aload_nN hP rfl rfl ?_
    refine x_dup hP rfl rfl ?_
    refine x_getI hP rfl (by first | assumption | rfl) (by first | assumption | exact hR _ _ _ _ rfl | exact hR1 _ _ _ _ rfl | exact hR2 _ _ _ _ rfl | rfl) ?_
    refine x_iconst hP rfl ?_
    first | refine z_iadd hP rfl ?_ | refine x_iadd hP rfl ?_
    refine x_putI hP rfl (by first | assumption | rfl) ?_
    first | refine w_nI ?_ | refine w_nL ?_ | refine w_nR ?_ | refine w_mI ?_ | refine w_mL ?_ | refine w_mR ?_ | skip
    rw [show (p : Int) + 1 = ((p + 1 : Nat) : Int) by omega, rT_at]
    refine x_goto hP rfl ?_
    refine r_s82 hP (hpt I I0 (p + 1) tm he trivial hf h0 hlt ?_) _ _ _ ⟨rfl, rfl, rfl, rfl, trivial⟩
    have hm := hm (p + 1) tm
    generalize part (p + 1) tm = op at k hm ⊢
    match op, k, hm with
    | .inl e, k, _ => exact k
    | .inr ((W, tm'), q), k, hm =>
      have hm := hm W tm' q rfl
      dsimp only at k
      intro I2 L r1 r2 hq hpq g1 g2 g3 g4 hL
      have g2 : I2 1 148 lv = iI (p + 1 : Nat) := g2
      refine x_re hP _ hL ?_
      have hw := he.2.1.2.2.2.2.2
      have G2 : frP gF I I2 := frP_mono g1 fun _ _ _ z => fS_gF (fI_fS (fP_fI z))
      have hi2 : I2 3 151 lv = bI true := (g1 _ _ _ fun z => by unfold fP at z; omega).trans hi
      have A2 : rA (zT Z) I2 (8 + 3 * lv) V tm' := rA_mono (rA_fr hA g1 fun k a i z y => by unfold rsF at z; unfold fP at y; omega) hm
      first | refine x_aload_n hP rfl rfl ?_ | refine x_aload_nN hP rfl rfl ?_
      refine x_iload_n hP rfl rfl ?_
      refine x_callV1 (ci := 9) hP 0 0 rfl rfl rfl (by first | assumption | rfl) rfl rfl rfl (Nat.zero_le _) (Nat.zero_le _) ?_
      refine r_toItem1 hP hR hw hl hi2 A2 g3 g4 g2 (by omega) (fun z => ?_) (fun z I3 y1 y2 y3 y4 => ?_)
      · rw [if_pos z] at k
        first | refine x_aload_n hP rfl rfl ?_ | refine x_aload_nN hP rfl rfl ?_
        refine x_callV0 (ci := 9) hP 0 0 rfl rfl rfl (by first | assumption | rfl) rfl rfl rfl (Nat.zero_le _) (Nat.zero_le _) ?_
        refine r_badB hP (by omega) ?_
        first | refine zb_if_eq hP rfl (fun c106 => ?_) (fun c106 => ?_) | refine zl_if_eq hP rfl (fun c106 => ?_) (fun c106 => ?_) | refine z_if_eq hP rfl (by omega) (fun c106 => ?_) (fun c106 => ?_)
        · cases c106
        refine x_vret hP rfl rfl ?_
        exact k I2 _ (by omega) (frP_trans h0 G2)
      · rw [if_neg z] at k
        have G3 : frP gF I I3 := frP_trans G2 (frP_mono y3 fun _ _ _ z => fS_gF (fI_fS (iF_fI hl z)))
        first | refine x_aload_n hP rfl rfl ?_ | refine x_aload_nN hP rfl rfl ?_
        refine x_callV0 (ci := 9) hP 0 0 rfl rfl rfl (by first | assumption | rfl) rfl rfl rfl (Nat.zero_le _) (Nat.zero_le _) ?_
        refine r_badO hP ?_
        first | refine zb_if_eq hP rfl (fun c106 => ?_) (fun c106 => ?_) | refine zl_if_eq hP rfl (fun c106 => ?_) (fun c106 => ?_) | refine z_if_eq hP rfl (by omega) (fun c106 => ?_) (fun c106 => ?_)
        rotate_left
        · cases c106
        exact ih I3 _ _ q (eR_g he G3) y4 y1 y2 (frP_trans h0 G3) (frP_trans h1 (frP_trans (frP_mono g1 fun _ _ _ => fP_fI) (frP_mono y3 fun _ _ _ => iF_fI hl))) hq (by omega) (by omega) k _ _ _ ⟨rfl, rfl, rfl, rfl, trivial⟩
theorem r_IT (hP : x_closed E P) (hR : x_fin R) (hl : lv < 6) {part : Nat → Bool → x_RS} (hm : mono part) (hpt : rdR P Q J R n c Z (d + 5) lv 97 (9 + 3 * lv) (fP lv) (fun _ => True) (ptpost lv) part) : rdR P Q J R n c Z (d + 5) lv 132 (8 + 3 * lv) (fI lv) (fun I => I 3 151 lv = bI false) (fun _ _ => True) (itmR c n part) := by
  intro I I0 p tm he pre hf h0 hp k
  refine hpt I I0 p tm he trivial hf h0 hp ?_
  unfold itmR at k
  have n2 := he.1.2.1
  generalize part p tm = op at k ⊢
  match op, k with
  | .inl e, k => exact k
  | .inr ((W, tm'), q), k =>
    dsimp only at k
    intro I2 L r1 r2 hq hpq g1 g2 g3 g4 hL
    refine x_re hP _ hL ?_
    have G2 : frP gF I I2 := frP_mono g1 fun _ _ _ z => fS_gF (fI_fS (fP_fI z))
    have hi2 : I2 3 151 lv = bI false := (g1 _ _ _ fun z => by unfold fP at z; omega).trans pre
    first | refine x_aload_n hP rfl rfl ?_ | refine x_aload_nN hP rfl rfl ?_
    refine x_iload_n hP rfl rfl ?_
    refine x_callV1 (ci := 9) hP 0 0 rfl rfl rfl (by first | assumption | rfl) rfl rfl rfl (Nat.zero_le _) (Nat.zero_le _) ?_
    refine r_toItem0 hP hR hl hi2 g3 g4 (fun I3 y1 y2 y3 y4 => ?_)
    have G3 : frP gF I I3 := frP_trans G2 (frP_mono y4 fun _ _ _ z => fS_gF (fI_fS (iF_fI hl z)))
    first | refine x_aload_n hP rfl rfl ?_ | refine x_aload_nN hP rfl rfl ?_
    refine x_callV0 (ci := 9) hP 0 0 rfl rfl rfl (by first | assumption | rfl) rfl rfl rfl (Nat.zero_le _) (Nat.zero_le _) ?_
    refine r_badO hP ?_
    first | refine zb_if_eq hP rfl (fun c106 => ?_) (fun c106 => ?_) | refine zl_if_eq hP rfl (fun c106 => ?_) (fun c106 => ?_) | refine z_if_eq hP rfl (by omega) (fun c106 => ?_) (fun c106 => ?_)
    rotate_left
    · cases c106
    exact r_ITL (I0 := I0) (I1 := I) (p0 := p) hP hR hl hm hpt 2000 I3 W tm' q (eR_g he G3) y2 y1 y3 (frP_trans h0 G3) (frP_trans (frP_mono g1 fun _ _ _ => fP_fI) (frP_mono y4 fun _ _ _ => iF_fI hl)) hq hpq (by omega) k _ _ _ ⟨rfl, rfl, rfl, rfl, trivial⟩
theorem r_STL (hP : x_closed E P) (hR : x_fin R) (hl : lv < 6) {item : Nat → Bool → x_RS} (hm : mono item) (hit : rdR P Q J R n c Z (d + 5) lv 132 (8 + 3 * lv) (fI lv) (fun I => I 3 151 lv = bI false) (fun _ _ => True) item) {I0 I1 : x_M Int32} {p0 : Nat} : ∀ (f : Nat) (I : x_M Int32) (V : x_V) (tm : Bool) (p : Nat), eR I J n c Z → I 3 150 lv = bI true → I 3 151 lv = bI false → rA (zT Z) I (7 + 3 * lv) V tm → I 1602 122 0 = bI tm → frP gF I0 I → frP (fS lv) I1 I → p ≤ n → p0 < p → n ≤ p + f → (match setL c n item f V tm p with
    | .inl e => ∀ I' (q : Nat), e ≤ n + 10 → frP gF I0 I' → Q none (x_hp (rT I' q e) J R)
    | .inr ((V, tm'), q) => ∀ I' L r1 r2, q ≤ n → p0 < q → frP (fS lv) I1 I' → True → rA (zT Z) I' (7 + 3 * lv) V tm' → I' 1602 122 0 = bI tm' → x_ag L 0 [some (.ref 122), some (.int (iI lv)), some (.int (iI 1)), none, some (.int (iI 0))] → P 179 (d + 5) 188 L [] (x_hp (rT I' q (-1)) J R) r1 r2 Q) → ∀ L r1 r2, x_ag L 0 [some (.ref 122), some (.int (iI lv)), some (.int (iI 1)), none, some (.int (iI 0))] → P 179 (d + 5) 145 L [] (x_hp (rT I p (-1)) J R) r1 r2 Q := by
  intro f
  induction f with
  | zero =>
    intro I V tm p he hs hi hA hf h0 h1 hp hp0 hn k L r1 r2 hL
    refine x_re hP _ hL ?_
    have e : ch c n p = -1 := by unfold ch; rw [if_neg (by omega)]
    first | refine x_aload_n hP rfl rfl ?_ | refine x_aload_nN hP rfl rfl ?_
    refine x_callV0 (ci := 9) hP 0 0 rfl rfl rfl (by first | assumption | rfl) rfl rfl rfl (Nat.zero_le _) (Nat.zero_le _) ?_
    refine r_here hP hR he.1 hp ?_
    rw [e]
    refine x_callS1 hP 0 0 rfl rfl rfl rfl rfl (Nat.zero_le _) (Nat.zero_le _) ?_
    refine r_isJoin hP (by omega) ?_
    first | refine zb_if_eq hP rfl (fun c152 => ?_) (fun c152 => ?_) | refine zl_if_eq hP rfl (fun c152 => ?_) (fun c152 => ?_) | refine z_if_eq hP rfl (by omega) (fun c152 => ?_) (fun c152 => ?_)
    · exact k I _ _ _ hp hp0 h1 trivial hA hf ⟨rfl, rfl, rfl, rfl, trivial⟩
    · cases c152
  | succ f ih =>
    intro I V tm p he hs hi hA hf h0 h1 hp hp0 hn k L r1 r2 hL
    refine x_re hP _ hL ?_
    have n2 := he.1.2.1
    have chr := ch_rg (n := n) he.1.2.2.1 p
    unfold setL at k
    first | refine x_aload_n hP rfl rfl ?_ | refine x_aload_nN hP rfl rfl ?_
    refine x_callV0 (ci := 9) hP 0 0 rfl rfl rfl (by first | assumption | rfl) rfl rfl rfl (Nat.zero_le _) (Nat.zero_le _) ?_
    refine r_here hP hR he.1 hp ?_
    refine x_callS1 hP 0 0 rfl rfl rfl rfl rfl (Nat.zero_le _) (Nat.zero_le _) ?_
    refine r_isJoin hP (by omega) ?_
    first | refine zb_if_eq hP rfl (fun c152 => ?_) (fun c152 => ?_) | refine zl_if_eq hP rfl (fun c152 => ?_) (fun c152 => ?_) | refine z_if_eq hP rfl (by omega) (fun c152 => ?_) (fun c152 => ?_)
    · rw [if_neg (by rw [c152]; exact Bool.false_ne_true)] at k
      exact k I _ _ _ hp hp0 h1 trivial hA hf ⟨rfl, rfl, rfl, rfl, trivial⟩
    rw [if_pos c152] at k
    have hlt : p < n := by
      have := of_decide_eq_true c152
      unfold ch at this; split at this <;> omega
    first | refine x_aload_n hP rfl rfl ?_ | refine x_aload_nN hP rfl rfl ?_
    first | refine x_getR hP rfl (by first | assumption | rfl) (by first | assumption | exact hR _ _ _ _ rfl | exact hR1 _ _ _ _ rfl | exact hR2 _ _ _ _ rfl | rfl) ?_ | refine x_getN hP rfl (by first | assumption | rfl) (by first | assumption | exact hR _ _ _ _ rfl | exact hR1 _ _ _ _ rfl | exact hR2 _ _ _ _ rfl | rfl) ?_
    refine x_iload_n hP rfl rfl ?_
    first | refine x_aload_n hP rfl rfl ?_ | refine x_aload_nN hP rfl rfl ?_
    refine x_callV0 (ci := 9) hP 0 0 rfl rfl rfl (by first | assumption | rfl) rfl rfl rfl (Nat.zero_le _) (Nat.zero_le _) ?_
    refine r_here hP hR he.1 hp ?_
    refine z_iast hP rfl (by first | assumption | rfl) (by first | decide | omega) (by omega) ?_
    first | refine w_nI ?_ | refine w_nL ?_ | refine w_nR ?_ | refine w_mI ?_ | refine w_mL ?_ | refine w_mR ?_ | skip
    rw [Int.toNat_natCast, rT_x (by decide)]
    have s1 : rT (x_at I 1 149 lv (iI (ch c n p))) p (-1) 1580 122 0 = iI p := rfl
    first | refine x_aload_n hP rfl rfl ?_ | refine x_aload_nN hP rfl rfl ?_
    refine x_dup hP rfl rfl ?_
    refine x_getI hP rfl (by first | assumption | rfl) (by first | assumption | exact hR _ _ _ _ rfl | exact hR1 _ _ _ _ rfl | exact hR2 _ _ _ _ rfl | rfl) ?_
    refine x_iconst hP rfl ?_
    first | refine z_iadd hP rfl ?_ | refine x_iadd hP rfl ?_
    refine x_putI hP rfl (by first | assumption | rfl) ?_
    first | refine w_nI ?_ | refine w_nL ?_ | refine w_nR ?_ | refine w_mI ?_ | refine w_mL ?_ | refine w_mR ?_ | skip
    rw [show (p : Int) + 1 = ((p + 1 : Nat) : Int) by omega, rT_at]
    have s2 : rT (x_at I 1 149 lv (iI (ch c n p))) (p + 1 : Nat) (-1) 1580 122 0 = iI (p + 1 : Nat) := rfl
    first | refine x_aload_n hP rfl rfl ?_ | refine x_aload_nN hP rfl rfl ?_
    refine x_getR hP rfl (by first | assumption | rfl) (by first | assumption | exact hR _ _ _ _ rfl | exact hR1 _ _ _ _ rfl | exact hR2 _ _ _ _ rfl | rfl) ?_
    refine x_iload_n hP rfl rfl ?_
    first | refine x_aload_n hP rfl rfl ?_ | refine x_aload_nN hP rfl rfl ?_
    refine x_getI hP rfl (by first | assumption | rfl) (by first | assumption | exact hR _ _ _ _ rfl | exact hR1 _ _ _ _ rfl | exact hR2 _ _ _ _ rfl | rfl) ?_
    refine z_iast hP rfl (by first | assumption | rfl) (by first | decide | omega) (by omega) ?_
    first | refine w_nI ?_ | refine w_nL ?_ | refine w_nR ?_ | refine w_mI ?_ | refine w_mL ?_ | refine w_mR ?_ | skip
    rw [Int.toNat_natCast, rT_x (by decide)]
    have F2 : frP (fun _ a i => (a = 149 ∨ a = 147) ∧ i = lv) I (x_at (x_at I 1 149 lv (iI (ch c n p))) 1 147 lv (iI (p + 1 : Nat))) := frP_at (frP_at (frP_refl _ _) ⟨Or.inl rfl, rfl⟩) ⟨Or.inr rfl, rfl⟩
    have ac2 : x_at (x_at I 1 149 lv (iI (ch c n p))) 1 147 lv (iI (p + 1 : Nat)) 1 149 lv = iI (ch c n p) := by rw [x_at_eq, if_neg (by omega), x_at_eq, if_pos ⟨rfl, rfl, rfl⟩]
    have ia2 : x_at (x_at I 1 149 lv (iI (ch c n p))) 1 147 lv (iI (p + 1 : Nat)) 1 147 lv = iI (p + 1 : Nat) := by rw [x_at_eq, if_pos ⟨rfl, rfl, rfl⟩]
    generalize x_at (x_at I 1 149 lv (iI (ch c n p))) 1 147 lv (iI (p + 1 : Nat)) = I2 at F2 ac2 ia2 ⊢
    have G2 : frP gF I I2 := frP_mono F2 fun k a i z => by unfold gF; omega
    have S2 : frP (fS lv) I I2 := frP_mono F2 fun k a i z => by unfold fS; omega
    have hi2 : I2 3 151 lv = bI false := (F2 _ _ _ (by omega)).trans hi
    have hs2 : I2 3 150 lv = bI true := (F2 _ _ _ (by omega)).trans hs
    have f2 : I2 1602 122 0 = bI tm := (F2 _ _ _ (by omega)).trans hf
    have A2 : rA (zT Z) I2 (7 + 3 * lv) V tm := rA_fr hA F2 fun k a i z y => by unfold rsF at z; omega
    refine x_goto hP rfl ?_
    refine r_s82 hP (hit I2 I0 (p + 1) tm (eR_g he G2) hi2 f2 (frP_trans h0 G2) hlt ?_) _ _ _ ⟨rfl, rfl, rfl, rfl, trivial⟩
    have hm := hm (p + 1) tm
    generalize item (p + 1) tm = op at k hm ⊢
    match op, k, hm with
    | .inl e, k, _ => exact k
    | .inr ((W, tm'), q), k, hm =>
      have hm := hm W tm' q rfl
      dsimp only at k
      intro I3 L r1 r2 hq hpq g1 _ g3 g4 hL
      refine x_re hP _ hL ?_
      have hw := he.2.1.2.2.2.2.2
      have G3 : frP gF I I3 := frP_trans G2 (frP_mono g1 fun _ _ _ z => fS_gF (fI_fS z))
      have S3 : frP (fS lv) I I3 := frP_trans S2 (frP_mono g1 fun _ _ _ => fI_fS)
      have hs3 : I3 3 150 lv = bI true := (g1 _ _ _ fun z => by unfold fI at z; omega).trans hs2
      have ac3 : I3 1 149 lv = iI (ch c n p) := (g1 _ _ _ fun z => by unfold fI at z; omega).trans ac2
      have ia3 : I3 1 147 lv = iI (p + 1 : Nat) := (g1 _ _ _ fun z => by unfold fI at z; omega).trans ia2
      have A3 : rA (zT Z) I3 (7 + 3 * lv) V tm' := rA_mono (rA_fr A2 g1 fun k a i z y => by unfold rsF at z; unfold fI at y; omega) hm
      first | refine x_aload_n hP rfl rfl ?_ | refine x_aload_nN hP rfl rfl ?_
      refine x_iload_n hP rfl rfl ?_
      refine x_callV1 (ci := 9) hP 0 0 rfl rfl rfl (by first | assumption | rfl) rfl rfl rfl (Nat.zero_le _) (Nat.zero_le _) ?_
      refine r_toSet1 hP hR hw hl hs3 A3 g3 g4 c152 ac3 ia3 (by omega) (fun z I4 y1 => ?_) (fun z I4 y1 y2 y3 y4 y5 => ?_)
      · rw [if_neg z] at k
        first | refine x_aload_n hP rfl rfl ?_ | refine x_aload_nN hP rfl rfl ?_
        refine x_callV0 (ci := 9) hP 0 0 rfl rfl rfl (by first | assumption | rfl) rfl rfl rfl (Nat.zero_le _) (Nat.zero_le _) ?_
        refine r_badB hP (by omega) ?_
        first | refine zb_if_eq hP rfl (fun c141 => ?_) (fun c141 => ?_) | refine zl_if_eq hP rfl (fun c141 => ?_) (fun c141 => ?_) | refine z_if_eq hP rfl (by omega) (fun c141 => ?_) (fun c141 => ?_)
        · cases c141
        refine x_vret hP rfl rfl ?_
        exact k I4 _ (by omega) (frP_trans h0 (frP_trans G3 (frP_mono y1 fun _ _ _ z => fS_gF (tF2_fS hl z))))
      · rw [if_pos z] at k
        have G4 : frP gF I I4 := frP_trans G3 (frP_mono y5 fun _ _ _ z => fS_gF (tF2_fS hl z))
        first | refine x_aload_n hP rfl rfl ?_ | refine x_aload_nN hP rfl rfl ?_
        refine x_callV0 (ci := 9) hP 0 0 rfl rfl rfl (by first | assumption | rfl) rfl rfl rfl (Nat.zero_le _) (Nat.zero_le _) ?_
        refine r_badO hP ?_
        first | refine zb_if_eq hP rfl (fun c141 => ?_) (fun c141 => ?_) | refine zl_if_eq hP rfl (fun c141 => ?_) (fun c141 => ?_) | refine z_if_eq hP rfl (by omega) (fun c141 => ?_) (fun c141 => ?_)
        rotate_left
        · cases c141
        exact ih I4 _ _ q (eR_g he G4) y3 y4 y1 y2 (frP_trans h0 G4) (frP_trans h1 (frP_trans S3 (frP_mono y5 fun _ _ _ => tF2_fS hl))) hq (by omega) (by omega) k _ _ _ ⟨rfl, rfl, rfl, rfl, trivial⟩
theorem r_ST (hP : x_closed E P) (hR : x_fin R) (hl : lv < 6) {item : Nat → Bool → x_RS} (hm : mono item) (hit : rdR P Q J R n c Z (d + 5) lv 132 (8 + 3 * lv) (fI lv) (fun I => I 3 151 lv = bI false) (fun _ _ => True) item) : rdR P Q J R n c Z (d + 5) lv 188 (7 + 3 * lv) (fS lv) (fun I => I 3 150 lv = bI false ∧ I 3 151 lv = bI false) (fun _ _ => True) (stR c n item) := by
  intro I I0 p tm he pre hf h0 hp k
  refine hit I I0 p tm he pre.2 hf h0 hp ?_
  unfold stR at k
  have n2 := he.1.2.1
  generalize item p tm = op at k ⊢
  match op, k with
  | .inl e, k => exact k
  | .inr ((W, tm'), q), k =>
    dsimp only at k
    intro I2 L r1 r2 hq hpq g1 _ g3 g4 hL
    refine x_re hP _ hL ?_
    have G2 : frP gF I I2 := frP_mono g1 fun _ _ _ z => fS_gF (fI_fS z)
    have hs2 : I2 3 150 lv = bI false := (g1 _ _ _ fun z => by unfold fI at z; omega).trans pre.1
    first | refine x_aload_n hP rfl rfl ?_ | refine x_aload_nN hP rfl rfl ?_
    refine x_iload_n hP rfl rfl ?_
    refine x_callV1 (ci := 9) hP 0 0 rfl rfl rfl (by first | assumption | rfl) rfl rfl rfl (Nat.zero_le _) (Nat.zero_le _) ?_
    refine r_toSet0 hP hR hl hs2 g3 g4 (fun I3 y1 y2 y3 y4 y5 => ?_)
    have G3 : frP gF I I3 := frP_trans G2 (frP_mono y5 fun _ _ _ z => fS_gF (tF2_fS hl z))
    first | refine x_aload_n hP rfl rfl ?_ | refine x_aload_nN hP rfl rfl ?_
    refine x_callV0 (ci := 9) hP 0 0 rfl rfl rfl (by first | assumption | rfl) rfl rfl rfl (Nat.zero_le _) (Nat.zero_le _) ?_
    refine r_badO hP ?_
    first | refine zb_if_eq hP rfl (fun c141 => ?_) (fun c141 => ?_) | refine zl_if_eq hP rfl (fun c141 => ?_) (fun c141 => ?_) | refine z_if_eq hP rfl (by omega) (fun c141 => ?_) (fun c141 => ?_)
    rotate_left
    · cases c141
    exact r_STL (I0 := I0) (I1 := I) (p0 := p) hP hR hl hm hit 2000 I3 W tm' q (eR_g he G3) y2 y3 y1 y4 (frP_trans h0 G3) (frP_trans (frP_mono g1 fun _ _ _ => fI_fS) (frP_mono y5 fun _ _ _ => tF2_fS hl)) hq hpq (by omega) k _ _ _ ⟨rfl, rfl, rfl, rfl, trivial⟩
theorem r_LEV (hP : x_closed E P) (hR : x_fin R) : ∀ g lv, lv + g = 5 → rdR P Q J R n c Z (d + 5) lv 188 (7 + 3 * lv) (fS lv) (fun I => I 3 150 lv = bI false ∧ I 3 151 lv = bI false) (fun _ _ => True) (levR Z c n g)
  | 0, lv, h => r_ST hP hR (by omega) (mo_itm (mo_prt fun g h => by cases h)) (r_IT hP hR (by omega) (mo_prt fun g h => by cases h) (r_PT hP hR (by omega) ⟨fun _ => by omega, fun _ => rfl⟩ (fun g h => by cases h)))
  | g + 1, lv, h => r_ST hP hR (by omega) (mo_itm (mo_prt fun g' h => by cases h; exact mo_lev g)) (r_IT hP hR (by omega) (mo_prt fun g' h => by cases h; exact mo_lev g) (r_PT hP hR (by omega) ⟨fun h => (by cases h), fun h => (by omega)⟩ (fun g' h2 => by cases h2; exact r_LEV hP hR g (lv + 1) (by omega))))
theorem r_sets (hP : x_closed E P) (hR : x_fin R) {I : x_M Int32} {rc rs : Nat} (he : eR I J n c Z) (hf : I 1602 122 0 = bI false) (k : match setR Z c n with
    | .inl e => ∀ I' (q : Nat), e ≤ n + 10 → frP gF I I' → Q none (x_hp (rT I' q e) J R)
    | .inr ((V, tm'), _) => ∀ I' (q : Nat), frP gF I I' → rA (zT Z) I' 7 V tm' → I' 1602 122 0 = bI tm' → Q none (x_hp (rT I' q (-1)) J R)) : P 179 (d + 5) 0 (x_la 0 [.ref 122]) [] (x_hp (rT I (0 : Nat) (-1)) J R) rc rs Q := by
  have n2 := he.1.2.1
  refine x_iconst hP rfl ?_
  refine x_istore_n hP rfl ?_
  first | refine x_aload_n hP rfl rfl ?_ | refine x_aload_nN hP rfl rfl ?_
  refine x_iconst hP rfl ?_
  refine x_iconst hP rfl ?_
  refine x_callV2 (ci := 9) hP 0 0 rfl rfl rfl (by first | assumption | rfl) rfl rfl rfl (Nat.zero_le _) (Nat.zero_le _) ?_
  refine r_frame (l := 0) (f := 0) hP hR (by decide) (fun I1 y1 y2 y3 y4 y5 => ?_)
  have G1 : frP gF I I1 := frP_mono y5 fun k a i z => by unfold mF at z; unfold gF; omega
  have f1 : I1 1602 122 0 = bI false := (y5 _ _ _ fun z => by unfold mF at z; omega).trans hf
  refine x_iconst hP rfl ?_
  refine x_istore_n hP rfl ?_
  refine r_LEV hP hR 5 0 rfl I1 I 0 false (eR_g he G1) ⟨y3, y4⟩ f1 G1 (Nat.zero_le _) ?_ _ _ _ ⟨rfl, rfl, rfl, trivial⟩
  unfold setR at k
  generalize levR Z c n 5 0 false = ol at k ⊢
  match ol, k with
  | .inl e, k => exact k
  | .inr ((V, tm'), q), k =>
    dsimp only at k
    intro I2 L r1 r2 hq hpq g1 _ g3 g4 hL
    refine x_re hP _ hL ?_
    have G2 : frP gF I I2 := frP_trans G1 (frP_mono g1 fun _ _ _ => fS_gF)
    have s1 : rT I2 q (-1) 1580 122 0 = iI q := rfl
    have s2 : rT I2 q (-1) 1579 122 0 = iI n := (eR_g he G2).1.1
    have out : ∀ (x : Int), Q none (x_hp (rT I2 q x) J R) → ∀ L r1 r2, x_ag L 0 [some (.ref 122), some (.int (iI (0 : Nat))), none, none, some (.int (iI 0))] → P 179 (d + 5) 211 L [] (x_hp (rT I2 q x) J R) r1 r2 Q := by
      intro x kk L r1 r2 hL
      refine x_re hP _ hL ?_
      refine x_iconst hP rfl ?_
      refine x_istore_n hP rfl ?_
      refine x_goto hP rfl ?_
      refine x_iload hP rfl rfl ?_
      first | refine zb_if_eq hP rfl (fun c84 => ?_) (fun c84 => ?_) | refine zl_if_eq hP rfl (fun c84 => ?_) (fun c84 => ?_) | refine z_if_eq hP rfl (by omega) (fun c84 => ?_) (fun c84 => ?_)
      rotate_left
      · omega
      refine x_goto hP rfl ?_
      refine x_iload_n hP rfl rfl ?_
      first | refine zb_if_eq hP rfl (fun c11 => ?_) (fun c11 => ?_) | refine zl_if_eq hP rfl (fun c11 => ?_) (fun c11 => ?_) | refine z_if_eq hP rfl (by omega) (fun c11 => ?_) (fun c11 => ?_)
      rotate_left
      · omega
      refine x_vret hP rfl rfl ?_
      exact kk
    refine x_iload_n hP rfl rfl ?_
    first | refine zb_if_ne hP rfl (fun c189 => ?_) (fun c189 => ?_) | refine zl_if_ne hP rfl (fun c189 => ?_) (fun c189 => ?_) | refine z_if_ne hP rfl (by omega) (fun c189 => ?_) (fun c189 => ?_)
    · omega
    first | refine x_aload_n hP rfl rfl ?_ | refine x_aload_nN hP rfl rfl ?_
    refine x_getI hP rfl (by first | assumption | rfl) (by first | assumption | exact hR _ _ _ _ rfl | exact hR1 _ _ _ _ rfl | exact hR2 _ _ _ _ rfl | rfl) ?_
    first | refine x_aload_n hP rfl rfl ?_ | refine x_aload_nN hP rfl rfl ?_
    refine x_getI hP rfl (by first | assumption | rfl) (by first | assumption | exact hR _ _ _ _ rfl | exact hR1 _ _ _ _ rfl | exact hR2 _ _ _ _ rfl | rfl) ?_
    refine z_icmp_ge hP rfl (by omega) (by omega) (fun c200 => ?_) (fun c200 => ?_)
    · rw [if_pos (show q = n by omega)] at k
      exact out (-1) (k I2 q G2 g3 g4) _ _ _ ⟨rfl, rfl, rfl, trivial⟩
    · rw [if_neg (show ¬ q = n by omega)] at k
      first | refine x_aload_n hP rfl rfl ?_ | refine x_aload_nN hP rfl rfl ?_
      first | refine x_aload_n hP rfl rfl ?_ | refine x_aload_nN hP rfl rfl ?_
      refine x_getI hP rfl (by first | assumption | rfl) (by first | assumption | exact hR _ _ _ _ rfl | exact hR1 _ _ _ _ rfl | exact hR2 _ _ _ _ rfl | rfl) ?_
      refine x_callV1 (ci := 9) hP 0 0 rfl rfl rfl (by first | assumption | rfl) rfl rfl rfl (Nat.zero_le _) (Nat.zero_le _) ?_
      refine r_failO hP ?_
      exact out q (k I2 q (by omega) G2) _ _ _ ⟨rfl, rfl, rfl, trivial⟩
theorem r_set (hP : x_closed E P) (hR : x_fin R) {I : x_M Int32} {rc rs : Nat} {S : x_St} (hg : gS S) (hc : rfI I J S) (k : ∀ I', rfI I' J (spSet S).2 → frP (fun _ a _ => hh a) I I' → Q (some (.int (iI (spSet S).1))) (x_hp I' J R)) : P 178 (d + 6) 0 (x_la 0 [.ref 122]) [] (x_hp I J R) rc rs Q := by
  first | refine x_aload_n hP rfl rfl ?_ | refine x_aload_nN hP rfl rfl ?_
  refine x_callV0 (ci := 9) hP 0 0 rfl rfl rfl (by first | assumption | rfl) rfl rfl rfl (Nat.zero_le _) (Nat.zero_le _) ?_
  refine r_take hP hR hc.1 (fun I1 t1 t2 t3 t4 t5 => ?_)
  have hc1 : rfI I1 J (cutS S 0) := rfI_cut hc t2 t5
  have hf1 : frP (fun _ a _ => hh a) I I1 := frP_mono t5 fun _ _ _ => rK_hh
  have n2 := t1.2.1
  have he : eR I1 J (sN S) (sC S) (sZ S) := ⟨t1, hc1.2.1, hc1.2.2.1, hc1.2.2.2.1, hc1.2.2.2.2.2.1, hg.2.2.1⟩
  unfold spSet at k
  rw [← t4]
  first | refine x_aload_n hP rfl rfl ?_ | refine x_aload_nN hP rfl rfl ?_
  refine x_callV0 (ci := 9) hP 0 0 rfl rfl rfl (by first | assumption | rfl) rfl rfl rfl (Nat.zero_le _) (Nat.zero_le _) ?_
  refine r_sets hP hR he t3 ?_
  generalize setR (sZ S) (sC S) (sN S) = os at k ⊢
  match os, k with
  | .inl e, k =>
    intro I2 q hee g1
    have s1 : rT I2 q e 1581 122 0 = iI e := rfl
    first | refine x_aload_n hP rfl rfl ?_ | refine x_aload_nN hP rfl rfl ?_
    refine x_callV0 (ci := 9) hP 0 0 rfl rfl rfl (by first | assumption | rfl) rfl rfl rfl (Nat.zero_le _) (Nat.zero_le _) ?_
    refine r_badB hP (by omega) ?_
    first | refine zb_if_eq hP rfl (fun c12 => ?_) (fun c12 => ?_) | refine zl_if_eq hP rfl (fun c12 => ?_) (fun c12 => ?_) | refine z_if_eq hP rfl (by omega) (fun c12 => ?_) (fun c12 => ?_)
    · cases c12
    refine x_sipush hP rfl ?_
    first | refine x_aload_n hP rfl rfl ?_ | refine x_aload_nN hP rfl rfl ?_
    refine x_getI hP rfl (by first | assumption | rfl) (by first | assumption | exact hR _ _ _ _ rfl | exact hR1 _ _ _ _ rfl | exact hR2 _ _ _ _ rfl | rfl) ?_
    first | refine z_isub hP rfl ?_ | refine x_isub hP rfl ?_
    refine x_iret hP rfl rfl ?_
    exact k _ (rfI_rT (rfI_w hc1 (frP_mono g1 fun _ _ _ => gF_rW) (frP_refl _ _)) _ _) (frP_trans hf1 (frP_tr g1 (rT_frW I2 q e) (fun _ _ _ z => rW_hh (gF_rW z)) fun _ _ _ => rW_hh))
  | .inr ((V, tm'), q0), k =>
    intro I2 q g1 g2 g3
    have c2 : rfI (rT I2 q (-1)) J (cutS S 0) := rfI_rT (rfI_w hc1 (frP_mono g1 fun _ _ _ => gF_rW) (frP_refl _ _)) _ _
    have f2 : frP (fun _ a _ => hh a) I (rT I2 q (-1)) := frP_trans hf1 (frP_tr g1 (rT_frW I2 q (-1)) (fun _ _ _ z => rW_hh (gF_rW z)) fun _ _ _ => rW_hh)
    have g3' : rT I2 q (-1) 1602 122 0 = bI tm' := g3
    dsimp only at k
    first | refine x_aload_n hP rfl rfl ?_ | refine x_aload_nN hP rfl rfl ?_
    refine x_callV0 (ci := 9) hP 0 0 rfl rfl rfl (by first | assumption | rfl) rfl rfl rfl (Nat.zero_le _) (Nat.zero_le _) ?_
    refine r_badO hP ?_
    first | refine zb_if_eq hP rfl (fun c12 => ?_) (fun c12 => ?_) | refine zl_if_eq hP rfl (fun c12 => ?_) (fun c12 => ?_) | refine z_if_eq hP rfl (by omega) (fun c12 => ?_) (fun c12 => ?_)
    rotate_left
    · cases c12
    cases tm' with
    | true =>
      rw [if_pos rfl] at k
      first | refine x_aload_n hP rfl rfl ?_ | refine x_aload_nN hP rfl rfl ?_
      refine x_getZ hP rfl (by first | assumption | rfl) (by first | assumption | exact hR _ _ _ _ rfl | exact hR1 _ _ _ _ rfl | exact hR2 _ _ _ _ rfl | rfl) ?_
      first | refine zb_if_eq hP rfl (fun c28 => ?_) (fun c28 => ?_) | refine zl_if_eq hP rfl (fun c28 => ?_) (fun c28 => ?_) | refine z_if_eq hP rfl (by omega) (fun c28 => ?_) (fun c28 => ?_)
      · cases c28
      refine x_bipush hP rfl ?_
      refine x_iret hP rfl rfl ?_
      exact k _ c2 f2
    | false =>
      rw [if_neg (by decide)] at k
      first | refine x_aload_n hP rfl rfl ?_ | refine x_aload_nN hP rfl rfl ?_
      refine x_getZ hP rfl (by first | assumption | rfl) (by first | assumption | exact hR _ _ _ _ rfl | exact hR1 _ _ _ _ rfl | exact hR2 _ _ _ _ rfl | rfl) ?_
      first | refine zb_if_eq hP rfl (fun c28 => ?_) (fun c28 => ?_) | refine zl_if_eq hP rfl (fun c28 => ?_) (fun c28 => ?_) | refine z_if_eq hP rfl (by omega) (fun c28 => ?_) (fun c28 => ?_)
      rotate_left
      · cases c28
      obtain ⟨l', a1, a2, a3⟩ := g2
      obtain rfl : l' = V.2 := a3 rfl
      first | refine x_aload_n hP rfl rfl ?_ | refine x_aload_nN hP rfl rfl ?_
      refine x_bipush hP rfl ?_
      refine x_iconst hP rfl ?_
      refine x_callV2 (ci := 9) hP 0 0 rfl rfl rfl (by first | assumption | rfl) rfl rfl rfl (Nat.zero_le _) (Nat.zero_le _) ?_
      refine r_copy (s := 7) (s2 := 0) hP hR (by decide) (by decide) (by decide) (rq_rT a1 q (-1)) (fun I3 y1 y2 => ?_)
      have v := y1.1
      rw [List.length_map] at v
      first | refine x_aload_n hP rfl rfl ?_ | refine x_aload_nN hP rfl rfl ?_
      refine x_getR hP rfl (by first | assumption | rfl) (by first | assumption | exact hR _ _ _ _ rfl | exact hR1 _ _ _ _ rfl | exact hR2 _ _ _ _ rfl | rfl) ?_
      refine x_iconst hP rfl ?_
      refine z_iald hP rfl (by first | assumption | rfl) (by first | decide | omega) (by omega) (by first | assumption | exact hR _ _ _ _ rfl | exact hR1 _ _ _ _ rfl | exact hR2 _ _ _ _ rfl | rfl) ?_
      refine x_iret hP rfl rfl ?_
      refine k I3 ?_ (frP_trans f2 (frP_mono y2 fun _ _ _ => rsF_hh))
      obtain ⟨b1, b2, b3, b4, b5, b6, b7⟩ := c2
      have fs : ∀ {k a i}, ¬ rsF 0 k a i → I3 k a i = rT I2 q (-1) k a i := fun z => y2 _ _ _ z
      have l200 : V.2.length ≤ 200 := by have := y1.2.2.2.1; rw [List.length_map] at this; exact this
      exact ⟨⟨(fs fun z => by unfold rsF at z; omega).trans b1.1, b1.2.1, b1.2.2.1, fun i hi => (fs fun z => by unfold rsF at z; omega).trans (b1.2.2.2 i hi)⟩, rTr_fr b2 y2 (frP_refl _ _) fun k a i z => by unfold rsF at z; omega, rLy_fr b3 y2 fun k a i z => by unfold rsF at z; omega, rNu_fr b4 y2 fun k a i z => by unfold rsF at z; omega, ⟨v, y1.2.1, l200, y1.2.2.2.2.1, fun _ => y1⟩, fun j hj => ⟨fun z => (fs fun z => by unfold rsF at z; omega).trans ((b6 j hj).1 z), fun z => rq_fr ((b6 j hj).2 z) y2 fun k a i z => rsF_ne (by omega) z⟩, ⟨(fs fun z => by unfold rsF at z; omega).trans b7.1, b7.2.1, fun i hi => (fs fun z => by unfold rsF at z; omega).trans (b7.2.2 i hi)⟩⟩
end
