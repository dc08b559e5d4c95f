/-! THE some (.ref 122)ERENCE: a PART -/
def pF (lv k a i : Nat) : Prop := rC k a i ∨ rsF (9 + 3 * lv) k a i ∨ (a = 148 ∧ i = lv)
/-- what a PART begins with: wrong, a PART that is whole, or what opens (1: {, 2 + f: FUNCTION f) -/
def mbL (Z : x_Z) (c : Nat → Nat) (n e k q : Nat) : Nat ⊕ ((x_V × Nat) ⊕ (Nat × Nat)) := match mbrR Z c n e k false q with
  | .inl x => .inl x
  | .inr ((V, _), r) => .inr (.inl (V, r))
def ptN (Z : x_Z) (c : Nat → Nat) (n lv p : Nat) : Nat ⊕ ((x_V × Nat) ⊕ (Nat × Nat)) := match namR c n p with
  | .inl e => .inl e
  | .inr (v, q) => (match fncN v, fMem (zT Z) v with
    | some f, none => if lv = 5 then .inl p else if ch c n q = 40 then .inr (.inr (2 + f, q + 1)) else .inl q
    | some f, some (e, k) => if ch c n q = 40 then (if lv = 5 then .inl p else .inr (.inr (2 + f, q + 1))) else mbL Z c n e k q
    | none, none => .inl p
    | none, some (e, k) => mbL Z c n e k q)
def ptR (Z : x_Z) (c : Nat → Nat) (n lv p : Nat) : Nat ⊕ ((x_V × Nat) ⊕ (Nat × Nat)) := if ch c n p = 123 then (if lv = 5 then .inl p else .inr (.inr (1, p + 1))) else if ch c n p = 35 then (match kptR Z c n p false with
    | .inl e => .inl e
    | .inr ((V, _), q) => .inr (.inl (V, q))) else ptN Z c n lv p
def ptP (Q : x_Q) (I : x_M Int32) (J : x_M Int64) (R : x_M (Option Nat)) (T : x_T) (n lv p : Nat) (tm : Bool) (r : Nat ⊕ ((x_V × Nat) ⊕ (Nat × Nat))) : Prop := match r with
  | .inl e => ∀ I' (b : Bool) (q : Nat), e ≤ n + 10 → frP (pF lv) I I' → Q (some (.int (bI b))) (x_hp (rT I' q e) J R)
  | .inr (.inl (V, q)) => ∀ I', q ≤ n → p < q → rA T I' (9 + 3 * lv) V tm → I' 1 148 lv = iI p → frP (pF lv) I I' → Q (some (.int (bI false))) (x_hp (rT I' q (-1)) J R)
  | .inr (.inr (_, q)) => ∀ I', q ≤ n → p < q → I' 1 148 lv = iI p → frP (pF lv) I I' → Q (some (.int (bI true))) (x_hp (rT I' q (-1)) J R)
/-- what the reading of a SET may rely on -/
def eR (I : x_M Int32) (J : x_M Int64) (n : Nat) (c : Nat → Nat) (Z : x_Z) : Prop := txB I n c ∧ rTr I J (zT Z) ∧ rLy I (zT Z) ∧ rNu I (zN Z) ∧ rkp I (zK Z) ∧ ∀ k, k < 6 → (zK Z k).1 = [] ∨ vV (zT Z) (zK Z k)
def gF (k a i : Nat) : Prop := (a = 122 ∧ (k = 1580 ∨ k = 1581 ∨ k = 1602)) ∨ 145 ≤ a ∨ (k = 1 ∧ (a = 139 ∧ 1407 ≤ i ∨ (a = 140 ∨ a = 141 ∨ a = 142) ∧ 7 ≤ i))
theorem gF_rW {k a i : Nat} (h : gF k a i) : rW k a i := by unfold gF at h; unfold rW; omega
theorem eR_g {I I' : x_M Int32} {J : x_M Int64} {n : Nat} {c : Nat → Nat} {Z : x_Z} (h : eR I J n c Z) (hf : frP gF I I') : eR I' J n c Z := by
  obtain ⟨h1, h2, h3, h4, h5, h6⟩ := h
  have hw : frP rW I I' := frP_mono hf fun _ _ _ => gF_rW
  exact ⟨txB_n h1 hf fun k a i z => by unfold gF at z; omega, rTr_w h2 hw (frP_refl _ _), rLy_w h3 hw, rNu_w h4 hw, rkp_w h5 hw, h6⟩
theorem pF_gF {lv k a i : Nat} (h : pF lv k a i) : gF k a i := by unfold pF rC rsF at h; unfold gF; omega
section
variable {E : x_E} {P : x_Pr} {d rc rs : Nat} {I : x_M Int32} {J : x_M Int64} {R : x_M (Option Nat)} {Q : x_Q} {n p q : Nat} {c : Nat → Nat} {Z : x_Z} {lv : Nat} {tm : Bool}
/-- a MEMBER, alone or with an ACT -/
theorem r_part249 (hP : x_closed E P) (hR : x_fin R) (hl : lv < 6) (he : eR I J n c Z) (hp : q ≤ n) (hpq : p < q) {e m : Nat} (h1 : e < tD (zT Z)) (h2 : m < tS (zT Z) e) (hpa : I 1 148 lv = iI p) {I0 : x_M Int32} (hf0 : frP (pF lv) I0 I) (k : ptP Q I0 J R (zT Z) n lv p tm (mbL Z c n e m q)) : ∀ L r1 r2, x_ag L 0 [some (.ref 122), some (.int (iI lv)), some (.int (iI (9 + 3 * lv : Nat))), none, none, none, none, some (.int (iI (30 * e + m : Nat)))] → P 181 (d + 4) 249 L [] (x_hp (rT I q (-1)) J R) r1 r2 Q := by
  intro L r1 r2 hL
  refine x_re hP _ hL ?_
  obtain ⟨t1, t2, t3, t4, t5, t6⟩ := he
  have hw := t2.2.2.2.2.2
  have w1 := hw.1
  have w3 := (hw.2.2 e h1).2.1
  have n2 := t1.2.1
  have c256 := t1.2.2.1
  have chr := ch_rg (n := n) c256 q
  have wf := twf_wfp hw h1
  unfold mbL mbrR at k
  first | refine x_aload_n hP rfl rfl ?_ | refine x_aload_nN hP rfl rfl ?_
  refine x_iload_n hP rfl rfl ?_
  refine x_iconst hP rfl ?_
  refine x_iload hP rfl rfl ?_
  refine x_bipush hP rfl ?_
  refine x_idiv hP rfl (by decide) ?_
  rw [div30 (by omega), show (30 * e + m) / 30 = e by omega]
  refine x_callV3 (ci := 9) hP 0 0 rfl rfl rfl (by first | assumption | rfl) rfl rfl rfl (Nat.zero_le _) (Nat.zero_le _) ?_
  refine r_clear (ol := [e]) hP hR (by omega) (by show 1 ≤ 4; decide) (fun x hx => by rw [List.mem_singleton.mp hx]; omega) (fun I1 g1 g2 => ?_)
  have e1 := rT_of g2 fun _ _ _ => rsF_rC
  rw [← e1]
  have f1 : frP (pF lv) I0 I1 := frP_trans hf0 (frP_mono (fr_rT g2) fun k a i z => by rcases z with z | z; exact Or.inr (Or.inl z); exact Or.inl z)
  have t1' : txB I1 n c := txB_n t1 (fr_rT g2) fun k a i z => by rcases z with z | z; (unfold rsF at z; omega); (unfold rC at z; omega)
  have pa1 : I1 1 148 lv = iI p := (g2 _ _ _ fun z => by unfold rsF at z; omega).trans hpa
  first | refine x_aload_n hP rfl rfl ?_ | refine x_aload_nN hP rfl rfl ?_
  refine x_callV0 (ci := 9) hP 0 0 rfl rfl rfl (by first | assumption | rfl) rfl rfl rfl (Nat.zero_le _) (Nat.zero_le _) ?_
  refine r_here hP hR t1' hp ?_
  refine x_bipush hP rfl ?_
  first | refine z_icmp_eq hP rfl (by omega) (by omega) (fun c266 => ?_) (fun c266 => ?_) | refine x_icmp_eq hP rfl (fun c266 => ?_) (fun c266 => ?_)
  rotate_left
  · rw [if_neg c266] at k
    dsimp only at k
    first | refine x_aload_n hP rfl rfl ?_ | refine x_aload_nN hP rfl rfl ?_
    refine x_iload_n hP rfl rfl ?_
    refine x_iload hP rfl rfl ?_
    refine x_bipush hP rfl ?_
    refine x_irem hP rfl (by decide) ?_
    rw [rem30 (by omega), show (30 * e + m) % 30 = m by omega]
    refine x_callV2 (ci := 9) hP 0 0 rfl rfl rfl (by first | assumption | rfl) rfl rfl rfl (Nat.zero_le _) (Nat.zero_le _) ?_
    refine r_put1 (ts := []) hP hR (by omega) (rq_rT g1 q (-1)) (by decide) (by omega) (fun I2 y1 y2 => ?_)
    refine x_iconst hP rfl ?_
    refine x_zret hP rfl rfl (by first | exact Or.inl iI_0 | exact Or.inr iI_1 | exact bI_or _ | assumption) ?_
    rw [← rT_of y2 fun _ _ _ => rsF_rC]
    refine k I2 hp hpq ⟨[tp e m], ?_, vV_one (fd := [m]) hw h1 fun x hx => by rw [List.mem_singleton.mp hx]; exact h2, fun _ => rfl⟩ ((y2 _ _ _ fun z => by unfold rsF at z; omega).trans pa1) (frP_trans f1 (frP_mono (fr_rT y2) fun k a i z => by rcases z with z | z; exact Or.inr (Or.inl z); exact Or.inl z))
    show rq I2 (9 + 3 * lv) [e] [rfE [e] (tp e m)]
    rw [rfE_1, pt_tp (by omega) (by omega)]
    exact y1
  rw [if_pos c266] at k
  have hlt : q < n := by unfold ch at c266; split at c266 <;> omega
  have s1 : rT I1 q (-1) 1580 122 0 = iI q := rfl
  first | refine x_aload_n hP rfl rfl ?_ | refine x_aload_nN hP rfl rfl ?_
  refine x_dup hP rfl rfl ?_
  refine x_getI hP rfl (by first | assumption | rfl) (by first | assumption | exact hR _ _ _ _ rfl | exact hR1 _ _ _ _ rfl | exact hR2 _ _ _ _ rfl | rfl) ?_
  refine x_iconst hP rfl ?_
  first | refine z_iadd hP rfl ?_ | refine x_iadd hP rfl ?_
  refine x_putI hP rfl (by first | assumption | rfl) ?_
  first | refine w_nI ?_ | refine w_nL ?_ | refine w_nR ?_ | refine w_mI ?_ | refine w_mL ?_ | refine w_mR ?_ | skip
  rw [show (q : Int) + 1 = ((q + 1 : Nat) : Int) by omega, rT_at]
  first | refine x_aload_n hP rfl rfl ?_ | refine x_aload_nN hP rfl rfl ?_
  refine x_callV0 (ci := 9) hP 0 0 rfl rfl rfl (by first | assumption | rfl) rfl rfl rfl (Nat.zero_le _) (Nat.zero_le _) ?_
  refine r_act0 (p := q + 1) hP hR t1' hlt ?_
  have rg := actR_rg (c := c) (n := n) (p := q + 1) hlt
  have er := fun e h => actR_e (c := c) (n := n) (p := q + 1) (e := e) hlt h
  generalize actR c n (q + 1) = oa at k rg er ⊢
  match oa, k, rg, er with
  | .inl x, k, _, er =>
    have er := er x rfl
    dsimp only at k
    intro q2 v ⟨z, hz⟩
    rw [hz]
    refine x_istore hP rfl ?_
    first | refine x_aload_n hP rfl rfl ?_ | refine x_aload_nN hP rfl rfl ?_
    refine x_callV0 (ci := 9) hP 0 0 rfl rfl rfl (by first | assumption | rfl) rfl rfl rfl (Nat.zero_le _) (Nat.zero_le _) ?_
    refine r_badB hP (by omega) ?_
    first | refine zb_if_ne hP rfl (fun c301 => ?_) (fun c301 => ?_) | refine zl_if_ne hP rfl (fun c301 => ?_) (fun c301 => ?_) | refine z_if_ne hP rfl (by omega) (fun c301 => ?_) (fun c301 => ?_)
    rotate_left
    · cases c301
    refine x_iconst hP rfl ?_
    refine x_zret hP rfl rfl (by first | exact Or.inl iI_0 | exact Or.inr iI_1 | exact bI_or _ | assumption) ?_
    exact k I1 false q2 er f1
  | .inr (a, r), k, rg, _ =>
    have ⟨ra, rb, rc'⟩ := rg a r rfl
    dsimp only at k
    show P _ _ _ _ (Value.int (iI (a : Nat)) :: _) _ _ _ _
    refine x_istore hP rfl ?_
    first | refine x_aload_n hP rfl rfl ?_ | refine x_aload_nN hP rfl rfl ?_
    refine x_callV0 (ci := 9) hP 0 0 rfl rfl rfl (by first | assumption | rfl) rfl rfl rfl (Nat.zero_le _) (Nat.zero_le _) ?_
    refine r_badO hP ?_
    first | refine zb_if_ne hP rfl (fun c301 => ?_) (fun c301 => ?_) | refine zl_if_ne hP rfl (fun c301 => ?_) (fun c301 => ?_) | refine z_if_ne hP rfl (by omega) (fun c301 => ?_) (fun c301 => ?_)
    · cases c301
    first | refine x_aload_n hP rfl rfl ?_ | refine x_aload_nN hP rfl rfl ?_
    refine x_iload hP rfl rfl ?_
    refine x_iload hP rfl rfl ?_
    refine x_iload_n hP rfl rfl ?_
    refine x_callV3 (ci := 9) hP 0 0 rfl rfl rfl (by first | assumption | rfl) rfl rfl rfl (Nat.zero_le _) (Nat.zero_le _) ?_
    have hc1 : rTr (rT I1 r (-1)) J (zT Z) := rTr_rT (rTr_fr t2 (fr_rT g2) (frP_refl _ _) fun k a i z => by rcases z with z | z; (unfold rsF at z; omega); (unfold rC at z; omega)) _ _
    have hy1 : rLy (rT I1 r (-1)) (zT Z) := rLy_fr (rLy_fr t3 (fr_rT g2) fun k a i z => by rcases z with z | z; (unfold rsF at z; omega); (unfold rC at z; omega)) (rT_fr I1 r (-1)) fun k a i z => by unfold rC at z; omega
    refine r_does hP hR h1 (by omega) h2 ra hc1 hy1 gd_nil (rq_rT g1 r (-1)) (fun I2 y0 y1 y2 => ?_)
    rw [refL_eq wf (dpt_of hw h1) h2 ra] at y0 y1
    refine x_iconst hP rfl ?_
    refine x_zret hP rfl rfl (by first | exact Or.inl iI_0 | exact Or.inr iI_1 | exact bI_or _ | assumption) ?_
    rw [← rT_of y2 fun _ _ _ => rsF_rC]
    refine k I2 rc' (by omega) ⟨(adds [] (actL (tP (zT Z) e) (tS (zT Z) e) (tH (zT Z) e) a m)).map (tp e), ?_, vV_one hw h1 fun x hx => ?_, fun _ => rfl⟩ ((y2 _ _ _ fun z => by unfold rsF at z; omega).trans pa1) (frP_trans f1 (frP_mono (fr_rT y2) fun k a i z => by rcases z with z | z; exact Or.inr (Or.inl z); exact Or.inl z))
    · show rq I2 (9 + 3 * lv) [e] (((adds [] (actL (tP (zT Z) e) (tS (zT Z) e) (tH (zT Z) e) a m)).map (tp e)).map (rfE [e]))
      rw [map_tp (by omega) fun x hx => by have := y0.1 x hx; omega]
      exact y1
    · rcases adds_mem hx with z | z
      · exact absurd z List.not_mem_nil
      · exact actL_mem wf h2 z
theorem r_part (hP : x_closed E P) (hR : x_fin R) (hl : lv < 6) (he : eR I J n c Z) (hp : p ≤ n) (k : ptP Q I J R (zT Z) n lv p tm (ptR Z c n lv p)) : P 181 (d + 4) 0 (x_la 0 [.ref 122, .int (iI lv)]) [] (x_hp (rT I p (-1)) J R) rc rs Q := by
  have n2 := he.1.2.1
  have c256 := he.1.2.2.1
  have chr := ch_rg (n := n) c256 p
  have s1 : rT I p (-1) 1580 122 0 = iI p := rfl
  refine x_bipush hP rfl ?_
  refine x_iconst hP rfl ?_
  refine x_iload_n hP rfl rfl ?_
  first | refine z_imul hP rfl ?_ | refine x_imul hP rfl ?_
  first | refine z_iadd hP rfl ?_ | refine x_iadd hP rfl ?_
  rw [show (9 : Int) + 3 * (lv : Int) = ((9 + 3 * lv : Nat) : Int) by omega]
  refine x_istore_n hP rfl ?_
  first | refine x_aload_n hP rfl rfl ?_ | refine x_aload_nN hP rfl rfl ?_
  refine x_getI hP rfl (by first | assumption | rfl) (by first | assumption | exact hR _ _ _ _ rfl | exact hR1 _ _ _ _ rfl | exact hR2 _ _ _ _ rfl | rfl) ?_
  refine x_istore_n hP rfl ?_
  first | refine x_aload_n hP rfl rfl ?_ | refine x_aload_nN hP rfl rfl ?_
  refine x_getR hP rfl (by first | assumption | rfl) (by first | assumption | exact hR _ _ _ _ rfl | exact hR1 _ _ _ _ rfl | exact hR2 _ _ _ _ rfl | rfl) ?_
  refine x_iload_n hP rfl rfl ?_
  refine x_iload_n hP rfl rfl ?_
  refine z_iast hP rfl (by first | assumption | rfl) (by first | decide | omega) (by omega) ?_
  first | refine w_nI ?_ | refine w_nL ?_ | refine w_nR ?_ | refine w_mI ?_ | refine w_mL ?_ | refine w_mR ?_ | skip
  rw [Int.toNat_natCast, rT_x (by decide)]
  have f0 : frP (pF lv) I (x_at I 1 148 lv (iI p)) := frP_at (frP_refl _ _) (Or.inr (Or.inr ⟨rfl, rfl⟩))
  have pa0 : x_at I 1 148 lv (iI p) 1 148 lv = iI p := by rw [x_at_eq, if_pos ⟨rfl, rfl, rfl⟩]
  have he0 : eR (x_at I 1 148 lv (iI p)) J n c Z := eR_g he (frP_mono f0 fun _ _ _ => pF_gF)
  generalize x_at I 1 148 lv (iI p) = I1 at f0 pa0 he0 ⊢
  have t1 := he0.1
  unfold ptR at k
  first | refine x_aload_n hP rfl rfl ?_ | refine x_aload_nN hP rfl rfl ?_
  refine x_callV0 (ci := 9) hP 0 0 rfl rfl rfl (by first | assumption | rfl) rfl rfl rfl (Nat.zero_le _) (Nat.zero_le _) ?_
  refine r_here hP hR t1 hp ?_
  refine x_bipush hP rfl ?_
  first | refine z_icmp_ne hP rfl (by omega) (by omega) (fun c25 => ?_) (fun c25 => ?_) | refine x_icmp_ne hP rfl (fun c25 => ?_) (fun c25 => ?_)
  rotate_left
  · rw [if_pos c25] at k
    have hlt : p < n := by unfold ch at c25; split at c25 <;> omega
    refine x_iload_n hP rfl rfl ?_
    refine x_iconst hP rfl ?_
    first | refine z_icmp_ne hP rfl (by omega) (by omega) (fun c30 => ?_) (fun c30 => ?_) | refine x_icmp_ne hP rfl (fun c30 => ?_) (fun c30 => ?_)
    · rw [if_neg (by omega)] at k
      have s1 : rT I1 p (-1) 1580 122 0 = iI p := rfl
      first | refine x_aload_n hP rfl rfl ?_ | refine x_aload_nN hP rfl rfl ?_
      refine x_dup hP rfl rfl ?_
      refine x_getI hP rfl (by first | assumption | rfl) (by first | assumption | exact hR _ _ _ _ rfl | exact hR1 _ _ _ _ rfl | exact hR2 _ _ _ _ rfl | rfl) ?_
      refine x_iconst hP rfl ?_
      first | refine z_iadd hP rfl ?_ | refine x_iadd hP rfl ?_
      refine x_putI hP rfl (by first | assumption | rfl) ?_
      first | refine w_nI ?_ | refine w_nL ?_ | refine w_nR ?_ | refine w_mI ?_ | refine w_mL ?_ | refine w_mR ?_ | skip
      rw [show (p : Int) + 1 = ((p + 1 : Nat) : Int) by omega, rT_at]
      refine x_iconst hP rfl ?_
      refine x_zret hP rfl rfl (by first | exact Or.inl iI_0 | exact Or.inr iI_1 | exact bI_or _ | assumption) ?_
      exact k I1 hlt (by omega) pa0 f0
    · rw [if_pos (by omega)] at k
      first | refine x_aload_n hP rfl rfl ?_ | refine x_aload_nN hP rfl rfl ?_
      refine x_iload_n hP rfl rfl ?_
      refine x_callV1 (ci := 9) hP 0 0 rfl rfl rfl (by first | assumption | rfl) rfl rfl rfl (Nat.zero_le _) (Nat.zero_le _) ?_
      refine r_failO hP ?_
      have s1 : rT I1 p p 1580 122 0 = iI p := rfl
      first | refine x_aload_n hP rfl rfl ?_ | refine x_aload_nN hP rfl rfl ?_
      refine x_dup hP rfl rfl ?_
      refine x_getI hP rfl (by first | assumption | rfl) (by first | assumption | exact hR _ _ _ _ rfl | exact hR1 _ _ _ _ rfl | exact hR2 _ _ _ _ rfl | rfl) ?_
      refine x_iconst hP rfl ?_
      first | refine z_iadd hP rfl ?_ | refine x_iadd hP rfl ?_
      refine x_putI hP rfl (by first | assumption | rfl) ?_
      first | refine w_nI ?_ | refine w_nL ?_ | refine w_nR ?_ | refine w_mI ?_ | refine w_mL ?_ | refine w_mR ?_ | skip
      rw [show (p : Int) + 1 = ((p + 1 : Nat) : Int) by omega, rT_at]
      refine x_iconst hP rfl ?_
      refine x_zret hP rfl rfl (by first | exact Or.inl iI_0 | exact Or.inr iI_1 | exact bI_or _ | assumption) ?_
      exact k I1 true _ (by omega) f0
  rw [if_neg c25] at k
  first | refine x_aload_n hP rfl rfl ?_ | refine x_aload_nN hP rfl rfl ?_
  refine x_callV0 (ci := 9) hP 0 0 rfl rfl rfl (by first | assumption | rfl) rfl rfl rfl (Nat.zero_le _) (Nat.zero_le _) ?_
  refine r_here hP hR t1 hp ?_
  refine x_bipush hP rfl ?_
  first | refine z_icmp_ne hP rfl (by omega) (by omega) (fun c56 => ?_) (fun c56 => ?_) | refine x_icmp_ne hP rfl (fun c56 => ?_) (fun c56 => ?_)
  rotate_left
  · rw [if_pos c56] at k
    have hlt : p < n := by unfold ch at c56; split at c56 <;> omega
    have s1 : rT I1 p (-1) 1580 122 0 = iI p := rfl
    have ch1 := ch_rg (n := n) c256 (p + 1)
    have s2 : rT I1 (p + 1 : Nat) (-1) 1580 122 0 = iI (p + 1 : Nat) := rfl
    unfold kptR at k
    first | refine x_aload_n hP rfl rfl ?_ | refine x_aload_nN hP rfl rfl ?_
    refine x_dup hP rfl rfl ?_
    refine x_getI hP rfl (by first | assumption | rfl) (by first | assumption | exact hR _ _ _ _ rfl | exact hR1 _ _ _ _ rfl | exact hR2 _ _ _ _ rfl | rfl) ?_
    refine x_iconst hP rfl ?_
    first | refine z_iadd hP rfl ?_ | refine x_iadd hP rfl ?_
    refine x_putI hP rfl (by first | assumption | rfl) ?_
    first | refine w_nI ?_ | refine w_nL ?_ | refine w_nR ?_ | refine w_mI ?_ | refine w_mL ?_ | refine w_mR ?_ | skip
    rw [show (p : Int) + 1 = ((p + 1 : Nat) : Int) by omega, rT_at]
    have bad1 : (ch c n (p + 1) < 48 ∨ 54 ≤ ch c n (p + 1)) → ∀ L r1 r2, x_ag L 0 [some (.ref 122), some (.int (iI lv)), some (.int (iI (9 + 3 * lv : Nat))), some (.int (iI p))] → P 181 (d + 4) 98 L [] (x_hp (rT I1 (p + 1 : Nat) (-1)) J R) r1 r2 Q := by
      intro hb L r1 r2 hL
      refine x_re hP _ hL ?_
      rw [if_pos hb] at k
      dsimp only at k
      refine x_iconst hP rfl ?_
      refine x_istore hP rfl ?_
      refine x_iload hP rfl rfl ?_
      refine x_iconst hP rfl ?_
      first | refine z_icmp_ne hP rfl (by omega) (by omega) (fun c104 => ?_) (fun c104 => ?_) | refine x_icmp_ne hP rfl (fun c104 => ?_) (fun c104 => ?_)
      · exact absurd rfl c104
      first | refine x_aload_n hP rfl rfl ?_ | refine x_aload_nN hP rfl rfl ?_
      first | refine x_aload_n hP rfl rfl ?_ | refine x_aload_nN hP rfl rfl ?_
      refine x_getI hP rfl (by first | assumption | rfl) (by first | assumption | exact hR _ _ _ _ rfl | exact hR1 _ _ _ _ rfl | exact hR2 _ _ _ _ rfl | rfl) ?_
      refine x_callV1 (ci := 9) hP 0 0 rfl rfl rfl (by first | assumption | rfl) rfl rfl rfl (Nat.zero_le _) (Nat.zero_le _) ?_
      refine r_failO hP ?_
      refine x_goto hP rfl ?_
      first | refine x_aload_n hP rfl rfl ?_ | refine x_aload_nN hP rfl rfl ?_
      refine x_callV0 (ci := 9) hP 0 0 rfl rfl rfl (by first | assumption | rfl) rfl rfl rfl (Nat.zero_le _) (Nat.zero_le _) ?_
      refine r_badB hP (by omega) ?_
      first | refine zb_if_eq hP rfl (fun c140 => ?_) (fun c140 => ?_) | refine zl_if_eq hP rfl (fun c140 => ?_) (fun c140 => ?_) | refine z_if_eq hP rfl (by omega) (fun c140 => ?_) (fun c140 => ?_)
      · cases c140
      refine x_iconst hP rfl ?_
      refine x_zret hP rfl rfl (by first | exact Or.inl iI_0 | exact Or.inr iI_1 | exact bI_or _ | assumption) ?_
      exact k I1 false _ (by omega) f0
    first | refine x_aload_n hP rfl rfl ?_ | refine x_aload_nN hP rfl rfl ?_
    refine x_callV0 (ci := 9) hP 0 0 rfl rfl rfl (by first | assumption | rfl) rfl rfl rfl (Nat.zero_le _) (Nat.zero_le _) ?_
    refine r_here hP hR t1 hlt ?_
    refine x_callS1 hP 0 0 rfl rfl rfl rfl rfl (Nat.zero_le _) (Nat.zero_le _) ?_
    refine r_isDigit hP (by omega) ?_
    unfold isDg
    first | refine zb_if_eq hP rfl (fun c76 => ?_) (fun c76 => ?_) | refine zl_if_eq hP rfl (fun c76 => ?_) (fun c76 => ?_) | refine z_if_eq hP rfl (by omega) (fun c76 => ?_) (fun c76 => ?_)
    · have c76 := of_decide_eq_false c76
      exact bad1 (by omega) _ _ _ ⟨rfl, rfl, rfl, rfl, trivial⟩
    have c76 := of_decide_eq_true c76
    first | refine x_aload_n hP rfl rfl ?_ | refine x_aload_nN hP rfl rfl ?_
    refine x_callV0 (ci := 9) hP 0 0 rfl rfl rfl (by first | assumption | rfl) rfl rfl rfl (Nat.zero_le _) (Nat.zero_le _) ?_
    refine r_here hP hR t1 hlt ?_
    refine x_bipush hP rfl ?_
    refine z_icmp_ge hP rfl (by omega) (by omega) (fun c85 => ?_) (fun c85 => ?_)
    · exact bad1 (by omega) _ _ _ ⟨rfl, rfl, rfl, rfl, trivial⟩
    have hlt2 : p + 1 < n := by
      rcases Nat.lt_or_ge (p + 1) n with z | z
      · exact z
      · have : ch c n (p + 1) = -1 := by unfold ch; rw [if_neg (by omega)]
        omega
    rw [if_neg (by omega)] at k
    obtain ⟨j, hj⟩ : ∃ j : Nat, ch c n (p + 1) = 48 + (j : Int) := ⟨(ch c n (p + 1) - 48).toNat, by omega⟩
    have j6 : j < 6 := by omega
    rw [show (ch c n (p + 1) - 48).toNat = j by omega] at k
    have ⟨ke, kn⟩ := he0.2.2.2.2.1 j j6
    first | refine x_aload_n hP rfl rfl ?_ | refine x_aload_nN hP rfl rfl ?_
    refine x_callV0 (ci := 9) hP 0 0 rfl rfl rfl (by first | assumption | rfl) rfl rfl rfl (Nat.zero_le _) (Nat.zero_le _) ?_
    refine r_here hP hR t1 hlt ?_
    refine x_bipush hP rfl ?_
    first | refine z_isub hP rfl ?_ | refine x_isub hP rfl ?_
    rw [show ch c n (p + 1) - 48 = (j : Int) by omega]
    refine x_goto hP rfl ?_
    refine x_istore hP rfl ?_
    refine x_iload hP rfl rfl ?_
    refine x_iconst hP rfl ?_
    first | refine z_icmp_ne hP rfl (by omega) (by omega) (fun c104 => ?_) (fun c104 => ?_) | refine x_icmp_ne hP rfl (fun c104 => ?_) (fun c104 => ?_)
    rotate_left
    · omega
    by_cases z : (zK Z j).1 = []
    · rw [if_pos z] at k
      dsimp only at k
      have v : rT I1 (p + 1 : Nat) (-1) 1 142 (1 + j) = iI (-1) := ke z
      first | refine x_aload_n hP rfl rfl ?_ | refine x_aload_nN hP rfl rfl ?_
      refine x_getR hP rfl (by first | assumption | rfl) (by first | assumption | exact hR _ _ _ _ rfl | exact hR1 _ _ _ _ rfl | exact hR2 _ _ _ _ rfl | rfl) ?_
      refine x_iconst hP rfl ?_
      refine x_iload hP rfl rfl ?_
      first | refine z_iadd hP rfl ?_ | refine x_iadd hP rfl ?_
      refine z_iald hP rfl (by first | assumption | rfl) (by first | decide | omega) (by omega) (by first | assumption | exact hR _ _ _ _ rfl | exact hR1 _ _ _ _ rfl | exact hR2 _ _ _ _ rfl | rfl) ?_
      refine x_iconst hP rfl ?_
      first | refine z_icmp_ne hP rfl (by omega) (by omega) (fun c128 => ?_) (fun c128 => ?_) | refine x_icmp_ne hP rfl (fun c128 => ?_) (fun c128 => ?_)
      · exact absurd rfl c128
      first | refine x_aload_n hP rfl rfl ?_ | refine x_aload_nN hP rfl rfl ?_
      refine x_iload_n hP rfl rfl ?_
      refine x_callV1 (ci := 9) hP 0 0 rfl rfl rfl (by first | assumption | rfl) rfl rfl rfl (Nat.zero_le _) (Nat.zero_le _) ?_
      refine r_failO hP ?_
      first | refine x_aload_n hP rfl rfl ?_ | refine x_aload_nN hP rfl rfl ?_
      refine x_callV0 (ci := 9) hP 0 0 rfl rfl rfl (by first | assumption | rfl) rfl rfl rfl (Nat.zero_le _) (Nat.zero_le _) ?_
      refine r_badB hP (by omega) ?_
      first | refine zb_if_eq hP rfl (fun c140 => ?_) (fun c140 => ?_) | refine zl_if_eq hP rfl (fun c140 => ?_) (fun c140 => ?_) | refine z_if_eq hP rfl (by omega) (fun c140 => ?_) (fun c140 => ?_)
      · cases c140
      refine x_iconst hP rfl ?_
      refine x_zret hP rfl rfl (by first | exact Or.inl iI_0 | exact Or.inr iI_1 | exact bI_or _ | assumption) ?_
      exact k I1 false _ (by omega) f0
    · rw [if_neg z] at k
      dsimp only at k
      have kq := kn z
      have v : rT I1 (p + 1 : Nat) (-1) 1 142 (1 + j) = iI (okd (zK Z j).1) := kq.2.2.1
      have ok := okd_256 kq.2.2.2.2.2.1 kq.2.2.2.2.1
      first | refine x_aload_n hP rfl rfl ?_ | refine x_aload_nN hP rfl rfl ?_
      refine x_getR hP rfl (by first | assumption | rfl) (by first | assumption | exact hR _ _ _ _ rfl | exact hR1 _ _ _ _ rfl | exact hR2 _ _ _ _ rfl | rfl) ?_
      refine x_iconst hP rfl ?_
      refine x_iload hP rfl rfl ?_
      first | refine z_iadd hP rfl ?_ | refine x_iadd hP rfl ?_
      refine z_iald hP rfl (by first | assumption | rfl) (by first | decide | omega) (by omega) (by first | assumption | exact hR _ _ _ _ rfl | exact hR1 _ _ _ _ rfl | exact hR2 _ _ _ _ rfl | rfl) ?_
      refine x_iconst hP rfl ?_
      first | refine z_icmp_ne hP rfl (by omega) (by omega) (fun c128 => ?_) (fun c128 => ?_) | refine x_icmp_ne hP rfl (fun c128 => ?_) (fun c128 => ?_)
      rotate_left
      · omega
      first | refine x_aload_n hP rfl rfl ?_ | refine x_aload_nN hP rfl rfl ?_
      refine x_callV0 (ci := 9) hP 0 0 rfl rfl rfl (by first | assumption | rfl) rfl rfl rfl (Nat.zero_le _) (Nat.zero_le _) ?_
      refine r_badO hP ?_
      first | refine zb_if_eq hP rfl (fun c140 => ?_) (fun c140 => ?_) | refine zl_if_eq hP rfl (fun c140 => ?_) (fun c140 => ?_) | refine z_if_eq hP rfl (by omega) (fun c140 => ?_) (fun c140 => ?_)
      rotate_left
      · cases c140
      first | refine x_aload_n hP rfl rfl ?_ | refine x_aload_nN hP rfl rfl ?_
      refine x_dup hP rfl rfl ?_
      refine x_getI hP rfl (by first | assumption | rfl) (by first | assumption | exact hR _ _ _ _ rfl | exact hR1 _ _ _ _ rfl | exact hR2 _ _ _ _ rfl | rfl) ?_
      refine x_iconst hP rfl ?_
      first | refine z_iadd hP rfl ?_ | refine x_iadd hP rfl ?_
      refine x_putI hP rfl (by first | assumption | rfl) ?_
      first | refine w_nI ?_ | refine w_nL ?_ | refine w_nR ?_ | refine w_mI ?_ | refine w_mL ?_ | refine w_mR ?_ | skip
      rw [show ((p + 1 : Nat) : Int) + 1 = ((p + 2 : Nat) : Int) by omega, rT_at]
      first | refine x_aload_n hP rfl rfl ?_ | refine x_aload_nN hP rfl rfl ?_
      refine x_iconst hP rfl ?_
      refine x_iload hP rfl rfl ?_
      first | refine z_iadd hP rfl ?_ | refine x_iadd hP rfl ?_
      rw [show (1 : Int) + (j : Int) = ((1 + j : Nat) : Int) by omega]
      refine x_iload_n hP rfl rfl ?_
      refine x_callV2 (ci := 9) hP 0 0 rfl rfl rfl (by first | assumption | rfl) rfl rfl rfl (Nat.zero_le _) (Nat.zero_le _) ?_
      refine r_copy hP hR (by omega) (by omega) (by omega) (rq_rT kq (p + 2 : Nat) (-1)) (fun I2 y1 y2 => ?_)
      refine x_iconst hP rfl ?_
      refine x_zret hP rfl rfl (by first | exact Or.inl iI_0 | exact Or.inr iI_1 | exact bI_or _ | assumption) ?_
      rw [← rT_of y2 fun _ _ _ => rsF_rC]
      exact k I2 (by omega) (by omega) ⟨(zK Z j).2, y1, (he0.2.2.2.2.2 j j6).resolve_left z, fun _ => rfl⟩ ((y2 _ _ _ fun z => by unfold rsF at z; omega).trans pa0) (frP_trans f0 (frP_mono (fr_rT y2) fun k a i z => by rcases z with z | z; exact Or.inr (Or.inl z); exact Or.inl z))
  rw [if_neg c56] at k
  unfold ptN at k
  first | refine x_aload_n hP rfl rfl ?_ | refine x_aload_nN hP rfl rfl ?_
  refine x_iconst hP rfl ?_
  refine x_callV1 (ci := 9) hP 0 0 rfl rfl rfl (by first | assumption | rfl) rfl rfl rfl (Nat.zero_le _) (Nat.zero_le _) ?_
  refine r_nameO (wd := false) hP hR t1 hp ?_
  rw [show nmR false c n p = namR c n p from rfl]
  have rg := fun v q => namR_rg (c := c) (n := n) (p := p) (v := v) (q := q) c256 hp
  have eb : ∀ e, namR c n p = .inl e → e ≤ n + 8 := fun e h => namR_e hp h
  generalize namR c n p = on at k rg eb ⊢
  match on, k, rg, eb with
  | .inl er, k, _, eb =>
    have eb := eb er rfl
    dsimp only at k
    intro q v hv
    rw [hv]
    refine x_lstore hP rfl ?_
    first | refine x_aload_n hP rfl rfl ?_ | refine x_aload_nN hP rfl rfl ?_
    refine x_callV0 (ci := 9) hP 0 0 rfl rfl rfl (by first | assumption | rfl) rfl rfl rfl (Nat.zero_le _) (Nat.zero_le _) ?_
    refine r_badB hP (by omega) ?_
    first | refine zb_if_eq hP rfl (fun c177 => ?_) (fun c177 => ?_) | refine zl_if_eq hP rfl (fun c177 => ?_) (fun c177 => ?_) | refine z_if_eq hP rfl (by omega) (fun c177 => ?_) (fun c177 => ?_)
    · cases c177
    refine x_iconst hP rfl ?_
    refine x_zret hP rfl rfl (by first | exact Or.inl iI_0 | exact Or.inr iI_1 | exact bI_or _ | assumption) ?_
    exact k I1 false _ (by omega) f0
  | .inr (v, q), k, rg, _ =>
    have rg := rg v q rfl
    dsimp only at k
    show P _ _ _ _ (Value.long v :: _) _ _ _ _
    have chq := ch_rg (n := n) c256 q
    refine x_lstore hP rfl ?_
    first | refine x_aload_n hP rfl rfl ?_ | refine x_aload_nN hP rfl rfl ?_
    refine x_callV0 (ci := 9) hP 0 0 rfl rfl rfl (by first | assumption | rfl) rfl rfl rfl (Nat.zero_le _) (Nat.zero_le _) ?_
    refine r_badO hP ?_
    first | refine zb_if_eq hP rfl (fun c177 => ?_) (fun c177 => ?_) | refine zl_if_eq hP rfl (fun c177 => ?_) (fun c177 => ?_) | refine z_if_eq hP rfl (by omega) (fun c177 => ?_) (fun c177 => ?_)
    rotate_left
    · cases c177
    refine x_lload hP rfl rfl ?_
    refine x_callS1 hP 0 0 rfl rfl rfl rfl rfl (Nat.zero_le _) (Nat.zero_le _) ?_
    refine r_functionOf hP ?_
    refine x_istore hP rfl ?_
    first | refine x_aload_n hP rfl rfl ?_ | refine x_aload_nN hP rfl rfl ?_
    refine x_lload hP rfl rfl ?_
    refine x_callV1 (ci := 9) hP 0 0 rfl rfl rfl (by first | assumption | rfl) rfl rfl rfl (Nat.zero_le _) (Nat.zero_le _) ?_
    refine r_memberOf hP hR (rTr_rT he0.2.1 _ _) ?_
    have hw := he0.2.1.2.2.2.2.2
    have fl := fun a b h => fMem_lt (T := zT Z) (v := v) (d := a) (k := b) h
    have fnl := fun a h => fncN_lt (v := v) (a := a) h
    generalize fncN v = of at k fnl ⊢
    generalize fMem (zT Z) v = om at k fl ⊢
    have open1 : ∀ f : Nat, (lv = 5 → ∀ I' (b : Bool) (q : Nat), p ≤ n + 10 → frP (pF lv) I I' → Q (some (.int (bI b))) (x_hp (rT I' q p) J R)) → (¬ lv = 5 → ptP Q I J R (zT Z) n lv p tm (if ch c n q = 40 then .inr (.inr (2 + f, q + 1)) else .inl q)) → ∀ L r1 r2, x_ag L 0 [some (.ref 122), some (.int (iI lv)), none, some (.int (iI p))] → P 181 (d + 4) 218 L [] (x_hp (rT I1 q (-1)) J R) r1 r2 Q := by
      intro f k5 kn L r1 r2 hL
      refine x_re hP _ hL ?_
      refine x_iload_n hP rfl rfl ?_
      refine x_iconst hP rfl ?_
      first | refine z_icmp_ne hP rfl (by omega) (by omega) (fun c220 => ?_) (fun c220 => ?_) | refine x_icmp_ne hP rfl (fun c220 => ?_) (fun c220 => ?_)
      · have kn := kn (by omega)
        first | refine x_aload_n hP rfl rfl ?_ | refine x_aload_nN hP rfl rfl ?_
        refine x_bipush hP rfl ?_
        refine x_callV1 (ci := 9) hP 0 0 rfl rfl rfl (by first | assumption | rfl) rfl rfl rfl (Nat.zero_le _) (Nat.zero_le _) ?_
        refine r_needO hP hR t1 rg.2.1 (by decide) (fun z1 z2 => ?_) (fun z1 => ?_)
        · rw [if_pos z1] at kn
          refine x_iconst hP rfl ?_
          refine x_zret hP rfl rfl (by first | exact Or.inl iI_0 | exact Or.inr iI_1 | exact bI_or _ | assumption) ?_
          exact kn I1 z2 (by omega) pa0 f0
        · rw [if_neg z1] at kn
          refine x_iconst hP rfl ?_
          refine x_zret hP rfl rfl (by first | exact Or.inl iI_0 | exact Or.inr iI_1 | exact bI_or _ | assumption) ?_
          exact kn I1 true _ (by omega) f0
      · have k5 := k5 (by omega)
        first | refine x_aload_n hP rfl rfl ?_ | refine x_aload_nN hP rfl rfl ?_
        refine x_iload_n hP rfl rfl ?_
        refine x_callV1 (ci := 9) hP 0 0 rfl rfl rfl (by first | assumption | rfl) rfl rfl rfl (Nat.zero_le _) (Nat.zero_le _) ?_
        refine r_failO hP ?_
        first | refine x_aload_n hP rfl rfl ?_ | refine x_aload_nN hP rfl rfl ?_
        refine x_bipush hP rfl ?_
        refine x_callV1 (ci := 9) hP 0 0 rfl rfl rfl (by first | assumption | rfl) rfl rfl rfl (Nat.zero_le _) (Nat.zero_le _) ?_
        refine r_needB hP (by omega) ?_
        refine x_iconst hP rfl ?_
        refine x_zret hP rfl rfl (by first | exact Or.inl iI_0 | exact Or.inr iI_1 | exact bI_or _ | assumption) ?_
        exact k5 I1 true _ (by omega) f0
    match of, om, k, fl, fnl with
    | some f, none, k, _, fnl =>
      have fnl := fnl f rfl
      show P _ _ _ _ (Value.int (iI (-1)) :: _) _ _ _ _
      show P _ _ _ (x_st1 _ 6 (Value.int (iI (f : Nat)))) _ _ _ _ _
      have op : ∀ L r1 r2, x_ag L 0 [some (.ref 122), some (.int (iI lv)), none, some (.int (iI p))] → P 181 (d + 4) 218 L [] (x_hp (rT I1 q (-1)) J R) r1 r2 Q := open1 f (fun z => by dsimp only at k; rw [if_pos z] at k; exact k) (fun z => by dsimp only at k; rw [if_neg z] at k; exact k)
      refine x_istore hP rfl ?_
      refine x_iload hP rfl rfl ?_
      refine x_iconst hP rfl ?_
      first | refine z_icmp_eq hP rfl (by omega) (by omega) (fun c200 => ?_) (fun c200 => ?_) | refine x_icmp_eq hP rfl (fun c200 => ?_) (fun c200 => ?_)
      · omega
      first | refine x_aload_n hP rfl rfl ?_ | refine x_aload_nN hP rfl rfl ?_
      refine x_callV0 (ci := 9) hP 0 0 rfl rfl rfl (by first | assumption | rfl) rfl rfl rfl (Nat.zero_le _) (Nat.zero_le _) ?_
      refine r_here hP hR t1 rg.2.1 ?_
      refine x_bipush hP rfl ?_
      first | refine z_icmp_eq hP rfl (by omega) (by omega) (fun c209 => ?_) (fun c209 => ?_) | refine x_icmp_eq hP rfl (fun c209 => ?_) (fun c209 => ?_)
      · exact op _ _ _ ⟨rfl, rfl, rfl, trivial⟩
      refine x_iload hP rfl rfl ?_
      refine x_iconst hP rfl ?_
      first | refine z_icmp_ne hP rfl (by omega) (by omega) (fun c215 => ?_) (fun c215 => ?_) | refine x_icmp_ne hP rfl (fun c215 => ?_) (fun c215 => ?_)
      · exact absurd rfl c215
      · exact op _ _ _ ⟨rfl, rfl, rfl, trivial⟩
    | some f, some (e, m), k, fl, fnl =>
      have fnl := fnl f rfl
      have ⟨h1, h2⟩ := fl e m rfl
      have s30 := (hw.2.2 e h1).2.1
      have w1 := hw.1
      show P _ _ _ _ (Value.int (iI (30 * e + m : Nat)) :: _) _ _ _ _
      show P _ _ _ (x_st1 _ 6 (Value.int (iI (f : Nat)))) _ _ _ _ _
      dsimp only at k
      refine x_istore hP rfl ?_
      refine x_iload hP rfl rfl ?_
      refine x_iconst hP rfl ?_
      first | refine z_icmp_eq hP rfl (by omega) (by omega) (fun c200 => ?_) (fun c200 => ?_) | refine x_icmp_eq hP rfl (fun c200 => ?_) (fun c200 => ?_)
      · omega
      first | refine x_aload_n hP rfl rfl ?_ | refine x_aload_nN hP rfl rfl ?_
      refine x_callV0 (ci := 9) hP 0 0 rfl rfl rfl (by first | assumption | rfl) rfl rfl rfl (Nat.zero_le _) (Nat.zero_le _) ?_
      refine r_here hP hR t1 rg.2.1 ?_
      refine x_bipush hP rfl ?_
      first | refine z_icmp_eq hP rfl (by omega) (by omega) (fun c209 => ?_) (fun c209 => ?_) | refine x_icmp_eq hP rfl (fun c209 => ?_) (fun c209 => ?_)
      · rw [if_pos c209] at k
        exact open1 f (fun z => by rw [if_pos z] at k; exact k) (fun z => by rw [if_neg z] at k; rw [if_pos c209]; exact k) _ _ _ ⟨rfl, rfl, rfl, trivial⟩
      rw [if_neg c209] at k
      refine x_iload hP rfl rfl ?_
      refine x_iconst hP rfl ?_
      first | refine z_icmp_ne hP rfl (by omega) (by omega) (fun c215 => ?_) (fun c215 => ?_) | refine x_icmp_ne hP rfl (fun c215 => ?_) (fun c215 => ?_)
      rotate_left
      · omega
      refine x_iload hP rfl rfl ?_
      refine x_iconst hP rfl ?_
      first | refine z_icmp_ne hP rfl (by omega) (by omega) (fun c239 => ?_) (fun c239 => ?_) | refine x_icmp_ne hP rfl (fun c239 => ?_) (fun c239 => ?_)
      rotate_left
      · omega
      exact r_part249 hP hR hl he0 rg.2.1 rg.1 h1 h2 pa0 f0 k _ _ _ ⟨rfl, rfl, rfl, rfl, trivial⟩
    | none, none, k, _, _ =>
      show P _ _ _ _ (Value.int (iI (-1)) :: _) _ _ _ _
      show P _ _ _ (x_st1 _ 6 (Value.int (iI (-1)))) _ _ _ _ _
      dsimp only at k
      refine x_istore hP rfl ?_
      refine x_iload hP rfl rfl ?_
      refine x_iconst hP rfl ?_
      first | refine z_icmp_eq hP rfl (by omega) (by omega) (fun c200 => ?_) (fun c200 => ?_) | refine x_icmp_eq hP rfl (fun c200 => ?_) (fun c200 => ?_)
      rotate_left
      · exact absurd rfl c200
      refine x_iload hP rfl rfl ?_
      refine x_iconst hP rfl ?_
      first | refine z_icmp_ne hP rfl (by omega) (by omega) (fun c239 => ?_) (fun c239 => ?_) | refine x_icmp_ne hP rfl (fun c239 => ?_) (fun c239 => ?_)
      · exact absurd rfl c239
      first | refine x_aload_n hP rfl rfl ?_ | refine x_aload_nN hP rfl rfl ?_
      refine x_iload_n hP rfl rfl ?_
      refine x_callV1 (ci := 9) hP 0 0 rfl rfl rfl (by first | assumption | rfl) rfl rfl rfl (Nat.zero_le _) (Nat.zero_le _) ?_
      refine r_failO hP ?_
      refine x_iconst hP rfl ?_
      refine x_zret hP rfl rfl (by first | exact Or.inl iI_0 | exact Or.inr iI_1 | exact bI_or _ | assumption) ?_
      exact k I1 false _ (by omega) f0
    | none, some (e, m), k, fl, _ =>
      have ⟨h1, h2⟩ := fl e m rfl
      have s30 := (hw.2.2 e h1).2.1
      have w1 := hw.1
      show P _ _ _ _ (Value.int (iI (30 * e + m : Nat)) :: _) _ _ _ _
      show P _ _ _ (x_st1 _ 6 (Value.int (iI (-1)))) _ _ _ _ _
      dsimp only at k
      refine x_istore hP rfl ?_
      refine x_iload hP rfl rfl ?_
      refine x_iconst hP rfl ?_
      first | refine z_icmp_eq hP rfl (by omega) (by omega) (fun c200 => ?_) (fun c200 => ?_) | refine x_icmp_eq hP rfl (fun c200 => ?_) (fun c200 => ?_)
      rotate_left
      · exact absurd rfl c200
      refine x_iload hP rfl rfl ?_
      refine x_iconst hP rfl ?_
      first | refine z_icmp_ne hP rfl (by omega) (by omega) (fun c239 => ?_) (fun c239 => ?_) | refine x_icmp_ne hP rfl (fun c239 => ?_) (fun c239 => ?_)
      rotate_left
      · omega
      exact r_part249 hP hR hl he0 rg.2.1 rg.1 h1 h2 pa0 f0 k _ _ _ ⟨rfl, rfl, rfl, rfl, trivial⟩
end
