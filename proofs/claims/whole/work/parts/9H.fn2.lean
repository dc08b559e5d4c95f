/-! THE some (.ref 122)ERENCE: a FUNCTION's end -/
theorem thgR_c (Z : x_Z) (c : Nat → Nat) (n x : Nat) (xs : List Nat) (A : x_AR) (p : Nat) : thgR Z c n (x :: xs) A p = if ch c n p = 44 then (match tg1 Z c n x A (p + 1) with | .inl e => .inl e | .inr (A', q) => thgR Z c n xs A' q) else .inl p := rfl
theorem thgR_n (Z : x_Z) (c : Nat → Nat) (n : Nat) (A : x_AR) (p : Nat) : thgR Z c n [] A p = .inr (A, p) := rfl
theorem tg1_78 (Z : x_Z) (c : Nat → Nat) (n : Nat) (A : x_AR) (p : Nat) : tg1 Z c n 78 A p = match numR c n p with | .inl e => .inl e | .inr (v, q) => .inr ((v, A.2.1, A.2.2.1, A.2.2.2), q) := rfl
theorem tg1_77 (Z : x_Z) (c : Nat → Nat) (n : Nat) (A : x_AR) (p : Nat) : tg1 Z c n 77 A p = match mrkR (zT Z) c n p with | .inl e => .inl e | .inr (v, q) => .inr ((A.1, v, A.2.2.1, A.2.2.2), q) := rfl
theorem tg1_73 (Z : x_Z) (c : Nat → Nat) (n : Nat) (A : x_AR) (p : Nat) : tg1 Z c n 73 A p = match intR c n p with | .inl e => .inl e | .inr (v, q) => .inr ((A.1, A.2.1, v, A.2.2.2), q) := rfl
theorem tg1_65 (Z : x_Z) (c : Nat → Nat) (n : Nat) (A : x_AR) (p : Nat) : tg1 Z c n 65 A p = match actR c n p with | .inl e => .inl e | .inr (v, q) => .inr ((A.1, A.2.1, A.2.2.1, v), q) := rfl
def fnP (Q : x_Q) (I : x_M Int32) (J : x_M Int64) (R : x_M (Option Nat)) (n s : Nat) (tm : Bool) (r : Nat ⊕ (x_V × Nat)) : Prop := match r with
  | .inl e => ∀ q : Nat, e ≤ n + 10 → Q none (x_hp (rT I q e) J R)
  | .inr (V, q) => ∀ I', q ≤ n → rq I' s V.1 (V.2.map (rfE V.1)) → I' 1602 122 0 = bI tm → frP (sFn s) I I' → Q none (x_hp (rT I' q (-1)) J R)
section
variable {E : x_E} {P : x_Pr} {d rc rs : Nat} {I : x_M Int32} {J : x_M Int64} {R : x_M (Option Nat)} {Q : x_Q} {n p : Nat} {c : Nat → Nat} {Z : x_Z} {s : Nat} {ol l : List Nat} {tm : Bool}
theorem r_fn0 (hP : x_closed E P) (hR : x_fin R) (t1 : txB I n c) (hp : p ≤ n) (hs : 7 ≤ s ∧ s < 28) (hc : rTr I J (zT Z)) (hy : rLy I (zT Z)) (hn : rNu I (zN Z)) (hq : rq I s ol (l.map (rfE ol))) (hv : vV (zT Z) (ol, l)) (hf : I 1602 122 0 = bI tm) {at_ : Nat} (ha : at_ ≤ n) (k : fnP Q I J R n s tm (fnR Z c n 0 at_ (ol, l) p)) : P 199 (d + 4) 0 (x_la 0 [.ref 122, .int (iI (0 : Nat)), .int (iI s), .int (iI at_)]) [] (x_hp (rT I p (-1)) J R) rc rs Q := by
  have n2 := t1.2.1
  have c256 := t1.2.2.1
  have w3 := hc.2.2.2.2.2.2.1
  unfold fnR at k
  rw [if_neg (fun z => absurd z.1 (by decide))] at k
  rw [show thg 0 = [78] from rfl] at k
  refine x_iload_n hP rfl rfl ?_
  refine x_bipush hP rfl ?_
  first | refine z_icmp_eq hP rfl (by omega) (by omega) (fun c3 => ?_) (fun c3 => ?_) | refine x_icmp_eq hP rfl (fun c3 => ?_) (fun c3 => ?_)
  · omega
  refine x_iload_n hP rfl rfl ?_
  refine x_bipush hP rfl ?_
  first | refine z_icmp_ne hP rfl (by omega) (by omega) (fun c9 => ?_) (fun c9 => ?_) | refine x_icmp_ne hP rfl (fun c9 => ?_) (fun c9 => ?_)
  rotate_left
  · omega
  refine x_iload_n hP rfl rfl ?_
  refine x_bipush hP rfl ?_
  first | refine z_icmp_eq hP rfl (by omega) (by omega) (fun c30 => ?_) (fun c30 => ?_) | refine x_icmp_eq hP rfl (fun c30 => ?_) (fun c30 => ?_)
  · omega
  refine x_iload_n hP rfl rfl ?_
  refine x_bipush hP rfl ?_
  first | refine z_icmp_ne hP rfl (by omega) (by omega) (fun c36 => ?_) (fun c36 => ?_) | refine x_icmp_ne hP rfl (fun c36 => ?_) (fun c36 => ?_)
  rotate_left
  · omega
  first | refine x_aload_n hP rfl rfl ?_ | refine x_aload_nN hP rfl rfl ?_
  refine x_bipush hP rfl ?_
  refine x_callV1 (ci := 9) hP 0 0 rfl rfl rfl (by first | assumption | rfl) rfl rfl rfl (Nat.zero_le _) (Nat.zero_le _) ?_
  refine r_needO hP hR t1 hp (by decide) (fun z1 z2 => ?_) (fun z1 => ?_)
  rotate_left
  · rw [thgR_c, if_neg z1] at k
    dsimp only at k
    exact r_fB79 hP hR (by decide) (by omega) (k _ (by omega)) _ _ _ ⟨rfl, rfl, trivial⟩
  rw [thgR_c, if_pos z1] at k
  refine x_iload_n hP rfl rfl ?_
  refine x_iconst hP rfl ?_
  refine z_icmp_lt hP rfl (by omega) (by omega) (fun c81 => ?_) (fun c81 => ?_)
  rotate_left
  · omega
  first | refine x_aload_n hP rfl rfl ?_ | refine x_aload_nN hP rfl rfl ?_
  refine x_iconst hP rfl ?_
  refine x_ldcW hP rfl ?_
  refine x_callV2 (ci := 9) hP 0 0 rfl rfl rfl (by first | assumption | rfl) rfl rfl rfl (Nat.zero_le _) (Nat.zero_le _) ?_
  have hp0 : (p + 1) ≤ n := z2
  rw [tg1_78] at k
  refine r_toldO (p := (p + 1)) (may := false) (mo := 999999999) hP hR t1 hp0 (by decide) ?_
  rw [tld_num hp0]
  have eb := fun e h => numR_e (c := c) (n := n) (p := (p + 1)) (e := e) hp0 h
  have rg := fun v q h => numR_rg (c := c) (n := n) (p := (p + 1)) (v := v) (q := q) hp0 h
  generalize numR c n (p + 1) = oo at k eb rg ⊢
  match oo, k, eb, rg with
  | .inl er, k, eb, _ =>
    have eb := eb er rfl
    dsimp only at k
    intro q u ⟨z, hz⟩
    rw [hz]
    refine x_goto hP rfl ?_
    refine x_istore hP rfl ?_
    exact r_fB110 hP hR (by decide) (by omega) (k _ (by omega)) _ _ _ ⟨rfl, rfl, trivial⟩
  | .inr (v, q0), k, _, rg =>
    have rg0 := rg v q0 rfl
    dsimp only at k
    show P _ _ _ _ (Value.int (iI v) :: _) _ _ _ _
    have hq0 : q0 ≤ n := by omega
    rw [thgR_n] at k
    dsimp only at k
    refine x_goto hP rfl ?_
    refine x_istore hP rfl ?_
    refine x_iload_n hP rfl rfl ?_
    refine x_bipush hP rfl ?_
    first | refine z_icmp_eq hP rfl (by omega) (by omega) (fun c113 => ?_) (fun c113 => ?_) | refine x_icmp_eq hP rfl (fun c113 => ?_) (fun c113 => ?_)
    · omega
    refine x_iload_n hP rfl rfl ?_
    refine x_bipush hP rfl ?_
    first | refine z_icmp_ne hP rfl (by omega) (by omega) (fun c119 => ?_) (fun c119 => ?_) | refine x_icmp_ne hP rfl (fun c119 => ?_) (fun c119 => ?_)
    rotate_left
    · omega
    refine x_iload_n hP rfl rfl ?_
    refine x_bipush hP rfl ?_
    first | refine z_icmp_ne hP rfl (by omega) (by omega) (fun c131 => ?_) (fun c131 => ?_) | refine x_icmp_ne hP rfl (fun c131 => ?_) (fun c131 => ?_)
    rotate_left
    · omega
    refine x_iconst hP rfl ?_
    refine x_istore hP rfl ?_
    refine x_iload_n hP rfl rfl ?_
    refine x_iconst hP rfl ?_
    refine z_icmp_le hP rfl (by omega) (by omega) (fun c146 => ?_) (fun c146 => ?_)
    rotate_left
    · omega
    refine x_iconst hP rfl ?_
    refine x_istore hP rfl ?_
    refine x_iload_n hP rfl rfl ?_
    refine x_iconst hP rfl ?_
    first | refine z_icmp_eq hP rfl (by omega) (by omega) (fun c167 => ?_) (fun c167 => ?_) | refine x_icmp_eq hP rfl (fun c167 => ?_) (fun c167 => ?_)
    · omega
    refine x_iload_n hP rfl rfl ?_
    refine x_iconst hP rfl ?_
    first | refine z_icmp_ne hP rfl (by omega) (by omega) (fun c172 => ?_) (fun c172 => ?_) | refine x_icmp_ne hP rfl (fun c172 => ?_) (fun c172 => ?_)
    rotate_left
    · omega
    first | refine x_aload_n hP rfl rfl ?_ | refine x_aload_nN hP rfl rfl ?_
    refine x_bipush hP rfl ?_
    refine x_callV1 (ci := 9) hP 0 0 rfl rfl rfl (by first | assumption | rfl) rfl rfl rfl (Nat.zero_le _) (Nat.zero_le _) ?_
    refine r_needO hP hR t1 hq0 (by decide) (fun z1 z2 => ?_) (fun z1 => ?_)
    rotate_left
    · rw [if_neg z1] at k
      exact r_fB197 hP hR (by decide) (by omega) (k _ (by omega)) _ _ _ ⟨rfl, rfl, trivial⟩
    rw [if_pos z1] at k
    first | refine x_aload_n hP rfl rfl ?_ | refine x_aload_nN hP rfl rfl ?_
    refine x_callV0 (ci := 9) hP 0 0 rfl rfl rfl (by first | assumption | rfl) rfl rfl rfl (Nat.zero_le _) (Nat.zero_le _) ?_
    refine r_badO hP ?_
    first | refine zb_if_eq hP rfl (fun c201 => ?_) (fun c201 => ?_) | refine zl_if_eq hP rfl (fun c201 => ?_) (fun c201 => ?_) | refine z_if_eq hP rfl (by omega) (fun c201 => ?_) (fun c201 => ?_)
    rotate_left
    · cases c201
    exact r_fa0 (p := q0 + 1) hP hR hs hc hy hn hq hv hf (by omega) (fun I' w1 w2 w3 => k I' z2 w1 w2 (frP_trans (frP_mono (rT_fr I _ _) fun _ _ _ => rC_sFn) w3)) _ _ _ ⟨rfl, rfl, rfl, rfl, trivial⟩
theorem r_fn1 (hP : x_closed E P) (hR : x_fin R) (t1 : txB I n c) (hp : p ≤ n) (hs : 7 ≤ s ∧ s < 28) (hc : rTr I J (zT Z)) (hy : rLy I (zT Z)) (hn : rNu I (zN Z)) (hq : rq I s ol (l.map (rfE ol))) (hv : vV (zT Z) (ol, l)) (hf : I 1602 122 0 = bI tm) {at_ : Nat} (ha : at_ ≤ n) (k : fnP Q I J R n s tm (fnR Z c n 1 at_ (ol, l) p)) : P 199 (d + 4) 0 (x_la 0 [.ref 122, .int (iI (1 : Nat)), .int (iI s), .int (iI at_)]) [] (x_hp (rT I p (-1)) J R) rc rs Q := by
  have n2 := t1.2.1
  have c256 := t1.2.2.1
  have w3 := hc.2.2.2.2.2.2.1
  unfold fnR at k
  rw [if_neg (fun z => absurd z.1 (by decide))] at k
  rw [show thg 1 = [78] from rfl] at k
  refine x_iload_n hP rfl rfl ?_
  refine x_bipush hP rfl ?_
  first | refine z_icmp_eq hP rfl (by omega) (by omega) (fun c3 => ?_) (fun c3 => ?_) | refine x_icmp_eq hP rfl (fun c3 => ?_) (fun c3 => ?_)
  · omega
  refine x_iload_n hP rfl rfl ?_
  refine x_bipush hP rfl ?_
  first | refine z_icmp_ne hP rfl (by omega) (by omega) (fun c9 => ?_) (fun c9 => ?_) | refine x_icmp_ne hP rfl (fun c9 => ?_) (fun c9 => ?_)
  rotate_left
  · omega
  refine x_iload_n hP rfl rfl ?_
  refine x_bipush hP rfl ?_
  first | refine z_icmp_eq hP rfl (by omega) (by omega) (fun c30 => ?_) (fun c30 => ?_) | refine x_icmp_eq hP rfl (fun c30 => ?_) (fun c30 => ?_)
  · omega
  refine x_iload_n hP rfl rfl ?_
  refine x_bipush hP rfl ?_
  first | refine z_icmp_ne hP rfl (by omega) (by omega) (fun c36 => ?_) (fun c36 => ?_) | refine x_icmp_ne hP rfl (fun c36 => ?_) (fun c36 => ?_)
  rotate_left
  · omega
  first | refine x_aload_n hP rfl rfl ?_ | refine x_aload_nN hP rfl rfl ?_
  refine x_bipush hP rfl ?_
  refine x_callV1 (ci := 9) hP 0 0 rfl rfl rfl (by first | assumption | rfl) rfl rfl rfl (Nat.zero_le _) (Nat.zero_le _) ?_
  refine r_needO hP hR t1 hp (by decide) (fun z1 z2 => ?_) (fun z1 => ?_)
  rotate_left
  · rw [thgR_c, if_neg z1] at k
    dsimp only at k
    exact r_fB79 hP hR (by decide) (by omega) (k _ (by omega)) _ _ _ ⟨rfl, rfl, trivial⟩
  rw [thgR_c, if_pos z1] at k
  refine x_iload_n hP rfl rfl ?_
  refine x_iconst hP rfl ?_
  refine z_icmp_lt hP rfl (by omega) (by omega) (fun c81 => ?_) (fun c81 => ?_)
  rotate_left
  · omega
  first | refine x_aload_n hP rfl rfl ?_ | refine x_aload_nN hP rfl rfl ?_
  refine x_iconst hP rfl ?_
  refine x_ldcW hP rfl ?_
  refine x_callV2 (ci := 9) hP 0 0 rfl rfl rfl (by first | assumption | rfl) rfl rfl rfl (Nat.zero_le _) (Nat.zero_le _) ?_
  have hp0 : (p + 1) ≤ n := z2
  rw [tg1_78] at k
  refine r_toldO (p := (p + 1)) (may := false) (mo := 999999999) hP hR t1 hp0 (by decide) ?_
  rw [tld_num hp0]
  have eb := fun e h => numR_e (c := c) (n := n) (p := (p + 1)) (e := e) hp0 h
  have rg := fun v q h => numR_rg (c := c) (n := n) (p := (p + 1)) (v := v) (q := q) hp0 h
  generalize numR c n (p + 1) = oo at k eb rg ⊢
  match oo, k, eb, rg with
  | .inl er, k, eb, _ =>
    have eb := eb er rfl
    dsimp only at k
    intro q u ⟨z, hz⟩
    rw [hz]
    refine x_goto hP rfl ?_
    refine x_istore hP rfl ?_
    exact r_fB110 hP hR (by decide) (by omega) (k _ (by omega)) _ _ _ ⟨rfl, rfl, trivial⟩
  | .inr (v, q0), k, _, rg =>
    have rg0 := rg v q0 rfl
    dsimp only at k
    show P _ _ _ _ (Value.int (iI v) :: _) _ _ _ _
    have hq0 : q0 ≤ n := by omega
    rw [thgR_n] at k
    dsimp only at k
    refine x_goto hP rfl ?_
    refine x_istore hP rfl ?_
    refine x_iload_n hP rfl rfl ?_
    refine x_bipush hP rfl ?_
    first | refine z_icmp_eq hP rfl (by omega) (by omega) (fun c113 => ?_) (fun c113 => ?_) | refine x_icmp_eq hP rfl (fun c113 => ?_) (fun c113 => ?_)
    · omega
    refine x_iload_n hP rfl rfl ?_
    refine x_bipush hP rfl ?_
    first | refine z_icmp_ne hP rfl (by omega) (by omega) (fun c119 => ?_) (fun c119 => ?_) | refine x_icmp_ne hP rfl (fun c119 => ?_) (fun c119 => ?_)
    rotate_left
    · omega
    refine x_iload_n hP rfl rfl ?_
    refine x_bipush hP rfl ?_
    first | refine z_icmp_ne hP rfl (by omega) (by omega) (fun c131 => ?_) (fun c131 => ?_) | refine x_icmp_ne hP rfl (fun c131 => ?_) (fun c131 => ?_)
    rotate_left
    · omega
    refine x_iconst hP rfl ?_
    refine x_istore hP rfl ?_
    refine x_iload_n hP rfl rfl ?_
    refine x_iconst hP rfl ?_
    refine z_icmp_le hP rfl (by omega) (by omega) (fun c146 => ?_) (fun c146 => ?_)
    rotate_left
    · omega
    refine x_iconst hP rfl ?_
    refine x_istore hP rfl ?_
    refine x_iload_n hP rfl rfl ?_
    refine x_iconst hP rfl ?_
    first | refine z_icmp_eq hP rfl (by omega) (by omega) (fun c167 => ?_) (fun c167 => ?_) | refine x_icmp_eq hP rfl (fun c167 => ?_) (fun c167 => ?_)
    · omega
    refine x_iload_n hP rfl rfl ?_
    refine x_iconst hP rfl ?_
    first | refine z_icmp_ne hP rfl (by omega) (by omega) (fun c172 => ?_) (fun c172 => ?_) | refine x_icmp_ne hP rfl (fun c172 => ?_) (fun c172 => ?_)
    rotate_left
    · omega
    first | refine x_aload_n hP rfl rfl ?_ | refine x_aload_nN hP rfl rfl ?_
    refine x_bipush hP rfl ?_
    refine x_callV1 (ci := 9) hP 0 0 rfl rfl rfl (by first | assumption | rfl) rfl rfl rfl (Nat.zero_le _) (Nat.zero_le _) ?_
    refine r_needO hP hR t1 hq0 (by decide) (fun z1 z2 => ?_) (fun z1 => ?_)
    rotate_left
    · rw [if_neg z1] at k
      exact r_fB197 hP hR (by decide) (by omega) (k _ (by omega)) _ _ _ ⟨rfl, rfl, trivial⟩
    rw [if_pos z1] at k
    first | refine x_aload_n hP rfl rfl ?_ | refine x_aload_nN hP rfl rfl ?_
    refine x_callV0 (ci := 9) hP 0 0 rfl rfl rfl (by first | assumption | rfl) rfl rfl rfl (Nat.zero_le _) (Nat.zero_le _) ?_
    refine r_badO hP ?_
    first | refine zb_if_eq hP rfl (fun c201 => ?_) (fun c201 => ?_) | refine zl_if_eq hP rfl (fun c201 => ?_) (fun c201 => ?_) | refine z_if_eq hP rfl (by omega) (fun c201 => ?_) (fun c201 => ?_)
    rotate_left
    · cases c201
    exact r_fa1 (p := q0 + 1) hP hR hs hc hy hn hq hv hf (by omega) (fun I' w1 w2 w3 => k I' z2 w1 w2 (frP_trans (frP_mono (rT_fr I _ _) fun _ _ _ => rC_sFn) w3)) _ _ _ ⟨rfl, rfl, rfl, rfl, trivial⟩
theorem r_fn2 (hP : x_closed E P) (hR : x_fin R) (t1 : txB I n c) (hp : p ≤ n) (hs : 7 ≤ s ∧ s < 28) (hc : rTr I J (zT Z)) (hy : rLy I (zT Z)) (hn : rNu I (zN Z)) (hq : rq I s ol (l.map (rfE ol))) (hv : vV (zT Z) (ol, l)) (hf : I 1602 122 0 = bI tm) {at_ : Nat} (ha : at_ ≤ n) (k : fnP Q I J R n s tm (fnR Z c n 2 at_ (ol, l) p)) : P 199 (d + 4) 0 (x_la 0 [.ref 122, .int (iI (2 : Nat)), .int (iI s), .int (iI at_)]) [] (x_hp (rT I p (-1)) J R) rc rs Q := by
  have n2 := t1.2.1
  have c256 := t1.2.2.1
  have w3 := hc.2.2.2.2.2.2.1
  unfold fnR at k
  rw [if_neg (fun z => absurd z.1 (by decide))] at k
  rw [show thg 2 = [77] from rfl] at k
  refine x_iload_n hP rfl rfl ?_
  refine x_bipush hP rfl ?_
  first | refine z_icmp_eq hP rfl (by omega) (by omega) (fun c3 => ?_) (fun c3 => ?_) | refine x_icmp_eq hP rfl (fun c3 => ?_) (fun c3 => ?_)
  · omega
  refine x_iload_n hP rfl rfl ?_
  refine x_bipush hP rfl ?_
  first | refine z_icmp_ne hP rfl (by omega) (by omega) (fun c9 => ?_) (fun c9 => ?_) | refine x_icmp_ne hP rfl (fun c9 => ?_) (fun c9 => ?_)
  rotate_left
  · omega
  refine x_iload_n hP rfl rfl ?_
  refine x_bipush hP rfl ?_
  first | refine z_icmp_eq hP rfl (by omega) (by omega) (fun c30 => ?_) (fun c30 => ?_) | refine x_icmp_eq hP rfl (fun c30 => ?_) (fun c30 => ?_)
  · omega
  refine x_iload_n hP rfl rfl ?_
  refine x_bipush hP rfl ?_
  first | refine z_icmp_ne hP rfl (by omega) (by omega) (fun c36 => ?_) (fun c36 => ?_) | refine x_icmp_ne hP rfl (fun c36 => ?_) (fun c36 => ?_)
  rotate_left
  · omega
  first | refine x_aload_n hP rfl rfl ?_ | refine x_aload_nN hP rfl rfl ?_
  refine x_bipush hP rfl ?_
  refine x_callV1 (ci := 9) hP 0 0 rfl rfl rfl (by first | assumption | rfl) rfl rfl rfl (Nat.zero_le _) (Nat.zero_le _) ?_
  refine r_needO hP hR t1 hp (by decide) (fun z1 z2 => ?_) (fun z1 => ?_)
  rotate_left
  · rw [thgR_c, if_neg z1] at k
    dsimp only at k
    exact r_fB79 hP hR (by decide) (by omega) (k _ (by omega)) _ _ _ ⟨rfl, rfl, trivial⟩
  rw [thgR_c, if_pos z1] at k
  refine x_iload_n hP rfl rfl ?_
  refine x_iconst hP rfl ?_
  refine z_icmp_lt hP rfl (by omega) (by omega) (fun c81 => ?_) (fun c81 => ?_)
  · omega
  refine x_iload_n hP rfl rfl ?_
  refine x_bipush hP rfl ?_
  first | refine z_icmp_eq hP rfl (by omega) (by omega) (fun c87 => ?_) (fun c87 => ?_) | refine x_icmp_eq hP rfl (fun c87 => ?_) (fun c87 => ?_)
  · omega
  refine x_iload_n hP rfl rfl ?_
  refine x_bipush hP rfl ?_
  first | refine z_icmp_ne hP rfl (by omega) (by omega) (fun c93 => ?_) (fun c93 => ?_) | refine x_icmp_ne hP rfl (fun c93 => ?_) (fun c93 => ?_)
  rotate_left
  · omega
  refine x_iconst hP rfl ?_
  refine x_istore hP rfl ?_
  refine x_iload_n hP rfl rfl ?_
  refine x_bipush hP rfl ?_
  first | refine z_icmp_eq hP rfl (by omega) (by omega) (fun c113 => ?_) (fun c113 => ?_) | refine x_icmp_eq hP rfl (fun c113 => ?_) (fun c113 => ?_)
  · omega
  refine x_iload_n hP rfl rfl ?_
  refine x_bipush hP rfl ?_
  first | refine z_icmp_ne hP rfl (by omega) (by omega) (fun c119 => ?_) (fun c119 => ?_) | refine x_icmp_ne hP rfl (fun c119 => ?_) (fun c119 => ?_)
  rotate_left
  · omega
  refine x_iload_n hP rfl rfl ?_
  refine x_bipush hP rfl ?_
  first | refine z_icmp_ne hP rfl (by omega) (by omega) (fun c131 => ?_) (fun c131 => ?_) | refine x_icmp_ne hP rfl (fun c131 => ?_) (fun c131 => ?_)
  rotate_left
  · omega
  refine x_iconst hP rfl ?_
  refine x_istore hP rfl ?_
  refine x_iload_n hP rfl rfl ?_
  refine x_iconst hP rfl ?_
  refine z_icmp_le hP rfl (by omega) (by omega) (fun c146 => ?_) (fun c146 => ?_)
  · omega
  refine x_iload_n hP rfl rfl ?_
  refine x_bipush hP rfl ?_
  refine z_icmp_ge hP rfl (by omega) (by omega) (fun c152 => ?_) (fun c152 => ?_)
  · omega
  first | refine x_aload_n hP rfl rfl ?_ | refine x_aload_nN hP rfl rfl ?_
  refine x_callV0 (ci := 9) hP 0 0 rfl rfl rfl (by first | assumption | rfl) rfl rfl rfl (Nat.zero_le _) (Nat.zero_le _) ?_
  have hp0 : (p + 1) ≤ n := z2
  rw [tg1_77] at k
  refine r_mark0 (p := (p + 1)) hP hR t1 hc hp0 ?_
  have eb := fun e h => mrkR_e (T := zT Z) (c := c) (n := n) (p := (p + 1)) (e := e) hp0 h
  have rg := fun v q h => mrkR_rg (T := zT Z) (c := c) (n := n) (p := (p + 1)) (a := v) (q := q) c256 hp0 h
  generalize mrkR (zT Z) c n (p + 1) = oo at k eb rg ⊢
  match oo, k, eb, rg with
  | .inl er, k, eb, _ =>
    have eb := eb er rfl
    dsimp only at k
    intro q u ⟨z, hz⟩
    rw [hz]
    refine x_goto hP rfl ?_
    refine x_istore hP rfl ?_
    exact r_fB165 hP hR (by decide) (by omega) (k _ (by omega)) _ _ _ ⟨rfl, rfl, trivial⟩
  | .inr (m, q0), k, _, rg =>
    have rg0 := rg m q0 rfl
    dsimp only at k
    show P _ _ _ _ (Value.int (iI (m : Nat)) :: _) _ _ _ _
    have hq0 : q0 ≤ n := by omega
    rw [thgR_n] at k
    dsimp only at k
    refine x_goto hP rfl ?_
    refine x_istore hP rfl ?_
    refine x_iload_n hP rfl rfl ?_
    refine x_iconst hP rfl ?_
    first | refine z_icmp_eq hP rfl (by omega) (by omega) (fun c167 => ?_) (fun c167 => ?_) | refine x_icmp_eq hP rfl (fun c167 => ?_) (fun c167 => ?_)
    · omega
    refine x_iload_n hP rfl rfl ?_
    refine x_iconst hP rfl ?_
    first | refine z_icmp_ne hP rfl (by omega) (by omega) (fun c172 => ?_) (fun c172 => ?_) | refine x_icmp_ne hP rfl (fun c172 => ?_) (fun c172 => ?_)
    rotate_left
    · omega
    first | refine x_aload_n hP rfl rfl ?_ | refine x_aload_nN hP rfl rfl ?_
    refine x_bipush hP rfl ?_
    refine x_callV1 (ci := 9) hP 0 0 rfl rfl rfl (by first | assumption | rfl) rfl rfl rfl (Nat.zero_le _) (Nat.zero_le _) ?_
    refine r_needO hP hR t1 hq0 (by decide) (fun z1 z2 => ?_) (fun z1 => ?_)
    rotate_left
    · rw [if_neg z1] at k
      exact r_fB197 hP hR (by decide) (by omega) (k _ (by omega)) _ _ _ ⟨rfl, rfl, trivial⟩
    rw [if_pos z1] at k
    first | refine x_aload_n hP rfl rfl ?_ | refine x_aload_nN hP rfl rfl ?_
    refine x_callV0 (ci := 9) hP 0 0 rfl rfl rfl (by first | assumption | rfl) rfl rfl rfl (Nat.zero_le _) (Nat.zero_le _) ?_
    refine r_badO hP ?_
    first | refine zb_if_eq hP rfl (fun c201 => ?_) (fun c201 => ?_) | refine zl_if_eq hP rfl (fun c201 => ?_) (fun c201 => ?_) | refine z_if_eq hP rfl (by omega) (fun c201 => ?_) (fun c201 => ?_)
    rotate_left
    · cases c201
    exact r_fa2 (p := q0 + 1) hP hR hs hc hy hn hq hv hf (by omega) (fun I' w1 w2 w3 => k I' z2 w1 w2 (frP_trans (frP_mono (rT_fr I _ _) fun _ _ _ => rC_sFn) w3)) _ _ _ ⟨rfl, rfl, rfl, rfl, trivial⟩
theorem r_fn3 (hP : x_closed E P) (hR : x_fin R) (t1 : txB I n c) (hp : p ≤ n) (hs : 7 ≤ s ∧ s < 28) (hc : rTr I J (zT Z)) (hy : rLy I (zT Z)) (hn : rNu I (zN Z)) (hq : rq I s ol (l.map (rfE ol))) (hv : vV (zT Z) (ol, l)) (hf : I 1602 122 0 = bI tm) {at_ : Nat} (ha : at_ ≤ n) (k : fnP Q I J R n s tm (fnR Z c n 3 at_ (ol, l) p)) : P 199 (d + 4) 0 (x_la 0 [.ref 122, .int (iI (3 : Nat)), .int (iI s), .int (iI at_)]) [] (x_hp (rT I p (-1)) J R) rc rs Q := by
  have n2 := t1.2.1
  have c256 := t1.2.2.1
  have w3 := hc.2.2.2.2.2.2.1
  unfold fnR at k
  rw [if_neg (fun z => absurd z.1 (by decide))] at k
  rw [show thg 3 = [77, 73] from rfl] at k
  refine x_iload_n hP rfl rfl ?_
  refine x_bipush hP rfl ?_
  first | refine z_icmp_eq hP rfl (by omega) (by omega) (fun c3 => ?_) (fun c3 => ?_) | refine x_icmp_eq hP rfl (fun c3 => ?_) (fun c3 => ?_)
  · omega
  refine x_iload_n hP rfl rfl ?_
  refine x_bipush hP rfl ?_
  first | refine z_icmp_ne hP rfl (by omega) (by omega) (fun c9 => ?_) (fun c9 => ?_) | refine x_icmp_ne hP rfl (fun c9 => ?_) (fun c9 => ?_)
  rotate_left
  · omega
  refine x_iload_n hP rfl rfl ?_
  refine x_bipush hP rfl ?_
  first | refine z_icmp_eq hP rfl (by omega) (by omega) (fun c30 => ?_) (fun c30 => ?_) | refine x_icmp_eq hP rfl (fun c30 => ?_) (fun c30 => ?_)
  · omega
  refine x_iload_n hP rfl rfl ?_
  refine x_bipush hP rfl ?_
  first | refine z_icmp_ne hP rfl (by omega) (by omega) (fun c36 => ?_) (fun c36 => ?_) | refine x_icmp_ne hP rfl (fun c36 => ?_) (fun c36 => ?_)
  rotate_left
  · omega
  first | refine x_aload_n hP rfl rfl ?_ | refine x_aload_nN hP rfl rfl ?_
  refine x_bipush hP rfl ?_
  refine x_callV1 (ci := 9) hP 0 0 rfl rfl rfl (by first | assumption | rfl) rfl rfl rfl (Nat.zero_le _) (Nat.zero_le _) ?_
  refine r_needO hP hR t1 hp (by decide) (fun z1 z2 => ?_) (fun z1 => ?_)
  rotate_left
  · rw [thgR_c, if_neg z1] at k
    dsimp only at k
    exact r_fB79 hP hR (by decide) (by omega) (k _ (by omega)) _ _ _ ⟨rfl, rfl, trivial⟩
  rw [thgR_c, if_pos z1] at k
  refine x_iload_n hP rfl rfl ?_
  refine x_iconst hP rfl ?_
  refine z_icmp_lt hP rfl (by omega) (by omega) (fun c81 => ?_) (fun c81 => ?_)
  · omega
  refine x_iload_n hP rfl rfl ?_
  refine x_bipush hP rfl ?_
  first | refine z_icmp_eq hP rfl (by omega) (by omega) (fun c87 => ?_) (fun c87 => ?_) | refine x_icmp_eq hP rfl (fun c87 => ?_) (fun c87 => ?_)
  · omega
  refine x_iload_n hP rfl rfl ?_
  refine x_bipush hP rfl ?_
  first | refine z_icmp_ne hP rfl (by omega) (by omega) (fun c93 => ?_) (fun c93 => ?_) | refine x_icmp_ne hP rfl (fun c93 => ?_) (fun c93 => ?_)
  rotate_left
  · omega
  refine x_iconst hP rfl ?_
  refine x_istore hP rfl ?_
  refine x_iload_n hP rfl rfl ?_
  refine x_bipush hP rfl ?_
  first | refine z_icmp_eq hP rfl (by omega) (by omega) (fun c113 => ?_) (fun c113 => ?_) | refine x_icmp_eq hP rfl (fun c113 => ?_) (fun c113 => ?_)
  · omega
  refine x_iload_n hP rfl rfl ?_
  refine x_bipush hP rfl ?_
  first | refine z_icmp_ne hP rfl (by omega) (by omega) (fun c119 => ?_) (fun c119 => ?_) | refine x_icmp_ne hP rfl (fun c119 => ?_) (fun c119 => ?_)
  rotate_left
  · omega
  refine x_iload_n hP rfl rfl ?_
  refine x_bipush hP rfl ?_
  first | refine z_icmp_ne hP rfl (by omega) (by omega) (fun c131 => ?_) (fun c131 => ?_) | refine x_icmp_ne hP rfl (fun c131 => ?_) (fun c131 => ?_)
  rotate_left
  · omega
  refine x_iconst hP rfl ?_
  refine x_istore hP rfl ?_
  refine x_iload_n hP rfl rfl ?_
  refine x_iconst hP rfl ?_
  refine z_icmp_le hP rfl (by omega) (by omega) (fun c146 => ?_) (fun c146 => ?_)
  · omega
  refine x_iload_n hP rfl rfl ?_
  refine x_bipush hP rfl ?_
  refine z_icmp_ge hP rfl (by omega) (by omega) (fun c152 => ?_) (fun c152 => ?_)
  · omega
  first | refine x_aload_n hP rfl rfl ?_ | refine x_aload_nN hP rfl rfl ?_
  refine x_callV0 (ci := 9) hP 0 0 rfl rfl rfl (by first | assumption | rfl) rfl rfl rfl (Nat.zero_le _) (Nat.zero_le _) ?_
  have hp0 : (p + 1) ≤ n := z2
  rw [tg1_77] at k
  refine r_mark0 (p := (p + 1)) hP hR t1 hc hp0 ?_
  have eb := fun e h => mrkR_e (T := zT Z) (c := c) (n := n) (p := (p + 1)) (e := e) hp0 h
  have rg := fun v q h => mrkR_rg (T := zT Z) (c := c) (n := n) (p := (p + 1)) (a := v) (q := q) c256 hp0 h
  generalize mrkR (zT Z) c n (p + 1) = oo at k eb rg ⊢
  match oo, k, eb, rg with
  | .inl er, k, eb, _ =>
    have eb := eb er rfl
    dsimp only at k
    intro q u ⟨z, hz⟩
    rw [hz]
    refine x_goto hP rfl ?_
    refine x_istore hP rfl ?_
    exact r_fB165 hP hR (by decide) (by omega) (k _ (by omega)) _ _ _ ⟨rfl, rfl, trivial⟩
  | .inr (m, q0), k, _, rg =>
    have rg0 := rg m q0 rfl
    dsimp only at k
    show P _ _ _ _ (Value.int (iI (m : Nat)) :: _) _ _ _ _
    have hq0 : q0 ≤ n := by omega
    refine x_goto hP rfl ?_
    refine x_istore hP rfl ?_
    refine x_iload_n hP rfl rfl ?_
    refine x_iconst hP rfl ?_
    first | refine z_icmp_eq hP rfl (by omega) (by omega) (fun c167 => ?_) (fun c167 => ?_) | refine x_icmp_eq hP rfl (fun c167 => ?_) (fun c167 => ?_)
    rotate_left
    · omega
    first | refine x_aload_n hP rfl rfl ?_ | refine x_aload_nN hP rfl rfl ?_
    refine x_bipush hP rfl ?_
    refine x_callV1 (ci := 9) hP 0 0 rfl rfl rfl (by first | assumption | rfl) rfl rfl rfl (Nat.zero_le _) (Nat.zero_le _) ?_
    refine r_needO hP hR t1 hq0 (by decide) (fun z1 z2 => ?_) (fun z1 => ?_)
    rotate_left
    · rw [thgR_c, if_neg z1] at k
      dsimp only at k
      exact r_fB181 hP hR (by decide) (by omega) (k _ (by omega)) _ _ _ ⟨rfl, rfl, trivial⟩
    rw [thgR_c, if_pos z1] at k
    first | refine x_aload_n hP rfl rfl ?_ | refine x_aload_nN hP rfl rfl ?_
    refine x_iconst hP rfl ?_
    refine x_ldcW hP rfl ?_
    refine x_callV2 (ci := 9) hP 0 0 rfl rfl rfl (by first | assumption | rfl) rfl rfl rfl (Nat.zero_le _) (Nat.zero_le _) ?_
    have hp1 : (q0 + 1) ≤ n := z2
    rw [tg1_73] at k
    refine r_toldO (p := (q0 + 1)) (may := true) (mo := 999999999) hP hR t1 hp1 (by decide) ?_
    rw [tld_int c256 hp1]
    have eb := fun e h => intR_e (c := c) (n := n) (p := (q0 + 1)) (e := e) hp1 h
    have rg := fun v q h => intR_rg (c := c) (n := n) (p := (q0 + 1)) (v := v) (q := q) c256 hp1 h
    generalize intR c n (q0 + 1) = oo at k eb rg ⊢
    match oo, k, eb, rg with
    | .inl er, k, eb, _ =>
      have eb := eb er rfl
      dsimp only at k
      intro q u ⟨z, hz⟩
      rw [hz]
      refine x_istore hP rfl ?_
      exact r_fB191 hP hR (by decide) (by omega) (k _ (by omega)) _ _ _ ⟨rfl, rfl, trivial⟩
    | .inr (b, q1), k, _, rg =>
      have rg1 := rg b q1 rfl
      dsimp only at k
      show P _ _ _ _ (Value.int (iI b) :: _) _ _ _ _
      have hq1 : q1 ≤ n := by omega
      rw [thgR_n] at k
      dsimp only at k
      refine x_istore hP rfl ?_
      first | refine x_aload_n hP rfl rfl ?_ | refine x_aload_nN hP rfl rfl ?_
      refine x_bipush hP rfl ?_
      refine x_callV1 (ci := 9) hP 0 0 rfl rfl rfl (by first | assumption | rfl) rfl rfl rfl (Nat.zero_le _) (Nat.zero_le _) ?_
      refine r_needO hP hR t1 hq1 (by decide) (fun z1 z2 => ?_) (fun z1 => ?_)
      rotate_left
      · rw [if_neg z1] at k
        exact r_fB197 hP hR (by decide) (by omega) (k _ (by omega)) _ _ _ ⟨rfl, rfl, trivial⟩
      rw [if_pos z1] at k
      first | refine x_aload_n hP rfl rfl ?_ | refine x_aload_nN hP rfl rfl ?_
      refine x_callV0 (ci := 9) hP 0 0 rfl rfl rfl (by first | assumption | rfl) rfl rfl rfl (Nat.zero_le _) (Nat.zero_le _) ?_
      refine r_badO hP ?_
      first | refine zb_if_eq hP rfl (fun c201 => ?_) (fun c201 => ?_) | refine zl_if_eq hP rfl (fun c201 => ?_) (fun c201 => ?_) | refine z_if_eq hP rfl (by omega) (fun c201 => ?_) (fun c201 => ?_)
      rotate_left
      · cases c201
      exact r_fa3 (p := q1 + 1) hP hR hs hc hy hn hq hv hf (by omega) (by omega) (fun I' w1 w2 w3 => k I' z2 w1 w2 (frP_trans (frP_mono (rT_fr I _ _) fun _ _ _ => rC_sFn) w3)) _ _ _ ⟨rfl, rfl, rfl, rfl, rfl, trivial⟩
theorem r_fn4 (hP : x_closed E P) (hR : x_fin R) (t1 : txB I n c) (hp : p ≤ n) (hs : 7 ≤ s ∧ s < 28) (hc : rTr I J (zT Z)) (hy : rLy I (zT Z)) (hn : rNu I (zN Z)) (hq : rq I s ol (l.map (rfE ol))) (hv : vV (zT Z) (ol, l)) (hf : I 1602 122 0 = bI tm) {at_ : Nat} (ha : at_ ≤ n) (k : fnP Q I J R n s tm (fnR Z c n 4 at_ (ol, l) p)) : P 199 (d + 4) 0 (x_la 0 [.ref 122, .int (iI (4 : Nat)), .int (iI s), .int (iI at_)]) [] (x_hp (rT I p (-1)) J R) rc rs Q := by
  have n2 := t1.2.1
  have c256 := t1.2.2.1
  have w3 := hc.2.2.2.2.2.2.1
  unfold fnR at k
  rw [if_neg (fun z => absurd z.1 (by decide))] at k
  rw [show thg 4 = [77, 73] from rfl] at k
  refine x_iload_n hP rfl rfl ?_
  refine x_bipush hP rfl ?_
  first | refine z_icmp_eq hP rfl (by omega) (by omega) (fun c3 => ?_) (fun c3 => ?_) | refine x_icmp_eq hP rfl (fun c3 => ?_) (fun c3 => ?_)
  · omega
  refine x_iload_n hP rfl rfl ?_
  refine x_bipush hP rfl ?_
  first | refine z_icmp_ne hP rfl (by omega) (by omega) (fun c9 => ?_) (fun c9 => ?_) | refine x_icmp_ne hP rfl (fun c9 => ?_) (fun c9 => ?_)
  rotate_left
  · omega
  refine x_iload_n hP rfl rfl ?_
  refine x_bipush hP rfl ?_
  first | refine z_icmp_eq hP rfl (by omega) (by omega) (fun c30 => ?_) (fun c30 => ?_) | refine x_icmp_eq hP rfl (fun c30 => ?_) (fun c30 => ?_)
  · omega
  refine x_iload_n hP rfl rfl ?_
  refine x_bipush hP rfl ?_
  first | refine z_icmp_ne hP rfl (by omega) (by omega) (fun c36 => ?_) (fun c36 => ?_) | refine x_icmp_ne hP rfl (fun c36 => ?_) (fun c36 => ?_)
  rotate_left
  · omega
  first | refine x_aload_n hP rfl rfl ?_ | refine x_aload_nN hP rfl rfl ?_
  refine x_bipush hP rfl ?_
  refine x_callV1 (ci := 9) hP 0 0 rfl rfl rfl (by first | assumption | rfl) rfl rfl rfl (Nat.zero_le _) (Nat.zero_le _) ?_
  refine r_needO hP hR t1 hp (by decide) (fun z1 z2 => ?_) (fun z1 => ?_)
  rotate_left
  · rw [thgR_c, if_neg z1] at k
    dsimp only at k
    exact r_fB79 hP hR (by decide) (by omega) (k _ (by omega)) _ _ _ ⟨rfl, rfl, trivial⟩
  rw [thgR_c, if_pos z1] at k
  refine x_iload_n hP rfl rfl ?_
  refine x_iconst hP rfl ?_
  refine z_icmp_lt hP rfl (by omega) (by omega) (fun c81 => ?_) (fun c81 => ?_)
  · omega
  refine x_iload_n hP rfl rfl ?_
  refine x_bipush hP rfl ?_
  first | refine z_icmp_eq hP rfl (by omega) (by omega) (fun c87 => ?_) (fun c87 => ?_) | refine x_icmp_eq hP rfl (fun c87 => ?_) (fun c87 => ?_)
  · omega
  refine x_iload_n hP rfl rfl ?_
  refine x_bipush hP rfl ?_
  first | refine z_icmp_ne hP rfl (by omega) (by omega) (fun c93 => ?_) (fun c93 => ?_) | refine x_icmp_ne hP rfl (fun c93 => ?_) (fun c93 => ?_)
  rotate_left
  · omega
  refine x_iconst hP rfl ?_
  refine x_istore hP rfl ?_
  refine x_iload_n hP rfl rfl ?_
  refine x_bipush hP rfl ?_
  first | refine z_icmp_eq hP rfl (by omega) (by omega) (fun c113 => ?_) (fun c113 => ?_) | refine x_icmp_eq hP rfl (fun c113 => ?_) (fun c113 => ?_)
  · omega
  refine x_iload_n hP rfl rfl ?_
  refine x_bipush hP rfl ?_
  first | refine z_icmp_ne hP rfl (by omega) (by omega) (fun c119 => ?_) (fun c119 => ?_) | refine x_icmp_ne hP rfl (fun c119 => ?_) (fun c119 => ?_)
  rotate_left
  · omega
  refine x_iload_n hP rfl rfl ?_
  refine x_bipush hP rfl ?_
  first | refine z_icmp_ne hP rfl (by omega) (by omega) (fun c131 => ?_) (fun c131 => ?_) | refine x_icmp_ne hP rfl (fun c131 => ?_) (fun c131 => ?_)
  rotate_left
  · omega
  refine x_iconst hP rfl ?_
  refine x_istore hP rfl ?_
  refine x_iload_n hP rfl rfl ?_
  refine x_iconst hP rfl ?_
  refine z_icmp_le hP rfl (by omega) (by omega) (fun c146 => ?_) (fun c146 => ?_)
  · omega
  refine x_iload_n hP rfl rfl ?_
  refine x_bipush hP rfl ?_
  refine z_icmp_ge hP rfl (by omega) (by omega) (fun c152 => ?_) (fun c152 => ?_)
  · omega
  first | refine x_aload_n hP rfl rfl ?_ | refine x_aload_nN hP rfl rfl ?_
  refine x_callV0 (ci := 9) hP 0 0 rfl rfl rfl (by first | assumption | rfl) rfl rfl rfl (Nat.zero_le _) (Nat.zero_le _) ?_
  have hp0 : (p + 1) ≤ n := z2
  rw [tg1_77] at k
  refine r_mark0 (p := (p + 1)) hP hR t1 hc hp0 ?_
  have eb := fun e h => mrkR_e (T := zT Z) (c := c) (n := n) (p := (p + 1)) (e := e) hp0 h
  have rg := fun v q h => mrkR_rg (T := zT Z) (c := c) (n := n) (p := (p + 1)) (a := v) (q := q) c256 hp0 h
  generalize mrkR (zT Z) c n (p + 1) = oo at k eb rg ⊢
  match oo, k, eb, rg with
  | .inl er, k, eb, _ =>
    have eb := eb er rfl
    dsimp only at k
    intro q u ⟨z, hz⟩
    rw [hz]
    refine x_goto hP rfl ?_
    refine x_istore hP rfl ?_
    exact r_fB165 hP hR (by decide) (by omega) (k _ (by omega)) _ _ _ ⟨rfl, rfl, trivial⟩
  | .inr (m, q0), k, _, rg =>
    have rg0 := rg m q0 rfl
    dsimp only at k
    show P _ _ _ _ (Value.int (iI (m : Nat)) :: _) _ _ _ _
    have hq0 : q0 ≤ n := by omega
    refine x_goto hP rfl ?_
    refine x_istore hP rfl ?_
    refine x_iload_n hP rfl rfl ?_
    refine x_iconst hP rfl ?_
    first | refine z_icmp_eq hP rfl (by omega) (by omega) (fun c167 => ?_) (fun c167 => ?_) | refine x_icmp_eq hP rfl (fun c167 => ?_) (fun c167 => ?_)
    · omega
    refine x_iload_n hP rfl rfl ?_
    refine x_iconst hP rfl ?_
    first | refine z_icmp_ne hP rfl (by omega) (by omega) (fun c172 => ?_) (fun c172 => ?_) | refine x_icmp_ne hP rfl (fun c172 => ?_) (fun c172 => ?_)
    · omega
    first | refine x_aload_n hP rfl rfl ?_ | refine x_aload_nN hP rfl rfl ?_
    refine x_bipush hP rfl ?_
    refine x_callV1 (ci := 9) hP 0 0 rfl rfl rfl (by first | assumption | rfl) rfl rfl rfl (Nat.zero_le _) (Nat.zero_le _) ?_
    refine r_needO hP hR t1 hq0 (by decide) (fun z1 z2 => ?_) (fun z1 => ?_)
    rotate_left
    · rw [thgR_c, if_neg z1] at k
      dsimp only at k
      exact r_fB181 hP hR (by decide) (by omega) (k _ (by omega)) _ _ _ ⟨rfl, rfl, trivial⟩
    rw [thgR_c, if_pos z1] at k
    first | refine x_aload_n hP rfl rfl ?_ | refine x_aload_nN hP rfl rfl ?_
    refine x_iconst hP rfl ?_
    refine x_ldcW hP rfl ?_
    refine x_callV2 (ci := 9) hP 0 0 rfl rfl rfl (by first | assumption | rfl) rfl rfl rfl (Nat.zero_le _) (Nat.zero_le _) ?_
    have hp1 : (q0 + 1) ≤ n := z2
    rw [tg1_73] at k
    refine r_toldO (p := (q0 + 1)) (may := true) (mo := 999999999) hP hR t1 hp1 (by decide) ?_
    rw [tld_int c256 hp1]
    have eb := fun e h => intR_e (c := c) (n := n) (p := (q0 + 1)) (e := e) hp1 h
    have rg := fun v q h => intR_rg (c := c) (n := n) (p := (q0 + 1)) (v := v) (q := q) c256 hp1 h
    generalize intR c n (q0 + 1) = oo at k eb rg ⊢
    match oo, k, eb, rg with
    | .inl er, k, eb, _ =>
      have eb := eb er rfl
      dsimp only at k
      intro q u ⟨z, hz⟩
      rw [hz]
      refine x_istore hP rfl ?_
      exact r_fB191 hP hR (by decide) (by omega) (k _ (by omega)) _ _ _ ⟨rfl, rfl, trivial⟩
    | .inr (b, q1), k, _, rg =>
      have rg1 := rg b q1 rfl
      dsimp only at k
      show P _ _ _ _ (Value.int (iI b) :: _) _ _ _ _
      have hq1 : q1 ≤ n := by omega
      rw [thgR_n] at k
      dsimp only at k
      refine x_istore hP rfl ?_
      first | refine x_aload_n hP rfl rfl ?_ | refine x_aload_nN hP rfl rfl ?_
      refine x_bipush hP rfl ?_
      refine x_callV1 (ci := 9) hP 0 0 rfl rfl rfl (by first | assumption | rfl) rfl rfl rfl (Nat.zero_le _) (Nat.zero_le _) ?_
      refine r_needO hP hR t1 hq1 (by decide) (fun z1 z2 => ?_) (fun z1 => ?_)
      rotate_left
      · rw [if_neg z1] at k
        exact r_fB197 hP hR (by decide) (by omega) (k _ (by omega)) _ _ _ ⟨rfl, rfl, trivial⟩
      rw [if_pos z1] at k
      first | refine x_aload_n hP rfl rfl ?_ | refine x_aload_nN hP rfl rfl ?_
      refine x_callV0 (ci := 9) hP 0 0 rfl rfl rfl (by first | assumption | rfl) rfl rfl rfl (Nat.zero_le _) (Nat.zero_le _) ?_
      refine r_badO hP ?_
      first | refine zb_if_eq hP rfl (fun c201 => ?_) (fun c201 => ?_) | refine zl_if_eq hP rfl (fun c201 => ?_) (fun c201 => ?_) | refine z_if_eq hP rfl (by omega) (fun c201 => ?_) (fun c201 => ?_)
      rotate_left
      · cases c201
      exact r_fa4 (p := q1 + 1) hP hR hs hc hy hn hq hv hf (by omega) (by omega) (fun I' w1 w2 w3 => k I' z2 w1 w2 (frP_trans (frP_mono (rT_fr I _ _) fun _ _ _ => rC_sFn) w3)) _ _ _ ⟨rfl, rfl, rfl, rfl, rfl, trivial⟩
theorem r_fn5 (hP : x_closed E P) (hR : x_fin R) (t1 : txB I n c) (hp : p ≤ n) (hs : 7 ≤ s ∧ s < 28) (hc : rTr I J (zT Z)) (hy : rLy I (zT Z)) (hn : rNu I (zN Z)) (hq : rq I s ol (l.map (rfE ol))) (hv : vV (zT Z) (ol, l)) (hf : I 1602 122 0 = bI tm) {at_ : Nat} (ha : at_ ≤ n) (k : fnP Q I J R n s tm (fnR Z c n 5 at_ (ol, l) p)) : P 199 (d + 4) 0 (x_la 0 [.ref 122, .int (iI (5 : Nat)), .int (iI s), .int (iI at_)]) [] (x_hp (rT I p (-1)) J R) rc rs Q := by
  have n2 := t1.2.1
  have c256 := t1.2.2.1
  have w3 := hc.2.2.2.2.2.2.1
  unfold fnR at k
  rw [if_neg (fun z => absurd z.1 (by decide))] at k
  rw [show thg 5 = [77] from rfl] at k
  refine x_iload_n hP rfl rfl ?_
  refine x_bipush hP rfl ?_
  first | refine z_icmp_eq hP rfl (by omega) (by omega) (fun c3 => ?_) (fun c3 => ?_) | refine x_icmp_eq hP rfl (fun c3 => ?_) (fun c3 => ?_)
  · omega
  refine x_iload_n hP rfl rfl ?_
  refine x_bipush hP rfl ?_
  first | refine z_icmp_ne hP rfl (by omega) (by omega) (fun c9 => ?_) (fun c9 => ?_) | refine x_icmp_ne hP rfl (fun c9 => ?_) (fun c9 => ?_)
  rotate_left
  · omega
  refine x_iload_n hP rfl rfl ?_
  refine x_bipush hP rfl ?_
  first | refine z_icmp_eq hP rfl (by omega) (by omega) (fun c30 => ?_) (fun c30 => ?_) | refine x_icmp_eq hP rfl (fun c30 => ?_) (fun c30 => ?_)
  · omega
  refine x_iload_n hP rfl rfl ?_
  refine x_bipush hP rfl ?_
  first | refine z_icmp_ne hP rfl (by omega) (by omega) (fun c36 => ?_) (fun c36 => ?_) | refine x_icmp_ne hP rfl (fun c36 => ?_) (fun c36 => ?_)
  rotate_left
  · omega
  first | refine x_aload_n hP rfl rfl ?_ | refine x_aload_nN hP rfl rfl ?_
  refine x_bipush hP rfl ?_
  refine x_callV1 (ci := 9) hP 0 0 rfl rfl rfl (by first | assumption | rfl) rfl rfl rfl (Nat.zero_le _) (Nat.zero_le _) ?_
  refine r_needO hP hR t1 hp (by decide) (fun z1 z2 => ?_) (fun z1 => ?_)
  rotate_left
  · rw [thgR_c, if_neg z1] at k
    dsimp only at k
    exact r_fB79 hP hR (by decide) (by omega) (k _ (by omega)) _ _ _ ⟨rfl, rfl, trivial⟩
  rw [thgR_c, if_pos z1] at k
  refine x_iload_n hP rfl rfl ?_
  refine x_iconst hP rfl ?_
  refine z_icmp_lt hP rfl (by omega) (by omega) (fun c81 => ?_) (fun c81 => ?_)
  · omega
  refine x_iload_n hP rfl rfl ?_
  refine x_bipush hP rfl ?_
  first | refine z_icmp_eq hP rfl (by omega) (by omega) (fun c87 => ?_) (fun c87 => ?_) | refine x_icmp_eq hP rfl (fun c87 => ?_) (fun c87 => ?_)
  · omega
  refine x_iload_n hP rfl rfl ?_
  refine x_bipush hP rfl ?_
  first | refine z_icmp_ne hP rfl (by omega) (by omega) (fun c93 => ?_) (fun c93 => ?_) | refine x_icmp_ne hP rfl (fun c93 => ?_) (fun c93 => ?_)
  rotate_left
  · omega
  refine x_iconst hP rfl ?_
  refine x_istore hP rfl ?_
  refine x_iload_n hP rfl rfl ?_
  refine x_bipush hP rfl ?_
  first | refine z_icmp_eq hP rfl (by omega) (by omega) (fun c113 => ?_) (fun c113 => ?_) | refine x_icmp_eq hP rfl (fun c113 => ?_) (fun c113 => ?_)
  · omega
  refine x_iload_n hP rfl rfl ?_
  refine x_bipush hP rfl ?_
  first | refine z_icmp_ne hP rfl (by omega) (by omega) (fun c119 => ?_) (fun c119 => ?_) | refine x_icmp_ne hP rfl (fun c119 => ?_) (fun c119 => ?_)
  rotate_left
  · omega
  refine x_iload_n hP rfl rfl ?_
  refine x_bipush hP rfl ?_
  first | refine z_icmp_ne hP rfl (by omega) (by omega) (fun c131 => ?_) (fun c131 => ?_) | refine x_icmp_ne hP rfl (fun c131 => ?_) (fun c131 => ?_)
  rotate_left
  · omega
  refine x_iconst hP rfl ?_
  refine x_istore hP rfl ?_
  refine x_iload_n hP rfl rfl ?_
  refine x_iconst hP rfl ?_
  refine z_icmp_le hP rfl (by omega) (by omega) (fun c146 => ?_) (fun c146 => ?_)
  · omega
  refine x_iload_n hP rfl rfl ?_
  refine x_bipush hP rfl ?_
  refine z_icmp_ge hP rfl (by omega) (by omega) (fun c152 => ?_) (fun c152 => ?_)
  · omega
  first | refine x_aload_n hP rfl rfl ?_ | refine x_aload_nN hP rfl rfl ?_
  refine x_callV0 (ci := 9) hP 0 0 rfl rfl rfl (by first | assumption | rfl) rfl rfl rfl (Nat.zero_le _) (Nat.zero_le _) ?_
  have hp0 : (p + 1) ≤ n := z2
  rw [tg1_77] at k
  refine r_mark0 (p := (p + 1)) hP hR t1 hc hp0 ?_
  have eb := fun e h => mrkR_e (T := zT Z) (c := c) (n := n) (p := (p + 1)) (e := e) hp0 h
  have rg := fun v q h => mrkR_rg (T := zT Z) (c := c) (n := n) (p := (p + 1)) (a := v) (q := q) c256 hp0 h
  generalize mrkR (zT Z) c n (p + 1) = oo at k eb rg ⊢
  match oo, k, eb, rg with
  | .inl er, k, eb, _ =>
    have eb := eb er rfl
    dsimp only at k
    intro q u ⟨z, hz⟩
    rw [hz]
    refine x_goto hP rfl ?_
    refine x_istore hP rfl ?_
    exact r_fB165 hP hR (by decide) (by omega) (k _ (by omega)) _ _ _ ⟨rfl, rfl, trivial⟩
  | .inr (m, q0), k, _, rg =>
    have rg0 := rg m q0 rfl
    dsimp only at k
    show P _ _ _ _ (Value.int (iI (m : Nat)) :: _) _ _ _ _
    have hq0 : q0 ≤ n := by omega
    rw [thgR_n] at k
    dsimp only at k
    refine x_goto hP rfl ?_
    refine x_istore hP rfl ?_
    refine x_iload_n hP rfl rfl ?_
    refine x_iconst hP rfl ?_
    first | refine z_icmp_eq hP rfl (by omega) (by omega) (fun c167 => ?_) (fun c167 => ?_) | refine x_icmp_eq hP rfl (fun c167 => ?_) (fun c167 => ?_)
    · omega
    refine x_iload_n hP rfl rfl ?_
    refine x_iconst hP rfl ?_
    first | refine z_icmp_ne hP rfl (by omega) (by omega) (fun c172 => ?_) (fun c172 => ?_) | refine x_icmp_ne hP rfl (fun c172 => ?_) (fun c172 => ?_)
    rotate_left
    · omega
    first | refine x_aload_n hP rfl rfl ?_ | refine x_aload_nN hP rfl rfl ?_
    refine x_bipush hP rfl ?_
    refine x_callV1 (ci := 9) hP 0 0 rfl rfl rfl (by first | assumption | rfl) rfl rfl rfl (Nat.zero_le _) (Nat.zero_le _) ?_
    refine r_needO hP hR t1 hq0 (by decide) (fun z1 z2 => ?_) (fun z1 => ?_)
    rotate_left
    · rw [if_neg z1] at k
      exact r_fB197 hP hR (by decide) (by omega) (k _ (by omega)) _ _ _ ⟨rfl, rfl, trivial⟩
    rw [if_pos z1] at k
    first | refine x_aload_n hP rfl rfl ?_ | refine x_aload_nN hP rfl rfl ?_
    refine x_callV0 (ci := 9) hP 0 0 rfl rfl rfl (by first | assumption | rfl) rfl rfl rfl (Nat.zero_le _) (Nat.zero_le _) ?_
    refine r_badO hP ?_
    first | refine zb_if_eq hP rfl (fun c201 => ?_) (fun c201 => ?_) | refine zl_if_eq hP rfl (fun c201 => ?_) (fun c201 => ?_) | refine z_if_eq hP rfl (by omega) (fun c201 => ?_) (fun c201 => ?_)
    rotate_left
    · cases c201
    exact r_fa5 (p := q0 + 1) hP hR hs hc hy hn hq hv hf (by omega) (fun I' w1 w2 w3 => k I' z2 w1 w2 (frP_trans (frP_mono (rT_fr I _ _) fun _ _ _ => rC_sFn) w3)) _ _ _ ⟨rfl, rfl, rfl, rfl, trivial⟩
theorem r_fn6 (hP : x_closed E P) (hR : x_fin R) (t1 : txB I n c) (hp : p ≤ n) (hs : 7 ≤ s ∧ s < 28) (hc : rTr I J (zT Z)) (hy : rLy I (zT Z)) (hn : rNu I (zN Z)) (hq : rq I s ol (l.map (rfE ol))) (hv : vV (zT Z) (ol, l)) (hf : I 1602 122 0 = bI tm) {at_ : Nat} (ha : at_ ≤ n) (k : fnP Q I J R n s tm (fnR Z c n 6 at_ (ol, l) p)) : P 199 (d + 4) 0 (x_la 0 [.ref 122, .int (iI (6 : Nat)), .int (iI s), .int (iI at_)]) [] (x_hp (rT I p (-1)) J R) rc rs Q := by
  have n2 := t1.2.1
  have c256 := t1.2.2.1
  have w3 := hc.2.2.2.2.2.2.1
  unfold fnR at k
  rw [if_neg (fun z => absurd z.1 (by decide))] at k
  rw [show thg 6 = [77] from rfl] at k
  refine x_iload_n hP rfl rfl ?_
  refine x_bipush hP rfl ?_
  first | refine z_icmp_eq hP rfl (by omega) (by omega) (fun c3 => ?_) (fun c3 => ?_) | refine x_icmp_eq hP rfl (fun c3 => ?_) (fun c3 => ?_)
  · omega
  refine x_iload_n hP rfl rfl ?_
  refine x_bipush hP rfl ?_
  first | refine z_icmp_ne hP rfl (by omega) (by omega) (fun c9 => ?_) (fun c9 => ?_) | refine x_icmp_ne hP rfl (fun c9 => ?_) (fun c9 => ?_)
  rotate_left
  · omega
  refine x_iload_n hP rfl rfl ?_
  refine x_bipush hP rfl ?_
  first | refine z_icmp_eq hP rfl (by omega) (by omega) (fun c30 => ?_) (fun c30 => ?_) | refine x_icmp_eq hP rfl (fun c30 => ?_) (fun c30 => ?_)
  · omega
  refine x_iload_n hP rfl rfl ?_
  refine x_bipush hP rfl ?_
  first | refine z_icmp_ne hP rfl (by omega) (by omega) (fun c36 => ?_) (fun c36 => ?_) | refine x_icmp_ne hP rfl (fun c36 => ?_) (fun c36 => ?_)
  rotate_left
  · omega
  first | refine x_aload_n hP rfl rfl ?_ | refine x_aload_nN hP rfl rfl ?_
  refine x_bipush hP rfl ?_
  refine x_callV1 (ci := 9) hP 0 0 rfl rfl rfl (by first | assumption | rfl) rfl rfl rfl (Nat.zero_le _) (Nat.zero_le _) ?_
  refine r_needO hP hR t1 hp (by decide) (fun z1 z2 => ?_) (fun z1 => ?_)
  rotate_left
  · rw [thgR_c, if_neg z1] at k
    dsimp only at k
    exact r_fB79 hP hR (by decide) (by omega) (k _ (by omega)) _ _ _ ⟨rfl, rfl, trivial⟩
  rw [thgR_c, if_pos z1] at k
  refine x_iload_n hP rfl rfl ?_
  refine x_iconst hP rfl ?_
  refine z_icmp_lt hP rfl (by omega) (by omega) (fun c81 => ?_) (fun c81 => ?_)
  · omega
  refine x_iload_n hP rfl rfl ?_
  refine x_bipush hP rfl ?_
  first | refine z_icmp_eq hP rfl (by omega) (by omega) (fun c87 => ?_) (fun c87 => ?_) | refine x_icmp_eq hP rfl (fun c87 => ?_) (fun c87 => ?_)
  · omega
  refine x_iload_n hP rfl rfl ?_
  refine x_bipush hP rfl ?_
  first | refine z_icmp_ne hP rfl (by omega) (by omega) (fun c93 => ?_) (fun c93 => ?_) | refine x_icmp_ne hP rfl (fun c93 => ?_) (fun c93 => ?_)
  rotate_left
  · omega
  refine x_iconst hP rfl ?_
  refine x_istore hP rfl ?_
  refine x_iload_n hP rfl rfl ?_
  refine x_bipush hP rfl ?_
  first | refine z_icmp_eq hP rfl (by omega) (by omega) (fun c113 => ?_) (fun c113 => ?_) | refine x_icmp_eq hP rfl (fun c113 => ?_) (fun c113 => ?_)
  · omega
  refine x_iload_n hP rfl rfl ?_
  refine x_bipush hP rfl ?_
  first | refine z_icmp_ne hP rfl (by omega) (by omega) (fun c119 => ?_) (fun c119 => ?_) | refine x_icmp_ne hP rfl (fun c119 => ?_) (fun c119 => ?_)
  rotate_left
  · omega
  refine x_iload_n hP rfl rfl ?_
  refine x_bipush hP rfl ?_
  first | refine z_icmp_ne hP rfl (by omega) (by omega) (fun c131 => ?_) (fun c131 => ?_) | refine x_icmp_ne hP rfl (fun c131 => ?_) (fun c131 => ?_)
  rotate_left
  · omega
  refine x_iconst hP rfl ?_
  refine x_istore hP rfl ?_
  refine x_iload_n hP rfl rfl ?_
  refine x_iconst hP rfl ?_
  refine z_icmp_le hP rfl (by omega) (by omega) (fun c146 => ?_) (fun c146 => ?_)
  · omega
  refine x_iload_n hP rfl rfl ?_
  refine x_bipush hP rfl ?_
  refine z_icmp_ge hP rfl (by omega) (by omega) (fun c152 => ?_) (fun c152 => ?_)
  · omega
  first | refine x_aload_n hP rfl rfl ?_ | refine x_aload_nN hP rfl rfl ?_
  refine x_callV0 (ci := 9) hP 0 0 rfl rfl rfl (by first | assumption | rfl) rfl rfl rfl (Nat.zero_le _) (Nat.zero_le _) ?_
  have hp0 : (p + 1) ≤ n := z2
  rw [tg1_77] at k
  refine r_mark0 (p := (p + 1)) hP hR t1 hc hp0 ?_
  have eb := fun e h => mrkR_e (T := zT Z) (c := c) (n := n) (p := (p + 1)) (e := e) hp0 h
  have rg := fun v q h => mrkR_rg (T := zT Z) (c := c) (n := n) (p := (p + 1)) (a := v) (q := q) c256 hp0 h
  generalize mrkR (zT Z) c n (p + 1) = oo at k eb rg ⊢
  match oo, k, eb, rg with
  | .inl er, k, eb, _ =>
    have eb := eb er rfl
    dsimp only at k
    intro q u ⟨z, hz⟩
    rw [hz]
    refine x_goto hP rfl ?_
    refine x_istore hP rfl ?_
    exact r_fB165 hP hR (by decide) (by omega) (k _ (by omega)) _ _ _ ⟨rfl, rfl, trivial⟩
  | .inr (m, q0), k, _, rg =>
    have rg0 := rg m q0 rfl
    dsimp only at k
    show P _ _ _ _ (Value.int (iI (m : Nat)) :: _) _ _ _ _
    have hq0 : q0 ≤ n := by omega
    rw [thgR_n] at k
    dsimp only at k
    refine x_goto hP rfl ?_
    refine x_istore hP rfl ?_
    refine x_iload_n hP rfl rfl ?_
    refine x_iconst hP rfl ?_
    first | refine z_icmp_eq hP rfl (by omega) (by omega) (fun c167 => ?_) (fun c167 => ?_) | refine x_icmp_eq hP rfl (fun c167 => ?_) (fun c167 => ?_)
    · omega
    refine x_iload_n hP rfl rfl ?_
    refine x_iconst hP rfl ?_
    first | refine z_icmp_ne hP rfl (by omega) (by omega) (fun c172 => ?_) (fun c172 => ?_) | refine x_icmp_ne hP rfl (fun c172 => ?_) (fun c172 => ?_)
    rotate_left
    · omega
    first | refine x_aload_n hP rfl rfl ?_ | refine x_aload_nN hP rfl rfl ?_
    refine x_bipush hP rfl ?_
    refine x_callV1 (ci := 9) hP 0 0 rfl rfl rfl (by first | assumption | rfl) rfl rfl rfl (Nat.zero_le _) (Nat.zero_le _) ?_
    refine r_needO hP hR t1 hq0 (by decide) (fun z1 z2 => ?_) (fun z1 => ?_)
    rotate_left
    · rw [if_neg z1] at k
      exact r_fB197 hP hR (by decide) (by omega) (k _ (by omega)) _ _ _ ⟨rfl, rfl, trivial⟩
    rw [if_pos z1] at k
    first | refine x_aload_n hP rfl rfl ?_ | refine x_aload_nN hP rfl rfl ?_
    refine x_callV0 (ci := 9) hP 0 0 rfl rfl rfl (by first | assumption | rfl) rfl rfl rfl (Nat.zero_le _) (Nat.zero_le _) ?_
    refine r_badO hP ?_
    first | refine zb_if_eq hP rfl (fun c201 => ?_) (fun c201 => ?_) | refine zl_if_eq hP rfl (fun c201 => ?_) (fun c201 => ?_) | refine z_if_eq hP rfl (by omega) (fun c201 => ?_) (fun c201 => ?_)
    rotate_left
    · cases c201
    exact r_fa6 (p := q0 + 1) hP hR hs hc hy hn hq hv hf (by omega) (fun I' w1 w2 w3 => k I' z2 w1 w2 (frP_trans (frP_mono (rT_fr I _ _) fun _ _ _ => rC_sFn) w3)) _ _ _ ⟨rfl, rfl, rfl, rfl, trivial⟩
theorem r_fn7 (hP : x_closed E P) (hR : x_fin R) (t1 : txB I n c) (hp : p ≤ n) (hs : 7 ≤ s ∧ s < 28) (hc : rTr I J (zT Z)) (hy : rLy I (zT Z)) (hn : rNu I (zN Z)) (hq : rq I s ol (l.map (rfE ol))) (hv : vV (zT Z) (ol, l)) (hf : I 1602 122 0 = bI tm) {at_ : Nat} (ha : at_ ≤ n) (k : fnP Q I J R n s tm (fnR Z c n 7 at_ (ol, l) p)) : P 199 (d + 4) 0 (x_la 0 [.ref 122, .int (iI (7 : Nat)), .int (iI s), .int (iI at_)]) [] (x_hp (rT I p (-1)) J R) rc rs Q := by
  have n2 := t1.2.1
  have c256 := t1.2.2.1
  have w3 := hc.2.2.2.2.2.2.1
  unfold fnR at k
  rw [if_neg (fun z => absurd z.1 (by decide))] at k
  rw [show thg 7 = [78, 77] from rfl] at k
  refine x_iload_n hP rfl rfl ?_
  refine x_bipush hP rfl ?_
  first | refine z_icmp_eq hP rfl (by omega) (by omega) (fun c3 => ?_) (fun c3 => ?_) | refine x_icmp_eq hP rfl (fun c3 => ?_) (fun c3 => ?_)
  · omega
  refine x_iload_n hP rfl rfl ?_
  refine x_bipush hP rfl ?_
  first | refine z_icmp_ne hP rfl (by omega) (by omega) (fun c9 => ?_) (fun c9 => ?_) | refine x_icmp_ne hP rfl (fun c9 => ?_) (fun c9 => ?_)
  rotate_left
  · omega
  refine x_iload_n hP rfl rfl ?_
  refine x_bipush hP rfl ?_
  first | refine z_icmp_eq hP rfl (by omega) (by omega) (fun c30 => ?_) (fun c30 => ?_) | refine x_icmp_eq hP rfl (fun c30 => ?_) (fun c30 => ?_)
  · omega
  refine x_iload_n hP rfl rfl ?_
  refine x_bipush hP rfl ?_
  first | refine z_icmp_ne hP rfl (by omega) (by omega) (fun c36 => ?_) (fun c36 => ?_) | refine x_icmp_ne hP rfl (fun c36 => ?_) (fun c36 => ?_)
  rotate_left
  · omega
  first | refine x_aload_n hP rfl rfl ?_ | refine x_aload_nN hP rfl rfl ?_
  refine x_bipush hP rfl ?_
  refine x_callV1 (ci := 9) hP 0 0 rfl rfl rfl (by first | assumption | rfl) rfl rfl rfl (Nat.zero_le _) (Nat.zero_le _) ?_
  refine r_needO hP hR t1 hp (by decide) (fun z1 z2 => ?_) (fun z1 => ?_)
  rotate_left
  · rw [thgR_c, if_neg z1] at k
    dsimp only at k
    exact r_fB79 hP hR (by decide) (by omega) (k _ (by omega)) _ _ _ ⟨rfl, rfl, trivial⟩
  rw [thgR_c, if_pos z1] at k
  refine x_iload_n hP rfl rfl ?_
  refine x_iconst hP rfl ?_
  refine z_icmp_lt hP rfl (by omega) (by omega) (fun c81 => ?_) (fun c81 => ?_)
  · omega
  refine x_iload_n hP rfl rfl ?_
  refine x_bipush hP rfl ?_
  first | refine z_icmp_eq hP rfl (by omega) (by omega) (fun c87 => ?_) (fun c87 => ?_) | refine x_icmp_eq hP rfl (fun c87 => ?_) (fun c87 => ?_)
  rotate_left
  · omega
  first | refine x_aload_n hP rfl rfl ?_ | refine x_aload_nN hP rfl rfl ?_
  refine x_iconst hP rfl ?_
  refine x_ldcW hP rfl ?_
  refine x_callV2 (ci := 9) hP 0 0 rfl rfl rfl (by first | assumption | rfl) rfl rfl rfl (Nat.zero_le _) (Nat.zero_le _) ?_
  have hp0 : (p + 1) ≤ n := z2
  rw [tg1_78] at k
  refine r_toldO (p := (p + 1)) (may := false) (mo := 999999999) hP hR t1 hp0 (by decide) ?_
  rw [tld_num hp0]
  have eb := fun e h => numR_e (c := c) (n := n) (p := (p + 1)) (e := e) hp0 h
  have rg := fun v q h => numR_rg (c := c) (n := n) (p := (p + 1)) (v := v) (q := q) hp0 h
  generalize numR c n (p + 1) = oo at k eb rg ⊢
  match oo, k, eb, rg with
  | .inl er, k, eb, _ =>
    have eb := eb er rfl
    dsimp only at k
    intro q u ⟨z, hz⟩
    rw [hz]
    refine x_goto hP rfl ?_
    refine x_istore hP rfl ?_
    exact r_fB110 hP hR (by decide) (by omega) (k _ (by omega)) _ _ _ ⟨rfl, rfl, trivial⟩
  | .inr (v, q0), k, _, rg =>
    have rg0 := rg v q0 rfl
    dsimp only at k
    show P _ _ _ _ (Value.int (iI v) :: _) _ _ _ _
    have hq0 : q0 ≤ n := by omega
    refine x_goto hP rfl ?_
    refine x_istore hP rfl ?_
    refine x_iload_n hP rfl rfl ?_
    refine x_bipush hP rfl ?_
    first | refine z_icmp_eq hP rfl (by omega) (by omega) (fun c113 => ?_) (fun c113 => ?_) | refine x_icmp_eq hP rfl (fun c113 => ?_) (fun c113 => ?_)
    rotate_left
    · omega
    first | refine x_aload_n hP rfl rfl ?_ | refine x_aload_nN hP rfl rfl ?_
    refine x_bipush hP rfl ?_
    refine x_callV1 (ci := 9) hP 0 0 rfl rfl rfl (by first | assumption | rfl) rfl rfl rfl (Nat.zero_le _) (Nat.zero_le _) ?_
    refine r_needO hP hR t1 hq0 (by decide) (fun z1 z2 => ?_) (fun z1 => ?_)
    rotate_left
    · rw [thgR_c, if_neg z1] at k
      dsimp only at k
      exact r_fB128 hP hR (by decide) (by omega) (k _ (by omega)) _ _ _ ⟨rfl, rfl, trivial⟩
    rw [thgR_c, if_pos z1] at k
    refine x_iload_n hP rfl rfl ?_
    refine x_bipush hP rfl ?_
    first | refine z_icmp_ne hP rfl (by omega) (by omega) (fun c131 => ?_) (fun c131 => ?_) | refine x_icmp_ne hP rfl (fun c131 => ?_) (fun c131 => ?_)
    rotate_left
    · omega
    refine x_iconst hP rfl ?_
    refine x_istore hP rfl ?_
    refine x_iload_n hP rfl rfl ?_
    refine x_iconst hP rfl ?_
    refine z_icmp_le hP rfl (by omega) (by omega) (fun c146 => ?_) (fun c146 => ?_)
    · omega
    refine x_iload_n hP rfl rfl ?_
    refine x_bipush hP rfl ?_
    refine z_icmp_ge hP rfl (by omega) (by omega) (fun c152 => ?_) (fun c152 => ?_)
    · omega
    first | refine x_aload_n hP rfl rfl ?_ | refine x_aload_nN hP rfl rfl ?_
    refine x_callV0 (ci := 9) hP 0 0 rfl rfl rfl (by first | assumption | rfl) rfl rfl rfl (Nat.zero_le _) (Nat.zero_le _) ?_
    have hp1 : (q0 + 1) ≤ n := z2
    rw [tg1_77] at k
    refine r_mark0 (p := (q0 + 1)) hP hR t1 hc hp1 ?_
    have eb := fun e h => mrkR_e (T := zT Z) (c := c) (n := n) (p := (q0 + 1)) (e := e) hp1 h
    have rg := fun v q h => mrkR_rg (T := zT Z) (c := c) (n := n) (p := (q0 + 1)) (a := v) (q := q) c256 hp1 h
    generalize mrkR (zT Z) c n (q0 + 1) = oo at k eb rg ⊢
    match oo, k, eb, rg with
    | .inl er, k, eb, _ =>
      have eb := eb er rfl
      dsimp only at k
      intro q u ⟨z, hz⟩
      rw [hz]
      refine x_goto hP rfl ?_
      refine x_istore hP rfl ?_
      exact r_fB165 hP hR (by decide) (by omega) (k _ (by omega)) _ _ _ ⟨rfl, rfl, trivial⟩
    | .inr (m, q1), k, _, rg =>
      have rg1 := rg m q1 rfl
      dsimp only at k
      show P _ _ _ _ (Value.int (iI (m : Nat)) :: _) _ _ _ _
      have hq1 : q1 ≤ n := by omega
      rw [thgR_n] at k
      dsimp only at k
      refine x_goto hP rfl ?_
      refine x_istore hP rfl ?_
      refine x_iload_n hP rfl rfl ?_
      refine x_iconst hP rfl ?_
      first | refine z_icmp_eq hP rfl (by omega) (by omega) (fun c167 => ?_) (fun c167 => ?_) | refine x_icmp_eq hP rfl (fun c167 => ?_) (fun c167 => ?_)
      · omega
      refine x_iload_n hP rfl rfl ?_
      refine x_iconst hP rfl ?_
      first | refine z_icmp_ne hP rfl (by omega) (by omega) (fun c172 => ?_) (fun c172 => ?_) | refine x_icmp_ne hP rfl (fun c172 => ?_) (fun c172 => ?_)
      rotate_left
      · omega
      first | refine x_aload_n hP rfl rfl ?_ | refine x_aload_nN hP rfl rfl ?_
      refine x_bipush hP rfl ?_
      refine x_callV1 (ci := 9) hP 0 0 rfl rfl rfl (by first | assumption | rfl) rfl rfl rfl (Nat.zero_le _) (Nat.zero_le _) ?_
      refine r_needO hP hR t1 hq1 (by decide) (fun z1 z2 => ?_) (fun z1 => ?_)
      rotate_left
      · rw [if_neg z1] at k
        exact r_fB197 hP hR (by decide) (by omega) (k _ (by omega)) _ _ _ ⟨rfl, rfl, trivial⟩
      rw [if_pos z1] at k
      first | refine x_aload_n hP rfl rfl ?_ | refine x_aload_nN hP rfl rfl ?_
      refine x_callV0 (ci := 9) hP 0 0 rfl rfl rfl (by first | assumption | rfl) rfl rfl rfl (Nat.zero_le _) (Nat.zero_le _) ?_
      refine r_badO hP ?_
      first | refine zb_if_eq hP rfl (fun c201 => ?_) (fun c201 => ?_) | refine zl_if_eq hP rfl (fun c201 => ?_) (fun c201 => ?_) | refine z_if_eq hP rfl (by omega) (fun c201 => ?_) (fun c201 => ?_)
      rotate_left
      · cases c201
      exact r_fa7 (p := q1 + 1) hP hR hs hc hy hn hq hv hf (by omega) (by omega) (fun I' w1 w2 w3 => k I' z2 w1 w2 (frP_trans (frP_mono (rT_fr I _ _) fun _ _ _ => rC_sFn) w3)) _ _ _ ⟨rfl, rfl, rfl, rfl, rfl, trivial⟩
theorem r_fn8 (hP : x_closed E P) (hR : x_fin R) (t1 : txB I n c) (hp : p ≤ n) (hs : 7 ≤ s ∧ s < 28) (hc : rTr I J (zT Z)) (hy : rLy I (zT Z)) (hn : rNu I (zN Z)) (hq : rq I s ol (l.map (rfE ol))) (hv : vV (zT Z) (ol, l)) (hf : I 1602 122 0 = bI tm) {at_ : Nat} (ha : at_ ≤ n) (k : fnP Q I J R n s tm (fnR Z c n 8 at_ (ol, l) p)) : P 199 (d + 4) 0 (x_la 0 [.ref 122, .int (iI (8 : Nat)), .int (iI s), .int (iI at_)]) [] (x_hp (rT I p (-1)) J R) rc rs Q := by
  have n2 := t1.2.1
  have c256 := t1.2.2.1
  have w3 := hc.2.2.2.2.2.2.1
  unfold fnR at k
  rw [if_neg (fun z => absurd z.1 (by decide))] at k
  rw [show thg 8 = [78, 77] from rfl] at k
  refine x_iload_n hP rfl rfl ?_
  refine x_bipush hP rfl ?_
  first | refine z_icmp_eq hP rfl (by omega) (by omega) (fun c3 => ?_) (fun c3 => ?_) | refine x_icmp_eq hP rfl (fun c3 => ?_) (fun c3 => ?_)
  · omega
  refine x_iload_n hP rfl rfl ?_
  refine x_bipush hP rfl ?_
  first | refine z_icmp_ne hP rfl (by omega) (by omega) (fun c9 => ?_) (fun c9 => ?_) | refine x_icmp_ne hP rfl (fun c9 => ?_) (fun c9 => ?_)
  rotate_left
  · omega
  refine x_iload_n hP rfl rfl ?_
  refine x_bipush hP rfl ?_
  first | refine z_icmp_eq hP rfl (by omega) (by omega) (fun c30 => ?_) (fun c30 => ?_) | refine x_icmp_eq hP rfl (fun c30 => ?_) (fun c30 => ?_)
  · omega
  refine x_iload_n hP rfl rfl ?_
  refine x_bipush hP rfl ?_
  first | refine z_icmp_ne hP rfl (by omega) (by omega) (fun c36 => ?_) (fun c36 => ?_) | refine x_icmp_ne hP rfl (fun c36 => ?_) (fun c36 => ?_)
  rotate_left
  · omega
  first | refine x_aload_n hP rfl rfl ?_ | refine x_aload_nN hP rfl rfl ?_
  refine x_bipush hP rfl ?_
  refine x_callV1 (ci := 9) hP 0 0 rfl rfl rfl (by first | assumption | rfl) rfl rfl rfl (Nat.zero_le _) (Nat.zero_le _) ?_
  refine r_needO hP hR t1 hp (by decide) (fun z1 z2 => ?_) (fun z1 => ?_)
  rotate_left
  · rw [thgR_c, if_neg z1] at k
    dsimp only at k
    exact r_fB79 hP hR (by decide) (by omega) (k _ (by omega)) _ _ _ ⟨rfl, rfl, trivial⟩
  rw [thgR_c, if_pos z1] at k
  refine x_iload_n hP rfl rfl ?_
  refine x_iconst hP rfl ?_
  refine z_icmp_lt hP rfl (by omega) (by omega) (fun c81 => ?_) (fun c81 => ?_)
  · omega
  refine x_iload_n hP rfl rfl ?_
  refine x_bipush hP rfl ?_
  first | refine z_icmp_eq hP rfl (by omega) (by omega) (fun c87 => ?_) (fun c87 => ?_) | refine x_icmp_eq hP rfl (fun c87 => ?_) (fun c87 => ?_)
  · omega
  refine x_iload_n hP rfl rfl ?_
  refine x_bipush hP rfl ?_
  first | refine z_icmp_ne hP rfl (by omega) (by omega) (fun c93 => ?_) (fun c93 => ?_) | refine x_icmp_ne hP rfl (fun c93 => ?_) (fun c93 => ?_)
  · omega
  first | refine x_aload_n hP rfl rfl ?_ | refine x_aload_nN hP rfl rfl ?_
  refine x_iconst hP rfl ?_
  refine x_ldcW hP rfl ?_
  refine x_callV2 (ci := 9) hP 0 0 rfl rfl rfl (by first | assumption | rfl) rfl rfl rfl (Nat.zero_le _) (Nat.zero_le _) ?_
  have hp0 : (p + 1) ≤ n := z2
  rw [tg1_78] at k
  refine r_toldO (p := (p + 1)) (may := false) (mo := 999999999) hP hR t1 hp0 (by decide) ?_
  rw [tld_num hp0]
  have eb := fun e h => numR_e (c := c) (n := n) (p := (p + 1)) (e := e) hp0 h
  have rg := fun v q h => numR_rg (c := c) (n := n) (p := (p + 1)) (v := v) (q := q) hp0 h
  generalize numR c n (p + 1) = oo at k eb rg ⊢
  match oo, k, eb, rg with
  | .inl er, k, eb, _ =>
    have eb := eb er rfl
    dsimp only at k
    intro q u ⟨z, hz⟩
    rw [hz]
    refine x_goto hP rfl ?_
    refine x_istore hP rfl ?_
    exact r_fB110 hP hR (by decide) (by omega) (k _ (by omega)) _ _ _ ⟨rfl, rfl, trivial⟩
  | .inr (v, q0), k, _, rg =>
    have rg0 := rg v q0 rfl
    dsimp only at k
    show P _ _ _ _ (Value.int (iI v) :: _) _ _ _ _
    have hq0 : q0 ≤ n := by omega
    refine x_goto hP rfl ?_
    refine x_istore hP rfl ?_
    refine x_iload_n hP rfl rfl ?_
    refine x_bipush hP rfl ?_
    first | refine z_icmp_eq hP rfl (by omega) (by omega) (fun c113 => ?_) (fun c113 => ?_) | refine x_icmp_eq hP rfl (fun c113 => ?_) (fun c113 => ?_)
    · omega
    refine x_iload_n hP rfl rfl ?_
    refine x_bipush hP rfl ?_
    first | refine z_icmp_ne hP rfl (by omega) (by omega) (fun c119 => ?_) (fun c119 => ?_) | refine x_icmp_ne hP rfl (fun c119 => ?_) (fun c119 => ?_)
    · omega
    first | refine x_aload_n hP rfl rfl ?_ | refine x_aload_nN hP rfl rfl ?_
    refine x_bipush hP rfl ?_
    refine x_callV1 (ci := 9) hP 0 0 rfl rfl rfl (by first | assumption | rfl) rfl rfl rfl (Nat.zero_le _) (Nat.zero_le _) ?_
    refine r_needO hP hR t1 hq0 (by decide) (fun z1 z2 => ?_) (fun z1 => ?_)
    rotate_left
    · rw [thgR_c, if_neg z1] at k
      dsimp only at k
      exact r_fB128 hP hR (by decide) (by omega) (k _ (by omega)) _ _ _ ⟨rfl, rfl, trivial⟩
    rw [thgR_c, if_pos z1] at k
    refine x_iload_n hP rfl rfl ?_
    refine x_bipush hP rfl ?_
    first | refine z_icmp_ne hP rfl (by omega) (by omega) (fun c131 => ?_) (fun c131 => ?_) | refine x_icmp_ne hP rfl (fun c131 => ?_) (fun c131 => ?_)
    rotate_left
    · omega
    refine x_iconst hP rfl ?_
    refine x_istore hP rfl ?_
    refine x_iload_n hP rfl rfl ?_
    refine x_iconst hP rfl ?_
    refine z_icmp_le hP rfl (by omega) (by omega) (fun c146 => ?_) (fun c146 => ?_)
    · omega
    refine x_iload_n hP rfl rfl ?_
    refine x_bipush hP rfl ?_
    refine z_icmp_ge hP rfl (by omega) (by omega) (fun c152 => ?_) (fun c152 => ?_)
    · omega
    first | refine x_aload_n hP rfl rfl ?_ | refine x_aload_nN hP rfl rfl ?_
    refine x_callV0 (ci := 9) hP 0 0 rfl rfl rfl (by first | assumption | rfl) rfl rfl rfl (Nat.zero_le _) (Nat.zero_le _) ?_
    have hp1 : (q0 + 1) ≤ n := z2
    rw [tg1_77] at k
    refine r_mark0 (p := (q0 + 1)) hP hR t1 hc hp1 ?_
    have eb := fun e h => mrkR_e (T := zT Z) (c := c) (n := n) (p := (q0 + 1)) (e := e) hp1 h
    have rg := fun v q h => mrkR_rg (T := zT Z) (c := c) (n := n) (p := (q0 + 1)) (a := v) (q := q) c256 hp1 h
    generalize mrkR (zT Z) c n (q0 + 1) = oo at k eb rg ⊢
    match oo, k, eb, rg with
    | .inl er, k, eb, _ =>
      have eb := eb er rfl
      dsimp only at k
      intro q u ⟨z, hz⟩
      rw [hz]
      refine x_goto hP rfl ?_
      refine x_istore hP rfl ?_
      exact r_fB165 hP hR (by decide) (by omega) (k _ (by omega)) _ _ _ ⟨rfl, rfl, trivial⟩
    | .inr (m, q1), k, _, rg =>
      have rg1 := rg m q1 rfl
      dsimp only at k
      show P _ _ _ _ (Value.int (iI (m : Nat)) :: _) _ _ _ _
      have hq1 : q1 ≤ n := by omega
      rw [thgR_n] at k
      dsimp only at k
      refine x_goto hP rfl ?_
      refine x_istore hP rfl ?_
      refine x_iload_n hP rfl rfl ?_
      refine x_iconst hP rfl ?_
      first | refine z_icmp_eq hP rfl (by omega) (by omega) (fun c167 => ?_) (fun c167 => ?_) | refine x_icmp_eq hP rfl (fun c167 => ?_) (fun c167 => ?_)
      · omega
      refine x_iload_n hP rfl rfl ?_
      refine x_iconst hP rfl ?_
      first | refine z_icmp_ne hP rfl (by omega) (by omega) (fun c172 => ?_) (fun c172 => ?_) | refine x_icmp_ne hP rfl (fun c172 => ?_) (fun c172 => ?_)
      rotate_left
      · omega
      first | refine x_aload_n hP rfl rfl ?_ | refine x_aload_nN hP rfl rfl ?_
      refine x_bipush hP rfl ?_
      refine x_callV1 (ci := 9) hP 0 0 rfl rfl rfl (by first | assumption | rfl) rfl rfl rfl (Nat.zero_le _) (Nat.zero_le _) ?_
      refine r_needO hP hR t1 hq1 (by decide) (fun z1 z2 => ?_) (fun z1 => ?_)
      rotate_left
      · rw [if_neg z1] at k
        exact r_fB197 hP hR (by decide) (by omega) (k _ (by omega)) _ _ _ ⟨rfl, rfl, trivial⟩
      rw [if_pos z1] at k
      first | refine x_aload_n hP rfl rfl ?_ | refine x_aload_nN hP rfl rfl ?_
      refine x_callV0 (ci := 9) hP 0 0 rfl rfl rfl (by first | assumption | rfl) rfl rfl rfl (Nat.zero_le _) (Nat.zero_le _) ?_
      refine r_badO hP ?_
      first | refine zb_if_eq hP rfl (fun c201 => ?_) (fun c201 => ?_) | refine zl_if_eq hP rfl (fun c201 => ?_) (fun c201 => ?_) | refine z_if_eq hP rfl (by omega) (fun c201 => ?_) (fun c201 => ?_)
      rotate_left
      · cases c201
      exact r_fa8 (p := q1 + 1) hP hR hs hc hy hn hq hv hf (by omega) (by omega) (fun I' w1 w2 w3 => k I' z2 w1 w2 (frP_trans (frP_mono (rT_fr I _ _) fun _ _ _ => rC_sFn) w3)) _ _ _ ⟨rfl, rfl, rfl, rfl, rfl, trivial⟩
theorem r_fn9 (hP : x_closed E P) (hR : x_fin R) (t1 : txB I n c) (hp : p ≤ n) (hs : 7 ≤ s ∧ s < 28) (hc : rTr I J (zT Z)) (hy : rLy I (zT Z)) (hn : rNu I (zN Z)) (hq : rq I s ol (l.map (rfE ol))) (hv : vV (zT Z) (ol, l)) (hf : I 1602 122 0 = bI tm) {at_ : Nat} (ha : at_ ≤ n) (k : fnP Q I J R n s tm (fnR Z c n 9 at_ (ol, l) p)) : P 199 (d + 4) 0 (x_la 0 [.ref 122, .int (iI (9 : Nat)), .int (iI s), .int (iI at_)]) [] (x_hp (rT I p (-1)) J R) rc rs Q := by
  have n2 := t1.2.1
  have c256 := t1.2.2.1
  have w3 := hc.2.2.2.2.2.2.1
  unfold fnR at k
  have g1 : rT I p (-1) 1 141 s = iI ol.length := (rq_rT hq p (-1)).2.1
  have l4 := hq.2.2.2.2.1
  refine x_iload_n hP rfl rfl ?_
  refine x_bipush hP rfl ?_
  first | refine z_icmp_eq hP rfl (by omega) (by omega) (fun c3 => ?_) (fun c3 => ?_) | refine x_icmp_eq hP rfl (fun c3 => ?_) (fun c3 => ?_)
  rotate_left
  · omega
  first | refine x_aload_n hP rfl rfl ?_ | refine x_aload_nN hP rfl rfl ?_
  refine x_getR hP rfl (by first | assumption | rfl) (by first | assumption | exact hR _ _ _ _ rfl | exact hR1 _ _ _ _ rfl | exact hR2 _ _ _ _ rfl | rfl) ?_
  refine x_iload_n hP rfl rfl ?_
  refine z_iald hP rfl (by first | assumption | rfl) (by first | decide | omega) (by omega) (by first | assumption | exact hR _ _ _ _ rfl | exact hR1 _ _ _ _ rfl | exact hR2 _ _ _ _ rfl | rfl) ?_
  refine x_iconst hP rfl ?_
  first | refine z_icmp_eq hP rfl (by omega) (by omega) (fun c19 => ?_) (fun c19 => ?_) | refine x_icmp_eq hP rfl (fun c19 => ?_) (fun c19 => ?_)
  rotate_left
  · rw [if_pos ⟨rfl, fun z => c19 (by have z : ol.length = 1 := z; omega)⟩] at k
    first | refine x_aload_n hP rfl rfl ?_ | refine x_aload_nN hP rfl rfl ?_
    refine x_iload_n hP rfl rfl ?_
    refine x_callV1 (ci := 9) hP 0 0 rfl rfl rfl (by first | assumption | rfl) rfl rfl rfl (Nat.zero_le _) (Nat.zero_le _) ?_
    refine r_failO hP ?_
    exact r_fB27 (e := at_) hP hR (by decide) (by omega) (k _ (by omega)) _ _ _ ⟨rfl, rfl, trivial⟩
  have hone : ol.length = 1 := by omega
  rw [if_neg (fun z => z.2 hone)] at k
  rw [show thg 9 = [] from rfl] at k
  rw [thgR_n] at k
  dsimp only at k
  refine x_iload_n hP rfl rfl ?_
  refine x_bipush hP rfl ?_
  first | refine z_icmp_eq hP rfl (by omega) (by omega) (fun c30 => ?_) (fun c30 => ?_) | refine x_icmp_eq hP rfl (fun c30 => ?_) (fun c30 => ?_)
  rotate_left
  · omega
  first | refine x_aload_n hP rfl rfl ?_ | refine x_aload_nN hP rfl rfl ?_
  refine x_bipush hP rfl ?_
  refine x_callV1 (ci := 9) hP 0 0 rfl rfl rfl (by first | assumption | rfl) rfl rfl rfl (Nat.zero_le _) (Nat.zero_le _) ?_
  refine r_needO hP hR t1 hp (by decide) (fun z1 z2 => ?_) (fun z1 => ?_)
  rotate_left
  · rw [if_neg z1] at k
    exact r_fB45 hP hR (by decide) (by omega) (k _ (by omega)) _ _ _ ⟨rfl, rfl, trivial⟩
  rw [if_pos z1] at k
  first | refine x_aload_n hP rfl rfl ?_ | refine x_aload_nN hP rfl rfl ?_
  refine x_callV0 (ci := 9) hP 0 0 rfl rfl rfl (by first | assumption | rfl) rfl rfl rfl (Nat.zero_le _) (Nat.zero_le _) ?_
  refine r_badO hP ?_
  first | refine zb_if_eq hP rfl (fun c49 => ?_) (fun c49 => ?_) | refine zl_if_eq hP rfl (fun c49 => ?_) (fun c49 => ?_) | refine z_if_eq hP rfl (by omega) (fun c49 => ?_) (fun c49 => ?_)
  rotate_left
  · cases c49
  exact r_fa9 (p := p + 1) hP hR hs hc hy hn hq hv hf hone (fun I' w1 w2 w3 => k I' z2 w1 w2 (frP_trans (frP_mono (rT_fr I _ _) fun _ _ _ => rC_sFn) w3)) _ _ _ ⟨rfl, rfl, rfl, trivial⟩
theorem r_fn10 (hP : x_closed E P) (hR : x_fin R) (t1 : txB I n c) (hp : p ≤ n) (hs : 7 ≤ s ∧ s < 28) (hc : rTr I J (zT Z)) (hy : rLy I (zT Z)) (hn : rNu I (zN Z)) (hq : rq I s ol (l.map (rfE ol))) (hv : vV (zT Z) (ol, l)) (hf : I 1602 122 0 = bI tm) {at_ : Nat} (ha : at_ ≤ n) (k : fnP Q I J R n s tm (fnR Z c n 10 at_ (ol, l) p)) : P 199 (d + 4) 0 (x_la 0 [.ref 122, .int (iI (10 : Nat)), .int (iI s), .int (iI at_)]) [] (x_hp (rT I p (-1)) J R) rc rs Q := by
  have n2 := t1.2.1
  have c256 := t1.2.2.1
  have w3 := hc.2.2.2.2.2.2.1
  unfold fnR at k
  rw [if_neg (fun z => absurd z.1 (by decide))] at k
  rw [show thg 10 = [] from rfl] at k
  rw [thgR_n] at k
  dsimp only at k
  refine x_iload_n hP rfl rfl ?_
  refine x_bipush hP rfl ?_
  first | refine z_icmp_eq hP rfl (by omega) (by omega) (fun c3 => ?_) (fun c3 => ?_) | refine x_icmp_eq hP rfl (fun c3 => ?_) (fun c3 => ?_)
  · omega
  refine x_iload_n hP rfl rfl ?_
  refine x_bipush hP rfl ?_
  first | refine z_icmp_ne hP rfl (by omega) (by omega) (fun c9 => ?_) (fun c9 => ?_) | refine x_icmp_ne hP rfl (fun c9 => ?_) (fun c9 => ?_)
  rotate_left
  · omega
  refine x_iload_n hP rfl rfl ?_
  refine x_bipush hP rfl ?_
  first | refine z_icmp_eq hP rfl (by omega) (by omega) (fun c30 => ?_) (fun c30 => ?_) | refine x_icmp_eq hP rfl (fun c30 => ?_) (fun c30 => ?_)
  · omega
  refine x_iload_n hP rfl rfl ?_
  refine x_bipush hP rfl ?_
  first | refine z_icmp_ne hP rfl (by omega) (by omega) (fun c36 => ?_) (fun c36 => ?_) | refine x_icmp_ne hP rfl (fun c36 => ?_) (fun c36 => ?_)
  · omega
  first | refine x_aload_n hP rfl rfl ?_ | refine x_aload_nN hP rfl rfl ?_
  refine x_bipush hP rfl ?_
  refine x_callV1 (ci := 9) hP 0 0 rfl rfl rfl (by first | assumption | rfl) rfl rfl rfl (Nat.zero_le _) (Nat.zero_le _) ?_
  refine r_needO hP hR t1 hp (by decide) (fun z1 z2 => ?_) (fun z1 => ?_)
  rotate_left
  · rw [if_neg z1] at k
    exact r_fB45 hP hR (by decide) (by omega) (k _ (by omega)) _ _ _ ⟨rfl, rfl, trivial⟩
  rw [if_pos z1] at k
  first | refine x_aload_n hP rfl rfl ?_ | refine x_aload_nN hP rfl rfl ?_
  refine x_callV0 (ci := 9) hP 0 0 rfl rfl rfl (by first | assumption | rfl) rfl rfl rfl (Nat.zero_le _) (Nat.zero_le _) ?_
  refine r_badO hP ?_
  first | refine zb_if_eq hP rfl (fun c49 => ?_) (fun c49 => ?_) | refine zl_if_eq hP rfl (fun c49 => ?_) (fun c49 => ?_) | refine z_if_eq hP rfl (by omega) (fun c49 => ?_) (fun c49 => ?_)
  rotate_left
  · cases c49
  exact r_fa10 (p := p + 1) hP hR hs hc hy hn hq hv hf (fun I' w1 w2 w3 => k I' z2 w1 w2 (frP_trans (frP_mono (rT_fr I _ _) fun _ _ _ => rC_sFn) w3)) _ _ _ ⟨rfl, rfl, rfl, trivial⟩
theorem r_fn11 (hP : x_closed E P) (hR : x_fin R) (t1 : txB I n c) (hp : p ≤ n) (hs : 7 ≤ s ∧ s < 28) (hc : rTr I J (zT Z)) (hy : rLy I (zT Z)) (hn : rNu I (zN Z)) (hq : rq I s ol (l.map (rfE ol))) (hv : vV (zT Z) (ol, l)) (hf : I 1602 122 0 = bI tm) {at_ : Nat} (ha : at_ ≤ n) (k : fnP Q I J R n s tm (fnR Z c n 11 at_ (ol, l) p)) : P 199 (d + 4) 0 (x_la 0 [.ref 122, .int (iI (11 : Nat)), .int (iI s), .int (iI at_)]) [] (x_hp (rT I p (-1)) J R) rc rs Q := by
  have n2 := t1.2.1
  have c256 := t1.2.2.1
  have w3 := hc.2.2.2.2.2.2.1
  unfold fnR at k
  have g1 : rT I p (-1) 1 141 s = iI ol.length := (rq_rT hq p (-1)).2.1
  have l4 := hq.2.2.2.2.1
  refine x_iload_n hP rfl rfl ?_
  refine x_bipush hP rfl ?_
  first | refine z_icmp_eq hP rfl (by omega) (by omega) (fun c3 => ?_) (fun c3 => ?_) | refine x_icmp_eq hP rfl (fun c3 => ?_) (fun c3 => ?_)
  · omega
  refine x_iload_n hP rfl rfl ?_
  refine x_bipush hP rfl ?_
  first | refine z_icmp_ne hP rfl (by omega) (by omega) (fun c9 => ?_) (fun c9 => ?_) | refine x_icmp_ne hP rfl (fun c9 => ?_) (fun c9 => ?_)
  · omega
  first | refine x_aload_n hP rfl rfl ?_ | refine x_aload_nN hP rfl rfl ?_
  refine x_getR hP rfl (by first | assumption | rfl) (by first | assumption | exact hR _ _ _ _ rfl | exact hR1 _ _ _ _ rfl | exact hR2 _ _ _ _ rfl | rfl) ?_
  refine x_iload_n hP rfl rfl ?_
  refine z_iald hP rfl (by first | assumption | rfl) (by first | decide | omega) (by omega) (by first | assumption | exact hR _ _ _ _ rfl | exact hR1 _ _ _ _ rfl | exact hR2 _ _ _ _ rfl | rfl) ?_
  refine x_iconst hP rfl ?_
  first | refine z_icmp_eq hP rfl (by omega) (by omega) (fun c19 => ?_) (fun c19 => ?_) | refine x_icmp_eq hP rfl (fun c19 => ?_) (fun c19 => ?_)
  rotate_left
  · rw [if_pos ⟨rfl, fun z => c19 (by have z : ol.length = 1 := z; omega)⟩] at k
    first | refine x_aload_n hP rfl rfl ?_ | refine x_aload_nN hP rfl rfl ?_
    refine x_iload_n hP rfl rfl ?_
    refine x_callV1 (ci := 9) hP 0 0 rfl rfl rfl (by first | assumption | rfl) rfl rfl rfl (Nat.zero_le _) (Nat.zero_le _) ?_
    refine r_failO hP ?_
    exact r_fB27 (e := at_) hP hR (by decide) (by omega) (k _ (by omega)) _ _ _ ⟨rfl, rfl, trivial⟩
  have hone : ol.length = 1 := by omega
  rw [if_neg (fun z => z.2 hone)] at k
  rw [show thg 11 = [65] from rfl] at k
  refine x_iload_n hP rfl rfl ?_
  refine x_bipush hP rfl ?_
  first | refine z_icmp_eq hP rfl (by omega) (by omega) (fun c30 => ?_) (fun c30 => ?_) | refine x_icmp_eq hP rfl (fun c30 => ?_) (fun c30 => ?_)
  · omega
  refine x_iload_n hP rfl rfl ?_
  refine x_bipush hP rfl ?_
  first | refine z_icmp_ne hP rfl (by omega) (by omega) (fun c36 => ?_) (fun c36 => ?_) | refine x_icmp_ne hP rfl (fun c36 => ?_) (fun c36 => ?_)
  rotate_left
  · omega
  first | refine x_aload_n hP rfl rfl ?_ | refine x_aload_nN hP rfl rfl ?_
  refine x_bipush hP rfl ?_
  refine x_callV1 (ci := 9) hP 0 0 rfl rfl rfl (by first | assumption | rfl) rfl rfl rfl (Nat.zero_le _) (Nat.zero_le _) ?_
  refine r_needO hP hR t1 hp (by decide) (fun z1 z2 => ?_) (fun z1 => ?_)
  rotate_left
  · rw [thgR_c, if_neg z1] at k
    dsimp only at k
    exact r_fB79 hP hR (by decide) (by omega) (k _ (by omega)) _ _ _ ⟨rfl, rfl, trivial⟩
  rw [thgR_c, if_pos z1] at k
  refine x_iload_n hP rfl rfl ?_
  refine x_iconst hP rfl ?_
  refine z_icmp_lt hP rfl (by omega) (by omega) (fun c81 => ?_) (fun c81 => ?_)
  · omega
  refine x_iload_n hP rfl rfl ?_
  refine x_bipush hP rfl ?_
  first | refine z_icmp_eq hP rfl (by omega) (by omega) (fun c87 => ?_) (fun c87 => ?_) | refine x_icmp_eq hP rfl (fun c87 => ?_) (fun c87 => ?_)
  · omega
  refine x_iload_n hP rfl rfl ?_
  refine x_bipush hP rfl ?_
  first | refine z_icmp_ne hP rfl (by omega) (by omega) (fun c93 => ?_) (fun c93 => ?_) | refine x_icmp_ne hP rfl (fun c93 => ?_) (fun c93 => ?_)
  rotate_left
  · omega
  refine x_iconst hP rfl ?_
  refine x_istore hP rfl ?_
  refine x_iload_n hP rfl rfl ?_
  refine x_bipush hP rfl ?_
  first | refine z_icmp_eq hP rfl (by omega) (by omega) (fun c113 => ?_) (fun c113 => ?_) | refine x_icmp_eq hP rfl (fun c113 => ?_) (fun c113 => ?_)
  · omega
  refine x_iload_n hP rfl rfl ?_
  refine x_bipush hP rfl ?_
  first | refine z_icmp_ne hP rfl (by omega) (by omega) (fun c119 => ?_) (fun c119 => ?_) | refine x_icmp_ne hP rfl (fun c119 => ?_) (fun c119 => ?_)
  rotate_left
  · omega
  refine x_iload_n hP rfl rfl ?_
  refine x_bipush hP rfl ?_
  first | refine z_icmp_ne hP rfl (by omega) (by omega) (fun c131 => ?_) (fun c131 => ?_) | refine x_icmp_ne hP rfl (fun c131 => ?_) (fun c131 => ?_)
  · omega
  first | refine x_aload_n hP rfl rfl ?_ | refine x_aload_nN hP rfl rfl ?_
  refine x_callV0 (ci := 9) hP 0 0 rfl rfl rfl (by first | assumption | rfl) rfl rfl rfl (Nat.zero_le _) (Nat.zero_le _) ?_
  have hp0 : (p + 1) ≤ n := z2
  rw [tg1_65] at k
  refine r_act0 (p := (p + 1)) hP hR t1 hp0 ?_
  have eb := fun e h => actR_e (c := c) (n := n) (p := (p + 1)) (e := e) hp0 h
  have rg := fun v q h => actR_rg (c := c) (n := n) (p := (p + 1)) hp0 v q h
  generalize actR c n (p + 1) = oo at k eb rg ⊢
  match oo, k, eb, rg with
  | .inl er, k, eb, _ =>
    have eb := eb er rfl
    dsimp only at k
    intro q u ⟨z, hz⟩
    rw [hz]
    refine x_goto hP rfl ?_
    refine x_istore hP rfl ?_
    exact r_fB144 hP hR (by decide) (by omega) (k _ (by omega)) _ _ _ ⟨rfl, rfl, trivial⟩
  | .inr (a, q0), k, _, rg =>
    have rg0 := rg a q0 rfl
    dsimp only at k
    show P _ _ _ _ (Value.int (iI (a : Nat)) :: _) _ _ _ _
    have hq0 : q0 ≤ n := by omega
    rw [thgR_n] at k
    dsimp only at k
    refine x_goto hP rfl ?_
    refine x_istore hP rfl ?_
    refine x_iload_n hP rfl rfl ?_
    refine x_iconst hP rfl ?_
    refine z_icmp_le hP rfl (by omega) (by omega) (fun c146 => ?_) (fun c146 => ?_)
    · omega
    refine x_iload_n hP rfl rfl ?_
    refine x_bipush hP rfl ?_
    refine z_icmp_ge hP rfl (by omega) (by omega) (fun c152 => ?_) (fun c152 => ?_)
    rotate_left
    · omega
    refine x_iconst hP rfl ?_
    refine x_istore hP rfl ?_
    refine x_iload_n hP rfl rfl ?_
    refine x_iconst hP rfl ?_
    first | refine z_icmp_eq hP rfl (by omega) (by omega) (fun c167 => ?_) (fun c167 => ?_) | refine x_icmp_eq hP rfl (fun c167 => ?_) (fun c167 => ?_)
    · omega
    refine x_iload_n hP rfl rfl ?_
    refine x_iconst hP rfl ?_
    first | refine z_icmp_ne hP rfl (by omega) (by omega) (fun c172 => ?_) (fun c172 => ?_) | refine x_icmp_ne hP rfl (fun c172 => ?_) (fun c172 => ?_)
    rotate_left
    · omega
    first | refine x_aload_n hP rfl rfl ?_ | refine x_aload_nN hP rfl rfl ?_
    refine x_bipush hP rfl ?_
    refine x_callV1 (ci := 9) hP 0 0 rfl rfl rfl (by first | assumption | rfl) rfl rfl rfl (Nat.zero_le _) (Nat.zero_le _) ?_
    refine r_needO hP hR t1 hq0 (by decide) (fun z1 z2 => ?_) (fun z1 => ?_)
    rotate_left
    · rw [if_neg z1] at k
      exact r_fB197 hP hR (by decide) (by omega) (k _ (by omega)) _ _ _ ⟨rfl, rfl, trivial⟩
    rw [if_pos z1] at k
    first | refine x_aload_n hP rfl rfl ?_ | refine x_aload_nN hP rfl rfl ?_
    refine x_callV0 (ci := 9) hP 0 0 rfl rfl rfl (by first | assumption | rfl) rfl rfl rfl (Nat.zero_le _) (Nat.zero_le _) ?_
    refine r_badO hP ?_
    first | refine zb_if_eq hP rfl (fun c201 => ?_) (fun c201 => ?_) | refine zl_if_eq hP rfl (fun c201 => ?_) (fun c201 => ?_) | refine z_if_eq hP rfl (by omega) (fun c201 => ?_) (fun c201 => ?_)
    rotate_left
    · cases c201
    exact r_fa11 (p := q0 + 1) hP hR hs hc hy hn hq hv hf (by omega) hone (fun I' w1 w2 w3 => k I' z2 w1 w2 (frP_trans (frP_mono (rT_fr I _ _) fun _ _ _ => rC_sFn) w3)) _ _ _ ⟨rfl, rfl, rfl, rfl, trivial⟩
theorem r_function (hP : x_closed E P) (hR : x_fin R) (t1 : txB I n c) (hp : p ≤ n) (hs : 7 ≤ s ∧ s < 28) (hc : rTr I J (zT Z)) (hy : rLy I (zT Z)) (hn : rNu I (zN Z)) (hq : rq I s ol (l.map (rfE ol))) (hv : vV (zT Z) (ol, l)) (hf : I 1602 122 0 = bI tm) {at_ : Nat} (ha : at_ ≤ n) : ∀ f, f < 12 → fnP Q I J R n s tm (fnR Z c n f at_ (ol, l) p) → P 199 (d + 4) 0 (x_la 0 [.ref 122, .int (iI (f : Nat)), .int (iI s), .int (iI at_)]) [] (x_hp (rT I p (-1)) J R) rc rs Q
  | 0, _, k => r_fn0 hP hR t1 hp hs hc hy hn hq hv hf ha k
  | 1, _, k => r_fn1 hP hR t1 hp hs hc hy hn hq hv hf ha k
  | 2, _, k => r_fn2 hP hR t1 hp hs hc hy hn hq hv hf ha k
  | 3, _, k => r_fn3 hP hR t1 hp hs hc hy hn hq hv hf ha k
  | 4, _, k => r_fn4 hP hR t1 hp hs hc hy hn hq hv hf ha k
  | 5, _, k => r_fn5 hP hR t1 hp hs hc hy hn hq hv hf ha k
  | 6, _, k => r_fn6 hP hR t1 hp hs hc hy hn hq hv hf ha k
  | 7, _, k => r_fn7 hP hR t1 hp hs hc hy hn hq hv hf ha k
  | 8, _, k => r_fn8 hP hR t1 hp hs hc hy hn hq hv hf ha k
  | 9, _, k => r_fn9 hP hR t1 hp hs hc hy hn hq hv hf ha k
  | 10, _, k => r_fn10 hP hR t1 hp hs hc hy hn hq hv hf ha k
  | 11, _, k => r_fn11 hP hR t1 hp hs hc hy hn hq hv hf ha k
  | f + 12, h, _ => absurd h (by omega)
end
