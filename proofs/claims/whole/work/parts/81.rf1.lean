/-! THE REFERENCE: words and numbers -/
theorem isLD_eq (x : Int) : isLD x = (isLt x || isDg x) := by
  unfold isLD isLt isDg
  by_cases h1 : 97 ≤ x ∧ x ≤ 122
  · rw [decide_eq_true (Or.inl h1), decide_eq_true h1]; rfl
  · by_cases h2 : 48 ≤ x ∧ x ≤ 57
    · rw [decide_eq_true (Or.inr h2), decide_eq_false h1, decide_eq_true h2]; rfl
    · rw [decide_eq_false (by omega), decide_eq_false h1, decide_eq_false h2]; rfl
/-- a word, wrong at its begin -/
def wrdR (c : Nat → Nat) (n p : Nat) : Nat ⊕ (Int64 × Nat) := if isLt (ch c n p) = true then (if rl c n p ≤ 8 then .inr (wk c p (rl c n p), p + rl c n p) else .inl p) else .inl p
def nmR (wd : Bool) (c : Nat → Nat) (n p : Nat) : Nat ⊕ (Int64 × Nat) := if wd = true then wrdR c n p else namR c n p
theorem nmR_eq (wd : Bool) (c : Nat → Nat) (n p : Nat) : nmR wd c n p = if isLt (ch c n p) = true then (if rl c n p ≤ 8 then .inr (wk c p (rl c n p), p + rl c n p) else .inl (if wd = true then p else p + 8)) else .inl p := by
  unfold nmR wrdR namR
  cases wd <;> rfl
def tldR (may : Bool) (most : Int) (c : Nat → Nat) (n p : Nat) : Nat ⊕ (Int × Nat) := match (if may = true then intR c n p else numR c n p) with
  | .inl e => .inl e
  | .inr (v, q) => if v < -most ∨ most < v then .inl p else .inr (v, q)
theorem pow109 {j : Nat} (h : j ≤ 9) : (10 : Int) ^ j ≤ 10 ^ 9 := by
  have := Nat.pow_le_pow_right (show 0 < 10 by decide) h
  exact_mod_cast this
section
variable {E : x_E} {P : x_Pr} {d rc rs : Nat} {I : x_M Int32} {J : x_M Int64} {R : x_M (Option Nat)} {Q : x_Q} {n p : Nat} {w : Int} {c : Nat → Nat}
theorem r_name_loop (hP : x_closed E P) (hR : x_fin R) (ht : txB I n c) {wd : Bool} : ∀ (f m : Nat), p + m ≤ n → n - (p + m) ≤ f → m ≤ 8 → qPost Q I J R (fun v => v = .long (lI 0)) (fun v => .long v) (if m + rn c n (p + m) f ≤ 8 then .inr (wk c p (m + rn c n (p + m) f), p + (m + rn c n (p + m) f)) else .inl (if wd = true then p else p + 8)) → ∀ rc rs, P 164 (d + 1) 33 (x_ls [some (.ref 122), some (.int (bI wd)), some (.int (iI p)), some (.long (wk c p m)), none]) [] (x_hp (rT I (p + m : Nat) (-1)) J R) rc rs Q := by
  have h2 := ht.2.1
  intro f
  induction f with
  | zero =>
    intro m hm hf h8 k rc rs
    have hn : p + m = n := by omega
    have e : ch c n (p + m) = -1 := by unfold ch; rw [if_neg (by omega)]
    first | refine x_aload_n hP rfl rfl ?_ | refine x_aload_nN hP rfl rfl ?_
    refine x_callV0 (ci := 9) hP 0 0 rfl rfl rfl (by first | assumption | rfl) rfl rfl rfl (Nat.zero_le _) (Nat.zero_le _) ?_
    refine r_here hP hR ht hm ?_
    rw [e]
    refine x_callS1 hP 0 0 rfl rfl rfl rfl rfl (Nat.zero_le _) (Nat.zero_le _) ?_
    refine r_isSmall hP (by omega) ?_
    first | refine zb_if_ne hP rfl (fun c40 => ?_) (fun c40 => ?_) | refine zl_if_ne hP rfl (fun c40 => ?_) (fun c40 => ?_) | refine z_if_ne hP rfl (by omega) (fun c40 => ?_) (fun c40 => ?_)
    · cases c40
    first | refine x_aload_n hP rfl rfl ?_ | refine x_aload_nN hP rfl rfl ?_
    refine x_callV0 (ci := 9) hP 0 0 rfl rfl rfl (by first | assumption | rfl) rfl rfl rfl (Nat.zero_le _) (Nat.zero_le _) ?_
    refine r_here hP hR ht hm ?_
    rw [e]
    refine x_callS1 hP 0 0 rfl rfl rfl rfl rfl (Nat.zero_le _) (Nat.zero_le _) ?_
    refine r_isDigit hP (by omega) ?_
    first | refine zb_if_eq hP rfl (fun c50 => ?_) (fun c50 => ?_) | refine zl_if_eq hP rfl (fun c50 => ?_) (fun c50 => ?_) | refine z_if_eq hP rfl (by omega) (fun c50 => ?_) (fun c50 => ?_)
    rotate_left
    · cases c50
    refine x_lload_n hP rfl rfl ?_
    refine x_lret hP rfl rfl ?_
    rw [show rn c n (p + m) 0 = 0 from rfl, if_pos (by omega)] at k
    exact k
  | succ f ih =>
    intro m hm hf h8 k rc rs
    have cr := ch_rg (n := n) ht.2.2.1 (p + m)
    have g1 : rT I (p + m : Nat) (-1) 1580 122 0 = iI (p + m : Nat) := rfl
    have go : isLD (ch c n (p + m)) = true → ∀ r1 r2, P 164 (d + 1) 53 (x_ls [some (.ref 122), some (.int (bI wd)), some (.int (iI p)), some (.long (wk c p m)), none]) [] (x_hp (rT I (p + m : Nat) (-1)) J R) r1 r2 Q := by
      intro hL r1 r2
      have lt : p + m < n := by
        have := of_decide_eq_true hL
        unfold ch at this; split at this <;> omega
      rw [rn_1 hL] at k
      first | refine x_aload_n hP rfl rfl ?_ | refine x_aload_nN hP rfl rfl ?_
      refine x_getI hP rfl (by first | assumption | rfl) (by first | assumption | exact hR _ _ _ _ rfl | exact hR1 _ _ _ _ rfl | exact hR2 _ _ _ _ rfl | rfl) ?_
      refine x_iload_n hP rfl rfl ?_
      first | refine z_isub hP rfl ?_ | refine x_isub hP rfl ?_
      refine x_bipush hP rfl ?_
      first | refine z_icmp_ne hP rfl (by omega) (by omega) (fun c61 => ?_) (fun c61 => ?_) | refine x_icmp_ne hP rfl (fun c61 => ?_) (fun c61 => ?_)
      · refine x_lload_n hP rfl rfl ?_
        refine x_bipush hP rfl ?_
        refine x_lshl hP rfl ?_
        first | refine x_aload_n hP rfl rfl ?_ | refine x_aload_nN hP rfl rfl ?_
        refine x_callV0 (ci := 9) hP 0 0 rfl rfl rfl (by first | assumption | rfl) rfl rfl rfl (Nat.zero_le _) (Nat.zero_le _) ?_
        refine r_here hP hR ht hm ?_
        rw [show ch c n (p + m) = (c (p + m) : Nat) by unfold ch; rw [if_pos lt]]
        refine x_i2l hP rfl ?_
        refine x_lor hP rfl ?_
        refine x_lstore_n hP rfl ?_
        first | refine x_aload_n hP rfl rfl ?_ | refine x_aload_nN hP rfl rfl ?_
        refine x_dup hP rfl rfl ?_
        refine x_getI hP rfl (by first | assumption | rfl) (by first | assumption | exact hR _ _ _ _ rfl | exact hR1 _ _ _ _ rfl | exact hR2 _ _ _ _ rfl | rfl) ?_
        refine x_iconst hP rfl ?_
        first | refine z_iadd hP rfl ?_ | refine x_iadd hP rfl ?_
        refine x_putI hP rfl (by first | assumption | rfl) ?_
        first | refine w_nI ?_ | refine w_nL ?_ | refine w_nR ?_ | refine w_mI ?_ | refine w_mL ?_ | refine w_mR ?_ | skip
        rw [rT_at]
        refine x_goto hP rfl ?_
        refine x_re hP [some (.ref 122), some (.int (bI wd)), some (.int (iI p)), some (.long (wk c p (m + 1))), none] ⟨rfl, rfl, rfl, rfl, trivial⟩ (ih (m + 1) (by omega) (by omega) (by omega) ?_ _ _)
        rw [show m + 1 + rn c n (p + (m + 1)) f = m + (rn c n (p + m + 1) f + 1) by rw [show p + (m + 1) = p + m + 1 by omega]; omega]
        exact k
      · rw [if_neg (by omega)] at k
        obtain rfl : m = 8 := by omega
        cases wd with
        | true =>
          first | refine x_aload_n hP rfl rfl ?_ | refine x_aload_nN hP rfl rfl ?_
          refine x_iload_n hP rfl rfl ?_
          first | refine zb_if_eq hP rfl (fun c66 => ?_) (fun c66 => ?_) | refine zl_if_eq hP rfl (fun c66 => ?_) (fun c66 => ?_) | refine z_if_eq hP rfl (by omega) (fun c66 => ?_) (fun c66 => ?_)
          · cases c66
          refine x_iload_n hP rfl rfl ?_
          refine x_goto hP rfl ?_
          refine x_callV1 (ci := 9) hP 0 0 rfl rfl rfl (by first | assumption | rfl) rfl rfl rfl (Nat.zero_le _) (Nat.zero_le _) ?_
          refine r_failO hP ?_
          refine x_lconst hP rfl ?_
          refine x_lret hP rfl rfl ?_
          exact k _ _ rfl
        | false =>
          first | refine x_aload_n hP rfl rfl ?_ | refine x_aload_nN hP rfl rfl ?_
          refine x_iload_n hP rfl rfl ?_
          first | refine zb_if_eq hP rfl (fun c66 => ?_) (fun c66 => ?_) | refine zl_if_eq hP rfl (fun c66 => ?_) (fun c66 => ?_) | refine z_if_eq hP rfl (by omega) (fun c66 => ?_) (fun c66 => ?_)
          rotate_left
          · cases c66
          first | refine x_aload_n hP rfl rfl ?_ | refine x_aload_nN hP rfl rfl ?_
          refine x_getI hP rfl (by first | assumption | rfl) (by first | assumption | exact hR _ _ _ _ rfl | exact hR1 _ _ _ _ rfl | exact hR2 _ _ _ _ rfl | rfl) ?_
          refine x_callV1 (ci := 9) hP 0 0 rfl rfl rfl (by first | assumption | rfl) rfl rfl rfl (Nat.zero_le _) (Nat.zero_le _) ?_
          refine r_failO hP ?_
          refine x_lconst hP rfl ?_
          refine x_lret hP rfl rfl ?_
          exact k _ _ rfl
    first | refine x_aload_n hP rfl rfl ?_ | refine x_aload_nN hP rfl rfl ?_
    refine x_callV0 (ci := 9) hP 0 0 rfl rfl rfl (by first | assumption | rfl) rfl rfl rfl (Nat.zero_le _) (Nat.zero_le _) ?_
    refine r_here hP hR ht hm ?_
    refine x_callS1 hP 0 0 rfl rfl rfl rfl rfl (Nat.zero_le _) (Nat.zero_le _) ?_
    refine r_isSmall hP (by omega) ?_
    first | refine zb_if_ne hP rfl (fun c40 => ?_) (fun c40 => ?_) | refine zl_if_ne hP rfl (fun c40 => ?_) (fun c40 => ?_) | refine z_if_ne hP rfl (by omega) (fun c40 => ?_) (fun c40 => ?_)
    · exact x_re hP [some (.ref 122), some (.int (bI wd)), some (.int (iI p)), some (.long (wk c p m)), none] ⟨rfl, rfl, rfl, rfl, trivial⟩ (go (by rw [isLD_eq, c40]; rfl) _ _)
    first | refine x_aload_n hP rfl rfl ?_ | refine x_aload_nN hP rfl rfl ?_
    refine x_callV0 (ci := 9) hP 0 0 rfl rfl rfl (by first | assumption | rfl) rfl rfl rfl (Nat.zero_le _) (Nat.zero_le _) ?_
    refine r_here hP hR ht hm ?_
    refine x_callS1 hP 0 0 rfl rfl rfl rfl rfl (Nat.zero_le _) (Nat.zero_le _) ?_
    refine r_isDigit hP (by omega) ?_
    first | refine zb_if_eq hP rfl (fun c50 => ?_) (fun c50 => ?_) | refine zl_if_eq hP rfl (fun c50 => ?_) (fun c50 => ?_) | refine z_if_eq hP rfl (by omega) (fun c50 => ?_) (fun c50 => ?_)
    rotate_left
    · exact x_re hP [some (.ref 122), some (.int (bI wd)), some (.int (iI p)), some (.long (wk c p m)), none] ⟨rfl, rfl, rfl, rfl, trivial⟩ (go (by rw [isLD_eq, c50, Bool.or_true]) _ _)
    rw [rn_0 (by rw [isLD_eq, c40, c50]; rfl), if_pos (by omega)] at k
    refine x_lload_n hP rfl rfl ?_
    refine x_lret hP rfl rfl ?_
    exact k
theorem r_nameO (hP : x_closed E P) (hR : x_fin R) (ht : txB I n c) (hp : p ≤ n) {wd : Bool} (k : qPost Q I J R (fun v => v = .long (lI 0)) (fun v => .long v) (nmR wd c n p)) : P 164 (d + 2) 0 (x_la 0 [.ref 122, .int (bI wd)]) [] (x_hp (rT I p (-1)) J R) rc rs Q := by
  have h2 := ht.2.1
  have cr := ch_rg (n := n) ht.2.2.1 p
  have g1 : rT I p (-1) 1580 122 0 = iI p := rfl
  rw [nmR_eq] at k
  first | refine x_aload_n hP rfl rfl ?_ | refine x_aload_nN hP rfl rfl ?_
  refine x_callV0 (ci := 9) hP 0 0 rfl rfl rfl (by first | assumption | rfl) rfl rfl rfl (Nat.zero_le _) (Nat.zero_le _) ?_
  refine r_badO hP ?_
  first | refine zb_if_eq hP rfl (fun c4 => ?_) (fun c4 => ?_) | refine zl_if_eq hP rfl (fun c4 => ?_) (fun c4 => ?_) | refine z_if_eq hP rfl (by omega) (fun c4 => ?_) (fun c4 => ?_)
  rotate_left
  · cases c4
  first | refine x_aload_n hP rfl rfl ?_ | refine x_aload_nN hP rfl rfl ?_
  refine x_getI hP rfl (by first | assumption | rfl) (by first | assumption | exact hR _ _ _ _ rfl | exact hR1 _ _ _ _ rfl | exact hR2 _ _ _ _ rfl | rfl) ?_
  refine x_istore_n hP rfl ?_
  refine x_lconst hP rfl ?_
  refine x_lstore_n hP rfl ?_
  first | refine x_aload_n hP rfl rfl ?_ | refine x_aload_nN hP rfl rfl ?_
  refine x_callV0 (ci := 9) hP 0 0 rfl rfl rfl (by first | assumption | rfl) rfl rfl rfl (Nat.zero_le _) (Nat.zero_le _) ?_
  refine r_here hP hR ht hp ?_
  refine x_callS1 hP 0 0 rfl rfl rfl rfl rfl (Nat.zero_le _) (Nat.zero_le _) ?_
  refine r_isSmall hP (by omega) ?_
  first | refine zb_if_ne hP rfl (fun c23 => ?_) (fun c23 => ?_) | refine zl_if_ne hP rfl (fun c23 => ?_) (fun c23 => ?_) | refine z_if_ne hP rfl (by omega) (fun c23 => ?_) (fun c23 => ?_)
  · rw [if_pos c23] at k
    refine x_re hP [some (.ref 122), some (.int (bI wd)), some (.int (iI p)), some (.long (wk c p 0)), none] ⟨rfl, rfl, rfl, rfl, trivial⟩ (r_name_loop (p := p) (m := 0) (f := n - p) hP hR ht hp (Nat.le_refl _) (by decide) ?_ _ _)
    rw [Nat.zero_add, Nat.add_zero]
    exact k
  · rw [if_neg (by rw [c23]; decide)] at k
    first | refine x_aload_n hP rfl rfl ?_ | refine x_aload_nN hP rfl rfl ?_
    refine x_iload_n hP rfl rfl ?_
    refine x_callV1 (ci := 9) hP 0 0 rfl rfl rfl (by first | assumption | rfl) rfl rfl rfl (Nat.zero_le _) (Nat.zero_le _) ?_
    refine r_failO hP ?_
    refine x_lconst hP rfl ?_
    refine x_lret hP rfl rfl ?_
    exact k _ _ rfl
theorem r_nameB (hP : x_closed E P) {x : Int32} {e : Int} (he : 0 ≤ e ∧ e < 2147483648) (k : Q (some (.long (lI 0))) (x_hp (rT I p e) J R)) : P 164 (d + 2) 0 (x_la 0 [.ref 122, .int x]) [] (x_hp (rT I p e) J R) rc rs Q := by
  first | refine x_aload_n hP rfl rfl ?_ | refine x_aload_nN hP rfl rfl ?_
  refine x_callV0 (ci := 9) hP 0 0 rfl rfl rfl (by first | assumption | rfl) rfl rfl rfl (Nat.zero_le _) (Nat.zero_le _) ?_
  refine r_badB hP he ?_
  first | refine zb_if_eq hP rfl (fun c4 => ?_) (fun c4 => ?_) | refine zl_if_eq hP rfl (fun c4 => ?_) (fun c4 => ?_) | refine z_if_eq hP rfl (by omega) (fun c4 => ?_) (fun c4 => ?_)
  · cases c4
  refine x_lconst hP rfl ?_
  refine x_lret hP rfl rfl ?_
  exact k
theorem r_told_loop (hP : x_closed E P) (hR : x_fin R) (ht : txB I n c) {a : Nat} (ha : a < n) {mo bg : Int} {mn : Bool} {vb : Value} : ∀ (f j : Nat), j + f = dm c n a → a + j ≤ n → (∀ i, i < j → 48 ≤ c (a + i) ∧ c (a + i) ≤ 57) → (isDg (ch c n (a + (j + dr c n (a + j) f))) = true → Q (some (.int (iI 0))) (x_hp (rT I (a + (j + dr c n (a + j) f) : Nat) (a + (j + dr c n (a + j) f) : Nat)) J R)) → (isDg (ch c n (a + (j + dr c n (a + j) f))) = false → ∀ r1 r2, P 177 (d + 2) 185 (x_ls [some (.ref 122), some vb, some (.int (iI mo)), some (.int (iI bg)), some (.int (bI mn)), some (.int (iI a)), some (.int (iI (nv c a (j + dr c n (a + j) f)))), none]) [] (x_hp (rT I (a + (j + dr c n (a + j) f) : Nat) (-1)) J R) r1 r2 Q) → ∀ rc rs, P 177 (d + 2) 92 (x_ls [some (.ref 122), some vb, some (.int (iI mo)), some (.int (iI bg)), some (.int (bI mn)), some (.int (iI a)), some (.int (iI (nv c a j))), none]) [] (x_hp (rT I (a + j : Nat) (-1)) J R) rc rs Q := by
  have h2 := ht.2.1
  have d9 : dm c n a ≤ 9 := by unfold dm; split <;> omega
  have va : ∀ p w : Int, rT I p w 1 124 a = iI (c a) := fun p w => ht.2.2.2 a ha
  have cha : ch c n a = c a := by unfold ch; rw [if_pos ha]
  have ca := ht.2.2.1 a
  intro f
  induction f with
  | zero =>
    intro j hj hp hdg k1 k2 rc rs
    rw [show dr c n (a + j) 0 = 0 from rfl, Nat.add_zero] at k1 k2
    have cr := ch_rg (n := n) ht.2.2.1 (a + j)
    have g1 : rT I (a + j : Nat) (-1) 1580 122 0 = iI (a + j : Nat) := rfl
    have vv := va (a + j : Nat) (-1)
    first | refine x_aload_n hP rfl rfl ?_ | refine x_aload_nN hP rfl rfl ?_
    refine x_callV0 (ci := 9) hP 0 0 rfl rfl rfl (by first | assumption | rfl) rfl rfl rfl (Nat.zero_le _) (Nat.zero_le _) ?_
    refine r_here hP hR ht hp ?_
    refine x_callS1 hP 0 0 rfl rfl rfl rfl rfl (Nat.zero_le _) (Nat.zero_le _) ?_
    refine r_isDigit hP (by omega) ?_
    first | refine zb_if_eq hP rfl (fun c99 => ?_) (fun c99 => ?_) | refine zl_if_eq hP rfl (fun c99 => ?_) (fun c99 => ?_) | refine z_if_eq hP rfl (by omega) (fun c99 => ?_) (fun c99 => ?_)
    · exact x_re hP [some (.ref 122), some vb, some (.int (iI mo)), some (.int (iI bg)), some (.int (bI mn)), some (.int (iI a)), some (.int (iI (nv c a j))), none] ⟨rfl, rfl, rfl, rfl, rfl, rfl, rfl, trivial⟩ (k2 c99 _ _)
    have fl : ∀ r1 r2, P 177 (d + 2) 139 (x_ls [some (.ref 122), some vb, some (.int (iI mo)), some (.int (iI bg)), some (.int (bI mn)), some (.int (iI a)), some (.int (iI (nv c a j))), none]) [] (x_hp (rT I (a + j : Nat) (-1)) J R) r1 r2 Q := by
      intro r1 r2
      refine x_iconst hP rfl ?_
      refine x_istore hP rfl ?_
      refine x_iload hP rfl rfl ?_
      first | refine zb_if_ne hP rfl (fun c144 => ?_) (fun c144 => ?_) | refine zl_if_ne hP rfl (fun c144 => ?_) (fun c144 => ?_) | refine z_if_ne hP rfl (by omega) (fun c144 => ?_) (fun c144 => ?_)
      · exact absurd rfl c144
      first | refine x_aload_n hP rfl rfl ?_ | refine x_aload_nN hP rfl rfl ?_
      first | refine x_aload_n hP rfl rfl ?_ | refine x_aload_nN hP rfl rfl ?_
      refine x_getI hP rfl (by first | assumption | rfl) (by first | assumption | exact hR _ _ _ _ rfl | exact hR1 _ _ _ _ rfl | exact hR2 _ _ _ _ rfl | rfl) ?_
      refine x_callV1 (ci := 9) hP 0 0 rfl rfl rfl (by first | assumption | rfl) rfl rfl rfl (Nat.zero_le _) (Nat.zero_le _) ?_
      refine r_failO hP ?_
      refine x_iconst hP rfl ?_
      refine x_iret hP rfl rfl ?_
      exact k1 c99
    have dmv : dm c n a = if ch c n a = 48 then 1 else 9 := rfl
    first | refine x_aload_n hP rfl rfl ?_ | refine x_aload_nN hP rfl rfl ?_
    refine x_getI hP rfl (by first | assumption | rfl) (by first | assumption | exact hR _ _ _ _ rfl | exact hR1 _ _ _ _ rfl | exact hR2 _ _ _ _ rfl | rfl) ?_
    refine x_iload hP rfl rfl ?_
    first | refine z_isub hP rfl ?_ | refine x_isub hP rfl ?_
    refine x_bipush hP rfl ?_
    refine z_icmp_ge hP rfl (by omega) (by omega) (fun c111 => ?_) (fun c111 => ?_)
    · exact x_re hP [some (.ref 122), some vb, some (.int (iI mo)), some (.int (iI bg)), some (.int (bI mn)), some (.int (iI a)), some (.int (iI (nv c a j))), none] ⟨rfl, rfl, rfl, rfl, rfl, rfl, rfl, trivial⟩ (fl _ _)
    have z48 : ch c n a = 48 := by
      by_cases q : ch c n a = 48
      · exact q
      · rw [if_neg q] at dmv; omega
    rw [if_pos z48] at dmv
    first | refine x_aload_n hP rfl rfl ?_ | refine x_aload_nN hP rfl rfl ?_
    refine x_getI hP rfl (by first | assumption | rfl) (by first | assumption | exact hR _ _ _ _ rfl | exact hR1 _ _ _ _ rfl | exact hR2 _ _ _ _ rfl | rfl) ?_
    refine x_iload hP rfl rfl ?_
    first | refine z_icmp_eq hP rfl (by omega) (by omega) (fun c120 => ?_) (fun c120 => ?_) | refine x_icmp_eq hP rfl (fun c120 => ?_) (fun c120 => ?_)
    · omega
    first | refine x_aload_n hP rfl rfl ?_ | refine x_aload_nN hP rfl rfl ?_
    refine x_getR hP rfl (by first | assumption | rfl) (by first | assumption | exact hR _ _ _ _ rfl | exact hR1 _ _ _ _ rfl | exact hR2 _ _ _ _ rfl | rfl) ?_
    refine x_iload hP rfl rfl ?_
    refine z_iald hP rfl (by first | assumption | rfl) (by first | decide | omega) (by omega) (by first | assumption | exact hR _ _ _ _ rfl | exact hR1 _ _ _ _ rfl | exact hR2 _ _ _ _ rfl | rfl) ?_
    refine x_bipush hP rfl ?_
    first | refine z_icmp_eq hP rfl (by omega) (by omega) (fun c132 => ?_) (fun c132 => ?_) | refine x_icmp_eq hP rfl (fun c132 => ?_) (fun c132 => ?_)
    · exact x_re hP [some (.ref 122), some vb, some (.int (iI mo)), some (.int (iI bg)), some (.int (bI mn)), some (.int (iI a)), some (.int (iI (nv c a j))), none] ⟨rfl, rfl, rfl, rfl, rfl, rfl, rfl, trivial⟩ (fl _ _)
    · omega
  | succ f ih =>
    intro j hj hp hdg k1 k2 rc rs
    have cr := ch_rg (n := n) ht.2.2.1 (a + j)
    have g1 : rT I (a + j : Nat) (-1) 1580 122 0 = iI (a + j : Nat) := rfl
    have vv := va (a + j : Nat) (-1)
    have nr := nv_rg (c := c) (p := a) j hdg
    have nb : (10 : Int) ^ j ≤ 10 ^ 9 := pow109 (by omega)
    first | refine x_aload_n hP rfl rfl ?_ | refine x_aload_nN hP rfl rfl ?_
    refine x_callV0 (ci := 9) hP 0 0 rfl rfl rfl (by first | assumption | rfl) rfl rfl rfl (Nat.zero_le _) (Nat.zero_le _) ?_
    refine r_here hP hR ht hp ?_
    refine x_callS1 hP 0 0 rfl rfl rfl rfl rfl (Nat.zero_le _) (Nat.zero_le _) ?_
    refine r_isDigit hP (by omega) ?_
    first | refine zb_if_eq hP rfl (fun c99 => ?_) (fun c99 => ?_) | refine zl_if_eq hP rfl (fun c99 => ?_) (fun c99 => ?_) | refine z_if_eq hP rfl (by omega) (fun c99 => ?_) (fun c99 => ?_)
    · rw [dr_0 c99, Nat.add_zero] at k2
      exact x_re hP [some (.ref 122), some vb, some (.int (iI mo)), some (.int (iI bg)), some (.int (bI mn)), some (.int (iI a)), some (.int (iI (nv c a j))), none] ⟨rfl, rfl, rfl, rfl, rfl, rfl, rfl, trivial⟩ (k2 c99 _ _)
    have lt := isDg_lt c99
    rw [dr_1 c99] at k1 k2
    have good : ∀ r1 r2, P 177 (d + 2) 135 (x_ls [some (.ref 122), some vb, some (.int (iI mo)), some (.int (iI bg)), some (.int (bI mn)), some (.int (iI a)), some (.int (iI (nv c a j))), none]) [] (x_hp (rT I (a + j : Nat) (-1)) J R) r1 r2 Q := by
      intro r1 r2
      refine x_iconst hP rfl ?_
      refine x_goto hP rfl ?_
      refine x_istore hP rfl ?_
      refine x_iload hP rfl rfl ?_
      first | refine zb_if_ne hP rfl (fun c144 => ?_) (fun c144 => ?_) | refine zl_if_ne hP rfl (fun c144 => ?_) (fun c144 => ?_) | refine z_if_ne hP rfl (by omega) (fun c144 => ?_) (fun c144 => ?_)
      rotate_left
      · omega
      refine x_bipush hP rfl ?_
      refine x_iload hP rfl rfl ?_
      first | refine z_imul hP rfl ?_ | refine x_imul hP rfl ?_
      first | refine x_aload_n hP rfl rfl ?_ | refine x_aload_nN hP rfl rfl ?_
      refine x_callV0 (ci := 9) hP 0 0 rfl rfl rfl (by first | assumption | rfl) rfl rfl rfl (Nat.zero_le _) (Nat.zero_le _) ?_
      refine r_here hP hR ht hp ?_
      rw [show ch c n (a + j) = (c (a + j) : Nat) by unfold ch; rw [if_pos lt.1]]
      first | refine z_iadd hP rfl ?_ | refine x_iadd hP rfl ?_
      refine x_bipush hP rfl ?_
      first | refine z_isub hP rfl ?_ | refine x_isub hP rfl ?_
      refine x_istore hP rfl ?_
      first | refine x_aload_n hP rfl rfl ?_ | refine x_aload_nN hP rfl rfl ?_
      refine x_dup hP rfl rfl ?_
      refine x_getI hP rfl (by first | assumption | rfl) (by first | assumption | exact hR _ _ _ _ rfl | exact hR1 _ _ _ _ rfl | exact hR2 _ _ _ _ rfl | rfl) ?_
      refine x_iconst hP rfl ?_
      first | refine z_iadd hP rfl ?_ | refine x_iadd hP rfl ?_
      refine x_putI hP rfl (by first | assumption | rfl) ?_
      first | refine w_nI ?_ | refine w_nL ?_ | refine w_nR ?_ | refine w_mI ?_ | refine w_mL ?_ | refine w_mR ?_ | skip
      rw [rT_at]
      refine x_goto hP rfl ?_
      refine x_re hP [some (.ref 122), some vb, some (.int (iI mo)), some (.int (iI bg)), some (.int (bI mn)), some (.int (iI a)), some (.int (iI (nv c a (j + 1)))), none] ⟨rfl, rfl, rfl, rfl, rfl, rfl, ?_, trivial⟩ (ih (j + 1) (by omega) (by omega) (fun i hi => ?_) (fun z => ?_) (fun z => ?_) _ _)
      · rw [show nv c a (j + 1) = 10 * nv c a j + (c (a + j) : Nat) - 48 by rw [nv]; omega]; rfl
      · by_cases q : i = j
        · rw [q]; exact lt.2
        · exact hdg i (by omega)
      · rw [show j + 1 + dr c n (a + (j + 1)) f = j + (dr c n (a + j + 1) f + 1) by rw [show a + (j + 1) = a + j + 1 by omega]; omega] at z ⊢
        exact k1 z
      · rw [show j + 1 + dr c n (a + (j + 1)) f = j + (dr c n (a + j + 1) f + 1) by rw [show a + (j + 1) = a + j + 1 by omega]; omega] at z ⊢
        exact k2 z
    have dmv : dm c n a = if ch c n a = 48 then 1 else 9 := rfl
    first | refine x_aload_n hP rfl rfl ?_ | refine x_aload_nN hP rfl rfl ?_
    refine x_getI hP rfl (by first | assumption | rfl) (by first | assumption | exact hR _ _ _ _ rfl | exact hR1 _ _ _ _ rfl | exact hR2 _ _ _ _ rfl | rfl) ?_
    refine x_iload hP rfl rfl ?_
    first | refine z_isub hP rfl ?_ | refine x_isub hP rfl ?_
    refine x_bipush hP rfl ?_
    refine z_icmp_ge hP rfl (by omega) (by omega) (fun c111 => ?_) (fun c111 => ?_)
    · omega
    first | refine x_aload_n hP rfl rfl ?_ | refine x_aload_nN hP rfl rfl ?_
    refine x_getI hP rfl (by first | assumption | rfl) (by first | assumption | exact hR _ _ _ _ rfl | exact hR1 _ _ _ _ rfl | exact hR2 _ _ _ _ rfl | rfl) ?_
    refine x_iload hP rfl rfl ?_
    first | refine z_icmp_eq hP rfl (by omega) (by omega) (fun c120 => ?_) (fun c120 => ?_) | refine x_icmp_eq hP rfl (fun c120 => ?_) (fun c120 => ?_)
    · exact x_re hP [some (.ref 122), some vb, some (.int (iI mo)), some (.int (iI bg)), some (.int (bI mn)), some (.int (iI a)), some (.int (iI (nv c a j))), none] ⟨rfl, rfl, rfl, rfl, rfl, rfl, rfl, trivial⟩ (good _ _)
    first | refine x_aload_n hP rfl rfl ?_ | refine x_aload_nN hP rfl rfl ?_
    refine x_getR hP rfl (by first | assumption | rfl) (by first | assumption | exact hR _ _ _ _ rfl | exact hR1 _ _ _ _ rfl | exact hR2 _ _ _ _ rfl | rfl) ?_
    refine x_iload hP rfl rfl ?_
    refine z_iald hP rfl (by first | assumption | rfl) (by first | decide | omega) (by omega) (by first | assumption | exact hR _ _ _ _ rfl | exact hR1 _ _ _ _ rfl | exact hR2 _ _ _ _ rfl | rfl) ?_
    refine x_bipush hP rfl ?_
    first | refine z_icmp_eq hP rfl (by omega) (by omega) (fun c132 => ?_) (fun c132 => ?_) | refine x_icmp_eq hP rfl (fun c132 => ?_) (fun c132 => ?_)
    · rw [if_pos (by omega)] at dmv; omega
    · exact x_re hP [some (.ref 122), some vb, some (.int (iI mo)), some (.int (iI bg)), some (.int (bI mn)), some (.int (iI a)), some (.int (iI (nv c a j))), none] ⟨rfl, rfl, rfl, rfl, rfl, rfl, rfl, trivial⟩ (good _ _)
/-- behind the sign -/
def tailR (mn : Bool) (most : Int) (bg : Nat) (c : Nat → Nat) (n a : Nat) : Nat ⊕ (Int × Nat) := match (if mn = true ∧ ch c n a = 48 then .inl a else numR c n a : Nat ⊕ (Int × Nat)) with
  | .inl e => .inl e
  | .inr (v, q) => if most < v then .inl bg else .inr (if mn = true then -v else v, q)
theorem r_told_tail (hP : x_closed E P) (hR : x_fin R) (ht : txB I n c) {a bg : Nat} (ha : a ≤ n) {mo : Int} (hmo : 0 ≤ mo ∧ mo < 2147483648) {mn : Bool} {vb : Value} (k : qPost Q I J R (fun v => ∃ z : Int, v = .int (iI z)) (fun v => .int (iI v)) (tailR mn mo bg c n a)) : ∀ rc rs, P 177 (d + 2) 49 (x_ls [some (.ref 122), some vb, some (.int (iI mo)), some (.int (iI bg)), some (.int (bI mn)), none, none, none]) [] (x_hp (rT I a (-1)) J R) rc rs Q := by
  intro rc rs
  have h2 := ht.2.1
  have cr := ch_rg (n := n) ht.2.2.1 a
  have g1 : rT I a (-1) 1580 122 0 = iI a := rfl
  have fl : qPost Q I J R (fun v => ∃ z : Int, v = .int (iI z)) (fun v => .int (iI v)) (.inl a) → ∀ L r1 r2, x_ag L 0 [some (.ref 122)] → P 177 (d + 2) 82 L [] (x_hp (rT I a (-1)) J R) r1 r2 Q := by
    intro k L r1 r2 hL
    refine x_re hP _ hL ?_
    first | refine x_aload_n hP rfl rfl ?_ | refine x_aload_nN hP rfl rfl ?_
    first | refine x_aload_n hP rfl rfl ?_ | refine x_aload_nN hP rfl rfl ?_
    refine x_getI hP rfl (by first | assumption | rfl) (by first | assumption | exact hR _ _ _ _ rfl | exact hR1 _ _ _ _ rfl | exact hR2 _ _ _ _ rfl | rfl) ?_
    refine x_callV1 (ci := 9) hP 0 0 rfl rfl rfl (by first | assumption | rfl) rfl rfl rfl (Nat.zero_le _) (Nat.zero_le _) ?_
    refine r_failO hP ?_
    refine x_iconst hP rfl ?_
    refine x_iret hP rfl rfl ?_
    exact k _ _ ⟨0, rfl⟩
  have main : isDg (ch c n a) = true → ¬ (mn = true ∧ ch c n a = 48) → ∀ L r1 r2, x_ag L 0 [some (.ref 122), some vb, some (.int (iI mo)), some (.int (iI bg)), some (.int (bI mn)), some (.int (iI a)), some (.int (iI 0)), none] → P 177 (d + 2) 92 L [] (x_hp (rT I a (-1)) J R) r1 r2 Q := by
    intro hd hn L r1 r2 hL
    refine x_re hP _ hL ?_
    have lt := isDg_lt hd
    unfold tailR numR at k
    rw [if_neg hn, if_pos hd] at k
    have db := dr_le (c := c) (n := n) (dm c n a) a ha
    have d9 : dm c n a ≤ 9 := by unfold dm; split <;> omega
    refine r_told_loop (j := 0) (f := dm c n a) hP hR ht lt.1 (by omega) ha (fun i hi => absurd hi (Nat.not_lt_zero _)) (fun z => ?_) (fun z r1 r2 => ?_) _ _
    · rw [Nat.zero_add, Nat.add_zero] at z ⊢
      rw [if_pos (show isDg (ch c n (a + dl c n a)) = true from z)] at k
      exact k _ _ ⟨0, rfl⟩
    · rw [Nat.zero_add, Nat.add_zero] at z ⊢
      rw [if_neg (by rw [show isDg (ch c n (a + dl c n a)) = false from z]; decide)] at k
      have dg : ∀ i, i < dr c n a (dm c n a) → 48 ≤ c (a + i) ∧ c (a + i) ≤ 57 := fun i hi => (isDg_lt (dr_dg _ _ _ hi)).2
      have nr := nv_rg (c := c) (p := a) _ dg
      have nb : (10 : Int) ^ (dr c n a (dm c n a)) ≤ 10 ^ 9 := pow109 (by omega)
      have k : qPost Q I J R (fun v => ∃ z : Int, v = .int (iI z)) (fun v => .int (iI v)) (if mo < nv c a (dr c n a (dm c n a)) then .inl bg else .inr (if mn = true then -nv c a (dr c n a (dm c n a)) else nv c a (dr c n a (dm c n a)), a + dr c n a (dm c n a))) := k
      generalize nv c a (dr c n a (dm c n a)) = v at k nr ⊢
      generalize a + dr c n a (dm c n a) = q at k ⊢
      have ret : ∀ (w : Int), (∀ z : Int, (z = if mn = true then -v else v) → Q (some (.int (iI z))) (x_hp (rT I q w) J R)) → ∀ L r1 r2, x_ag L 0 [some (.ref 122), some vb, some (.int (iI mo)), some (.int (iI bg)), some (.int (bI mn)), some (.int (iI a)), some (.int (iI v))] → P 177 (d + 2) 196 L [] (x_hp (rT I q w) J R) r1 r2 Q := by
        intro w kk L r1 r2 hL
        refine x_re hP _ hL ?_
        refine x_iload hP rfl rfl ?_
        first | refine zb_if_eq hP rfl (fun c198 => ?_) (fun c198 => ?_) | refine zl_if_eq hP rfl (fun c198 => ?_) (fun c198 => ?_) | refine z_if_eq hP rfl (by omega) (fun c198 => ?_) (fun c198 => ?_)
        · refine x_iload hP rfl rfl ?_
          refine x_iret hP rfl rfl ?_
          exact kk v (by rw [c198]; rfl)
        · refine x_iload hP rfl rfl ?_
          refine z_ineg hP rfl ?_
          refine x_goto hP rfl ?_
          refine x_iret hP rfl rfl ?_
          exact kk (-v) (by rw [c198]; rfl)
      refine x_iload hP rfl rfl ?_
      refine x_iload_n hP rfl rfl ?_
      refine z_icmp_le hP rfl (by omega) (by omega) (fun c188 => ?_) (fun c188 => ?_)
      · rw [if_neg (by omega)] at k
        exact ret (-1) (fun z hz => by rw [hz]; exact k) _ _ _ ⟨rfl, rfl, rfl, rfl, rfl, rfl, rfl, trivial⟩
      · rw [if_pos (by omega)] at k
        first | refine x_aload_n hP rfl rfl ?_ | refine x_aload_nN hP rfl rfl ?_
        refine x_iload_n hP rfl rfl ?_
        refine x_callV1 (ci := 9) hP 0 0 rfl rfl rfl (by first | assumption | rfl) rfl rfl rfl (Nat.zero_le _) (Nat.zero_le _) ?_
        refine r_failO hP ?_
        exact ret _ (fun z hz => k _ _ ⟨z, rfl⟩) _ _ _ ⟨rfl, rfl, rfl, rfl, rfl, rfl, rfl, trivial⟩
  first | refine x_aload_n hP rfl rfl ?_ | refine x_aload_nN hP rfl rfl ?_
  refine x_getI hP rfl (by first | assumption | rfl) (by first | assumption | exact hR _ _ _ _ rfl | exact hR1 _ _ _ _ rfl | exact hR2 _ _ _ _ rfl | rfl) ?_
  refine x_istore hP rfl ?_
  refine x_iconst hP rfl ?_
  refine x_istore hP rfl ?_
  first | refine x_aload_n hP rfl rfl ?_ | refine x_aload_nN hP rfl rfl ?_
  refine x_callV0 (ci := 9) hP 0 0 rfl rfl rfl (by first | assumption | rfl) rfl rfl rfl (Nat.zero_le _) (Nat.zero_le _) ?_
  refine r_here hP hR ht ha ?_
  refine x_callS1 hP 0 0 rfl rfl rfl rfl rfl (Nat.zero_le _) (Nat.zero_le _) ?_
  refine r_isDigit hP (by omega) ?_
  first | refine zb_if_eq hP rfl (fun c65 => ?_) (fun c65 => ?_) | refine zl_if_eq hP rfl (fun c65 => ?_) (fun c65 => ?_) | refine z_if_eq hP rfl (by omega) (fun c65 => ?_) (fun c65 => ?_)
  · refine fl ?_ _ _ _ ⟨rfl, trivial⟩
    unfold tailR numR at k
    rw [if_neg (fun z => by rw [z.2] at c65; cases c65), if_neg (by rw [c65]; decide)] at k
    exact k
  refine x_iload hP rfl rfl ?_
  first | refine zb_if_eq hP rfl (fun c70 => ?_) (fun c70 => ?_) | refine zl_if_eq hP rfl (fun c70 => ?_) (fun c70 => ?_) | refine z_if_eq hP rfl (by omega) (fun c70 => ?_) (fun c70 => ?_)
  · exact main c65 (fun z => by rw [c70] at z; cases z.1) _ _ _ ⟨rfl, rfl, rfl, rfl, rfl, rfl, rfl, trivial⟩
  first | refine x_aload_n hP rfl rfl ?_ | refine x_aload_nN hP rfl rfl ?_
  refine x_callV0 (ci := 9) hP 0 0 rfl rfl rfl (by first | assumption | rfl) rfl rfl rfl (Nat.zero_le _) (Nat.zero_le _) ?_
  refine r_here hP hR ht ha ?_
  refine x_bipush hP rfl ?_
  first | refine z_icmp_ne hP rfl (by omega) (by omega) (fun c79 => ?_) (fun c79 => ?_) | refine x_icmp_ne hP rfl (fun c79 => ?_) (fun c79 => ?_)
  · exact main c65 (fun z => c79 z.2) _ _ _ ⟨rfl, rfl, rfl, rfl, rfl, rfl, rfl, trivial⟩
  · refine fl ?_ _ _ _ ⟨rfl, trivial⟩
    unfold tailR at k
    rw [if_pos ⟨c70, c79⟩] at k
    exact k
theorem tldR_0 {may : Bool} {most : Int} (hm : 0 ≤ most) (hp : p ≤ n) (h : ¬ (may = true ∧ ch c n p = 45)) : tldR may most c n p = tailR false most p c n p := by
  unfold tldR tailR
  have e : (if may = true then intR c n p else numR c n p) = numR c n p := by
    cases may with
    | false => rfl
    | true => rw [if_pos rfl]; unfold intR; rw [if_neg fun z => h ⟨rfl, z⟩]
  rw [e, if_neg (show ¬ (false = true ∧ ch c n p = 48) from fun z => by cases z.1)]
  have rg := fun v q => numR_rg (c := c) (n := n) (p := p) hp (v := v) (q := q)
  generalize numR c n p = o at rg ⊢
  match o, rg with
  | .inl e, _ => rfl
  | .inr (v, q), rg =>
    have := rg v q rfl
    dsimp only
    by_cases z : most < v
    · rw [if_pos (by omega), if_pos z]
    · rw [if_neg (by omega), if_neg z]; rfl
theorem tldR_1 {most : Int} (hm : 0 ≤ most) (hp : p + 1 ≤ n) (h : ch c n p = 45) : tldR true most c n p = tailR true most p c n (p + 1) := by
  unfold tldR tailR intR
  rw [if_pos rfl, if_pos h]
  by_cases q : ch c n (p + 1) = 48
  · rw [if_pos q, if_pos ⟨rfl, q⟩]
  · rw [if_neg q, if_neg fun z => q z.2]
    have rg := fun v q => numR_rg (c := c) (n := n) (p := p + 1) hp (v := v) (q := q)
    generalize numR c n (p + 1) = o at rg ⊢
    match o, rg with
    | .inl e, _ => rfl
    | .inr (v, q), rg =>
      have := rg v q rfl
      dsimp only
      by_cases z : most < v
      · rw [if_pos (by omega), if_pos z]
      · rw [if_neg (by omega), if_neg z]; rfl
theorem r_toldO (hP : x_closed E P) (hR : x_fin R) (ht : txB I n c) (hp : p ≤ n) {may : Bool} {mo : Int} (hmo : 0 ≤ mo ∧ mo < 2147483648) (k : qPost Q I J R (fun v => ∃ z : Int, v = .int (iI z)) (fun v => .int (iI v)) (tldR may mo c n p)) : P 177 (d + 2) 0 (x_la 0 [.ref 122, .int (bI may), .int (iI mo)]) [] (x_hp (rT I p (-1)) J R) rc rs Q := by
  have h2 := ht.2.1
  have cr := ch_rg (n := n) ht.2.2.1 p
  have g1 : rT I p (-1) 1580 122 0 = iI p := rfl
  have no : ¬ (may = true ∧ ch c n p = 45) → ∀ L r1 r2, x_ag L 0 [some (.ref 122), some (.int (bI may)), some (.int (iI mo)), some (.int (iI p))] → P 177 (d + 2) 31 L [] (x_hp (rT I p (-1)) J R) r1 r2 Q := by
    intro hn L r1 r2 hL
    refine x_re hP _ hL ?_
    rw [tldR_0 hmo.1 hp hn] at k
    refine x_iconst hP rfl ?_
    refine x_istore hP rfl ?_
    refine x_iload hP rfl rfl ?_
    first | refine zb_if_eq hP rfl (fun c36 => ?_) (fun c36 => ?_) | refine zl_if_eq hP rfl (fun c36 => ?_) (fun c36 => ?_) | refine z_if_eq hP rfl (by omega) (fun c36 => ?_) (fun c36 => ?_)
    · exact x_re hP [some (.ref 122), some (.int (bI may)), some (.int (iI mo)), some (.int (iI p)), some (.int (bI false)), none, none, none] ⟨rfl, rfl, rfl, rfl, rfl, trivial⟩ (r_told_tail hP hR ht hp hmo k _ _)
    · exact absurd rfl c36
  first | refine x_aload_n hP rfl rfl ?_ | refine x_aload_nN hP rfl rfl ?_
  refine x_callV0 (ci := 9) hP 0 0 rfl rfl rfl (by first | assumption | rfl) rfl rfl rfl (Nat.zero_le _) (Nat.zero_le _) ?_
  refine r_badO hP ?_
  first | refine zb_if_eq hP rfl (fun c4 => ?_) (fun c4 => ?_) | refine zl_if_eq hP rfl (fun c4 => ?_) (fun c4 => ?_) | refine z_if_eq hP rfl (by omega) (fun c4 => ?_) (fun c4 => ?_)
  rotate_left
  · cases c4
  first | refine x_aload_n hP rfl rfl ?_ | refine x_aload_nN hP rfl rfl ?_
  refine x_getI hP rfl (by first | assumption | rfl) (by first | assumption | exact hR _ _ _ _ rfl | exact hR1 _ _ _ _ rfl | exact hR2 _ _ _ _ rfl | rfl) ?_
  refine x_istore_n hP rfl ?_
  refine x_iload_n hP rfl rfl ?_
  first | refine zb_if_eq hP rfl (fun c15 => ?_) (fun c15 => ?_) | refine zl_if_eq hP rfl (fun c15 => ?_) (fun c15 => ?_) | refine z_if_eq hP rfl (by omega) (fun c15 => ?_) (fun c15 => ?_)
  · exact no (fun z => by rw [c15] at z; cases z.1) _ _ _ ⟨rfl, rfl, rfl, rfl, trivial⟩
  first | refine x_aload_n hP rfl rfl ?_ | refine x_aload_nN hP rfl rfl ?_
  refine x_callV0 (ci := 9) hP 0 0 rfl rfl rfl (by first | assumption | rfl) rfl rfl rfl (Nat.zero_le _) (Nat.zero_le _) ?_
  refine r_here hP hR ht hp ?_
  refine x_bipush hP rfl ?_
  first | refine z_icmp_ne hP rfl (by omega) (by omega) (fun c24 => ?_) (fun c24 => ?_) | refine x_icmp_ne hP rfl (fun c24 => ?_) (fun c24 => ?_)
  · exact no (fun z => c24 z.2) _ _ _ ⟨rfl, rfl, rfl, rfl, trivial⟩
  have lt : p < n := by unfold ch at c24; split at c24 <;> omega
  rw [c15] at k
  rw [tldR_1 hmo.1 lt c24] at k
  refine x_iconst hP rfl ?_
  refine x_goto hP rfl ?_
  refine x_istore hP rfl ?_
  refine x_iload hP rfl rfl ?_
  first | refine zb_if_eq hP rfl (fun c36 => ?_) (fun c36 => ?_) | refine zl_if_eq hP rfl (fun c36 => ?_) (fun c36 => ?_) | refine z_if_eq hP rfl (by omega) (fun c36 => ?_) (fun c36 => ?_)
  · exact absurd c36 (by decide)
  first | refine x_aload_n hP rfl rfl ?_ | refine x_aload_nN hP rfl rfl ?_
  refine x_dup hP rfl rfl ?_
  refine x_getI hP rfl (by first | assumption | rfl) (by first | assumption | exact hR _ _ _ _ rfl | exact hR1 _ _ _ _ rfl | exact hR2 _ _ _ _ rfl | rfl) ?_
  refine x_iconst hP rfl ?_
  first | refine z_iadd hP rfl ?_ | refine x_iadd hP rfl ?_
  refine x_putI hP rfl (by first | assumption | rfl) ?_
  first | refine w_nI ?_ | refine w_nL ?_ | refine w_nR ?_ | refine w_mI ?_ | refine w_mL ?_ | refine w_mR ?_ | skip
  rw [rT_at]
  exact x_re hP [some (.ref 122), some (.int (bI may)), some (.int (iI mo)), some (.int (iI p)), some (.int (bI true)), none, none, none] ⟨rfl, rfl, rfl, rfl, rfl, trivial⟩ (r_told_tail hP hR ht lt hmo k _ _)
theorem r_toldB (hP : x_closed E P) {x y : Int32} {e : Int} (he : 0 ≤ e ∧ e < 2147483648) (k : Q (some (.int (iI 0))) (x_hp (rT I p e) J R)) : P 177 (d + 2) 0 (x_la 0 [.ref 122, .int x, .int y]) [] (x_hp (rT I p e) J R) rc rs Q := by
  first | refine x_aload_n hP rfl rfl ?_ | refine x_aload_nN hP rfl rfl ?_
  refine x_callV0 (ci := 9) hP 0 0 rfl rfl rfl (by first | assumption | rfl) rfl rfl rfl (Nat.zero_le _) (Nat.zero_le _) ?_
  refine r_badB hP he ?_
  first | refine zb_if_eq hP rfl (fun c4 => ?_) (fun c4 => ?_) | refine zl_if_eq hP rfl (fun c4 => ?_) (fun c4 => ?_) | refine z_if_eq hP rfl (by omega) (fun c4 => ?_) (fun c4 => ?_)
  · cases c4
  refine x_iconst hP rfl ?_
  refine x_iret hP rfl rfl ?_
  exact k
end
