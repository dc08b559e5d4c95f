/-! Tape -/
section
variable {E : x_E} {P : x_Pr} {d rc rs : Nat} {I : x_M Int32} {J : x_M Int64} {R : x_M (Option Nat)} {Q : x_Q} {n p : Nat} {w : Int} {c : Nat → Nat}
/-- the tape's two cursors over a memory -/
def tI (I : x_M Int32) (p w : Int) : x_M Int32 := x_at (x_at I 1066 1 0 (iI p)) 1067 1 0 (iI w)
theorem tI_at (I : x_M Int32) (J : x_M Int64) (R : x_M (Option Nat)) (p w q : Int) : x_hp (x_at (tI I p w) 1066 1 0 (iI q)) J R = x_hp (tI I q w) J R := by
  unfold tI
  rw [x_at_sw _ _ _ _ _ _ _ _ _ (by decide), x_at_at]
theorem tI_wr (I : x_M Int32) (J : x_M Int64) (R : x_M (Option Nat)) (p w q : Int) : x_hp (x_at (tI I p w) 1067 1 0 (iI q)) J R = x_hp (tI I p q) J R := by
  unfold tI
  rw [x_at_at]
/-- the tape's bytes -/
def tpB (I : x_M Int32) (n : Nat) (c : Nat → Nat) : Prop := I 1065 1 0 = iI n ∧ n ≤ 2000 ∧ (∀ i, c i < 256) ∧ ∀ i, i < n → I 2 2 i = iI (sgb (c i))
theorem c_isLetter (hP : x_closed E P) {x : Int} (hx : -2147483648 ≤ x ∧ x < 2147483648) {h : x_H} (k : Q (some (.int (bI (isLt x)))) h) : P 39 d 0 (x_la 0 [.int (iI x)]) [] h rc rs Q := by
  refine x_iload_n hP rfl rfl ?_
  refine x_bipush hP rfl ?_
  refine z_icmp_lt hP rfl (by omega) (by omega) (fun c3 => ?_) (fun c3 => ?_)
  · rw [isLt, decide_eq_false (by omega)] at k
    refine x_iconst hP rfl ?_
    exact x_zret hP rfl rfl (Or.inl iI_0) k
  refine x_iload_n hP rfl rfl ?_
  refine x_bipush hP rfl ?_
  refine z_icmp_gt hP rfl (by omega) (by omega) (fun c9 => ?_) (fun c9 => ?_)
  · rw [isLt, decide_eq_false (by omega)] at k
    refine x_iconst hP rfl ?_
    exact x_zret hP rfl rfl (Or.inl iI_0) k
  · rw [isLt, decide_eq_true (by omega)] at k
    refine x_iconst hP rfl ?_
    refine x_goto hP rfl ?_
    exact x_zret hP rfl rfl (Or.inr iI_1) k
theorem c_isDigit (hP : x_closed E P) {x : Int} (hx : -2147483648 ≤ x ∧ x < 2147483648) {h : x_H} (k : Q (some (.int (bI (isDg x)))) h) : P 58 d 0 (x_la 0 [.int (iI x)]) [] h rc rs Q := by
  refine x_iload_n hP rfl rfl ?_
  refine x_bipush hP rfl ?_
  refine z_icmp_lt hP rfl (by omega) (by omega) (fun c3 => ?_) (fun c3 => ?_)
  · rw [isDg, decide_eq_false (by omega)] at k
    refine x_iconst hP rfl ?_
    exact x_zret hP rfl rfl (Or.inl iI_0) k
  refine x_iload_n hP rfl rfl ?_
  refine x_bipush hP rfl ?_
  refine z_icmp_gt hP rfl (by omega) (by omega) (fun c9 => ?_) (fun c9 => ?_)
  · rw [isDg, decide_eq_false (by omega)] at k
    refine x_iconst hP rfl ?_
    exact x_zret hP rfl rfl (Or.inl iI_0) k
  · rw [isDg, decide_eq_true (by omega)] at k
    refine x_iconst hP rfl ?_
    refine x_goto hP rfl ?_
    exact x_zret hP rfl rfl (Or.inr iI_1) k
theorem c_isLD (hP : x_closed E P) {x : Int} (hx : -2147483648 ≤ x ∧ x < 2147483648) {h : x_H} (k : Q (some (.int (bI (isLD x)))) h) : P 33 d 0 (x_la 0 [.int (iI x)]) [] h rc rs Q := by
  have yes : isLD x = true → P 33 d 24 (x_la 0 [.int (iI x)]) [] h rc rs Q := fun e => by
    rw [e] at k
    refine x_iconst hP rfl ?_
    refine x_goto hP rfl ?_
    exact x_zret hP rfl rfl (Or.inr iI_1) k
  have no : isLD x = false → P 33 d 28 (x_la 0 [.int (iI x)]) [] h rc rs Q := fun e => by
    rw [e] at k
    refine x_iconst hP rfl ?_
    exact x_zret hP rfl rfl (Or.inl iI_0) k
  have mid : ¬ (97 ≤ x ∧ x ≤ 122) → P 33 d 12 (x_la 0 [.int (iI x)]) [] h rc rs Q := fun e => by
    refine x_iload_n hP rfl rfl ?_
    refine x_bipush hP rfl ?_
    refine z_icmp_lt hP rfl (by omega) (by omega) (fun c15 => ?_) (fun c15 => ?_)
    · exact no (decide_eq_false (by omega))
    refine x_iload_n hP rfl rfl ?_
    refine x_bipush hP rfl ?_
    refine z_icmp_gt hP rfl (by omega) (by omega) (fun c21 => ?_) (fun c21 => ?_)
    · exact no (decide_eq_false (by omega))
    · exact yes (decide_eq_true (by omega))
  refine x_iload_n hP rfl rfl ?_
  refine x_bipush hP rfl ?_
  refine z_icmp_lt hP rfl (by omega) (by omega) (fun c3 => ?_) (fun c3 => ?_)
  · exact mid (by omega)
  refine x_iload_n hP rfl rfl ?_
  refine x_bipush hP rfl ?_
  refine z_icmp_le hP rfl (by omega) (by omega) (fun c9 => ?_) (fun c9 => ?_)
  · exact yes (decide_eq_true (by omega))
  · exact mid (by omega)
theorem c_peek (hP : x_closed E P) (hR : x_fin R) (ht : tpB I n c) (hp : p ≤ n) (k : Q (some (.int (iI (ch c n p)))) (x_hp (tI I p w) J R)) : P 32 d 0 (x_la 0 [.ref 1]) [] (x_hp (tI I p w) J R) rc rs Q := by
  obtain ⟨h1, h2, h3, h4⟩ := ht
  have h1 : (tI I p w) 1065 1 0 = iI n := h1
  first | refine x_aload_n hP rfl rfl ?_ | refine x_aload_nN hP rfl rfl ?_
  refine x_getI hP rfl (by first | assumption | rfl) (by first | assumption | exact hR _ _ _ _ rfl | exact hR1 _ _ _ _ rfl | exact hR2 _ _ _ _ rfl | rfl) ?_
  refine z_if_lt hP rfl (by omega) (fun c4 => ?_) (fun c4 => ?_)
  · omega
  first | refine x_aload_n hP rfl rfl ?_ | refine x_aload_nN hP rfl rfl ?_
  refine x_getI hP rfl (by first | assumption | rfl) (by first | assumption | exact hR _ _ _ _ rfl | exact hR1 _ _ _ _ rfl | exact hR2 _ _ _ _ rfl | rfl) ?_
  first | refine x_aload_n hP rfl rfl ?_ | refine x_aload_nN hP rfl rfl ?_
  refine x_getI hP rfl (by first | assumption | rfl) (by first | assumption | exact hR _ _ _ _ rfl | exact hR1 _ _ _ _ rfl | exact hR2 _ _ _ _ rfl | rfl) ?_
  refine z_icmp_ge hP rfl (by omega) (by omega) (fun c15 => ?_) (fun c15 => ?_)
  · rw [ch, if_neg (by omega)] at k
    refine x_iconst hP rfl ?_
    exact x_iret hP rfl rfl k
  · rw [ch, if_pos (by omega)] at k
    have h5 : (tI I p w) 2 2 p = iI (sgb (c p)) := h4 p (by omega)
    first | refine x_aload_n hP rfl rfl ?_ | refine x_aload_nN hP rfl rfl ?_
    refine x_getR hP rfl (by first | assumption | rfl) (by first | assumption | exact hR _ _ _ _ rfl | exact hR1 _ _ _ _ rfl | exact hR2 _ _ _ _ rfl | rfl) ?_
    first | refine x_aload_n hP rfl rfl ?_ | refine x_aload_nN hP rfl rfl ?_
    refine x_getI hP rfl (by first | assumption | rfl) (by first | assumption | exact hR _ _ _ _ rfl | exact hR1 _ _ _ _ rfl | exact hR2 _ _ _ _ rfl | rfl) ?_
    refine z_bald hP rfl (by first | assumption | rfl) (by first | decide | omega) (by omega) (by first | assumption | exact hR _ _ _ _ rfl | exact hR1 _ _ _ _ rfl | exact hR2 _ _ _ _ rfl | rfl) ?_
    refine x_sipush hP rfl ?_
    refine x_iand hP rfl ?_
    refine x_goto hP rfl ?_
    rw [sgb_and _ (h3 p)]
    exact x_iret hP rfl rfl k
theorem c_fail (hP : x_closed E P) {x : Int} (k : Q (some (.int (bI false))) (x_hp (tI I p x) J R)) : P 35 d 0 (x_la 0 [.ref 1, .int (iI x)]) [] (x_hp (tI I p w) J R) rc rs Q := by
  first | refine x_aload_n hP rfl rfl ?_ | refine x_aload_nN hP rfl rfl ?_
  refine x_iload_n hP rfl rfl ?_
  refine x_putI hP rfl (by first | assumption | rfl) ?_
  first | refine w_nI ?_ | refine w_nL ?_ | refine w_nR ?_ | refine w_mI ?_ | refine w_mL ?_ | refine w_mR ?_ | skip
  rw [tI_wr]
  refine x_iconst hP rfl ?_
  exact x_zret hP rfl rfl (Or.inl iI_0) k
theorem c_at (hP : x_closed E P) (k : Q (some (.int (iI p))) (x_hp (tI I p w) J R)) : P 30 d 0 (x_la 0 [.ref 1]) [] (x_hp (tI I p w) J R) rc rs Q := by
  first | refine x_aload_n hP rfl rfl ?_ | refine x_aload_nN hP rfl rfl ?_
  refine x_getI hP rfl (by first | assumption | rfl) (by first | assumption | exact hR _ _ _ _ rfl | exact hR1 _ _ _ _ rfl | exact hR2 _ _ _ _ rfl | rfl) ?_
  exact x_iret hP rfl rfl k
theorem c_step (hP : x_closed E P) (ht : tpB I n c) (hp : p < n) (k : Q none (x_hp (tI I (p + 1 : Nat) w) J R)) : P 68 d 0 (x_la 0 [.ref 1]) [] (x_hp (tI I p w) J R) rc rs Q := by
  obtain ⟨h1, h2, h3, h4⟩ := ht
  have h1 : (tI I p w) 1065 1 0 = iI n := h1
  first | refine x_aload_n hP rfl rfl ?_ | refine x_aload_nN hP rfl rfl ?_
  refine x_getI hP rfl (by first | assumption | rfl) (by first | assumption | exact hR _ _ _ _ rfl | exact hR1 _ _ _ _ rfl | exact hR2 _ _ _ _ rfl | rfl) ?_
  first | refine x_aload_n hP rfl rfl ?_ | refine x_aload_nN hP rfl rfl ?_
  refine x_getI hP rfl (by first | assumption | rfl) (by first | assumption | exact hR _ _ _ _ rfl | exact hR1 _ _ _ _ rfl | exact hR2 _ _ _ _ rfl | rfl) ?_
  refine z_icmp_ge hP rfl (by omega) (by omega) (fun c8 => ?_) (fun c8 => ?_)
  · omega
  first | refine x_aload_n hP rfl rfl ?_ | refine x_aload_nN hP rfl rfl ?_
  refine x_dup hP rfl rfl ?_
  refine x_getI hP rfl (by first | assumption | rfl) (by first | assumption | exact hR _ _ _ _ rfl | exact hR1 _ _ _ _ rfl | exact hR2 _ _ _ _ rfl | rfl) ?_
  refine x_iconst hP rfl ?_
  first | refine z_iadd hP rfl ?_ | refine x_iadd hP rfl ?_
  refine x_putI hP rfl (by first | assumption | rfl) ?_
  first | refine w_nI ?_ | refine w_nL ?_ | refine w_nR ?_ | refine w_mI ?_ | refine w_mL ?_ | refine w_mR ?_ | skip
  rw [tI_at]
  exact x_vret hP rfl rfl k
theorem c_skip (hP : x_closed E P) (hR : x_fin R) (ht : tpB I n c) (hp : p ≤ n) {x : Int} (hx : 0 ≤ x ∧ x < 256) (k1 : ch c n p = x → p < n → Q (some (.int (bI true))) (x_hp (tI I (p + 1 : Nat) w) J R)) (k2 : ¬ ch c n p = x → Q (some (.int (bI false))) (x_hp (tI I p p) J R)) : P 36 (d + 1) 0 (x_la 0 [.ref 1, .int (iI x)]) [] (x_hp (tI I p w) J R) rc rs Q := by
  have hr := ch_rg (n := n) ht.2.2.1 p
  first | refine x_aload_n hP rfl rfl ?_ | refine x_aload_nN hP rfl rfl ?_
  refine x_callV0 (ci := 1) hP 0 0 rfl rfl rfl (by first | assumption | rfl) rfl rfl rfl (Nat.zero_le _) (Nat.zero_le _) ?_
  refine c_peek hP hR ht hp ?_
  refine x_iload_n hP rfl rfl ?_
  first | refine z_icmp_eq hP rfl (by omega) (by omega) (fun c5 => ?_) (fun c5 => ?_) | refine x_icmp_eq hP rfl (fun c5 => ?_) (fun c5 => ?_)
  · have hlt : p < n := by
      unfold ch at c5
      split at c5 <;> omega
    first | refine x_aload_n hP rfl rfl ?_ | refine x_aload_nN hP rfl rfl ?_
    refine x_dup hP rfl rfl ?_
    refine x_getI hP rfl (by first | assumption | rfl) (by first | assumption | exact hR _ _ _ _ rfl | exact hR1 _ _ _ _ rfl | exact hR2 _ _ _ _ rfl | rfl) ?_
    refine x_iconst hP rfl ?_
    first | refine z_iadd hP rfl ?_ | refine x_iadd hP rfl ?_
    refine x_putI hP rfl (by first | assumption | rfl) ?_
    first | refine w_nI ?_ | refine w_nL ?_ | refine w_nR ?_ | refine w_mI ?_ | refine w_mL ?_ | refine w_mR ?_ | skip
    rw [tI_at]
    refine x_iconst hP rfl ?_
    exact x_zret hP rfl rfl (Or.inr iI_1) (k1 c5 hlt)
  · first | refine x_aload_n hP rfl rfl ?_ | refine x_aload_nN hP rfl rfl ?_
    first | refine x_aload_n hP rfl rfl ?_ | refine x_aload_nN hP rfl rfl ?_
    refine x_getI hP rfl (by first | assumption | rfl) (by first | assumption | exact hR _ _ _ _ rfl | exact hR1 _ _ _ _ rfl | exact hR2 _ _ _ _ rfl | rfl) ?_
    refine x_callV1 (ci := 1) hP 0 0 rfl rfl rfl (by first | assumption | rfl) rfl rfl rfl (Nat.zero_le _) (Nat.zero_le _) ?_
    refine c_fail hP ?_
    exact x_zret hP rfl rfl (bI_or _) (k2 c5)
theorem c_isAtEnd (hP : x_closed E P) (ht : tpB I n c) (hp : p ≤ n) (k1 : p = n → Q (some (.int (bI true))) (x_hp (tI I p w) J R)) (k2 : p < n → Q (some (.int (bI false))) (x_hp (tI I p p) J R)) : P 59 (d + 1) 0 (x_la 0 [.ref 1]) [] (x_hp (tI I p w) J R) rc rs Q := by
  obtain ⟨h1, h2, h3, h4⟩ := ht
  have h1 : (tI I p w) 1065 1 0 = iI n := h1
  first | refine x_aload_n hP rfl rfl ?_ | refine x_aload_nN hP rfl rfl ?_
  refine x_getI hP rfl (by first | assumption | rfl) (by first | assumption | exact hR _ _ _ _ rfl | exact hR1 _ _ _ _ rfl | exact hR2 _ _ _ _ rfl | rfl) ?_
  first | refine x_aload_n hP rfl rfl ?_ | refine x_aload_nN hP rfl rfl ?_
  refine x_getI hP rfl (by first | assumption | rfl) (by first | assumption | exact hR _ _ _ _ rfl | exact hR1 _ _ _ _ rfl | exact hR2 _ _ _ _ rfl | rfl) ?_
  refine z_icmp_ge hP rfl (by omega) (by omega) (fun c8 => ?_) (fun c8 => ?_)
  · refine x_iconst hP rfl ?_
    refine x_goto hP rfl ?_
    exact x_zret hP rfl rfl (Or.inr iI_1) (k1 (by omega))
  first | refine x_aload_n hP rfl rfl ?_ | refine x_aload_nN hP rfl rfl ?_
  first | refine x_aload_n hP rfl rfl ?_ | refine x_aload_nN hP rfl rfl ?_
  refine x_getI hP rfl (by first | assumption | rfl) (by first | assumption | exact hR _ _ _ _ rfl | exact hR1 _ _ _ _ rfl | exact hR2 _ _ _ _ rfl | rfl) ?_
  refine x_callV1 (ci := 1) hP 0 0 rfl rfl rfl (by first | assumption | rfl) rfl rfl rfl (Nat.zero_le _) (Nat.zero_le _) ?_
  refine c_fail hP ?_
  first | refine zb_if_eq hP rfl (fun c19 => ?_) (fun c19 => ?_) | refine zl_if_eq hP rfl (fun c19 => ?_) (fun c19 => ?_) | refine z_if_eq hP rfl (by omega) (fun c19 => ?_) (fun c19 => ?_)
  · refine x_iconst hP rfl ?_
    exact x_zret hP rfl rfl (Or.inl iI_0) (k2 (by omega))
  · cases c19
theorem c_hasMore (hP : x_closed E P) (ht : tpB I n c) (hp : p ≤ n) (k : Q (some (.int (bI (decide (p < n))))) (x_hp (tI I p w) J R)) : P 28 d 0 (x_la 0 [.ref 1]) [] (x_hp (tI I p w) J R) rc rs Q := by
  obtain ⟨h1, h2, h3, h4⟩ := ht
  have h1 : (tI I p w) 1065 1 0 = iI n := h1
  first | refine x_aload_n hP rfl rfl ?_ | refine x_aload_nN hP rfl rfl ?_
  refine x_getI hP rfl (by first | assumption | rfl) (by first | assumption | exact hR _ _ _ _ rfl | exact hR1 _ _ _ _ rfl | exact hR2 _ _ _ _ rfl | rfl) ?_
  first | refine x_aload_n hP rfl rfl ?_ | refine x_aload_nN hP rfl rfl ?_
  refine x_getI hP rfl (by first | assumption | rfl) (by first | assumption | exact hR _ _ _ _ rfl | exact hR1 _ _ _ _ rfl | exact hR2 _ _ _ _ rfl | rfl) ?_
  refine z_icmp_ge hP rfl (by omega) (by omega) (fun c8 => ?_) (fun c8 => ?_)
  · rw [decide_eq_false (by omega)] at k
    refine x_iconst hP rfl ?_
    exact x_zret hP rfl rfl (Or.inl iI_0) k
  · rw [decide_eq_true (by omega)] at k
    refine x_iconst hP rfl ?_
    refine x_goto hP rfl ?_
    exact x_zret hP rfl rfl (Or.inr iI_1) k
theorem c_endsWith (hP : x_closed E P) (hR : x_fin R) (ht : tpB I n c) (hp : p ≤ n) {x : Int} (hx : 0 ≤ x ∧ x < 256) (k : Q (some (.int (bI (decide (ch c n p = x ∧ p + 1 = n))))) (x_hp (tI I p w) J R)) : P 53 (d + 1) 0 (x_la 0 [.ref 1, .int (iI x)]) [] (x_hp (tI I p w) J R) rc rs Q := by
  have hr := ch_rg (n := n) ht.2.2.1 p
  have h1 : (tI I p w) 1065 1 0 = iI n := ht.1
  have h2 := ht.2.1
  first | refine x_aload_n hP rfl rfl ?_ | refine x_aload_nN hP rfl rfl ?_
  refine x_callV0 (ci := 1) hP 0 0 rfl rfl rfl (by first | assumption | rfl) rfl rfl rfl (Nat.zero_le _) (Nat.zero_le _) ?_
  refine c_peek hP hR ht hp ?_
  refine x_iload_n hP rfl rfl ?_
  first | refine z_icmp_ne hP rfl (by omega) (by omega) (fun c5 => ?_) (fun c5 => ?_) | refine x_icmp_ne hP rfl (fun c5 => ?_) (fun c5 => ?_)
  · rw [decide_eq_false (by omega)] at k
    refine x_iconst hP rfl ?_
    exact x_zret hP rfl rfl (Or.inl iI_0) k
  first | refine x_aload_n hP rfl rfl ?_ | refine x_aload_nN hP rfl rfl ?_
  refine x_getI hP rfl (by first | assumption | rfl) (by first | assumption | exact hR _ _ _ _ rfl | exact hR1 _ _ _ _ rfl | exact hR2 _ _ _ _ rfl | rfl) ?_
  refine x_iconst hP rfl ?_
  first | refine z_iadd hP rfl ?_ | refine x_iadd hP rfl ?_
  first | refine x_aload_n hP rfl rfl ?_ | refine x_aload_nN hP rfl rfl ?_
  refine x_getI hP rfl (by first | assumption | rfl) (by first | assumption | exact hR _ _ _ _ rfl | exact hR1 _ _ _ _ rfl | exact hR2 _ _ _ _ rfl | rfl) ?_
  first | refine z_icmp_ne hP rfl (by omega) (by omega) (fun c18 => ?_) (fun c18 => ?_) | refine x_icmp_ne hP rfl (fun c18 => ?_) (fun c18 => ?_)
  · rw [decide_eq_false (by omega)] at k
    refine x_iconst hP rfl ?_
    exact x_zret hP rfl rfl (Or.inl iI_0) k
  · rw [decide_eq_true (by omega)] at k
    refine x_iconst hP rfl ?_
    refine x_goto hP rfl ?_
    exact x_zret hP rfl rfl (Or.inr iI_1) k
theorem c_wrong (hP : x_closed E P) (k : Q (some (.int (iI (-1000 - w)))) (x_hp (tI I p w) J R)) : P 46 d 0 (x_la 0 [.ref 1]) [] (x_hp (tI I p w) J R) rc rs Q := by
  refine x_sipush hP rfl ?_
  first | refine x_aload_n hP rfl rfl ?_ | refine x_aload_nN hP rfl rfl ?_
  refine x_getI hP rfl (by first | assumption | rfl) (by first | assumption | exact hR _ _ _ _ rfl | exact hR1 _ _ _ _ rfl | exact hR2 _ _ _ _ rfl | rfl) ?_
  first | refine z_isub hP rfl ?_ | refine x_isub hP rfl ?_
  exact x_iret hP rfl rfl k
theorem c_begin (hP : x_closed E P) (k : Q none (x_hp (tI I 0 0) J R)) : P 25 d 0 (x_la 0 [.ref 1]) [] (x_hp I J R) rc rs Q := by
  first | refine x_aload_n hP rfl rfl ?_ | refine x_aload_nN hP rfl rfl ?_
  refine x_iconst hP rfl ?_
  refine x_putI hP rfl (by first | assumption | rfl) ?_
  first | refine w_nI ?_ | refine w_nL ?_ | refine w_nR ?_ | refine w_mI ?_ | refine w_mL ?_ | refine w_mR ?_ | skip
  first | refine x_aload_n hP rfl rfl ?_ | refine x_aload_nN hP rfl rfl ?_
  refine x_iconst hP rfl ?_
  refine x_putI hP rfl (by first | assumption | rfl) ?_
  first | refine w_nI ?_ | refine w_nL ?_ | refine w_nR ?_ | refine w_mI ?_ | refine w_mL ?_ | refine w_mR ?_ | skip
  exact x_vret hP rfl rfl k
theorem c_length (hP : x_closed E P) {x : Int32} (h1 : I 1065 1 0 = x) (k : Q (some (.int x)) (x_hp I J R)) : P 21 d 0 (x_la 0 [.ref 1]) [] (x_hp I J R) rc rs Q := by
  first | refine x_aload_n hP rfl rfl ?_ | refine x_aload_nN hP rfl rfl ?_
  refine x_getI hP rfl (by first | assumption | rfl) (by first | assumption | exact hR _ _ _ _ rfl | exact hR1 _ _ _ _ rfl | exact hR2 _ _ _ _ rfl | rfl) ?_
  exact x_iret hP rfl rfl k
theorem c_cut (hP : x_closed E P) {x : Int32} (k : Q none (x_hp (x_at I 1065 1 0 x) J R)) : P 23 d 0 (x_la 0 [.ref 1, .int x]) [] (x_hp I J R) rc rs Q := by
  first | refine x_aload_n hP rfl rfl ?_ | refine x_aload_nN hP rfl rfl ?_
  refine x_iload_n hP rfl rfl ?_
  refine x_putI hP rfl (by first | assumption | rfl) ?_
  first | refine w_nI ?_ | refine w_nL ?_ | refine w_nR ?_ | refine w_mI ?_ | refine w_mL ?_ | refine w_mR ?_ | skip
  exact x_vret hP rfl rfl k
theorem c_hasRoom (hP : x_closed E P) {x q : Int} (h1 : I 1065 1 0 = iI q) (hq : 0 ≤ q ∧ q ≤ 2000) (hx : 0 ≤ x ∧ x ≤ 100) (k : Q (some (.int (bI (decide (q + x ≤ 2000))))) (x_hp I J R)) : P 19 d 0 (x_la 0 [.ref 1, .int (iI x)]) [] (x_hp I J R) rc rs Q := by
  first | refine x_aload_n hP rfl rfl ?_ | refine x_aload_nN hP rfl rfl ?_
  refine x_getI hP rfl (by first | assumption | rfl) (by first | assumption | exact hR _ _ _ _ rfl | exact hR1 _ _ _ _ rfl | exact hR2 _ _ _ _ rfl | rfl) ?_
  refine x_iload_n hP rfl rfl ?_
  first | refine z_iadd hP rfl ?_ | refine x_iadd hP rfl ?_
  refine x_sipush hP rfl ?_
  refine z_icmp_gt hP rfl (by omega) (by omega) (fun c9 => ?_) (fun c9 => ?_)
  · rw [decide_eq_false (by omega)] at k
    refine x_iconst hP rfl ?_
    exact x_zret hP rfl rfl (Or.inl iI_0) k
  · rw [decide_eq_true (by omega)] at k
    refine x_iconst hP rfl ?_
    refine x_goto hP rfl ?_
    exact x_zret hP rfl rfl (Or.inr iI_1) k
end
