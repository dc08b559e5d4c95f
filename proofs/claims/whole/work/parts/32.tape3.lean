/-! Tape: numbers -/
/-- how many digits stand from p on, at most f -/
def dr (c : Nat → Nat) (n p : Nat) : Nat → Nat
  | 0 => 0
  | f + 1 => if isDg (ch c n p) = true then dr c n (p + 1) f + 1 else 0
/-- the value of j digits from p on -/
def nv (c : Nat → Nat) (p : Nat) : Nat → Int
  | 0 => 0
  | j + 1 => nv c p j * 10 + c (p + j) - 48
section
variable {E : x_E} {P : x_Pr} {d rc rs : Nat} {I : x_M Int32} {J : x_M Int64} {R : x_M (Option Nat)} {Q : x_Q} {n p : Nat} {w : Int} {c : Nat → Nat}
theorem dr_0 {f : Nat} (h : isDg (ch c n p) = false) : dr c n p (f + 1) = 0 := by rw [dr, if_neg (by rw [h]; decide)]
theorem dr_1 {f : Nat} (h : isDg (ch c n p) = true) : dr c n p (f + 1) = dr c n (p + 1) f + 1 := by rw [dr, if_pos h]
theorem isDg_lt (h : isDg (ch c n p) = true) : p < n ∧ 48 ≤ c p ∧ c p ≤ 57 := by
  have h := of_decide_eq_true h
  unfold ch at h
  split at h <;> omega
theorem dr_le : ∀ (f p : Nat), p ≤ n → p + dr c n p f ≤ n ∧ dr c n p f ≤ f
  | 0, p, h => ⟨h, Nat.le_refl _⟩
  | f + 1, p, h => by
    cases e : isDg (ch c n p) with
    | false => rw [dr_0 e]; exact ⟨h, Nat.zero_le _⟩
    | true =>
      have := isDg_lt e
      have ih := dr_le f (p + 1) (by omega)
      rw [dr_1 e]
      omega
theorem dr_dg : ∀ (f p i : Nat), i < dr c n p f → isDg (ch c n (p + i)) = true
  | 0, p, i, h => absurd h (Nat.not_lt_zero _)
  | f + 1, p, i, h => by
    cases e : isDg (ch c n p) with
    | false => rw [dr_0 e] at h; exact absurd h (Nat.not_lt_zero _)
    | true =>
      rw [dr_1 e] at h
      cases i with
      | zero => exact e
      | succ i =>
        have := dr_dg f (p + 1) i (by omega)
        rw [show p + (i + 1) = p + 1 + i by omega]
        exact this
theorem nv_rg : ∀ (j : Nat), (∀ i, i < j → 48 ≤ c (p + i) ∧ c (p + i) ≤ 57) → 0 ≤ nv c p j ∧ nv c p j < 10 ^ j
  | 0, _ => by show (0 : Int) ≤ 0 ∧ (0 : Int) < 10 ^ 0; decide
  | j + 1, h => by
    have ih := nv_rg j (fun i hi => h i (by omega))
    have := h j (by omega)
    have e : (10 : Int) ^ (j + 1) = 10 ^ j * 10 := Int.pow_succ ..
    rw [nv, e]
    omega
theorem c_readNumber_loop (hP : x_closed E P) (hR : x_fin R) (ht : tpB I n c) (m : Nat) (hm : m ≤ 9) : ∀ (f j : Nat), j + f = m → p + j ≤ n →
    (P 57 (d + 1) 86 (x_ls [some (.ref 1), none, some (.int (iI (nv c p (j + dr c n (p + j) f)))), none]) [] (x_hp (tI I (p + (j + dr c n (p + j) f) : Nat) w) J R) rc rs Q) →
    P 57 (d + 1) 42 (x_ls [some (.ref 1), some (.int (iI m)), some (.int (iI (nv c p j))), some (.int (iI j))]) [] (x_hp (tI I (p + j : Nat) w) J R) rc rs Q := by
  have h2 := ht.2.1
  have ex : ∀ j : Nat, P 57 (d + 1) 86 (x_ls [some (.ref 1), none, some (.int (iI (nv c p j))), none]) [] (x_hp (tI I (p + j : Nat) w) J R) rc rs Q → P 57 (d + 1) 86 (x_ls [some (.ref 1), some (.int (iI m)), some (.int (iI (nv c p j))), some (.int (iI j))]) [] (x_hp (tI I (p + j : Nat) w) J R) rc rs Q := fun j k =>
    x_re hP [some (.ref 1), none, some (.int (iI (nv c p j))), none] ⟨rfl, rfl, trivial⟩ k
  intro f
  induction f with
  | zero =>
    intro j hj hp k
    refine x_iload_n hP rfl rfl ?_
    refine x_iload_n hP rfl rfl ?_
    refine z_icmp_ge hP rfl (by omega) (by omega) (fun c44 => ?_) (fun c44 => ?_)
    · exact ex j k
    · omega
  | succ f ih =>
    intro j hj hp k
    have hr := ch_rg (n := n) ht.2.2.1 (p + j)
    refine x_iload_n hP rfl rfl ?_
    refine x_iload_n hP rfl rfl ?_
    refine z_icmp_ge hP rfl (by omega) (by omega) (fun c44 => ?_) (fun c44 => ?_)
    · omega
    first | refine x_aload_n hP rfl rfl ?_ | refine x_aload_nN hP rfl rfl ?_
    refine x_callV0 (ci := 1) hP 0 0 rfl rfl rfl (by first | assumption | rfl) rfl rfl rfl (Nat.zero_le _) (Nat.zero_le _) ?_
    refine c_peek hP hR ht hp ?_
    refine x_callS1 hP 0 0 rfl rfl rfl rfl rfl (Nat.zero_le _) (Nat.zero_le _) ?_
    refine c_isDigit hP (by omega) ?_
    first | refine zb_if_eq hP rfl (fun c54 => ?_) (fun c54 => ?_) | refine zl_if_eq hP rfl (fun c54 => ?_) (fun c54 => ?_) | refine z_if_eq hP rfl (by omega) (fun c54 => ?_) (fun c54 => ?_)
    · rw [dr_0 c54] at k
      exact ex j k
    have hd := isDg_lt c54
    refine x_iload_n hP rfl rfl ?_
    refine x_bipush hP rfl ?_
    first | refine z_imul hP rfl ?_ | refine x_imul hP rfl ?_
    first | refine x_aload_n hP rfl rfl ?_ | refine x_aload_nN hP rfl rfl ?_
    refine x_callV0 (ci := 1) hP 0 0 rfl rfl rfl (by first | assumption | rfl) rfl rfl rfl (Nat.zero_le _) (Nat.zero_le _) ?_
    refine c_peek hP hR ht hp ?_
    first | refine z_iadd hP rfl ?_ | refine x_iadd hP rfl ?_
    refine x_bipush hP rfl ?_
    first | refine z_isub hP rfl ?_ | refine x_isub hP rfl ?_
    refine x_istore_n hP rfl ?_
    first | refine x_aload_n hP rfl rfl ?_ | refine x_aload_nN hP rfl rfl ?_
    refine x_dup hP rfl rfl ?_
    refine x_getI hP rfl (by first | assumption | rfl) (by first | assumption | exact hR _ _ _ _ rfl | exact hR1 _ _ _ _ rfl | exact hR2 _ _ _ _ rfl | rfl) ?_
    refine x_iconst hP rfl ?_
    first | refine z_iadd hP rfl ?_ | refine x_iadd hP rfl ?_
    refine x_putI hP rfl (by first | assumption | rfl) ?_
    first | refine w_nI ?_ | refine w_nL ?_ | refine w_nR ?_ | refine w_mI ?_ | refine w_mL ?_ | refine w_mR ?_ | skip
    rw [tI_at]
    refine z_iinc hP rfl rfl rfl ?_
    refine x_goto hP rfl ?_
    have e : p + j + 1 = p + (j + 1) := by omega
    refine x_re hP [some (.ref 1), some (.int (iI m)), some (.int (iI (nv c p (j + 1)))), some (.int (iI (j + 1 : Nat)))] ⟨rfl, rfl, ?_, rfl, trivial⟩ ?_
    · show some (Value.int _) = _
      rw [ch, if_pos hd.1]
      rfl
    · rw [dr_1 c54, e] at k
      refine ih (j + 1) (by omega) (by omega) ?_
      have e2 : j + 1 + dr c n (p + (j + 1)) f = j + (dr c n (p + (j + 1)) f + 1) := by omega
      rw [e2]
      exact k
/-- how many digits a NUMBER may have here -/
def dm (c : Nat → Nat) (n p : Nat) : Nat := if ch c n p = 48 then 1 else 9
def dl (c : Nat → Nat) (n p : Nat) : Nat := dr c n p (dm c n p)
theorem c_readNumber (hP : x_closed E P) (hR : x_fin R) (ht : tpB I n c) (hp : p ≤ n)
    (k1 : isDg (ch c n p) = false → Q (some (.int (iI (-2000000000)))) (x_hp (tI I p p) J R))
    (k2 : isDg (ch c n p) = true → isDg (ch c n (p + dl c n p)) = true → Q (some (.int (iI (-2000000000)))) (x_hp (tI I (p + dl c n p : Nat) (p + dl c n p : Nat)) J R))
    (k3 : isDg (ch c n p) = true → isDg (ch c n (p + dl c n p)) = false → Q (some (.int (iI (nv c p (dl c n p))))) (x_hp (tI I (p + dl c n p : Nat) w) J R)) :
    P 57 (d + 1) 0 (x_la 0 [.ref 1]) [] (x_hp (tI I p w) J R) rc rs Q := by
  have hr := ch_rg (n := n) ht.2.2.1 p
  have fin : isDg (ch c n p) = true → ∀ L, x_ag L 0 [some (.ref 1), some (.int (iI (dm c n p))), some (.int (iI (nv c p 0))), some (.int (iI (0 : Nat)))] → P 57 (d + 1) 42 L [] (x_hp (tI I p w) J R) rc rs Q := by
    intro hd L hL
    refine x_re hP _ hL ?_
    have hm : dm c n p ≤ 9 := by unfold dm; split <;> omega
    refine c_readNumber_loop (p := p) hP hR ht (dm c n p) hm (dm c n p) 0 (by omega) hp ?_
    simp only [Nat.zero_add, Nat.add_zero]
    have hq := (dr_le (c := c) (n := n) (dm c n p) p hp).1
    have hr2 := ch_rg (n := n) ht.2.2.1 (p + dr c n p (dm c n p))
    first | refine x_aload_n hP rfl rfl ?_ | refine x_aload_nN hP rfl rfl ?_
    refine x_callV0 (ci := 1) hP 0 0 rfl rfl rfl (by first | assumption | rfl) rfl rfl rfl (Nat.zero_le _) (Nat.zero_le _) ?_
    refine c_peek hP hR ht hq ?_
    refine x_callS1 hP 0 0 rfl rfl rfl rfl rfl (Nat.zero_le _) (Nat.zero_le _) ?_
    refine c_isDigit hP (by omega) ?_
    first | refine zb_if_eq hP rfl (fun c93 => ?_) (fun c93 => ?_) | refine zl_if_eq hP rfl (fun c93 => ?_) (fun c93 => ?_) | refine z_if_eq hP rfl (by omega) (fun c93 => ?_) (fun c93 => ?_)
    · refine x_iload_n hP rfl rfl ?_
      exact x_iret hP rfl rfl (k3 hd c93)
    · first | refine x_aload_n hP rfl rfl ?_ | refine x_aload_nN hP rfl rfl ?_
      first | refine x_aload_n hP rfl rfl ?_ | refine x_aload_nN hP rfl rfl ?_
      refine x_getI hP rfl (by first | assumption | rfl) (by first | assumption | exact hR _ _ _ _ rfl | exact hR1 _ _ _ _ rfl | exact hR2 _ _ _ _ rfl | rfl) ?_
      refine x_callV1 (ci := 1) hP 0 0 rfl rfl rfl (by first | assumption | rfl) rfl rfl rfl (Nat.zero_le _) (Nat.zero_le _) ?_
      refine c_fail hP ?_
      refine x_pop hP rfl rfl ?_
      refine x_ldcI hP rfl ?_
      exact x_iret hP rfl rfl (k2 hd c93)
  first | refine x_aload_n hP rfl rfl ?_ | refine x_aload_nN hP rfl rfl ?_
  refine x_callV0 (ci := 1) hP 0 0 rfl rfl rfl (by first | assumption | rfl) rfl rfl rfl (Nat.zero_le _) (Nat.zero_le _) ?_
  refine c_peek hP hR ht hp ?_
  refine x_callS1 hP 0 0 rfl rfl rfl rfl rfl (Nat.zero_le _) (Nat.zero_le _) ?_
  refine c_isDigit hP (by omega) ?_
  first | refine zb_if_ne hP rfl (fun c7 => ?_) (fun c7 => ?_) | refine zl_if_ne hP rfl (fun c7 => ?_) (fun c7 => ?_) | refine z_if_ne hP rfl (by omega) (fun c7 => ?_) (fun c7 => ?_)
  · first | refine x_aload_n hP rfl rfl ?_ | refine x_aload_nN hP rfl rfl ?_
    refine x_callV0 (ci := 1) hP 0 0 rfl rfl rfl (by first | assumption | rfl) rfl rfl rfl (Nat.zero_le _) (Nat.zero_le _) ?_
    refine c_peek hP hR ht hp ?_
    refine x_bipush hP rfl ?_
    first | refine z_icmp_ne hP rfl (by omega) (by omega) (fun c28 => ?_) (fun c28 => ?_) | refine x_icmp_ne hP rfl (fun c28 => ?_) (fun c28 => ?_)
    · refine x_bipush hP rfl ?_
      refine x_istore_n hP rfl ?_
      refine x_iconst hP rfl ?_
      refine x_istore_n hP rfl ?_
      refine x_iconst hP rfl ?_
      refine x_istore_n hP rfl ?_
      refine fin c7 _ ⟨rfl, ?_, rfl, rfl, trivial⟩
      rw [dm, if_neg c28]
      rfl
    · refine x_iconst hP rfl ?_
      refine x_goto hP rfl ?_
      refine x_istore_n hP rfl ?_
      refine x_iconst hP rfl ?_
      refine x_istore_n hP rfl ?_
      refine x_iconst hP rfl ?_
      refine x_istore_n hP rfl ?_
      refine fin c7 _ ⟨rfl, ?_, rfl, rfl, trivial⟩
      rw [dm, if_pos c28]
      rfl
  · first | refine x_aload_n hP rfl rfl ?_ | refine x_aload_nN hP rfl rfl ?_
    first | refine x_aload_n hP rfl rfl ?_ | refine x_aload_nN hP rfl rfl ?_
    refine x_getI hP rfl (by first | assumption | rfl) (by first | assumption | exact hR _ _ _ _ rfl | exact hR1 _ _ _ _ rfl | exact hR2 _ _ _ _ rfl | rfl) ?_
    refine x_callV1 (ci := 1) hP 0 0 rfl rfl rfl (by first | assumption | rfl) rfl rfl rfl (Nat.zero_le _) (Nat.zero_le _) ?_
    refine c_fail hP ?_
    refine x_pop hP rfl rfl ?_
    refine x_ldcI hP rfl ?_
    exact x_iret hP rfl rfl (k1 c7)
/-- how a reader of the tape ends: wrong at a place, or with a value, behind it -/
def pPost {α : Type} (Q : x_Q) (I : x_M Int32) (J : x_M Int64) (R : x_M (Option Nat)) (w : Int) (bad : Value) (good : α → Value) (r : Nat ⊕ (α × Nat)) : Prop := match r with
  | .inl e => ∀ q : Nat, Q (some bad) (x_hp (tI I q e) J R)
  | .inr (v, q) => Q (some (good v)) (x_hp (tI I q w) J R)
def numR (c : Nat → Nat) (n p : Nat) : Nat ⊕ (Int × Nat) := if isDg (ch c n p) = true then (if isDg (ch c n (p + dl c n p)) = true then .inl (p + dl c n p) else .inr (nv c p (dl c n p), p + dl c n p)) else .inl p
def intR (c : Nat → Nat) (n p : Nat) : Nat ⊕ (Int × Nat) := if ch c n p = 45 then (if ch c n (p + 1) = 48 then .inl (p + 1) else match numR c n (p + 1) with | .inl e => .inl e | .inr (v, q) => .inr (-v, q)) else numR c n p
def namR (c : Nat → Nat) (n p : Nat) : Nat ⊕ (Int64 × Nat) := if isLt (ch c n p) = true then (if rl c n p ≤ 8 then .inr (wk c p (rl c n p), p + rl c n p) else .inl (p + 8)) else .inl p
theorem c_num (hP : x_closed E P) (hR : x_fin R) (ht : tpB I n c) (hp : p ≤ n) (k : pPost Q I J R w (.int (iI (-2000000000))) (fun v => .int (iI v)) (numR c n p)) : P 57 (d + 1) 0 (x_la 0 [.ref 1]) [] (x_hp (tI I p w) J R) rc rs Q := by
  unfold numR at k
  refine c_readNumber hP hR ht hp (fun e => ?_) (fun e e2 => ?_) (fun e e2 => ?_)
  · rw [if_neg (by rw [e]; decide)] at k
    exact k p
  · rw [if_pos e, if_pos e2] at k
    exact k _
  · rw [if_pos e, if_neg (by rw [e2]; decide)] at k
    exact k
theorem numR_rg (hp : p ≤ n) {v : Int} {q : Nat} (h : numR c n p = .inr (v, q)) : 0 ≤ v ∧ v < 1000000000 ∧ p < q ∧ q ≤ n := by
  unfold numR at h
  split at h
  · next e =>
    split at h
    · cases h
    · have h := Sum.inr.inj h
      cases h
      have hq := nv_rg (c := c) (p := p) (dl c n p) (fun i hi => (isDg_lt (dr_dg _ _ _ hi)).2)
      have hl := dr_le (c := c) (n := n) (dm c n p) p hp
      have h0 : dl c n p ≤ 9 := Nat.le_trans hl.2 (by unfold dm; split <;> omega)
      have h9 : (10 : Int) ^ (dl c n p) ≤ 10 ^ 9 := by
        have := Nat.pow_le_pow_right (show 0 < 10 by decide) h0
        exact_mod_cast this
      have h1 : 1 ≤ dl c n p := by
        unfold dl dm
        split <;> (rw [dr_1 e]; omega)
      have hl1 : p + dl c n p ≤ n := hl.1
      omega
  · cases h
theorem c_int (hP : x_closed E P) (hR : x_fin R) (ht : tpB I n c) (hp : p ≤ n) (k : pPost Q I J R w (.int (iI (-2000000000))) (fun v => .int (iI v)) (intR c n p)) : P 56 (d + 2) 0 (x_la 0 [.ref 1]) [] (x_hp (tI I p w) J R) rc rs Q := by
  have hr := ch_rg (n := n) ht.2.2.1 p
  unfold intR at k
  first | refine x_aload_n hP rfl rfl ?_ | refine x_aload_nN hP rfl rfl ?_
  refine x_callV0 (ci := 1) hP 0 0 rfl rfl rfl (by first | assumption | rfl) rfl rfl rfl (Nat.zero_le _) (Nat.zero_le _) ?_
  refine c_peek hP hR ht hp ?_
  refine x_bipush hP rfl ?_
  first | refine z_icmp_eq hP rfl (by omega) (by omega) (fun c6 => ?_) (fun c6 => ?_) | refine x_icmp_eq hP rfl (fun c6 => ?_) (fun c6 => ?_)
  · rw [if_pos c6] at k
    have hlt : p < n := by
      unfold ch at c6
      split at c6 <;> omega
    have hr1 := ch_rg (n := n) ht.2.2.1 (p + 1)
    first | refine x_aload_n hP rfl rfl ?_ | refine x_aload_nN hP rfl rfl ?_
    refine x_dup hP rfl rfl ?_
    refine x_getI hP rfl (by first | assumption | rfl) (by first | assumption | exact hR _ _ _ _ rfl | exact hR1 _ _ _ _ rfl | exact hR2 _ _ _ _ rfl | rfl) ?_
    refine x_iconst hP rfl ?_
    first | refine z_iadd hP rfl ?_ | refine x_iadd hP rfl ?_
    refine x_putI hP rfl (by first | assumption | rfl) ?_
    first | refine w_nI ?_ | refine w_nL ?_ | refine w_nR ?_ | refine w_mI ?_ | refine w_mL ?_ | refine w_mR ?_ | skip
    rw [tI_at]
    first | refine x_aload_n hP rfl rfl ?_ | refine x_aload_nN hP rfl rfl ?_
    refine x_callV0 (ci := 1) hP 0 0 rfl rfl rfl (by first | assumption | rfl) rfl rfl rfl (Nat.zero_le _) (Nat.zero_le _) ?_
    refine c_peek (p := p + 1) hP hR ht hlt ?_
    refine x_bipush hP rfl ?_
    first | refine z_icmp_ne hP rfl (by omega) (by omega) (fun c30 => ?_) (fun c30 => ?_) | refine x_icmp_ne hP rfl (fun c30 => ?_) (fun c30 => ?_)
    · rw [if_neg c30] at k
      first | refine x_aload_n hP rfl rfl ?_ | refine x_aload_nN hP rfl rfl ?_
      refine x_callV0 (ci := 1) hP 0 0 rfl rfl rfl (by first | assumption | rfl) rfl rfl rfl (Nat.zero_le _) (Nat.zero_le _) ?_
      refine c_num (p := p + 1) hP hR ht hlt ?_
      cases hn : numR c n (p + 1) with
      | inl e =>
        rw [hn] at k
        intro q
        refine x_istore_n hP rfl ?_
        refine x_iload_n hP rfl rfl ?_
        refine x_ldcI hP rfl ?_
        first | refine z_icmp_ne hP rfl (by omega) (by omega) (fun c53 => ?_) (fun c53 => ?_) | refine x_icmp_ne hP rfl (fun c53 => ?_) (fun c53 => ?_)
        · exact absurd rfl c53
        refine x_ldcI hP rfl ?_
        refine x_goto hP rfl ?_
        exact x_iret hP rfl rfl (k q)
      | inr vq =>
        obtain ⟨v, q⟩ := vq
        rw [hn] at k
        have hv := numR_rg (show p + 1 ≤ n from hlt) hn
        show P _ _ _ _ _ _ _ _ _
        refine x_istore_n hP rfl ?_
        refine x_iload_n hP rfl rfl ?_
        refine x_ldcI hP rfl ?_
        first | refine z_icmp_ne hP rfl (by omega) (by omega) (fun c53 => ?_) (fun c53 => ?_) | refine x_icmp_ne hP rfl (fun c53 => ?_) (fun c53 => ?_)
        · refine x_iload_n hP rfl rfl ?_
          refine z_ineg hP rfl ?_
          exact x_iret hP rfl rfl k
        · omega
    · rw [if_pos c30] at k
      first | refine x_aload_n hP rfl rfl ?_ | refine x_aload_nN hP rfl rfl ?_
      first | refine x_aload_n hP rfl rfl ?_ | refine x_aload_nN hP rfl rfl ?_
      refine x_getI hP rfl (by first | assumption | rfl) (by first | assumption | exact hR _ _ _ _ rfl | exact hR1 _ _ _ _ rfl | exact hR2 _ _ _ _ rfl | rfl) ?_
      refine x_callV1 (ci := 1) hP 0 0 rfl rfl rfl (by first | assumption | rfl) rfl rfl rfl (Nat.zero_le _) (Nat.zero_le _) ?_
      refine c_fail hP ?_
      refine x_pop hP rfl rfl ?_
      refine x_ldcI hP rfl ?_
      exact x_iret hP rfl rfl (k _)
  · rw [if_neg c6] at k
    first | refine x_aload_n hP rfl rfl ?_ | refine x_aload_nN hP rfl rfl ?_
    refine x_callV0 (ci := 1) hP 0 0 rfl rfl rfl (by first | assumption | rfl) rfl rfl rfl (Nat.zero_le _) (Nat.zero_le _) ?_
    refine c_num hP hR ht hp ?_
    cases hn : numR c n p with
    | inl e =>
      rw [hn] at k
      intro q
      exact x_iret hP rfl rfl (k q)
    | inr vq =>
      obtain ⟨v, q⟩ := vq
      rw [hn] at k
      exact x_iret hP rfl rfl k
end
