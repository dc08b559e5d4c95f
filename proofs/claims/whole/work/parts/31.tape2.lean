/-! Tape: its loops -/
section
variable {E : x_E} {P : x_Pr} {d rc rs : Nat} {I : x_M Int32} {J : x_M Int64} {R : x_M (Option Nat)} {Q : x_Q} {n p : Nat} {w : Int} {c : Nat → Nat}
theorem rn_0 {f : Nat} (h : isLD (ch c n p) = false) : rn c n p (f + 1) = 0 := by rw [rn, if_neg (by rw [h]; decide)]
theorem rn_1 {f : Nat} (h : isLD (ch c n p) = true) : rn c n p (f + 1) = rn c n (p + 1) f + 1 := by rw [rn, if_pos h]
theorem c_readWord_loop (hP : x_closed E P) (hR : x_fin R) (ht : tpB I n c) : ∀ (f s m : Nat), s + m ≤ n → n - (s + m) ≤ f → Q (some (.long (if m + rn c n (s + m) f ≤ 8 then wk c s (m + rn c n (s + m) f) else lI 0))) (x_hp (tI I (s + (m + rn c n (s + m) f) : Nat) w) J R) →
    P 31 (d + 1) 7 (x_ls [some (.ref 1), some (.int (iI s)), some (.long (wk c s m)), none]) [] (x_hp (tI I (s + m : Nat) w) J R) rc rs Q := by
  have h1 : ∀ q : Int, (tI I q w) 1065 1 0 = iI n := fun _ => ht.1
  have h2 := ht.2.1
  have ex : ∀ (s m : Nat), s + m ≤ n → Q (some (.long (if m ≤ 8 then wk c s m else lI 0))) (x_hp (tI I (s + m : Nat) w) J R) → P 31 (d + 1) 52 (x_ls [some (.ref 1), some (.int (iI s)), some (.long (wk c s m)), none]) [] (x_hp (tI I (s + m : Nat) w) J R) rc rs Q := by
    intro s m hm k
    first | refine x_aload_n hP rfl rfl ?_ | refine x_aload_nN hP rfl rfl ?_
    refine x_getI hP rfl (by first | assumption | rfl) (by first | assumption | exact hR _ _ _ _ rfl | exact hR1 _ _ _ _ rfl | exact hR2 _ _ _ _ rfl | rfl) ?_
    refine x_iload_n hP rfl rfl ?_
    first | refine z_isub hP rfl ?_ | refine x_isub hP rfl ?_
    refine x_bipush hP rfl ?_
    refine z_icmp_le hP rfl (by omega) (by omega) (fun c60 => ?_) (fun c60 => ?_)
    · rw [if_pos (by omega)] at k
      refine x_lload_n hP rfl rfl ?_
      exact x_lret hP rfl rfl k
    · rw [if_neg (by omega)] at k
      refine x_lconst hP rfl ?_
      refine x_goto hP rfl ?_
      exact x_lret hP rfl rfl k
  intro f
  induction f with
  | zero =>
    intro s m hm hf k
    have := h1 (s + m : Nat)
    first | refine x_aload_n hP rfl rfl ?_ | refine x_aload_nN hP rfl rfl ?_
    refine x_getI hP rfl (by first | assumption | rfl) (by first | assumption | exact hR _ _ _ _ rfl | exact hR1 _ _ _ _ rfl | exact hR2 _ _ _ _ rfl | rfl) ?_
    first | refine x_aload_n hP rfl rfl ?_ | refine x_aload_nN hP rfl rfl ?_
    refine x_getI hP rfl (by first | assumption | rfl) (by first | assumption | exact hR _ _ _ _ rfl | exact hR1 _ _ _ _ rfl | exact hR2 _ _ _ _ rfl | rfl) ?_
    refine z_icmp_ge hP rfl (by omega) (by omega) (fun c15 => ?_) (fun c15 => ?_)
    · exact ex s m hm k
    · omega
  | succ f ih =>
    intro s m hm hf k
    have := h1 (s + m : Nat)
    first | refine x_aload_n hP rfl rfl ?_ | refine x_aload_nN hP rfl rfl ?_
    refine x_getI hP rfl (by first | assumption | rfl) (by first | assumption | exact hR _ _ _ _ rfl | exact hR1 _ _ _ _ rfl | exact hR2 _ _ _ _ rfl | rfl) ?_
    first | refine x_aload_n hP rfl rfl ?_ | refine x_aload_nN hP rfl rfl ?_
    refine x_getI hP rfl (by first | assumption | rfl) (by first | assumption | exact hR _ _ _ _ rfl | exact hR1 _ _ _ _ rfl | exact hR2 _ _ _ _ rfl | rfl) ?_
    refine z_icmp_ge hP rfl (by omega) (by omega) (fun c15 => ?_) (fun c15 => ?_)
    · have e : isLD (ch c n (s + m)) = false := by rw [ch, if_neg (by omega)]; rfl
      rw [rn_0 e] at k
      exact ex s m hm k
    have hlt : s + m < n := by omega
    have hr := ch_rg (n := n) ht.2.2.1 (s + m)
    first | refine x_aload_n hP rfl rfl ?_ | refine x_aload_nN hP rfl rfl ?_
    refine x_callV0 (ci := 1) hP 0 0 rfl rfl rfl (by first | assumption | rfl) rfl rfl rfl (Nat.zero_le _) (Nat.zero_le _) ?_
    refine c_peek hP hR ht hm ?_
    refine x_callS1 hP 0 0 rfl rfl rfl rfl rfl (Nat.zero_le _) (Nat.zero_le _) ?_
    refine c_isLD hP (by omega) ?_
    first | refine zb_if_eq hP rfl (fun c25 => ?_) (fun c25 => ?_) | refine zl_if_eq hP rfl (fun c25 => ?_) (fun c25 => ?_) | refine z_if_eq hP rfl (by omega) (fun c25 => ?_) (fun c25 => ?_)
    · rw [rn_0 c25] at k
      exact ex s m hm k
    refine x_lload_n hP rfl rfl ?_
    refine x_bipush hP rfl ?_
    refine x_lshl hP rfl ?_
    first | refine x_aload_n hP rfl rfl ?_ | refine x_aload_nN hP rfl rfl ?_
    refine x_callV0 (ci := 1) hP 0 0 rfl rfl rfl (by first | assumption | rfl) rfl rfl rfl (Nat.zero_le _) (Nat.zero_le _) ?_
    refine c_peek hP hR ht hm ?_
    refine x_i2l hP rfl ?_
    refine x_lor hP rfl ?_
    refine x_lstore_n hP rfl ?_
    first | refine x_aload_n hP rfl rfl ?_ | refine x_aload_nN hP rfl rfl ?_
    refine x_dup hP rfl rfl ?_
    refine x_getI hP rfl (by first | assumption | rfl) (by first | assumption | exact hR _ _ _ _ rfl | exact hR1 _ _ _ _ rfl | exact hR2 _ _ _ _ rfl | rfl) ?_
    refine x_iconst hP rfl ?_
    first | refine z_iadd hP rfl ?_ | refine x_iadd hP rfl ?_
    refine x_putI hP rfl (by first | assumption | rfl) ?_
    first | refine w_nI ?_ | refine w_nL ?_ | refine w_nR ?_ | refine w_mI ?_ | refine w_mL ?_ | refine w_mR ?_ | skip
    rw [tI_at]
    refine x_goto hP rfl ?_
    refine x_re hP [some (.ref 1), some (.int (iI s)), some (.long (wk c s (m + 1))), none] ⟨rfl, rfl, ?_, trivial⟩ ?_
    · show some (Value.long _) = _
      rw [ch, if_pos hlt]
      rfl
    · have e : s + m + 1 = s + (m + 1) := by omega
      rw [rn_1 c25, e] at k
      have k' := ih s (m + 1) (by omega) (by omega) (by
        have e2 : m + 1 + rn c n (s + (m + 1)) f = m + (rn c n (s + (m + 1)) f + 1) := by omega
        rw [e2]
        exact k)
      exact k'
/-- the letters and digits that stand at p -/
def rl (c : Nat → Nat) (n p : Nat) : Nat := rn c n p (n - p)
theorem c_readWord (hP : x_closed E P) (hR : x_fin R) (ht : tpB I n c) (hp : p ≤ n) (k : Q (some (.long (if rl c n p ≤ 8 then wk c p (rl c n p) else lI 0))) (x_hp (tI I (p + rl c n p : Nat) w) J R)) : P 31 (d + 1) 0 (x_la 0 [.ref 1]) [] (x_hp (tI I p w) J R) rc rs Q := by
  first | refine x_aload_n hP rfl rfl ?_ | refine x_aload_nN hP rfl rfl ?_
  refine x_getI hP rfl (by first | assumption | rfl) (by first | assumption | exact hR _ _ _ _ rfl | exact hR1 _ _ _ _ rfl | exact hR2 _ _ _ _ rfl | rfl) ?_
  refine x_istore_n hP rfl ?_
  refine x_lconst hP rfl ?_
  refine x_lstore_n hP rfl ?_
  refine x_re hP [some (.ref 1), some (.int (iI p)), some (.long (wk c p 0)), none] ⟨rfl, rfl, rfl, trivial⟩ ?_
  exact c_readWord_loop hP hR ht (n - p) p 0 hp (by omega) (by rw [Nat.zero_add]; exact k)
/-- a NAME at p: 0 and where it is wrong, or its key and its length -/
theorem c_readName (hP : x_closed E P) (hR : x_fin R) (ht : tpB I n c) (hp : p ≤ n)
    (k1 : isLt (ch c n p) = false → Q (some (.long (lI 0))) (x_hp (tI I p p) J R))
    (k2 : isLt (ch c n p) = true → 8 < rl c n p → Q (some (.long (lI 0))) (x_hp (tI I (p + rl c n p : Nat) (p + 8 : Nat)) J R))
    (k3 : isLt (ch c n p) = true → rl c n p ≤ 8 → Q (some (.long (wk c p (rl c n p)))) (x_hp (tI I (p + rl c n p : Nat) w) J R)) (hz : isLt (ch c n p) = true → rl c n p ≤ 8 → ¬ wk c p (rl c n p) = lI 0) : P 38 (d + 2) 0 (x_la 0 [.ref 1]) [] (x_hp (tI I p w) J R) rc rs Q := by
  have hr := ch_rg (n := n) ht.2.2.1 p
  have h2 := ht.2.1
  first | refine x_aload_n hP rfl rfl ?_ | refine x_aload_nN hP rfl rfl ?_
  refine x_getI hP rfl (by first | assumption | rfl) (by first | assumption | exact hR _ _ _ _ rfl | exact hR1 _ _ _ _ rfl | exact hR2 _ _ _ _ rfl | rfl) ?_
  refine x_istore_n hP rfl ?_
  first | refine x_aload_n hP rfl rfl ?_ | refine x_aload_nN hP rfl rfl ?_
  refine x_callV0 (ci := 1) hP 0 0 rfl rfl rfl (by first | assumption | rfl) rfl rfl rfl (Nat.zero_le _) (Nat.zero_le _) ?_
  refine c_peek hP hR ht hp ?_
  refine x_callS1 hP 0 0 rfl rfl rfl rfl rfl (Nat.zero_le _) (Nat.zero_le _) ?_
  refine c_isLetter hP (by omega) ?_
  first | refine zb_if_ne hP rfl (fun c12 => ?_) (fun c12 => ?_) | refine zl_if_ne hP rfl (fun c12 => ?_) (fun c12 => ?_) | refine z_if_ne hP rfl (by omega) (fun c12 => ?_) (fun c12 => ?_)
  · first | refine x_aload_n hP rfl rfl ?_ | refine x_aload_nN hP rfl rfl ?_
    refine x_callV0 (ci := 1) hP 0 0 rfl rfl rfl (by first | assumption | rfl) rfl rfl rfl (Nat.zero_le _) (Nat.zero_le _) ?_
    refine c_readWord hP hR ht hp ?_
    refine x_lstore_n hP rfl ?_
    refine x_lload_n hP rfl rfl ?_
    refine x_lconst hP rfl ?_
    refine x_lcmp hP rfl ?_
    by_cases h8 : rl c n p ≤ 8
    · rw [if_pos h8]
      refine x_if_ne hP rfl (fun q => ?_) (fun q => ?_)
      · refine x_lload_n hP rfl rfl ?_
        exact x_lret hP rfl rfl (k3 c12 h8)
      · exact absurd (lcmp0 q) (hz c12 h8)
    · rw [if_neg h8]
      refine x_if_ne hP rfl (fun q => ?_) (fun q => ?_)
      · exact absurd (by rw [lcmp1]) q
      first | refine x_aload_n hP rfl rfl ?_ | refine x_aload_nN hP rfl rfl ?_
      refine x_iload_n hP rfl rfl ?_
      refine x_bipush hP rfl ?_
      first | refine z_iadd hP rfl ?_ | refine x_iadd hP rfl ?_
      refine x_callV1 (ci := 1) hP 0 0 rfl rfl rfl (by first | assumption | rfl) rfl rfl rfl (Nat.zero_le _) (Nat.zero_le _) ?_
      refine c_fail hP ?_
      refine x_pop hP rfl rfl ?_
      refine x_lload_n hP rfl rfl ?_
      exact x_lret hP rfl rfl (k2 c12 (by omega))
  · first | refine x_aload_n hP rfl rfl ?_ | refine x_aload_nN hP rfl rfl ?_
    refine x_iload_n hP rfl rfl ?_
    refine x_callV1 (ci := 1) hP 0 0 rfl rfl rfl (by first | assumption | rfl) rfl rfl rfl (Nat.zero_le _) (Nat.zero_le _) ?_
    refine c_fail hP ?_
    refine x_pop hP rfl rfl ?_
    refine x_lconst hP rfl ?_
    exact x_lret hP rfl rfl (k1 c12)
end
