/-! THE some (.ref 122)ERENCE: words, signs, frames -/
theorem act_wd {c : Nat → Nat} {n p a : Nat} (hc : ∀ i, c i < 256) (hp : p ≤ n) (h : actN (wdV c n p) = some a) : isLt (ch c n p) = true ∧ rl c n p ≤ 8 := by
  unfold actN at h
  by_cases q0 : wdV c n p = lI 1802069107
  · exact wd_key (K := 1802069107) hc hp (by decide) (by decide) (by decide) q0
  rw [if_neg q0] at h
  by_cases q1 : wdV c n p = lI 6384748
  · exact wd_key (K := 6384748) hc hp (by decide) (by decide) (by decide) q1
  rw [if_neg q1] at h
  by_cases q2 : wdV c n p = lI 1701733491
  · exact wd_key (K := 1701733491) hc hp (by decide) (by decide) (by decide) q2
  rw [if_neg q2] at h
  by_cases q3 : wdV c n p = lI 30064
  · exact wd_key (K := 30064) hc hp (by decide) (by decide) (by decide) q3
  rw [if_neg q3] at h
  by_cases q4 : wdV c n p = lI 1885434984
  · exact wd_key (K := 1885434984) hc hp (by decide) (by decide) (by decide) q4
  rw [if_neg q4] at h
  by_cases q5 : wdV c n p = lI 1936286323
  · exact wd_key (K := 1936286323) hc hp (by decide) (by decide) (by decide) q5
  rw [if_neg q5] at h
  by_cases q6 : wdV c n p = lI 1852143732
  · exact wd_key (K := 1852143732) hc hp (by decide) (by decide) (by decide) q6
  rw [if_neg q6] at h
  by_cases q7 : wdV c n p = lI 1650549611
  · exact wd_key (K := 1650549611) hc hp (by decide) (by decide) (by decide) q7
  rw [if_neg q7] at h
  by_cases q8 : wdV c n p = lI 1684366704
  · exact wd_key (K := 1684366704) hc hp (by decide) (by decide) (by decide) q8
  rw [if_neg q8] at h
  cases h
section
variable {E : x_E} {P : x_Pr} {d rc rs : Nat} {I : x_M Int32} {J : x_M Int64} {R : x_M (Option Nat)} {Q : x_Q} {n p : Nat} {c : Nat → Nat} {T : x_T}
theorem r_actOf (hP : x_closed E P) {h : x_H} {v : Int64} (k : Q (some (.int (iI (oI (actN v))))) h) : P 187 d 0 (x_la 0 [.long v]) [] h rc rs Q := by
  unfold actN at k
  refine x_lload_n hP rfl rfl ?_
  refine x_ldcL hP rfl ?_
  refine x_lcmp hP rfl ?_
  first | refine zb_if_ne hP rfl (fun c5 => ?_) (fun c5 => ?_) | refine zl_if_ne hP rfl (fun c5 => ?_) (fun c5 => ?_) | refine z_if_ne hP rfl (by omega) (fun c5 => ?_) (fun c5 => ?_)
  rotate_left
  · rw [if_pos c5] at k
    refine x_iconst hP rfl ?_
    refine x_goto hP rfl ?_
    refine x_iret hP rfl rfl ?_
    exact k
  rw [if_neg c5] at k
  refine x_lload_n hP rfl rfl ?_
  refine x_ldcL hP rfl ?_
  refine x_lcmp hP rfl ?_
  first | refine zb_if_ne hP rfl (fun c17 => ?_) (fun c17 => ?_) | refine zl_if_ne hP rfl (fun c17 => ?_) (fun c17 => ?_) | refine z_if_ne hP rfl (by omega) (fun c17 => ?_) (fun c17 => ?_)
  rotate_left
  · rw [if_pos c17] at k
    refine x_iconst hP rfl ?_
    refine x_goto hP rfl ?_
    refine x_iret hP rfl rfl ?_
    exact k
  rw [if_neg c17] at k
  refine x_lload_n hP rfl rfl ?_
  refine x_ldcL hP rfl ?_
  refine x_lcmp hP rfl ?_
  first | refine zb_if_ne hP rfl (fun c29 => ?_) (fun c29 => ?_) | refine zl_if_ne hP rfl (fun c29 => ?_) (fun c29 => ?_) | refine z_if_ne hP rfl (by omega) (fun c29 => ?_) (fun c29 => ?_)
  rotate_left
  · rw [if_pos c29] at k
    refine x_iconst hP rfl ?_
    refine x_goto hP rfl ?_
    refine x_iret hP rfl rfl ?_
    exact k
  rw [if_neg c29] at k
  refine x_lload_n hP rfl rfl ?_
  refine x_ldcL hP rfl ?_
  refine x_lcmp hP rfl ?_
  first | refine zb_if_ne hP rfl (fun c41 => ?_) (fun c41 => ?_) | refine zl_if_ne hP rfl (fun c41 => ?_) (fun c41 => ?_) | refine z_if_ne hP rfl (by omega) (fun c41 => ?_) (fun c41 => ?_)
  rotate_left
  · rw [if_pos c41] at k
    refine x_iconst hP rfl ?_
    refine x_goto hP rfl ?_
    refine x_iret hP rfl rfl ?_
    exact k
  rw [if_neg c41] at k
  refine x_lload_n hP rfl rfl ?_
  refine x_ldcL hP rfl ?_
  refine x_lcmp hP rfl ?_
  first | refine zb_if_ne hP rfl (fun c53 => ?_) (fun c53 => ?_) | refine zl_if_ne hP rfl (fun c53 => ?_) (fun c53 => ?_) | refine z_if_ne hP rfl (by omega) (fun c53 => ?_) (fun c53 => ?_)
  rotate_left
  · rw [if_pos c53] at k
    refine x_iconst hP rfl ?_
    refine x_goto hP rfl ?_
    refine x_iret hP rfl rfl ?_
    exact k
  rw [if_neg c53] at k
  refine x_lload_n hP rfl rfl ?_
  refine x_ldcL hP rfl ?_
  refine x_lcmp hP rfl ?_
  first | refine zb_if_ne hP rfl (fun c65 => ?_) (fun c65 => ?_) | refine zl_if_ne hP rfl (fun c65 => ?_) (fun c65 => ?_) | refine z_if_ne hP rfl (by omega) (fun c65 => ?_) (fun c65 => ?_)
  rotate_left
  · rw [if_pos c65] at k
    refine x_iconst hP rfl ?_
    refine x_goto hP rfl ?_
    refine x_iret hP rfl rfl ?_
    exact k
  rw [if_neg c65] at k
  refine x_lload_n hP rfl rfl ?_
  refine x_ldcL hP rfl ?_
  refine x_lcmp hP rfl ?_
  first | refine zb_if_ne hP rfl (fun c77 => ?_) (fun c77 => ?_) | refine zl_if_ne hP rfl (fun c77 => ?_) (fun c77 => ?_) | refine z_if_ne hP rfl (by omega) (fun c77 => ?_) (fun c77 => ?_)
  rotate_left
  · rw [if_pos c77] at k
    refine x_bipush hP rfl ?_
    refine x_goto hP rfl ?_
    refine x_iret hP rfl rfl ?_
    exact k
  rw [if_neg c77] at k
  refine x_lload_n hP rfl rfl ?_
  refine x_ldcL hP rfl ?_
  refine x_lcmp hP rfl ?_
  first | refine zb_if_ne hP rfl (fun c90 => ?_) (fun c90 => ?_) | refine zl_if_ne hP rfl (fun c90 => ?_) (fun c90 => ?_) | refine z_if_ne hP rfl (by omega) (fun c90 => ?_) (fun c90 => ?_)
  rotate_left
  · rw [if_pos c90] at k
    refine x_bipush hP rfl ?_
    refine x_goto hP rfl ?_
    refine x_iret hP rfl rfl ?_
    exact k
  rw [if_neg c90] at k
  refine x_lload_n hP rfl rfl ?_
  refine x_ldcL hP rfl ?_
  refine x_lcmp hP rfl ?_
  first | refine zb_if_ne hP rfl (fun c103 => ?_) (fun c103 => ?_) | refine zl_if_ne hP rfl (fun c103 => ?_) (fun c103 => ?_) | refine z_if_ne hP rfl (by omega) (fun c103 => ?_) (fun c103 => ?_)
  rotate_left
  · rw [if_pos c103] at k
    refine x_bipush hP rfl ?_
    refine x_goto hP rfl ?_
    refine x_iret hP rfl rfl ?_
    exact k
  rw [if_neg c103] at k
  refine x_iconst hP rfl ?_
  refine x_iret hP rfl rfl ?_
  exact k
theorem r_functionOf (hP : x_closed E P) {h : x_H} {v : Int64} (k : Q (some (.int (iI (oI (fncN v))))) h) : P 185 d 0 (x_la 0 [.long v]) [] h rc rs Q := by
  unfold fncN at k
  refine x_lload_n hP rfl rfl ?_
  refine x_ldcL hP rfl ?_
  refine x_lcmp hP rfl ?_
  first | refine zb_if_ne hP rfl (fun c5 => ?_) (fun c5 => ?_) | refine zl_if_ne hP rfl (fun c5 => ?_) (fun c5 => ?_) | refine z_if_ne hP rfl (by omega) (fun c5 => ?_) (fun c5 => ?_)
  rotate_left
  · rw [if_pos c5] at k
    refine x_iconst hP rfl ?_
    refine x_goto hP rfl ?_
    refine x_iret hP rfl rfl ?_
    exact k
  rw [if_neg c5] at k
  refine x_lload_n hP rfl rfl ?_
  refine x_ldcL hP rfl ?_
  refine x_lcmp hP rfl ?_
  first | refine zb_if_ne hP rfl (fun c17 => ?_) (fun c17 => ?_) | refine zl_if_ne hP rfl (fun c17 => ?_) (fun c17 => ?_) | refine z_if_ne hP rfl (by omega) (fun c17 => ?_) (fun c17 => ?_)
  rotate_left
  · rw [if_pos c17] at k
    refine x_iconst hP rfl ?_
    refine x_goto hP rfl ?_
    refine x_iret hP rfl rfl ?_
    exact k
  rw [if_neg c17] at k
  refine x_lload_n hP rfl rfl ?_
  refine x_ldcL hP rfl ?_
  refine x_lcmp hP rfl ?_
  first | refine zb_if_ne hP rfl (fun c29 => ?_) (fun c29 => ?_) | refine zl_if_ne hP rfl (fun c29 => ?_) (fun c29 => ?_) | refine z_if_ne hP rfl (by omega) (fun c29 => ?_) (fun c29 => ?_)
  rotate_left
  · rw [if_pos c29] at k
    refine x_iconst hP rfl ?_
    refine x_goto hP rfl ?_
    refine x_iret hP rfl rfl ?_
    exact k
  rw [if_neg c29] at k
  refine x_lload_n hP rfl rfl ?_
  refine x_ldcL hP rfl ?_
  refine x_lcmp hP rfl ?_
  first | refine zb_if_ne hP rfl (fun c41 => ?_) (fun c41 => ?_) | refine zl_if_ne hP rfl (fun c41 => ?_) (fun c41 => ?_) | refine z_if_ne hP rfl (by omega) (fun c41 => ?_) (fun c41 => ?_)
  rotate_left
  · rw [if_pos c41] at k
    refine x_iconst hP rfl ?_
    refine x_goto hP rfl ?_
    refine x_iret hP rfl rfl ?_
    exact k
  rw [if_neg c41] at k
  refine x_lload_n hP rfl rfl ?_
  refine x_ldcL hP rfl ?_
  refine x_lcmp hP rfl ?_
  first | refine zb_if_ne hP rfl (fun c53 => ?_) (fun c53 => ?_) | refine zl_if_ne hP rfl (fun c53 => ?_) (fun c53 => ?_) | refine z_if_ne hP rfl (by omega) (fun c53 => ?_) (fun c53 => ?_)
  rotate_left
  · rw [if_pos c53] at k
    refine x_iconst hP rfl ?_
    refine x_goto hP rfl ?_
    refine x_iret hP rfl rfl ?_
    exact k
  rw [if_neg c53] at k
  refine x_lload_n hP rfl rfl ?_
  refine x_ldcL hP rfl ?_
  refine x_lcmp hP rfl ?_
  first | refine zb_if_ne hP rfl (fun c65 => ?_) (fun c65 => ?_) | refine zl_if_ne hP rfl (fun c65 => ?_) (fun c65 => ?_) | refine z_if_ne hP rfl (by omega) (fun c65 => ?_) (fun c65 => ?_)
  rotate_left
  · rw [if_pos c65] at k
    refine x_iconst hP rfl ?_
    refine x_goto hP rfl ?_
    refine x_iret hP rfl rfl ?_
    exact k
  rw [if_neg c65] at k
  refine x_lload_n hP rfl rfl ?_
  refine x_ldcL hP rfl ?_
  refine x_lcmp hP rfl ?_
  first | refine zb_if_ne hP rfl (fun c77 => ?_) (fun c77 => ?_) | refine zl_if_ne hP rfl (fun c77 => ?_) (fun c77 => ?_) | refine z_if_ne hP rfl (by omega) (fun c77 => ?_) (fun c77 => ?_)
  rotate_left
  · rw [if_pos c77] at k
    refine x_bipush hP rfl ?_
    refine x_goto hP rfl ?_
    refine x_iret hP rfl rfl ?_
    exact k
  rw [if_neg c77] at k
  refine x_lload_n hP rfl rfl ?_
  refine x_ldcL hP rfl ?_
  refine x_lcmp hP rfl ?_
  first | refine zb_if_ne hP rfl (fun c90 => ?_) (fun c90 => ?_) | refine zl_if_ne hP rfl (fun c90 => ?_) (fun c90 => ?_) | refine z_if_ne hP rfl (by omega) (fun c90 => ?_) (fun c90 => ?_)
  rotate_left
  · rw [if_pos c90] at k
    refine x_bipush hP rfl ?_
    refine x_goto hP rfl ?_
    refine x_iret hP rfl rfl ?_
    exact k
  rw [if_neg c90] at k
  refine x_lload_n hP rfl rfl ?_
  refine x_ldcL hP rfl ?_
  refine x_lcmp hP rfl ?_
  first | refine zb_if_ne hP rfl (fun c103 => ?_) (fun c103 => ?_) | refine zl_if_ne hP rfl (fun c103 => ?_) (fun c103 => ?_) | refine z_if_ne hP rfl (by omega) (fun c103 => ?_) (fun c103 => ?_)
  rotate_left
  · rw [if_pos c103] at k
    refine x_bipush hP rfl ?_
    refine x_goto hP rfl ?_
    refine x_iret hP rfl rfl ?_
    exact k
  rw [if_neg c103] at k
  refine x_lload_n hP rfl rfl ?_
  refine x_ldcL hP rfl ?_
  refine x_lcmp hP rfl ?_
  first | refine zb_if_ne hP rfl (fun c116 => ?_) (fun c116 => ?_) | refine zl_if_ne hP rfl (fun c116 => ?_) (fun c116 => ?_) | refine z_if_ne hP rfl (by omega) (fun c116 => ?_) (fun c116 => ?_)
  rotate_left
  · rw [if_pos c116] at k
    refine x_bipush hP rfl ?_
    refine x_goto hP rfl ?_
    refine x_iret hP rfl rfl ?_
    exact k
  rw [if_neg c116] at k
  refine x_lload_n hP rfl rfl ?_
  refine x_ldcL hP rfl ?_
  refine x_lcmp hP rfl ?_
  first | refine zb_if_ne hP rfl (fun c129 => ?_) (fun c129 => ?_) | refine zl_if_ne hP rfl (fun c129 => ?_) (fun c129 => ?_) | refine z_if_ne hP rfl (by omega) (fun c129 => ?_) (fun c129 => ?_)
  rotate_left
  · rw [if_pos c129] at k
    refine x_bipush hP rfl ?_
    refine x_goto hP rfl ?_
    refine x_iret hP rfl rfl ?_
    exact k
  rw [if_neg c129] at k
  refine x_lload_n hP rfl rfl ?_
  refine x_ldcL hP rfl ?_
  refine x_lcmp hP rfl ?_
  first | refine zb_if_ne hP rfl (fun c142 => ?_) (fun c142 => ?_) | refine zl_if_ne hP rfl (fun c142 => ?_) (fun c142 => ?_) | refine z_if_ne hP rfl (by omega) (fun c142 => ?_) (fun c142 => ?_)
  rotate_left
  · rw [if_pos c142] at k
    refine x_bipush hP rfl ?_
    refine x_goto hP rfl ?_
    refine x_iret hP rfl rfl ?_
    exact k
  rw [if_neg c142] at k
  refine x_iconst hP rfl ?_
  refine x_iret hP rfl rfl ?_
  exact k
theorem r_act0B (hP : x_closed E P) {q : Nat} {e : Int} (he : 0 ≤ e ∧ e < 2147483648) (k : Q (some (.int (iI 0))) (x_hp (rT I q e) J R)) : P 186 (d + 3) 0 (x_la 0 [.ref 122]) [] (x_hp (rT I q e) J R) rc rs Q := by
  have g1 : rT I q e 1580 122 0 = iI q := rfl
  first | refine x_aload_n hP rfl rfl ?_ | refine x_aload_nN hP rfl rfl ?_
  refine x_getI hP rfl (by first | assumption | rfl) (by first | assumption | exact hR _ _ _ _ rfl | exact hR1 _ _ _ _ rfl | exact hR2 _ _ _ _ rfl | rfl) ?_
  refine x_istore_n hP rfl ?_
  first | refine x_aload_n hP rfl rfl ?_ | refine x_aload_nN hP rfl rfl ?_
  refine x_iconst hP rfl ?_
  refine x_callV1 (ci := 9) hP 0 0 rfl rfl rfl (by first | assumption | rfl) rfl rfl rfl (Nat.zero_le _) (Nat.zero_le _) ?_
  refine r_nameB hP he ?_
  refine x_lstore_n hP rfl ?_
  first | refine x_aload_n hP rfl rfl ?_ | refine x_aload_nN hP rfl rfl ?_
  refine x_callV0 (ci := 9) hP 0 0 rfl rfl rfl (by first | assumption | rfl) rfl rfl rfl (Nat.zero_le _) (Nat.zero_le _) ?_
  refine r_badB hP he ?_
  first | refine zb_if_eq hP rfl (fun c15 => ?_) (fun c15 => ?_) | refine zl_if_eq hP rfl (fun c15 => ?_) (fun c15 => ?_) | refine z_if_eq hP rfl (by omega) (fun c15 => ?_) (fun c15 => ?_)
  · cases c15
  refine x_iconst hP rfl ?_
  refine x_iret hP rfl rfl ?_
  exact k
theorem r_act0 (hP : x_closed E P) (hR : x_fin R) (ht : txB I n c) (hp : p ≤ n) (k : qPost Q I J R (fun v => ∃ z : Int, v = .int (iI z)) (fun m => .int (iI (m : Nat))) (actR c n p)) : P 186 (d + 3) 0 (x_la 0 [.ref 122]) [] (x_hp (rT I p (-1)) J R) rc rs Q := by
  have h2 := ht.2.1
  have c256 := ht.2.2.1
  have g1 : rT I p (-1) 1580 122 0 = iI p := rfl
  have hrl := rl_le (c := c) hp
  unfold actR at k
  first | refine x_aload_n hP rfl rfl ?_ | refine x_aload_nN hP rfl rfl ?_
  refine x_getI hP rfl (by first | assumption | rfl) (by first | assumption | exact hR _ _ _ _ rfl | exact hR1 _ _ _ _ rfl | exact hR2 _ _ _ _ rfl | rfl) ?_
  refine x_istore_n hP rfl ?_
  first | refine x_aload_n hP rfl rfl ?_ | refine x_aload_nN hP rfl rfl ?_
  refine x_iconst hP rfl ?_
  refine x_callV1 (ci := 9) hP 0 0 rfl rfl rfl (by first | assumption | rfl) rfl rfl rfl (Nat.zero_le _) (Nat.zero_le _) ?_
  refine r_nameO (wd := true) hP hR ht hp ?_
  rw [nmR_eq]
  by_cases a : isLt (ch c n p) = true ∧ rl c n p ≤ 8
  rotate_left
  · rw [show (if isLt (ch c n p) = true then (if rl c n p ≤ 8 then .inr (wk c p (rl c n p), p + rl c n p) else .inl (if true = true then p else p + 8)) else .inl p : Nat ⊕ (Int64 × Nat)) = .inl p by
      by_cases a1 : isLt (ch c n p) = true
      · rw [if_pos a1, if_neg (fun z => a ⟨a1, z⟩), if_pos rfl]
      · rw [if_neg a1]]
    have none : actN (wdV c n p) = none := by
      cases h : actN (wdV c n p) with
      | none => rfl
      | some x => exact absurd (act_wd c256 hp h) a
    rw [none] at k
    intro q v hv
    rw [hv]
    refine x_lstore_n hP rfl ?_
    first | refine x_aload_n hP rfl rfl ?_ | refine x_aload_nN hP rfl rfl ?_
    refine x_callV0 (ci := 9) hP 0 0 rfl rfl rfl (by first | assumption | rfl) rfl rfl rfl (Nat.zero_le _) (Nat.zero_le _) ?_
    refine r_badB hP (by omega) ?_
    first | refine zb_if_eq hP rfl (fun c15 => ?_) (fun c15 => ?_) | refine zl_if_eq hP rfl (fun c15 => ?_) (fun c15 => ?_) | refine z_if_eq hP rfl (by omega) (fun c15 => ?_) (fun c15 => ?_)
    · cases c15
    refine x_iconst hP rfl ?_
    refine x_iret hP rfl rfl ?_
    exact k _ _ ⟨0, rfl⟩
  rw [if_pos a.1, if_pos a.2]
  have ew : wdV c n p = wk c p (rl c n p) := by unfold wdV; rw [if_pos a.2]
  rw [ew] at k
  show P _ _ _ _ (Value.long (wk c p (rl c n p)) :: _) _ _ _ _
  refine x_lstore_n hP rfl ?_
  first | refine x_aload_n hP rfl rfl ?_ | refine x_aload_nN hP rfl rfl ?_
  refine x_callV0 (ci := 9) hP 0 0 rfl rfl rfl (by first | assumption | rfl) rfl rfl rfl (Nat.zero_le _) (Nat.zero_le _) ?_
  refine r_badO hP ?_
  first | refine zb_if_eq hP rfl (fun c15 => ?_) (fun c15 => ?_) | refine zl_if_eq hP rfl (fun c15 => ?_) (fun c15 => ?_) | refine z_if_eq hP rfl (by omega) (fun c15 => ?_) (fun c15 => ?_)
  rotate_left
  · cases c15
  refine x_lload_n hP rfl rfl ?_
  refine x_callS1 hP 0 0 rfl rfl rfl rfl rfl (Nat.zero_le _) (Nat.zero_le _) ?_
  refine r_actOf hP ?_
  have al := fun x h => actN_lt (v := wk c p (rl c n p)) (a := x) h
  generalize actN (wk c p (rl c n p)) = oa at k al ⊢
  match oa, k, al with
  | none, k, _ =>
    show P _ _ _ _ (Value.int (iI (-1)) :: _) _ _ _ _
    refine x_istore hP rfl ?_
    refine x_iload hP rfl rfl ?_
    refine x_iconst hP rfl ?_
    first | refine z_icmp_ne hP rfl (by omega) (by omega) (fun c29 => ?_) (fun c29 => ?_) | refine x_icmp_ne hP rfl (fun c29 => ?_) (fun c29 => ?_)
    · exact absurd rfl c29
    first | refine x_aload_n hP rfl rfl ?_ | refine x_aload_nN hP rfl rfl ?_
    refine x_iload_n hP rfl rfl ?_
    refine x_callV1 (ci := 9) hP 0 0 rfl rfl rfl (by first | assumption | rfl) rfl rfl rfl (Nat.zero_le _) (Nat.zero_le _) ?_
    refine r_failO hP ?_
    refine x_iload hP rfl rfl ?_
    refine x_iret hP rfl rfl ?_
    exact k _ _ ⟨-1, rfl⟩
  | some x, k, al =>
    have al := al x rfl
    show P _ _ _ _ (Value.int (iI (x : Nat)) :: _) _ _ _ _
    refine x_istore hP rfl ?_
    refine x_iload hP rfl rfl ?_
    refine x_iconst hP rfl ?_
    first | refine z_icmp_ne hP rfl (by omega) (by omega) (fun c29 => ?_) (fun c29 => ?_) | refine x_icmp_ne hP rfl (fun c29 => ?_) (fun c29 => ?_)
    · refine x_iload hP rfl rfl ?_
      refine x_iret hP rfl rfl ?_
      exact k
    · omega
theorem r_isJoin (hP : x_closed E P) {x : Int} (hx : -2147483648 ≤ x ∧ x < 2147483648) {h : x_H} (k : Q (some (.int (bI (isSg x)))) h) : P 198 d 0 (x_la 0 [.int (iI x)]) [] h rc rs Q := by
  unfold isSg at k
  refine x_iload_n hP rfl rfl ?_
  refine x_bipush hP rfl ?_
  first | refine z_icmp_eq hP rfl (by omega) (by omega) (fun c3 => ?_) (fun c3 => ?_) | refine x_icmp_eq hP rfl (fun c3 => ?_) (fun c3 => ?_)
  · rw [decide_eq_true (by omega)] at k
    refine x_iconst hP rfl ?_
    refine x_goto hP rfl ?_
    refine x_zret hP rfl rfl (by first | exact Or.inl iI_0 | exact Or.inr iI_1 | exact bI_or _ | assumption) ?_
    exact k
  refine x_iload_n hP rfl rfl ?_
  refine x_bipush hP rfl ?_
  first | refine z_icmp_eq hP rfl (by omega) (by omega) (fun c9 => ?_) (fun c9 => ?_) | refine x_icmp_eq hP rfl (fun c9 => ?_) (fun c9 => ?_)
  · rw [decide_eq_true (by omega)] at k
    refine x_iconst hP rfl ?_
    refine x_goto hP rfl ?_
    refine x_zret hP rfl rfl (by first | exact Or.inl iI_0 | exact Or.inr iI_1 | exact bI_or _ | assumption) ?_
    exact k
  refine x_iload_n hP rfl rfl ?_
  refine x_bipush hP rfl ?_
  first | refine z_icmp_eq hP rfl (by omega) (by omega) (fun c15 => ?_) (fun c15 => ?_) | refine x_icmp_eq hP rfl (fun c15 => ?_) (fun c15 => ?_)
  · rw [decide_eq_true (by omega)] at k
    refine x_iconst hP rfl ?_
    refine x_goto hP rfl ?_
    refine x_zret hP rfl rfl (by first | exact Or.inl iI_0 | exact Or.inr iI_1 | exact bI_or _ | assumption) ?_
    exact k
  refine x_iload_n hP rfl rfl ?_
  refine x_bipush hP rfl ?_
  first | refine z_icmp_ne hP rfl (by omega) (by omega) (fun c21 => ?_) (fun c21 => ?_) | refine x_icmp_ne hP rfl (fun c21 => ?_) (fun c21 => ?_)
  · rw [decide_eq_false (by omega)] at k
    refine x_iconst hP rfl ?_
    refine x_zret hP rfl rfl (by first | exact Or.inl iI_0 | exact Or.inr iI_1 | exact bI_or _ | assumption) ?_
    exact k
  · rw [decide_eq_true (by omega)] at k
    refine x_iconst hP rfl ?_
    refine x_goto hP rfl ?_
    refine x_zret hP rfl rfl (by first | exact Or.inl iI_0 | exact Or.inr iI_1 | exact bI_or _ | assumption) ?_
    exact k
theorem r_fAt_loop (hP : x_closed E P) (hR : x_fin R) (ht : txB I n c) : ∀ (f m : Nat), p + m ≤ n → n - (p + m) ≤ f → Q (some (.int (iI (oI (fncN (wk c p (m + rn c n (p + m) f))))))) (x_hp I J R) → ∀ rc rs, P 191 (d + 1) 5 (x_ls [some (.ref 122), some (.int (iI p)), some (.long (wk c p m)), none, some (.int (iI (p + m : Nat)))]) [] (x_hp I J R) rc rs Q := by
  have h2 := ht.2.1
  have s1 := ht.1
  intro f
  induction f with
  | zero =>
    intro m hm hf k rc rs
    refine x_iload hP rfl rfl ?_
    first | refine x_aload_n hP rfl rfl ?_ | refine x_aload_nN hP rfl rfl ?_
    refine x_getI hP rfl (by first | assumption | rfl) (by first | assumption | exact hR _ _ _ _ rfl | exact hR1 _ _ _ _ rfl | exact hR2 _ _ _ _ rfl | rfl) ?_
    refine z_icmp_ge hP rfl (by omega) (by omega) (fun c11 => ?_) (fun c11 => ?_)
    · refine x_lload_n hP rfl rfl ?_
      refine x_callS1 hP 0 0 rfl rfl rfl rfl rfl (Nat.zero_le _) (Nat.zero_le _) ?_
      refine r_functionOf hP ?_
      refine x_iret hP rfl rfl ?_
      exact k
    · omega
  | succ f ih =>
    intro m hm hf k rc rs
    have out : isLD (ch c n (p + m)) = false → ∀ L r1 r2, x_ag L 0 [some (.ref 122), some (.int (iI p)), some (.long (wk c p m))] → P 191 (d + 1) 60 L [] (x_hp I J R) r1 r2 Q := by
      intro hl L r1 r2 hL
      refine x_re hP _ hL ?_
      rw [rn_0 hl] at k
      refine x_lload_n hP rfl rfl ?_
      refine x_callS1 hP 0 0 rfl rfl rfl rfl rfl (Nat.zero_le _) (Nat.zero_le _) ?_
      refine r_functionOf hP ?_
      refine x_iret hP rfl rfl ?_
      exact k
    refine x_iload hP rfl rfl ?_
    first | refine x_aload_n hP rfl rfl ?_ | refine x_aload_nN hP rfl rfl ?_
    refine x_getI hP rfl (by first | assumption | rfl) (by first | assumption | exact hR _ _ _ _ rfl | exact hR1 _ _ _ _ rfl | exact hR2 _ _ _ _ rfl | rfl) ?_
    refine z_icmp_ge hP rfl (by omega) (by omega) (fun c11 => ?_) (fun c11 => ?_)
    · exact out (by
        have : ch c n (p + m) = -1 := by unfold ch; rw [if_neg (by omega)]
        rw [this]; rfl) _ _ _ ⟨rfl, rfl, rfl, trivial⟩
    have e : ch c n (p + m) = (c (p + m) : Nat) := by unfold ch; rw [if_pos (by omega)]
    have v := ht.2.2.2 (p + m) (by omega)
    have cb := ht.2.2.1 (p + m)
    have go : isLD (ch c n (p + m)) = true → ∀ L r1 r2, x_ag L 0 [some (.ref 122), some (.int (iI p)), some (.long (wk c p m)), none, some (.int (iI (p + m : Nat)))] → P 191 (d + 1) 40 L [] (x_hp I J R) r1 r2 Q := by
      intro hl L r1 r2 hL
      refine x_re hP _ hL ?_
      rw [rn_1 hl] at k
      refine x_lload_n hP rfl rfl ?_
      refine x_bipush hP rfl ?_
      refine x_lshl hP rfl ?_
      first | refine x_aload_n hP rfl rfl ?_ | refine x_aload_nN hP rfl rfl ?_
      refine x_getR hP rfl (by first | assumption | rfl) (by first | assumption | exact hR _ _ _ _ rfl | exact hR1 _ _ _ _ rfl | exact hR2 _ _ _ _ rfl | rfl) ?_
      refine x_iload hP rfl rfl ?_
      refine z_iald hP rfl (by first | assumption | rfl) (by first | decide | omega) (by omega) (by first | assumption | exact hR _ _ _ _ rfl | exact hR1 _ _ _ _ rfl | exact hR2 _ _ _ _ rfl | rfl) ?_
      refine x_i2l hP rfl ?_
      refine x_lor hP rfl ?_
      refine x_lstore_n hP rfl ?_
      refine z_iinc hP rfl rfl rfl ?_
      refine x_goto hP rfl ?_
      refine x_re hP [some (.ref 122), some (.int (iI p)), some (.long (wk c p (m + 1))), none, some (.int (iI (p + (m + 1) : Nat)))] ⟨rfl, rfl, rfl, rfl, trivial⟩ (ih (m + 1) (by omega) (by omega) ?_ _ _)
      rw [show m + 1 + rn c n (p + (m + 1)) f = m + (rn c n (p + m + 1) f + 1) by rw [show p + (m + 1) = p + m + 1 by omega]; omega]
      exact k
    first | refine x_aload_n hP rfl rfl ?_ | refine x_aload_nN hP rfl rfl ?_
    refine x_getR hP rfl (by first | assumption | rfl) (by first | assumption | exact hR _ _ _ _ rfl | exact hR1 _ _ _ _ rfl | exact hR2 _ _ _ _ rfl | rfl) ?_
    refine x_iload hP rfl rfl ?_
    refine z_iald hP rfl (by first | assumption | rfl) (by first | decide | omega) (by omega) (by first | assumption | exact hR _ _ _ _ rfl | exact hR1 _ _ _ _ rfl | exact hR2 _ _ _ _ rfl | rfl) ?_
    refine x_callS1 hP 0 0 rfl rfl rfl rfl rfl (Nat.zero_le _) (Nat.zero_le _) ?_
    refine r_isSmall hP (by omega) ?_
    first | refine zb_if_ne hP rfl (fun c24 => ?_) (fun c24 => ?_) | refine zl_if_ne hP rfl (fun c24 => ?_) (fun c24 => ?_) | refine z_if_ne hP rfl (by omega) (fun c24 => ?_) (fun c24 => ?_)
    · exact go (by rw [isLD_eq, e, c24]; rfl) _ _ _ ⟨rfl, rfl, rfl, rfl, trivial⟩
    first | refine x_aload_n hP rfl rfl ?_ | refine x_aload_nN hP rfl rfl ?_
    refine x_getR hP rfl (by first | assumption | rfl) (by first | assumption | exact hR _ _ _ _ rfl | exact hR1 _ _ _ _ rfl | exact hR2 _ _ _ _ rfl | rfl) ?_
    refine x_iload hP rfl rfl ?_
    refine z_iald hP rfl (by first | assumption | rfl) (by first | decide | omega) (by omega) (by first | assumption | exact hR _ _ _ _ rfl | exact hR1 _ _ _ _ rfl | exact hR2 _ _ _ _ rfl | rfl) ?_
    refine x_callS1 hP 0 0 rfl rfl rfl rfl rfl (Nat.zero_le _) (Nat.zero_le _) ?_
    refine r_isDigit hP (by omega) ?_
    first | refine zb_if_eq hP rfl (fun c37 => ?_) (fun c37 => ?_) | refine zl_if_eq hP rfl (fun c37 => ?_) (fun c37 => ?_) | refine z_if_eq hP rfl (by omega) (fun c37 => ?_) (fun c37 => ?_)
    · exact out (by rw [isLD_eq, e, c24, c37]; rfl) _ _ _ ⟨rfl, rfl, rfl, trivial⟩
    · exact go (by rw [isLD_eq, e, c37, Bool.or_true]) _ _ _ ⟨rfl, rfl, rfl, rfl, trivial⟩
theorem r_functionAt (hP : x_closed E P) (hR : x_fin R) (ht : txB I n c) (hp : p ≤ n) (k : Q (some (.int (iI (oI (fncN (wk c p (rl c n p))))))) (x_hp I J R)) : P 191 (d + 1) 0 (x_la 0 [.ref 122, .int (iI p)]) [] (x_hp I J R) rc rs Q := by
  refine x_lconst hP rfl ?_
  refine x_lstore_n hP rfl ?_
  refine x_iload_n hP rfl rfl ?_
  refine x_istore hP rfl ?_
  refine x_re hP [some (.ref 122), some (.int (iI p)), some (.long (wk c p 0)), none, some (.int (iI (p + 0 : Nat)))] ⟨rfl, rfl, rfl, rfl, trivial⟩ (r_fAt_loop hP hR ht (n - p) 0 (by omega) (by omega) ?_ _ _)
  rw [Nat.zero_add, Nat.add_zero]
  exact k
/-- what a new frame changes -/
def mF (l _k a i : Nat) : Prop := 145 ≤ a ∧ i = l
theorem r_frame (hP : x_closed E P) (hR : x_fin R) {l f : Nat} (hl : l < 7) (k : ∀ I', I' 1 145 l = iI f → I' 1 146 l = iI p → I' 3 150 l = bI false → I' 3 151 l = bI false → frP (mF l) I I' → Q none (x_hp (rT I' p (-1)) J R)) : P 180 d 0 (x_la 0 [.ref 122, .int (iI l), .int (iI f)]) [] (x_hp (rT I p (-1)) J R) rc rs Q := by
  first | refine x_aload_n hP rfl rfl ?_ | refine x_aload_nN hP rfl rfl ?_
  refine x_getR hP rfl (by first | assumption | rfl) (by first | assumption | exact hR _ _ _ _ rfl | exact hR1 _ _ _ _ rfl | exact hR2 _ _ _ _ rfl | rfl) ?_
  refine x_iload_n hP rfl rfl ?_
  refine x_iload_n hP rfl rfl ?_
  refine z_iast hP rfl (by first | assumption | rfl) (by first | decide | omega) (by omega) ?_
  first | refine w_nI ?_ | refine w_nL ?_ | refine w_nR ?_ | refine w_mI ?_ | refine w_mL ?_ | refine w_mR ?_ | skip
  rw [Int.toNat_natCast, rT_x (by decide)]
  have s1 : rT (x_at I 1 145 l (iI f)) p (-1) 1580 122 0 = iI p := rfl
  first | refine x_aload_n hP rfl rfl ?_ | refine x_aload_nN hP rfl rfl ?_
  refine x_getR hP rfl (by first | assumption | rfl) (by first | assumption | exact hR _ _ _ _ rfl | exact hR1 _ _ _ _ rfl | exact hR2 _ _ _ _ rfl | rfl) ?_
  refine x_iload_n hP rfl rfl ?_
  first | refine x_aload_n hP rfl rfl ?_ | refine x_aload_nN hP rfl rfl ?_
  refine x_getI hP rfl (by first | assumption | rfl) (by first | assumption | exact hR _ _ _ _ rfl | exact hR1 _ _ _ _ rfl | exact hR2 _ _ _ _ rfl | rfl) ?_
  refine z_iast hP rfl (by first | assumption | rfl) (by first | decide | omega) (by omega) ?_
  first | refine w_nI ?_ | refine w_nL ?_ | refine w_nR ?_ | refine w_mI ?_ | refine w_mL ?_ | refine w_mR ?_ | skip
  rw [Int.toNat_natCast, rT_x (by decide)]
  have s2 : rT (x_at (x_at I 1 145 l (iI f)) 1 146 l (iI p)) p (-1) 1580 122 0 = iI p := rfl
  first | refine x_aload_n hP rfl rfl ?_ | refine x_aload_nN hP rfl rfl ?_
  refine x_getR hP rfl (by first | assumption | rfl) (by first | assumption | exact hR _ _ _ _ rfl | exact hR1 _ _ _ _ rfl | exact hR2 _ _ _ _ rfl | rfl) ?_
  refine x_iload_n hP rfl rfl ?_
  first | refine x_aload_n hP rfl rfl ?_ | refine x_aload_nN hP rfl rfl ?_
  refine x_getI hP rfl (by first | assumption | rfl) (by first | assumption | exact hR _ _ _ _ rfl | exact hR1 _ _ _ _ rfl | exact hR2 _ _ _ _ rfl | rfl) ?_
  refine z_iast hP rfl (by first | assumption | rfl) (by first | decide | omega) (by omega) ?_
  first | refine w_nI ?_ | refine w_nL ?_ | refine w_nR ?_ | refine w_mI ?_ | refine w_mL ?_ | refine w_mR ?_ | skip
  rw [Int.toNat_natCast, rT_x (by decide)]
  first | refine x_aload_n hP rfl rfl ?_ | refine x_aload_nN hP rfl rfl ?_
  refine x_getR hP rfl (by first | assumption | rfl) (by first | assumption | exact hR _ _ _ _ rfl | exact hR1 _ _ _ _ rfl | exact hR2 _ _ _ _ rfl | rfl) ?_
  refine x_iload_n hP rfl rfl ?_
  refine x_iconst hP rfl ?_
  refine z_zast hP rfl (by first | assumption | rfl) (by first | decide | omega) (by omega) ?_
  first | refine w_nI ?_ | refine w_nL ?_ | refine w_nR ?_ | refine w_mI ?_ | refine w_mL ?_ | refine w_mR ?_ | skip
  rw [Int.toNat_natCast, rT_x (by decide)]
  first | refine x_aload_n hP rfl rfl ?_ | refine x_aload_nN hP rfl rfl ?_
  refine x_getR hP rfl (by first | assumption | rfl) (by first | assumption | exact hR _ _ _ _ rfl | exact hR1 _ _ _ _ rfl | exact hR2 _ _ _ _ rfl | rfl) ?_
  refine x_iload_n hP rfl rfl ?_
  refine x_iconst hP rfl ?_
  refine z_zast hP rfl (by first | assumption | rfl) (by first | decide | omega) (by omega) ?_
  first | refine w_nI ?_ | refine w_nL ?_ | refine w_nR ?_ | refine w_mI ?_ | refine w_mL ?_ | refine w_mR ?_ | skip
  rw [Int.toNat_natCast, rT_x (by decide)]
  first | refine x_aload_n hP rfl rfl ?_ | refine x_aload_nN hP rfl rfl ?_
  first | refine x_getR hP rfl (by first | assumption | rfl) (by first | assumption | exact hR _ _ _ _ rfl | exact hR1 _ _ _ _ rfl | exact hR2 _ _ _ _ rfl | rfl) ?_ | refine x_getN hP rfl (by first | assumption | rfl) (by first | assumption | exact hR _ _ _ _ rfl | exact hR1 _ _ _ _ rfl | exact hR2 _ _ _ _ rfl | rfl) ?_
  refine x_iload_n hP rfl rfl ?_
  refine x_iconst hP rfl ?_
  refine z_iast hP rfl (by first | assumption | rfl) (by first | decide | omega) (by omega) ?_
  first | refine w_nI ?_ | refine w_nL ?_ | refine w_nR ?_ | refine w_mI ?_ | refine w_mL ?_ | refine w_mR ?_ | skip
  rw [Int.toNat_natCast, rT_x (by decide)]
  refine x_vret hP rfl rfl ?_
  refine k _ ?_ ?_ ?_ ?_ (frP_at (frP_at (frP_at (frP_at (frP_at (frP_at (frP_refl _ _) ⟨by decide, rfl⟩) ⟨by decide, rfl⟩) ⟨by decide, rfl⟩) ⟨by decide, rfl⟩) ⟨by decide, rfl⟩) ⟨by decide, rfl⟩)
  · rw [x_at_eq, if_neg (by omega), x_at_eq, if_neg (by omega), x_at_eq, if_neg (by omega), x_at_eq, if_neg (by omega), x_at_eq, if_neg (by omega), x_at_eq, if_pos ⟨rfl, rfl, rfl⟩]
  · rw [x_at_eq, if_neg (by omega), x_at_eq, if_neg (by omega), x_at_eq, if_neg (by omega), x_at_eq, if_neg (by omega), x_at_eq, if_pos ⟨rfl, rfl, rfl⟩]
  · rw [x_at_eq, if_neg (by omega), x_at_eq, if_neg (by omega), x_at_eq, if_pos ⟨rfl, rfl, rfl⟩]; rfl
  · rw [x_at_eq, if_neg (by omega), x_at_eq, if_pos ⟨rfl, rfl, rfl⟩]; rfl
end
