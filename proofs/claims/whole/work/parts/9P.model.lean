/-! the reference's constructor; the start -/
theorem kd_ge {a : Nat} (h : 152 ≤ a) : x_kd0 a = (0, 0) := by
  unfold x_kd0
  rw [blt_f (show 76 ≤ a by omega), cond_false, blt_f (show 114 ≤ a by omega), cond_false, blt_f (show 133 ≤ a by omega), cond_false, blt_f (show 142 ≤ a by omega), cond_false, blt_f (show 147 ≤ a by omega), cond_false, blt_f (show 149 ≤ a by omega), cond_false, blt_f (show 150 ≤ a by omega), cond_false, blt_f (show 151 ≤ a by omega), cond_false, x_beq, decide_eq_false (show ¬ a = 151 by omega), cond_false]
theorem kpn_all : kpn 152 = x_kd0 := funext fun a => by
  rcases Nat.lt_or_ge a 152 with z | z
  · exact kpn_lt z
  · rw [kpn_ge z, kd_ge z]
def x_FLm : List (Nat × Nat × Nat × Nat) := [(1576, 122, 0, 123), (1577, 122, 0, 124), (1582, 122, 0, 125), (1583, 122, 0, 126), (1584, 122, 0, 127), (1585, 122, 0, 128), (1586, 122, 0, 129), (1587, 122, 0, 130), (1588, 122, 0, 131), (1589, 122, 0, 132), (1590, 122, 0, 133), (1591, 122, 0, 134), (1592, 122, 0, 135), (1593, 122, 0, 136), (1594, 122, 0, 137), (1597, 122, 0, 138), (1598, 122, 0, 139), (1599, 122, 0, 140), (1600, 122, 0, 141), (1601, 122, 0, 142), (1603, 122, 0, 143), (1604, 122, 0, 144), (1606, 122, 0, 145), (1607, 122, 0, 146), (1608, 122, 0, 147), (1609, 122, 0, 148), (1610, 122, 0, 149), (1611, 122, 0, 150), (1612, 122, 0, 151)]
theorem x_FL_eq : x_FL = x_FLb ++ x_FLm := rfl
theorem x_FLb_lt : ∀ e ∈ x_FLb, e.2.1 < 122 := by decide +kernel
def c0 : Nat → Nat := fun _ => 0
/-- the state at the start -/
def S0 : x_St := (0, c0, (T0, nuNil, fun _ => ([], [])), ([], []), [])
theorem T0_D : tD T0 = 1 := rfl
theorem T0_M : tM T0 = 1 := rfl
theorem T0_S : tS T0 0 = 1 := rfl
theorem T0_N : tN T0 0 0 = lI 116 := rfl
theorem T0_P : tP T0 0 0 = -1 := rfl
theorem T0_H : tH T0 0 0 = 0 := rfl
theorem T0_K : tK T0 0 = lI 109 := rfl
section
variable {E : x_E} {P : x_Pr} {d rc rs : Nat} {I : x_M Int32} {J : x_M Int64} {R : x_M (Option Nat)} {Q : x_Q}
theorem n_mod4 (hP : x_closed E P) (hR : x_fin R) (k : ∀ I' L r1 r2, (∀ a, a < 360 → I' 1 138 a = iI (-2000000000)) → frP (fun _ a _ => a = 138) I I' → x_ag L 0 [some (.ref 122)] → P 154 (d + 1) 307 L [] (x_hp I' J R) r1 r2 Q) : ∀ (f i : Nat) (I1 : x_M Int32), i + f = 360 → (∀ a, a < i → I1 1 138 a = iI (-2000000000)) → frP (fun _ a _ => a = 138) I I1 → ∀ rc rs, P 154 (d + 1) 286 (x_ls [some (.ref 122), some (.int (iI i))]) [] (x_hp I1 J R) rc rs Q := by
  intro f
  induction f with
  | zero =>
    intro i I1 hi hm hf rc rs
    refine x_iload_n hP rfl rfl ?_
    refine x_sipush hP rfl ?_
    refine z_icmp_ge hP rfl (by omega) (by omega) (fun c290 => ?_) (fun c290 => ?_)
    · exact k I1 _ _ _ (fun a ha => hm a (by omega)) hf ⟨rfl, trivial⟩
    · omega
  | succ f ih =>
    intro i I1 hi hm hf rc rs
    refine x_iload_n hP rfl rfl ?_
    refine x_sipush hP rfl ?_
    refine z_icmp_ge hP rfl (by omega) (by omega) (fun c290 => ?_) (fun c290 => ?_)
    · omega
    first | refine x_aload_n hP rfl rfl ?_ | refine x_aload_nN hP rfl rfl ?_
    refine x_getR hP rfl (by first | assumption | rfl) (by first | assumption | exact hR _ _ _ _ rfl | exact hR1 _ _ _ _ rfl | exact hR2 _ _ _ _ rfl | rfl) ?_
    refine x_iload_n hP rfl rfl ?_
    refine x_ldcI hP rfl ?_
    refine z_iast hP rfl (by first | assumption | rfl) (by first | decide | omega) (by omega) ?_
    first | refine w_nI ?_ | refine w_nL ?_ | refine w_nR ?_ | refine w_mI ?_ | refine w_mL ?_ | refine w_mR ?_ | skip
    rw [Int.toNat_natCast]
    refine z_iinc hP rfl rfl rfl ?_
    refine x_goto hP rfl ?_
    refine x_re hP [some (.ref 122), some (.int (iI (i + 1 : Nat)))] ⟨rfl, rfl, trivial⟩ (ih (i + 1) (x_at I1 1 138 i (iI (-2000000000))) (by omega) (fun a ha => ?_) (frP_at hf rfl) _ _)
    rw [x_at_eq]
    by_cases q : a = i
    · rw [if_pos ⟨rfl, rfl, q⟩]
    · rw [if_neg (by omega)]; exact hm a (by omega)
theorem n_mod5 (hP : x_closed E P) (hR : x_fin R) (k : ∀ I', (∀ a, a < 6 → I' 1 142 (1 + a) = iI (-1)) → frP (fun _ a _ => a = 142) I I' → Q none (x_hp I' J R)) : ∀ (f i : Nat) (I1 : x_M Int32), i + f = 6 → (∀ a, a < i → I1 1 142 (1 + a) = iI (-1)) → frP (fun _ a _ => a = 142) I I1 → ∀ rc rs, P 154 (d + 1) 309 (x_ls [some (.ref 122), some (.int (iI (1 + i : Nat)))]) [] (x_hp I1 J R) rc rs Q := by
  intro f
  induction f with
  | zero =>
    intro i I1 hi hm hf rc rs
    refine x_iload_n hP rfl rfl ?_
    refine x_bipush hP rfl ?_
    refine z_icmp_ge hP rfl (by omega) (by omega) (fun c312 => ?_) (fun c312 => ?_)
    · refine x_vret hP rfl rfl ?_
      exact k I1 (fun a ha => hm a (by omega)) hf
    · omega
  | succ f ih =>
    intro i I1 hi hm hf rc rs
    refine x_iload_n hP rfl rfl ?_
    refine x_bipush hP rfl ?_
    refine z_icmp_ge hP rfl (by omega) (by omega) (fun c312 => ?_) (fun c312 => ?_)
    · omega
    first | refine x_aload_n hP rfl rfl ?_ | refine x_aload_nN hP rfl rfl ?_
    refine x_getR hP rfl (by first | assumption | rfl) (by first | assumption | exact hR _ _ _ _ rfl | exact hR1 _ _ _ _ rfl | exact hR2 _ _ _ _ rfl | rfl) ?_
    refine x_iload_n hP rfl rfl ?_
    refine x_iconst hP rfl ?_
    refine z_iast hP rfl (by first | assumption | rfl) (by first | decide | omega) (by omega) ?_
    first | refine w_nI ?_ | refine w_nL ?_ | refine w_nR ?_ | refine w_mI ?_ | refine w_mL ?_ | refine w_mR ?_ | skip
    rw [Int.toNat_natCast]
    refine z_iinc hP rfl rfl rfl ?_
    refine x_goto hP rfl ?_
    refine x_re hP [some (.ref 122), some (.int (iI (1 + (i + 1) : Nat)))] ⟨rfl, rfl, trivial⟩ (ih (i + 1) (x_at I1 1 142 (1 + i) (iI (-1))) (by omega) (fun a ha => ?_) (frP_at hf rfl) _ _)
    rw [x_at_eq]
    by_cases q : a = i
    · rw [if_pos ⟨rfl, rfl, by omega⟩]
    · rw [if_neg (by omega)]; exact hm a (by omega)
theorem n_model (hP : x_closed E P) (hb : bkF I J R) (k : ∀ I' J' R', x_fin R' → frP (fun _ a _ => hh a) I I' → frP (fun _ a _ => hh a) J J' → frP (fun _ a _ => hh a) R R' → rfI I' J' S0 → Q none (x_hp I' J' R')) : P 154 (d + 1) 0 (x_la 0 [.ref 122]) [] (x_hk 123 (kpn 123) I J R) 29 17624 Q := by
  first | refine x_aload_n hP rfl rfl ?_ | refine x_aload_nN hP rfl rfl ?_
  refine x_objI hP rfl (by decide) ?_
  first | refine x_aload_n hP rfl rfl ?_ | refine x_aload_nN hP rfl rfl ?_
  refine x_sipush hP rfl ?_
  refine x_newa (q := 123) (N := 2000) hP rfl (by decide) (by decide) (by decide) rfl (by decide) (by omega) (by omega) ?_
  refine w_new (m := 124) rfl rfl ?_
  refine x_putR hP rfl (by first | assumption | rfl) ?_
  first | refine w_nI ?_ | refine w_nL ?_ | refine w_nR ?_ | refine w_mI ?_ | refine w_mL ?_ | refine w_mR ?_ | skip
  first | refine x_aload_n hP rfl rfl ?_ | refine x_aload_nN hP rfl rfl ?_
  refine x_sipush hP rfl ?_
  refine x_newa (q := 124) (N := 2000) hP rfl (by decide) (by decide) (by decide) rfl (by decide) (by omega) (by omega) ?_
  refine w_new (m := 125) rfl rfl ?_
  refine x_putR hP rfl (by first | assumption | rfl) ?_
  first | refine w_nI ?_ | refine w_nL ?_ | refine w_nR ?_ | refine w_mI ?_ | refine w_mL ?_ | refine w_mR ?_ | skip
  first | refine x_aload_n hP rfl rfl ?_ | refine x_aload_nN hP rfl rfl ?_
  refine x_bipush hP rfl ?_
  refine x_newa (q := 125) (N := 120) hP rfl (by decide) (by decide) (by decide) rfl (by decide) (by omega) (by omega) ?_
  refine w_new (m := 126) rfl rfl ?_
  refine x_putR hP rfl (by first | assumption | rfl) ?_
  first | refine w_nI ?_ | refine w_nL ?_ | refine w_nR ?_ | refine w_mI ?_ | refine w_mL ?_ | refine w_mR ?_ | skip
  first | refine x_aload_n hP rfl rfl ?_ | refine x_aload_nN hP rfl rfl ?_
  refine x_bipush hP rfl ?_
  refine x_newa (q := 126) (N := 120) hP rfl (by decide) (by decide) (by decide) rfl (by decide) (by omega) (by omega) ?_
  refine w_new (m := 127) rfl rfl ?_
  refine x_putR hP rfl (by first | assumption | rfl) ?_
  first | refine w_nI ?_ | refine w_nL ?_ | refine w_nR ?_ | refine w_mI ?_ | refine w_mL ?_ | refine w_mR ?_ | skip
  first | refine x_aload_n hP rfl rfl ?_ | refine x_aload_nN hP rfl rfl ?_
  refine x_iconst hP rfl ?_
  refine x_newa (q := 127) (N := 3) hP rfl (by decide) (by decide) (by decide) rfl (by decide) (by omega) (by omega) ?_
  refine w_new (m := 128) rfl rfl ?_
  refine x_putR hP rfl (by first | assumption | rfl) ?_
  first | refine w_nI ?_ | refine w_nL ?_ | refine w_nR ?_ | refine w_mI ?_ | refine w_mL ?_ | refine w_mR ?_ | skip
  first | refine x_aload_n hP rfl rfl ?_ | refine x_aload_nN hP rfl rfl ?_
  refine x_iconst hP rfl ?_
  refine x_newa (q := 128) (N := 3) hP rfl (by decide) (by decide) (by decide) rfl (by decide) (by omega) (by omega) ?_
  refine w_new (m := 129) rfl rfl ?_
  refine x_putR hP rfl (by first | assumption | rfl) ?_
  first | refine w_nI ?_ | refine w_nL ?_ | refine w_nR ?_ | refine w_mI ?_ | refine w_mL ?_ | refine w_mR ?_ | skip
  first | refine x_aload_n hP rfl rfl ?_ | refine x_aload_nN hP rfl rfl ?_
  refine x_bipush hP rfl ?_
  refine x_newa (q := 129) (N := 120) hP rfl (by decide) (by decide) (by decide) rfl (by decide) (by omega) (by omega) ?_
  refine w_new (m := 130) rfl rfl ?_
  refine x_putR hP rfl (by first | assumption | rfl) ?_
  first | refine w_nI ?_ | refine w_nL ?_ | refine w_nR ?_ | refine w_mI ?_ | refine w_mL ?_ | refine w_mR ?_ | skip
  first | refine x_aload_n hP rfl rfl ?_ | refine x_aload_nN hP rfl rfl ?_
  refine x_bipush hP rfl ?_
  refine x_newa (q := 130) (N := 120) hP rfl (by decide) (by decide) (by decide) rfl (by decide) (by omega) (by omega) ?_
  refine w_new (m := 131) rfl rfl ?_
  refine x_putR hP rfl (by first | assumption | rfl) ?_
  first | refine w_nI ?_ | refine w_nL ?_ | refine w_nR ?_ | refine w_mI ?_ | refine w_mL ?_ | refine w_mR ?_ | skip
  first | refine x_aload_n hP rfl rfl ?_ | refine x_aload_nN hP rfl rfl ?_
  refine x_bipush hP rfl ?_
  refine x_newa (q := 131) (N := 120) hP rfl (by decide) (by decide) (by decide) rfl (by decide) (by omega) (by omega) ?_
  refine w_new (m := 132) rfl rfl ?_
  refine x_putR hP rfl (by first | assumption | rfl) ?_
  first | refine w_nI ?_ | refine w_nL ?_ | refine w_nR ?_ | refine w_mI ?_ | refine w_mL ?_ | refine w_mR ?_ | skip
  first | refine x_aload_n hP rfl rfl ?_ | refine x_aload_nN hP rfl rfl ?_
  refine x_bipush hP rfl ?_
  refine x_newa (q := 132) (N := 120) hP rfl (by decide) (by decide) (by decide) rfl (by decide) (by omega) (by omega) ?_
  refine w_new (m := 133) rfl rfl ?_
  refine x_putR hP rfl (by first | assumption | rfl) ?_
  first | refine w_nI ?_ | refine w_nL ?_ | refine w_nR ?_ | refine w_mI ?_ | refine w_mL ?_ | refine w_mR ?_ | skip
  first | refine x_aload_n hP rfl rfl ?_ | refine x_aload_nN hP rfl rfl ?_
  refine x_iconst hP rfl ?_
  refine x_newa (q := 133) (N := 4) hP rfl (by decide) (by decide) (by decide) rfl (by decide) (by omega) (by omega) ?_
  refine w_new (m := 134) rfl rfl ?_
  refine x_putR hP rfl (by first | assumption | rfl) ?_
  first | refine w_nI ?_ | refine w_nL ?_ | refine w_nR ?_ | refine w_mI ?_ | refine w_mL ?_ | refine w_mR ?_ | skip
  first | refine x_aload_n hP rfl rfl ?_ | refine x_aload_nN hP rfl rfl ?_
  refine x_iconst hP rfl ?_
  refine x_newa (q := 134) (N := 4) hP rfl (by decide) (by decide) (by decide) rfl (by decide) (by omega) (by omega) ?_
  refine w_new (m := 135) rfl rfl ?_
  refine x_putR hP rfl (by first | assumption | rfl) ?_
  first | refine w_nI ?_ | refine w_nL ?_ | refine w_nR ?_ | refine w_mI ?_ | refine w_mL ?_ | refine w_mR ?_ | skip
  first | refine x_aload_n hP rfl rfl ?_ | refine x_aload_nN hP rfl rfl ?_
  refine x_bipush hP rfl ?_
  refine x_newa (q := 135) (N := 120) hP rfl (by decide) (by decide) (by decide) rfl (by decide) (by omega) (by omega) ?_
  refine w_new (m := 136) rfl rfl ?_
  refine x_putR hP rfl (by first | assumption | rfl) ?_
  first | refine w_nI ?_ | refine w_nL ?_ | refine w_nR ?_ | refine w_mI ?_ | refine w_mL ?_ | refine w_mR ?_ | skip
  first | refine x_aload_n hP rfl rfl ?_ | refine x_aload_nN hP rfl rfl ?_
  refine x_bipush hP rfl ?_
  refine x_newa (q := 136) (N := 120) hP rfl (by decide) (by decide) (by decide) rfl (by decide) (by omega) (by omega) ?_
  refine w_new (m := 137) rfl rfl ?_
  refine x_putR hP rfl (by first | assumption | rfl) ?_
  first | refine w_nI ?_ | refine w_nL ?_ | refine w_nR ?_ | refine w_mI ?_ | refine w_mL ?_ | refine w_mR ?_ | skip
  first | refine x_aload_n hP rfl rfl ?_ | refine x_aload_nN hP rfl rfl ?_
  refine x_bipush hP rfl ?_
  refine x_newa (q := 137) (N := 120) hP rfl (by decide) (by decide) (by decide) rfl (by decide) (by omega) (by omega) ?_
  refine w_new (m := 138) rfl rfl ?_
  refine x_putR hP rfl (by first | assumption | rfl) ?_
  first | refine w_nI ?_ | refine w_nL ?_ | refine w_nR ?_ | refine w_mI ?_ | refine w_mL ?_ | refine w_mR ?_ | skip
  first | refine x_aload_n hP rfl rfl ?_ | refine x_aload_nN hP rfl rfl ?_
  refine x_sipush hP rfl ?_
  refine x_newa (q := 138) (N := 360) hP rfl (by decide) (by decide) (by decide) rfl (by decide) (by omega) (by omega) ?_
  refine w_new (m := 139) rfl rfl ?_
  refine x_putR hP rfl (by first | assumption | rfl) ?_
  first | refine w_nI ?_ | refine w_nL ?_ | refine w_nR ?_ | refine w_mI ?_ | refine w_mL ?_ | refine w_mR ?_ | skip
  first | refine x_aload_n hP rfl rfl ?_ | refine x_aload_nN hP rfl rfl ?_
  refine x_sipush hP rfl ?_
  refine x_newa (q := 139) (N := 6030) hP rfl (by decide) (by decide) (by decide) rfl (by decide) (by omega) (by omega) ?_
  refine w_new (m := 140) rfl rfl ?_
  refine x_putR hP rfl (by first | assumption | rfl) ?_
  first | refine w_nI ?_ | refine w_nL ?_ | refine w_nR ?_ | refine w_mI ?_ | refine w_mL ?_ | refine w_mR ?_ | skip
  first | refine x_aload_n hP rfl rfl ?_ | refine x_aload_nN hP rfl rfl ?_
  refine x_bipush hP rfl ?_
  refine x_newa (q := 140) (N := 30) hP rfl (by decide) (by decide) (by decide) rfl (by decide) (by omega) (by omega) ?_
  refine w_new (m := 141) rfl rfl ?_
  refine x_putR hP rfl (by first | assumption | rfl) ?_
  first | refine w_nI ?_ | refine w_nL ?_ | refine w_nR ?_ | refine w_mI ?_ | refine w_mL ?_ | refine w_mR ?_ | skip
  first | refine x_aload_n hP rfl rfl ?_ | refine x_aload_nN hP rfl rfl ?_
  refine x_bipush hP rfl ?_
  refine x_newa (q := 141) (N := 30) hP rfl (by decide) (by decide) (by decide) rfl (by decide) (by omega) (by omega) ?_
  refine w_new (m := 142) rfl rfl ?_
  refine x_putR hP rfl (by first | assumption | rfl) ?_
  first | refine w_nI ?_ | refine w_nL ?_ | refine w_nR ?_ | refine w_mI ?_ | refine w_mL ?_ | refine w_mR ?_ | skip
  first | refine x_aload_n hP rfl rfl ?_ | refine x_aload_nN hP rfl rfl ?_
  refine x_bipush hP rfl ?_
  refine x_newa (q := 142) (N := 30) hP rfl (by decide) (by decide) (by decide) rfl (by decide) (by omega) (by omega) ?_
  refine w_new (m := 143) rfl rfl ?_
  refine x_putR hP rfl (by first | assumption | rfl) ?_
  first | refine w_nI ?_ | refine w_nL ?_ | refine w_nR ?_ | refine w_mI ?_ | refine w_mL ?_ | refine w_mR ?_ | skip
  first | refine x_aload_n hP rfl rfl ?_ | refine x_aload_nN hP rfl rfl ?_
  refine x_sipush hP rfl ?_
  refine x_newa (q := 143) (N := 3000) hP rfl (by decide) (by decide) (by decide) rfl (by decide) (by omega) (by omega) ?_
  refine w_new (m := 144) rfl rfl ?_
  refine x_putR hP rfl (by first | assumption | rfl) ?_
  first | refine w_nI ?_ | refine w_nL ?_ | refine w_nR ?_ | refine w_mI ?_ | refine w_mL ?_ | refine w_mR ?_ | skip
  first | refine x_aload_n hP rfl rfl ?_ | refine x_aload_nN hP rfl rfl ?_
  refine x_sipush hP rfl ?_
  refine x_newa (q := 144) (N := 3001) hP rfl (by decide) (by decide) (by decide) rfl (by decide) (by omega) (by omega) ?_
  refine w_new (m := 145) rfl rfl ?_
  refine x_putR hP rfl (by first | assumption | rfl) ?_
  first | refine w_nI ?_ | refine w_nL ?_ | refine w_nR ?_ | refine w_mI ?_ | refine w_mL ?_ | refine w_mR ?_ | skip
  first | refine x_aload_n hP rfl rfl ?_ | refine x_aload_nN hP rfl rfl ?_
  refine x_bipush hP rfl ?_
  refine x_newa (q := 145) (N := 7) hP rfl (by decide) (by decide) (by decide) rfl (by decide) (by omega) (by omega) ?_
  refine w_new (m := 146) rfl rfl ?_
  refine x_putR hP rfl (by first | assumption | rfl) ?_
  first | refine w_nI ?_ | refine w_nL ?_ | refine w_nR ?_ | refine w_mI ?_ | refine w_mL ?_ | refine w_mR ?_ | skip
  first | refine x_aload_n hP rfl rfl ?_ | refine x_aload_nN hP rfl rfl ?_
  refine x_bipush hP rfl ?_
  refine x_newa (q := 146) (N := 7) hP rfl (by decide) (by decide) (by decide) rfl (by decide) (by omega) (by omega) ?_
  refine w_new (m := 147) rfl rfl ?_
  refine x_putR hP rfl (by first | assumption | rfl) ?_
  first | refine w_nI ?_ | refine w_nL ?_ | refine w_nR ?_ | refine w_mI ?_ | refine w_mL ?_ | refine w_mR ?_ | skip
  first | refine x_aload_n hP rfl rfl ?_ | refine x_aload_nN hP rfl rfl ?_
  refine x_bipush hP rfl ?_
  refine x_newa (q := 147) (N := 7) hP rfl (by decide) (by decide) (by decide) rfl (by decide) (by omega) (by omega) ?_
  refine w_new (m := 148) rfl rfl ?_
  refine x_putR hP rfl (by first | assumption | rfl) ?_
  first | refine w_nI ?_ | refine w_nL ?_ | refine w_nR ?_ | refine w_mI ?_ | refine w_mL ?_ | refine w_mR ?_ | skip
  first | refine x_aload_n hP rfl rfl ?_ | refine x_aload_nN hP rfl rfl ?_
  refine x_bipush hP rfl ?_
  refine x_newa (q := 148) (N := 7) hP rfl (by decide) (by decide) (by decide) rfl (by decide) (by omega) (by omega) ?_
  refine w_new (m := 149) rfl rfl ?_
  refine x_putR hP rfl (by first | assumption | rfl) ?_
  first | refine w_nI ?_ | refine w_nL ?_ | refine w_nR ?_ | refine w_mI ?_ | refine w_mL ?_ | refine w_mR ?_ | skip
  first | refine x_aload_n hP rfl rfl ?_ | refine x_aload_nN hP rfl rfl ?_
  refine x_bipush hP rfl ?_
  refine x_newa (q := 149) (N := 7) hP rfl (by decide) (by decide) (by decide) rfl (by decide) (by omega) (by omega) ?_
  refine w_new (m := 150) rfl rfl ?_
  first | refine x_putR hP rfl (by first | assumption | rfl) ?_ | refine x_putN hP rfl (by first | assumption | rfl) ?_
  first | refine w_nI ?_ | refine w_nL ?_ | refine w_nR ?_ | refine w_mI ?_ | refine w_mL ?_ | refine w_mR ?_ | skip
  first | refine x_aload_n hP rfl rfl ?_ | refine x_aload_nN hP rfl rfl ?_
  refine x_bipush hP rfl ?_
  refine x_newa (q := 150) (N := 7) hP rfl (by decide) (by decide) (by decide) rfl (by decide) (by omega) (by omega) ?_
  refine w_new (m := 151) rfl rfl ?_
  refine x_putR hP rfl (by first | assumption | rfl) ?_
  first | refine w_nI ?_ | refine w_nL ?_ | refine w_nR ?_ | refine w_mI ?_ | refine w_mL ?_ | refine w_mR ?_ | skip
  first | refine x_aload_n hP rfl rfl ?_ | refine x_aload_nN hP rfl rfl ?_
  refine x_bipush hP rfl ?_
  refine x_newa (q := 151) (N := 7) hP rfl (by decide) (by decide) (by decide) rfl (by decide) (by omega) (by omega) ?_
  refine w_new (m := 152) rfl rfl ?_
  refine x_putR hP rfl (by first | assumption | rfl) ?_
  first | refine w_nI ?_ | refine w_nL ?_ | refine w_nR ?_ | refine w_mI ?_ | refine w_mL ?_ | refine w_mR ?_ | skip
  have fR : frP (fun _ a _ => a = 122) R (x_at (x_at (x_at (x_at (x_at (x_at (x_at (x_at (x_at (x_at (x_at (x_at (x_at (x_at (x_at (x_at (x_at (x_at (x_at (x_at (x_at (x_at (x_at (x_at (x_at (x_at (x_at (x_at (x_at R 1576 122 0 (some 123)) 1577 122 0 (some 124)) 1582 122 0 (some 125)) 1583 122 0 (some 126)) 1584 122 0 (some 127)) 1585 122 0 (some 128)) 1586 122 0 (some 129)) 1587 122 0 (some 130)) 1588 122 0 (some 131)) 1589 122 0 (some 132)) 1590 122 0 (some 133)) 1591 122 0 (some 134)) 1592 122 0 (some 135)) 1593 122 0 (some 136)) 1594 122 0 (some 137)) 1597 122 0 (some 138)) 1598 122 0 (some 139)) 1599 122 0 (some 140)) 1600 122 0 (some 141)) 1601 122 0 (some 142)) 1603 122 0 (some 143)) 1604 122 0 (some 144)) 1606 122 0 (some 145)) 1607 122 0 (some 146)) 1608 122 0 (some 147)) 1609 122 0 (some 148)) 1610 122 0 (some 149)) 1611 122 0 (some 150)) 1612 122 0 (some 151)) := frP_at (frP_at (frP_at (frP_at (frP_at (frP_at (frP_at (frP_at (frP_at (frP_at (frP_at (frP_at (frP_at (frP_at (frP_at (frP_at (frP_at (frP_at (frP_at (frP_at (frP_at (frP_at (frP_at (frP_at (frP_at (frP_at (frP_at (frP_at (frP_at (frP_refl _ _) rfl) rfl) rfl) rfl) rfl) rfl) rfl) rfl) rfl) rfl) rfl) rfl) rfl) rfl) rfl) rfl) rfl) rfl) rfl) rfl) rfl) rfl) rfl) rfl) rfl) rfl) rfl) rfl) rfl
  have hR : x_fin (x_at (x_at (x_at (x_at (x_at (x_at (x_at (x_at (x_at (x_at (x_at (x_at (x_at (x_at (x_at (x_at (x_at (x_at (x_at (x_at (x_at (x_at (x_at (x_at (x_at (x_at (x_at (x_at (x_at R 1576 122 0 (some 123)) 1577 122 0 (some 124)) 1582 122 0 (some 125)) 1583 122 0 (some 126)) 1584 122 0 (some 127)) 1585 122 0 (some 128)) 1586 122 0 (some 129)) 1587 122 0 (some 130)) 1588 122 0 (some 131)) 1589 122 0 (some 132)) 1590 122 0 (some 133)) 1591 122 0 (some 134)) 1592 122 0 (some 135)) 1593 122 0 (some 136)) 1594 122 0 (some 137)) 1597 122 0 (some 138)) 1598 122 0 (some 139)) 1599 122 0 (some 140)) 1600 122 0 (some 141)) 1601 122 0 (some 142)) 1603 122 0 (some 143)) 1604 122 0 (some 144)) 1606 122 0 (some 145)) 1607 122 0 (some 146)) 1608 122 0 (some 147)) 1609 122 0 (some 148)) 1610 122 0 (some 149)) 1611 122 0 (some 150)) 1612 122 0 (some 151)) := by
    refine x_fin_of fun e he => ?_
    rw [x_FL_eq] at he
    rcases List.mem_append.mp he with he | he
    · rw [fR _ _ _ (by have := x_FLb_lt e he; omega)]
      exact hb.1 e he
    · unfold x_FLm at he
      simp only [List.mem_cons, List.not_mem_nil, or_false] at he
      rcases he with rfl | rfl | rfl | rfl | rfl | rfl | rfl | rfl | rfl | rfl | rfl | rfl | rfl | rfl | rfl | rfl | rfl | rfl | rfl | rfl | rfl | rfl | rfl | rfl | rfl | rfl | rfl | rfl | rfl <;> rfl
  show P _ _ _ _ _ (x_hk 152 (kpn 152) I J (x_at (x_at (x_at (x_at (x_at (x_at (x_at (x_at (x_at (x_at (x_at (x_at (x_at (x_at (x_at (x_at (x_at (x_at (x_at (x_at (x_at (x_at (x_at (x_at (x_at (x_at (x_at (x_at (x_at R 1576 122 0 (some 123)) 1577 122 0 (some 124)) 1582 122 0 (some 125)) 1583 122 0 (some 126)) 1584 122 0 (some 127)) 1585 122 0 (some 128)) 1586 122 0 (some 129)) 1587 122 0 (some 130)) 1588 122 0 (some 131)) 1589 122 0 (some 132)) 1590 122 0 (some 133)) 1591 122 0 (some 134)) 1592 122 0 (some 135)) 1593 122 0 (some 136)) 1594 122 0 (some 137)) 1597 122 0 (some 138)) 1598 122 0 (some 139)) 1599 122 0 (some 140)) 1600 122 0 (some 141)) 1601 122 0 (some 142)) 1603 122 0 (some 143)) 1604 122 0 (some 144)) 1606 122 0 (some 145)) 1607 122 0 (some 146)) 1608 122 0 (some 147)) 1609 122 0 (some 148)) 1610 122 0 (some 149)) 1611 122 0 (some 150)) 1612 122 0 (some 151))) _ _ _
  rw [kpn_all]
  show P _ _ _ _ _ (x_hp I J (x_at (x_at (x_at (x_at (x_at (x_at (x_at (x_at (x_at (x_at (x_at (x_at (x_at (x_at (x_at (x_at (x_at (x_at (x_at (x_at (x_at (x_at (x_at (x_at (x_at (x_at (x_at (x_at (x_at R 1576 122 0 (some 123)) 1577 122 0 (some 124)) 1582 122 0 (some 125)) 1583 122 0 (some 126)) 1584 122 0 (some 127)) 1585 122 0 (some 128)) 1586 122 0 (some 129)) 1587 122 0 (some 130)) 1588 122 0 (some 131)) 1589 122 0 (some 132)) 1590 122 0 (some 133)) 1591 122 0 (some 134)) 1592 122 0 (some 135)) 1593 122 0 (some 136)) 1594 122 0 (some 137)) 1597 122 0 (some 138)) 1598 122 0 (some 139)) 1599 122 0 (some 140)) 1600 122 0 (some 141)) 1601 122 0 (some 142)) 1603 122 0 (some 143)) 1604 122 0 (some 144)) 1606 122 0 (some 145)) 1607 122 0 (some 146)) 1608 122 0 (some 147)) 1609 122 0 (some 148)) 1610 122 0 (some 149)) 1611 122 0 (some 150)) 1612 122 0 (some 151))) _ _ _
  generalize (x_at (x_at (x_at (x_at (x_at (x_at (x_at (x_at (x_at (x_at (x_at (x_at (x_at (x_at (x_at (x_at (x_at (x_at (x_at (x_at (x_at (x_at (x_at (x_at (x_at (x_at (x_at (x_at (x_at R 1576 122 0 (some 123)) 1577 122 0 (some 124)) 1582 122 0 (some 125)) 1583 122 0 (some 126)) 1584 122 0 (some 127)) 1585 122 0 (some 128)) 1586 122 0 (some 129)) 1587 122 0 (some 130)) 1588 122 0 (some 131)) 1589 122 0 (some 132)) 1590 122 0 (some 133)) 1591 122 0 (some 134)) 1592 122 0 (some 135)) 1593 122 0 (some 136)) 1594 122 0 (some 137)) 1597 122 0 (some 138)) 1598 122 0 (some 139)) 1599 122 0 (some 140)) 1600 122 0 (some 141)) 1601 122 0 (some 142)) 1603 122 0 (some 143)) 1604 122 0 (some 144)) 1606 122 0 (some 145)) 1607 122 0 (some 146)) 1608 122 0 (some 147)) 1609 122 0 (some 148)) 1610 122 0 (some 149)) 1611 122 0 (some 150)) 1612 122 0 (some 151)) = R1 at fR hR ⊢
  have zI : ∀ k a i, 122 ≤ a → I k a i = 0 := fun k a i ha => hb.2.2.2.2.2.2.2.2.1 k a i (by omega)
  have zJ : ∀ k a i, 122 ≤ a → J k a i = 0 := fun k a i ha => hb.2.2.2.2.2.2.2.2.2 k a i (by omega)
  first | refine x_aload_n hP rfl rfl ?_ | refine x_aload_nN hP rfl rfl ?_
  refine x_getR hP rfl (by first | assumption | rfl) (by first | assumption | exact hR _ _ _ _ rfl | exact hR1 _ _ _ _ rfl | exact hR2 _ _ _ _ rfl | rfl) ?_
  refine x_iconst hP rfl ?_
  refine x_ldcL hP rfl ?_
  refine z_last hP rfl (by first | assumption | rfl) (by first | decide | omega) (by omega) ?_
  first | refine w_nI ?_ | refine w_nL ?_ | refine w_nR ?_ | refine w_mI ?_ | refine w_mL ?_ | refine w_mR ?_ | skip
  rw [show (0 : Int).toNat = 0 from rfl]
  first | refine x_aload_n hP rfl rfl ?_ | refine x_aload_nN hP rfl rfl ?_
  refine x_getR hP rfl (by first | assumption | rfl) (by first | assumption | exact hR _ _ _ _ rfl | exact hR1 _ _ _ _ rfl | exact hR2 _ _ _ _ rfl | rfl) ?_
  refine x_iconst hP rfl ?_
  refine x_iconst hP rfl ?_
  refine z_iast hP rfl (by first | assumption | rfl) (by first | decide | omega) (by omega) ?_
  first | refine w_nI ?_ | refine w_nL ?_ | refine w_nR ?_ | refine w_mI ?_ | refine w_mL ?_ | refine w_mR ?_ | skip
  rw [show (0 : Int).toNat = 0 from rfl]
  first | refine x_aload_n hP rfl rfl ?_ | refine x_aload_nN hP rfl rfl ?_
  refine x_getR hP rfl (by first | assumption | rfl) (by first | assumption | exact hR _ _ _ _ rfl | exact hR1 _ _ _ _ rfl | exact hR2 _ _ _ _ rfl | rfl) ?_
  refine x_iconst hP rfl ?_
  refine x_iconst hP rfl ?_
  refine z_iast hP rfl (by first | assumption | rfl) (by first | decide | omega) (by omega) ?_
  first | refine w_nI ?_ | refine w_nL ?_ | refine w_nR ?_ | refine w_mI ?_ | refine w_mL ?_ | refine w_mR ?_ | skip
  rw [show (0 : Int).toNat = 0 from rfl]
  first | refine x_aload_n hP rfl rfl ?_ | refine x_aload_nN hP rfl rfl ?_
  refine x_getR hP rfl (by first | assumption | rfl) (by first | assumption | exact hR _ _ _ _ rfl | exact hR1 _ _ _ _ rfl | exact hR2 _ _ _ _ rfl | rfl) ?_
  refine x_iconst hP rfl ?_
  refine x_ldcL hP rfl ?_
  refine z_last hP rfl (by first | assumption | rfl) (by first | decide | omega) (by omega) ?_
  first | refine w_nI ?_ | refine w_nL ?_ | refine w_nR ?_ | refine w_mI ?_ | refine w_mL ?_ | refine w_mR ?_ | skip
  rw [show (0 : Int).toNat = 0 from rfl]
  first | refine x_aload_n hP rfl rfl ?_ | refine x_aload_nN hP rfl rfl ?_
  refine x_iconst hP rfl ?_
  refine x_putI hP rfl (by first | assumption | rfl) ?_
  first | refine w_nI ?_ | refine w_nL ?_ | refine w_nR ?_ | refine w_mI ?_ | refine w_mL ?_ | refine w_mR ?_ | skip
  first | refine x_aload_n hP rfl rfl ?_ | refine x_aload_nN hP rfl rfl ?_
  refine x_iconst hP rfl ?_
  refine x_putI hP rfl (by first | assumption | rfl) ?_
  first | refine w_nI ?_ | refine w_nL ?_ | refine w_nR ?_ | refine w_mI ?_ | refine w_mL ?_ | refine w_mR ?_ | skip
  have trr : rTr (x_at (x_at (x_at (x_at I 1 129 0 (iI (-1))) 1 133 0 (iI 1)) 1595 122 0 (iI 1)) 1596 122 0 (iI 1)) (x_at (x_at J 6 125 0 (lI 116)) 6 127 0 (lI 109)) T0 := by
    refine ⟨rfl, rfl, fun e he => ?_, fun e he i hi => ?_, fun m hm => ?_, hb.2.2.2.2.2.1.2.2.2.2.2⟩
    · rw [T0_D] at he
      obtain rfl : e = 0 := by omega
      rfl
    · rw [T0_D] at he
      obtain rfl : e = 0 := by omega
      rw [T0_S] at hi
      obtain rfl : i = 0 := by omega
      refine ⟨rfl, rfl, ?_⟩
      rw [T0_H]
      exact (zI 1 131 0 (by decide))
    · rw [T0_M] at hm
      obtain rfl : m = 0 := by omega
      rfl
  have f1 : frP (fun k a _ => a = 129 ∨ a = 133 ∨ a = 122 ∧ (k = 1595 ∨ k = 1596)) I (x_at (x_at (x_at (x_at I 1 129 0 (iI (-1))) 1 133 0 (iI 1)) 1595 122 0 (iI 1)) 1596 122 0 (iI 1)) := frP_at (frP_at (frP_at (frP_at (frP_refl _ _) (by decide)) (by decide)) (by decide)) (by decide)
  have f2 : frP (fun _ a _ => hh a) J (x_at (x_at J 6 125 0 (lI 116)) 6 127 0 (lI 109)) := frP_at (frP_at (frP_refl _ _) (by unfold hh; decide)) (by unfold hh; decide)
  first | refine x_aload_n hP rfl rfl ?_ | refine x_aload_nN hP rfl rfl ?_
  refine x_callV0 (ci := 9) hP 0 0 rfl rfl rfl (by first | assumption | rfl) rfl rfl rfl (Nat.zero_le _) (Nat.zero_le _) ?_
  refine r_lay hP hR trr (fun I2 y1 y2 y3 => ?_)
  refine x_iconst hP rfl ?_
  refine x_istore_n hP rfl ?_
  refine x_re hP [some (.ref 122), some (.int (iI (0 : Nat)))] ⟨rfl, rfl, trivial⟩ (n_mod4 (I := I2) hP hR (fun I3 L r1 r2 z1 z2 hL => ?_) 360 0 I2 (by omega) (fun j hj => absurd hj (Nat.not_lt_zero _)) (frP_refl _ _) _ _)
  refine x_re hP _ hL ?_
  refine x_iconst hP rfl ?_
  refine x_istore_n hP rfl ?_
  refine x_re hP [some (.ref 122), some (.int (iI (1 + 0 : Nat)))] ⟨rfl, rfl, trivial⟩ (n_mod5 (I := I3) hP hR (fun I4 u1 u2 => ?_) 6 0 I3 (by omega) (fun j hj => absurd hj (Nat.not_lt_zero _)) (frP_refl _ _) _ _)
  have F4 : frP (fun _ a _ => a = 138 ∨ a = 142) I2 I4 := frP_tr z2 u2 (fun _ _ _ => Or.inl) fun _ _ _ => Or.inr
  have FA : frP (fun k a _ => (a = 129 ∨ a = 133 ∨ a = 122 ∧ (k = 1595 ∨ k = 1596)) ∨ (a = 135 ∨ a = 136 ∨ a = 137) ∨ a = 138 ∨ a = 142) I I4 := frP_trans (frP_mono f1 fun _ _ _ => Or.inl) (frP_tr y3 F4 (fun k a i z => Or.inr (Or.inl z.2)) fun _ _ _ z => Or.inr (Or.inr z))
  have z4 : ∀ k a i, 122 ≤ a → ¬ ((a = 129 ∨ a = 133 ∨ a = 122 ∧ (k = 1595 ∨ k = 1596)) ∨ (a = 135 ∨ a = 136 ∨ a = 137) ∨ a = 138 ∨ a = 142) → I4 k a i = 0 := fun k a i h1 h2 => (FA k a i h2).trans (zI k a i h1)
  refine k I4 _ R1 hR (frP_mono FA fun k a i z => by unfold hh; omega) f2 (frP_mono fR fun k a i z => by unfold hh; omega) ?_
  exact ⟨⟨z4 _ _ _ (by decide) (by decide), Nat.zero_le _, fun _ => (by show 0 < 256; decide), fun i hi => absurd hi (Nat.not_lt_zero _)⟩, rTr_fr y1 F4 (frP_refl _ _) fun k a i z => by omega, rLy_fr y2 F4 fun k a i z => by omega, fun m e z h1 h2 h3 => ⟨(u2 _ _ _ (by show ¬ _ = _; decide)).trans (z1 _ (by omega)), Or.inl rfl⟩, ⟨z4 _ _ _ (by decide) (by decide), z4 _ _ _ (by decide) (by decide), Nat.zero_le _, Nat.zero_le _, fun z => absurd rfl z⟩, fun j hj => ⟨fun _ => u1 j hj, fun z => absurd rfl z⟩, z4 _ _ _ (by decide) (by decide), Nat.zero_le _, fun i hi => absurd hi (Nat.not_lt_zero _)⟩
/-- how the class begins -/
theorem cl_start {I' : x_M Int32} {J' : x_M Int64} {R' : x_M (Option Nat)} (hb : bkF I J R) (hf : frP (fun _ a _ => hh a) I I') (hg : frP (fun _ a _ => hh a) J J') (hr : frP (fun _ a _ => hh a) R R') (hR : x_fin R') : clI I' J' R' S0 0 := by
  obtain ⟨b1, b2, b3, b4, b5, b6, b7, b8, b9, bA⟩ := hb
  have nh : ∀ {a : Nat}, a < 122 → ¬ hh a := fun h z => by unfold hh at z; omega
  have zI : ∀ k a i, a < 98 → I' k a i = 0 := fun k a i ha => (hf k a i (nh (by omega))).trans (b9 k a i (by omega))
  have row0 : ∀ r, r + 2 < 98 → rw I' r [] [] := fun r h => ⟨zI _ _ _ (by omega), zI _ _ _ (by omega), Nat.zero_le _, Nat.zero_le _, ar_nil _ _, ar_nil _ _, fun x hx => absurd hx List.not_mem_nil, fun x hx => absurd hx List.not_mem_nil⟩
  refine ⟨98, 110, fun b j => 30 + 9 * j + 3 * b, 0, hR, (hr _ _ _ (nh (by decide))).trans b2, (hr _ _ _ (nh (by decide))).trans b3, ⟨Or.inr rfl, by decide⟩, ⟨fun b j h1 h2 => (hr _ _ _ (nh (by omega))).trans (b4 b j h1 h2), ⟨fun b j h1 h2 => (by unfold s18; dsimp only; omega), fun b j b' j' h1 h2 h3 h4 h5 => (by dsimp only at h5; omega)⟩, _, _, b5.1, (hr _ _ _ (nh (by decide))).trans b5.2.1, (hr _ _ _ (nh (by decide))).trans b5.2.2⟩, ⟨⟨zI _ _ _ (by decide), Nat.zero_le _, fun _ => (by show 0 < 256; decide), fun i hi => absurd hi (Nat.not_lt_zero _)⟩, Or.inl rfl, ct_fr b6 hf hg fun k a i z => by unfold hh at z; omega, stP_fr b7 hf fun k a i z => by unfold hh at z; omega, nuP_fr b8 hf fun k a i z => by unfold hh at z; omega, fun k hk => ⟨row0 _ (by omega), Or.inl rfl⟩⟩, ⟨row0 4 (by decide), Or.inl rfl⟩, ⟨⟨zI _ _ _ (by decide), by decide, by decide, fun s _ => ⟨0, zI _ _ _ (by decide), by decide, by decide⟩⟩, by decide⟩, ⟨zI _ _ _ (by decide), Nat.zero_le _, fun i hi => absurd hi (Nat.not_lt_zero _), fun x hx => absurd hx List.not_mem_nil⟩⟩
end
